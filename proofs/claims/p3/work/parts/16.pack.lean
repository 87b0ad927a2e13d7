/-! part 11.d.2 -/
section
theorem dzX10_begin_8 : dq_F cX10_begin [(8, .return_, 1), (9, .aload_n 0, 1), (10, .aload_n 1, 1), (11, .getfield 42, 3), (14, .iload_n 3, 1), (15, .iaload, 1), (16, .putfield 9, 3), (19, .aload_n 0, 1), (20, .aload_n 2, 1), (21, .getfield 45, 3), (24, .iload_n 3, 1), (25, .iaload, 1), (26, .putfield 15, 3), (29, .aload_n 0, 1), (30, .aload_n 2, 1), (31, .getfield 49, 3), (34, .iload_n 3, 1), (35, .iaload, 1), (36, .putfield 18, 3), (39, .aload_n 0, 1), (40, .aload_n 2, 1), (41, .getfield 51, 3), (44, .iload_n 3, 1), (45, .iaload, 1)] := dq_s 24 8 (by decide +kernel)
theorem dX10_begin_8 : decode cX10_begin 8 = .ok (.return_, 1) := dq_h dzX10_begin_8
theorem dX10_begin_9 : decode cX10_begin 9 = .ok (.aload_n 0, 1) := dq_h (dq_t dzX10_begin_8)
theorem dX10_begin_10 : decode cX10_begin 10 = .ok (.aload_n 1, 1) := dq_h (dq_t (dq_t dzX10_begin_8))
theorem dX10_begin_11 : decode cX10_begin 11 = .ok (.getfield 42, 3) := dq_h (dq_t (dq_t (dq_t dzX10_begin_8)))
theorem dX10_begin_14 : decode cX10_begin 14 = .ok (.iload_n 3, 1) := dq_h (dq_t (dq_t (dq_t (dq_t dzX10_begin_8))))
theorem dX10_begin_15 : decode cX10_begin 15 = .ok (.iaload, 1) := dq_h (dq_t (dq_t (dq_t (dq_t (dq_t dzX10_begin_8)))))
theorem dX10_begin_16 : decode cX10_begin 16 = .ok (.putfield 9, 3) := dq_h (dq_t (dq_t (dq_t (dq_t (dq_t (dq_t dzX10_begin_8))))))
theorem dX10_begin_19 : decode cX10_begin 19 = .ok (.aload_n 0, 1) := dq_h (dq_t (dq_t (dq_t (dq_t (dq_t (dq_t (dq_t dzX10_begin_8)))))))
theorem dX10_begin_20 : decode cX10_begin 20 = .ok (.aload_n 2, 1) := dq_h (dq_t (dq_t (dq_t (dq_t (dq_t (dq_t (dq_t (dq_t dzX10_begin_8))))))))
theorem dX10_begin_21 : decode cX10_begin 21 = .ok (.getfield 45, 3) := dq_h (dq_t (dq_t (dq_t (dq_t (dq_t (dq_t (dq_t (dq_t (dq_t dzX10_begin_8)))))))))
theorem dX10_begin_24 : decode cX10_begin 24 = .ok (.iload_n 3, 1) := dq_h (dq_t (dq_t (dq_t (dq_t (dq_t (dq_t (dq_t (dq_t (dq_t (dq_t dzX10_begin_8))))))))))
theorem dX10_begin_25 : decode cX10_begin 25 = .ok (.iaload, 1) := dq_h (dq_t (dq_t (dq_t (dq_t (dq_t (dq_t (dq_t (dq_t (dq_t (dq_t (dq_t dzX10_begin_8)))))))))))
theorem dX10_begin_26 : decode cX10_begin 26 = .ok (.putfield 15, 3) := dq_h (dq_t (dq_t (dq_t (dq_t (dq_t (dq_t (dq_t (dq_t (dq_t (dq_t (dq_t (dq_t dzX10_begin_8))))))))))))
theorem dX10_begin_29 : decode cX10_begin 29 = .ok (.aload_n 0, 1) := dq_h (dq_t (dq_t (dq_t (dq_t (dq_t (dq_t (dq_t (dq_t (dq_t (dq_t (dq_t (dq_t (dq_t dzX10_begin_8)))))))))))))
theorem dX10_begin_30 : decode cX10_begin 30 = .ok (.aload_n 2, 1) := dq_h (dq_t (dq_t (dq_t (dq_t (dq_t (dq_t (dq_t (dq_t (dq_t (dq_t (dq_t (dq_t (dq_t (dq_t dzX10_begin_8))))))))))))))
theorem dX10_begin_31 : decode cX10_begin 31 = .ok (.getfield 49, 3) := dq_h (dq_t (dq_t (dq_t (dq_t (dq_t (dq_t (dq_t (dq_t (dq_t (dq_t (dq_t (dq_t (dq_t (dq_t (dq_t dzX10_begin_8)))))))))))))))
theorem dX10_begin_34 : decode cX10_begin 34 = .ok (.iload_n 3, 1) := dq_h (dq_t (dq_t (dq_t (dq_t (dq_t (dq_t (dq_t (dq_t (dq_t (dq_t (dq_t (dq_t (dq_t (dq_t (dq_t (dq_t dzX10_begin_8))))))))))))))))
theorem dX10_begin_35 : decode cX10_begin 35 = .ok (.iaload, 1) := dq_h (dq_t (dq_t (dq_t (dq_t (dq_t (dq_t (dq_t (dq_t (dq_t (dq_t (dq_t (dq_t (dq_t (dq_t (dq_t (dq_t (dq_t dzX10_begin_8)))))))))))))))))
theorem dX10_begin_36 : decode cX10_begin 36 = .ok (.putfield 18, 3) := dq_h (dq_t (dq_t (dq_t (dq_t (dq_t (dq_t (dq_t (dq_t (dq_t (dq_t (dq_t (dq_t (dq_t (dq_t (dq_t (dq_t (dq_t (dq_t dzX10_begin_8))))))))))))))))))
theorem dX10_begin_39 : decode cX10_begin 39 = .ok (.aload_n 0, 1) := dq_h (dq_t (dq_t (dq_t (dq_t (dq_t (dq_t (dq_t (dq_t (dq_t (dq_t (dq_t (dq_t (dq_t (dq_t (dq_t (dq_t (dq_t (dq_t (dq_t dzX10_begin_8)))))))))))))))))))
theorem dX10_begin_40 : decode cX10_begin 40 = .ok (.aload_n 2, 1) := dq_h (dq_t (dq_t (dq_t (dq_t (dq_t (dq_t (dq_t (dq_t (dq_t (dq_t (dq_t (dq_t (dq_t (dq_t (dq_t (dq_t (dq_t (dq_t (dq_t (dq_t dzX10_begin_8))))))))))))))))))))
theorem dX10_begin_41 : decode cX10_begin 41 = .ok (.getfield 51, 3) := dq_h (dq_t (dq_t (dq_t (dq_t (dq_t (dq_t (dq_t (dq_t (dq_t (dq_t (dq_t (dq_t (dq_t (dq_t (dq_t (dq_t (dq_t (dq_t (dq_t (dq_t (dq_t dzX10_begin_8)))))))))))))))))))))
theorem dX10_begin_44 : decode cX10_begin 44 = .ok (.iload_n 3, 1) := dq_h (dq_t (dq_t (dq_t (dq_t (dq_t (dq_t (dq_t (dq_t (dq_t (dq_t (dq_t (dq_t (dq_t (dq_t (dq_t (dq_t (dq_t (dq_t (dq_t (dq_t (dq_t (dq_t dzX10_begin_8))))))))))))))))))))))
theorem dX10_begin_45 : decode cX10_begin 45 = .ok (.iaload, 1) := dq_h (dq_t (dq_t (dq_t (dq_t (dq_t (dq_t (dq_t (dq_t (dq_t (dq_t (dq_t (dq_t (dq_t (dq_t (dq_t (dq_t (dq_t (dq_t (dq_t (dq_t (dq_t (dq_t (dq_t dzX10_begin_8)))))))))))))))))))))))
theorem dzX10_begin_46 : dq_F cX10_begin [(46, .putfield 21, 3), (49, .aload_n 0, 1), (50, .aload_n 2, 1), (51, .getfield 53, 3), (54, .iload_n 3, 1), (55, .iaload, 1), (56, .putfield 24, 3), (59, .aload_n 0, 1), (60, .aload_n 2, 1), (61, .getfield 55, 3), (64, .putfield 27, 3), (67, .aload_n 0, 1), (68, .aload_n 1, 1), (69, .aload_n 0, 1), (70, .getfield 27, 3), (73, .invokevirtual 56, 3), (76, .putfield 30, 3), (79, .aload_n 0, 1), (80, .aload_n 2, 1), (81, .getfield 60, 3), (84, .putfield 33, 3), (87, .return_, 1)] := dq_s 22 46 (by decide +kernel)
theorem dX10_begin_46 : decode cX10_begin 46 = .ok (.putfield 21, 3) := dq_h dzX10_begin_46
theorem dX10_begin_49 : decode cX10_begin 49 = .ok (.aload_n 0, 1) := dq_h (dq_t dzX10_begin_46)
theorem dX10_begin_50 : decode cX10_begin 50 = .ok (.aload_n 2, 1) := dq_h (dq_t (dq_t dzX10_begin_46))
theorem dX10_begin_51 : decode cX10_begin 51 = .ok (.getfield 53, 3) := dq_h (dq_t (dq_t (dq_t dzX10_begin_46)))
theorem dX10_begin_54 : decode cX10_begin 54 = .ok (.iload_n 3, 1) := dq_h (dq_t (dq_t (dq_t (dq_t dzX10_begin_46))))
theorem dX10_begin_55 : decode cX10_begin 55 = .ok (.iaload, 1) := dq_h (dq_t (dq_t (dq_t (dq_t (dq_t dzX10_begin_46)))))
theorem dX10_begin_56 : decode cX10_begin 56 = .ok (.putfield 24, 3) := dq_h (dq_t (dq_t (dq_t (dq_t (dq_t (dq_t dzX10_begin_46))))))
theorem dX10_begin_59 : decode cX10_begin 59 = .ok (.aload_n 0, 1) := dq_h (dq_t (dq_t (dq_t (dq_t (dq_t (dq_t (dq_t dzX10_begin_46)))))))
theorem dX10_begin_60 : decode cX10_begin 60 = .ok (.aload_n 2, 1) := dq_h (dq_t (dq_t (dq_t (dq_t (dq_t (dq_t (dq_t (dq_t dzX10_begin_46))))))))
theorem dX10_begin_61 : decode cX10_begin 61 = .ok (.getfield 55, 3) := dq_h (dq_t (dq_t (dq_t (dq_t (dq_t (dq_t (dq_t (dq_t (dq_t dzX10_begin_46)))))))))
theorem dX10_begin_64 : decode cX10_begin 64 = .ok (.putfield 27, 3) := dq_h (dq_t (dq_t (dq_t (dq_t (dq_t (dq_t (dq_t (dq_t (dq_t (dq_t dzX10_begin_46))))))))))
theorem dX10_begin_67 : decode cX10_begin 67 = .ok (.aload_n 0, 1) := dq_h (dq_t (dq_t (dq_t (dq_t (dq_t (dq_t (dq_t (dq_t (dq_t (dq_t (dq_t dzX10_begin_46)))))))))))
theorem dX10_begin_68 : decode cX10_begin 68 = .ok (.aload_n 1, 1) := dq_h (dq_t (dq_t (dq_t (dq_t (dq_t (dq_t (dq_t (dq_t (dq_t (dq_t (dq_t (dq_t dzX10_begin_46))))))))))))
theorem dX10_begin_69 : decode cX10_begin 69 = .ok (.aload_n 0, 1) := dq_h (dq_t (dq_t (dq_t (dq_t (dq_t (dq_t (dq_t (dq_t (dq_t (dq_t (dq_t (dq_t (dq_t dzX10_begin_46)))))))))))))
theorem dX10_begin_70 : decode cX10_begin 70 = .ok (.getfield 27, 3) := dq_h (dq_t (dq_t (dq_t (dq_t (dq_t (dq_t (dq_t (dq_t (dq_t (dq_t (dq_t (dq_t (dq_t (dq_t dzX10_begin_46))))))))))))))
theorem dX10_begin_73 : decode cX10_begin 73 = .ok (.invokevirtual 56, 3) := dq_h (dq_t (dq_t (dq_t (dq_t (dq_t (dq_t (dq_t (dq_t (dq_t (dq_t (dq_t (dq_t (dq_t (dq_t (dq_t dzX10_begin_46)))))))))))))))
theorem dX10_begin_76 : decode cX10_begin 76 = .ok (.putfield 30, 3) := dq_h (dq_t (dq_t (dq_t (dq_t (dq_t (dq_t (dq_t (dq_t (dq_t (dq_t (dq_t (dq_t (dq_t (dq_t (dq_t (dq_t dzX10_begin_46))))))))))))))))
theorem dX10_begin_79 : decode cX10_begin 79 = .ok (.aload_n 0, 1) := dq_h (dq_t (dq_t (dq_t (dq_t (dq_t (dq_t (dq_t (dq_t (dq_t (dq_t (dq_t (dq_t (dq_t (dq_t (dq_t (dq_t (dq_t dzX10_begin_46)))))))))))))))))
theorem dX10_begin_80 : decode cX10_begin 80 = .ok (.aload_n 2, 1) := dq_h (dq_t (dq_t (dq_t (dq_t (dq_t (dq_t (dq_t (dq_t (dq_t (dq_t (dq_t (dq_t (dq_t (dq_t (dq_t (dq_t (dq_t (dq_t dzX10_begin_46))))))))))))))))))
theorem dX10_begin_81 : decode cX10_begin 81 = .ok (.getfield 60, 3) := dq_h (dq_t (dq_t (dq_t (dq_t (dq_t (dq_t (dq_t (dq_t (dq_t (dq_t (dq_t (dq_t (dq_t (dq_t (dq_t (dq_t (dq_t (dq_t (dq_t dzX10_begin_46)))))))))))))))))))
theorem dX10_begin_84 : decode cX10_begin 84 = .ok (.putfield 33, 3) := dq_h (dq_t (dq_t (dq_t (dq_t (dq_t (dq_t (dq_t (dq_t (dq_t (dq_t (dq_t (dq_t (dq_t (dq_t (dq_t (dq_t (dq_t (dq_t (dq_t (dq_t dzX10_begin_46))))))))))))))))))))
theorem dX10_begin_87 : decode cX10_begin 87 = .ok (.return_, 1) := dq_h (dq_t (dq_t (dq_t (dq_t (dq_t (dq_t (dq_t (dq_t (dq_t (dq_t (dq_t (dq_t (dq_t (dq_t (dq_t (dq_t (dq_t (dq_t (dq_t (dq_t (dq_t dzX10_begin_46)))))))))))))))))))))
theorem dzX10_end_0 : dq_F cX10_end [(0, .iload_n 2, 1), (1, .ifCond .lt 9, 3), (4, .iload_n 2, 1), (5, .bipush 6, 2), (7, .if_icmp .lt 4, 3), (10, .return_, 1), (11, .aload_n 1, 1), (12, .getfield 45, 3), (15, .iload_n 2, 1), (16, .aload_n 0, 1), (17, .getfield 15, 3), (20, .iastore, 1), (21, .aload_n 1, 1), (22, .getfield 49, 3), (25, .iload_n 2, 1), (26, .aload_n 0, 1), (27, .getfield 18, 3), (30, .iastore, 1), (31, .aload_n 1, 1), (32, .getfield 51, 3), (35, .iload_n 2, 1), (36, .aload_n 0, 1), (37, .getfield 21, 3), (40, .iastore, 1)] := dq_s 24 0 (by decide +kernel)
theorem dX10_end_0 : decode cX10_end 0 = .ok (.iload_n 2, 1) := dq_h dzX10_end_0
theorem dX10_end_1 : decode cX10_end 1 = .ok (.ifCond .lt 9, 3) := dq_h (dq_t dzX10_end_0)
theorem dX10_end_4 : decode cX10_end 4 = .ok (.iload_n 2, 1) := dq_h (dq_t (dq_t dzX10_end_0))
theorem dX10_end_5 : decode cX10_end 5 = .ok (.bipush 6, 2) := dq_h (dq_t (dq_t (dq_t dzX10_end_0)))
theorem dX10_end_7 : decode cX10_end 7 = .ok (.if_icmp .lt 4, 3) := dq_h (dq_t (dq_t (dq_t (dq_t dzX10_end_0))))
theorem dX10_end_10 : decode cX10_end 10 = .ok (.return_, 1) := dq_h (dq_t (dq_t (dq_t (dq_t (dq_t dzX10_end_0)))))
theorem dX10_end_11 : decode cX10_end 11 = .ok (.aload_n 1, 1) := dq_h (dq_t (dq_t (dq_t (dq_t (dq_t (dq_t dzX10_end_0))))))
theorem dX10_end_12 : decode cX10_end 12 = .ok (.getfield 45, 3) := dq_h (dq_t (dq_t (dq_t (dq_t (dq_t (dq_t (dq_t dzX10_end_0)))))))
theorem dX10_end_15 : decode cX10_end 15 = .ok (.iload_n 2, 1) := dq_h (dq_t (dq_t (dq_t (dq_t (dq_t (dq_t (dq_t (dq_t dzX10_end_0))))))))
theorem dX10_end_16 : decode cX10_end 16 = .ok (.aload_n 0, 1) := dq_h (dq_t (dq_t (dq_t (dq_t (dq_t (dq_t (dq_t (dq_t (dq_t dzX10_end_0)))))))))
theorem dX10_end_17 : decode cX10_end 17 = .ok (.getfield 15, 3) := dq_h (dq_t (dq_t (dq_t (dq_t (dq_t (dq_t (dq_t (dq_t (dq_t (dq_t dzX10_end_0))))))))))
theorem dX10_end_20 : decode cX10_end 20 = .ok (.iastore, 1) := dq_h (dq_t (dq_t (dq_t (dq_t (dq_t (dq_t (dq_t (dq_t (dq_t (dq_t (dq_t dzX10_end_0)))))))))))
theorem dX10_end_21 : decode cX10_end 21 = .ok (.aload_n 1, 1) := dq_h (dq_t (dq_t (dq_t (dq_t (dq_t (dq_t (dq_t (dq_t (dq_t (dq_t (dq_t (dq_t dzX10_end_0))))))))))))
theorem dX10_end_22 : decode cX10_end 22 = .ok (.getfield 49, 3) := dq_h (dq_t (dq_t (dq_t (dq_t (dq_t (dq_t (dq_t (dq_t (dq_t (dq_t (dq_t (dq_t (dq_t dzX10_end_0)))))))))))))
theorem dX10_end_25 : decode cX10_end 25 = .ok (.iload_n 2, 1) := dq_h (dq_t (dq_t (dq_t (dq_t (dq_t (dq_t (dq_t (dq_t (dq_t (dq_t (dq_t (dq_t (dq_t (dq_t dzX10_end_0))))))))))))))
theorem dX10_end_26 : decode cX10_end 26 = .ok (.aload_n 0, 1) := dq_h (dq_t (dq_t (dq_t (dq_t (dq_t (dq_t (dq_t (dq_t (dq_t (dq_t (dq_t (dq_t (dq_t (dq_t (dq_t dzX10_end_0)))))))))))))))
theorem dX10_end_27 : decode cX10_end 27 = .ok (.getfield 18, 3) := dq_h (dq_t (dq_t (dq_t (dq_t (dq_t (dq_t (dq_t (dq_t (dq_t (dq_t (dq_t (dq_t (dq_t (dq_t (dq_t (dq_t dzX10_end_0))))))))))))))))
theorem dX10_end_30 : decode cX10_end 30 = .ok (.iastore, 1) := dq_h (dq_t (dq_t (dq_t (dq_t (dq_t (dq_t (dq_t (dq_t (dq_t (dq_t (dq_t (dq_t (dq_t (dq_t (dq_t (dq_t (dq_t dzX10_end_0)))))))))))))))))
theorem dX10_end_31 : decode cX10_end 31 = .ok (.aload_n 1, 1) := dq_h (dq_t (dq_t (dq_t (dq_t (dq_t (dq_t (dq_t (dq_t (dq_t (dq_t (dq_t (dq_t (dq_t (dq_t (dq_t (dq_t (dq_t (dq_t dzX10_end_0))))))))))))))))))
theorem dX10_end_32 : decode cX10_end 32 = .ok (.getfield 51, 3) := dq_h (dq_t (dq_t (dq_t (dq_t (dq_t (dq_t (dq_t (dq_t (dq_t (dq_t (dq_t (dq_t (dq_t (dq_t (dq_t (dq_t (dq_t (dq_t (dq_t dzX10_end_0)))))))))))))))))))
theorem dX10_end_35 : decode cX10_end 35 = .ok (.iload_n 2, 1) := dq_h (dq_t (dq_t (dq_t (dq_t (dq_t (dq_t (dq_t (dq_t (dq_t (dq_t (dq_t (dq_t (dq_t (dq_t (dq_t (dq_t (dq_t (dq_t (dq_t (dq_t dzX10_end_0))))))))))))))))))))
theorem dX10_end_36 : decode cX10_end 36 = .ok (.aload_n 0, 1) := dq_h (dq_t (dq_t (dq_t (dq_t (dq_t (dq_t (dq_t (dq_t (dq_t (dq_t (dq_t (dq_t (dq_t (dq_t (dq_t (dq_t (dq_t (dq_t (dq_t (dq_t (dq_t dzX10_end_0)))))))))))))))))))))
theorem dX10_end_37 : decode cX10_end 37 = .ok (.getfield 21, 3) := dq_h (dq_t (dq_t (dq_t (dq_t (dq_t (dq_t (dq_t (dq_t (dq_t (dq_t (dq_t (dq_t (dq_t (dq_t (dq_t (dq_t (dq_t (dq_t (dq_t (dq_t (dq_t (dq_t dzX10_end_0))))))))))))))))))))))
theorem dX10_end_40 : decode cX10_end 40 = .ok (.iastore, 1) := dq_h (dq_t (dq_t (dq_t (dq_t (dq_t (dq_t (dq_t (dq_t (dq_t (dq_t (dq_t (dq_t (dq_t (dq_t (dq_t (dq_t (dq_t (dq_t (dq_t (dq_t (dq_t (dq_t (dq_t dzX10_end_0)))))))))))))))))))))))
theorem dzX10_end_41 : dq_F cX10_end [(41, .aload_n 1, 1), (42, .getfield 53, 3), (45, .iload_n 2, 1), (46, .aload_n 0, 1), (47, .getfield 24, 3), (50, .iastore, 1), (51, .return_, 1)] := dq_s 7 41 (by decide +kernel)
theorem dX10_end_41 : decode cX10_end 41 = .ok (.aload_n 1, 1) := dq_h dzX10_end_41
theorem dX10_end_42 : decode cX10_end 42 = .ok (.getfield 53, 3) := dq_h (dq_t dzX10_end_41)
theorem dX10_end_45 : decode cX10_end 45 = .ok (.iload_n 2, 1) := dq_h (dq_t (dq_t dzX10_end_41))
theorem dX10_end_46 : decode cX10_end 46 = .ok (.aload_n 0, 1) := dq_h (dq_t (dq_t (dq_t dzX10_end_41)))
theorem dX10_end_47 : decode cX10_end 47 = .ok (.getfield 24, 3) := dq_h (dq_t (dq_t (dq_t (dq_t dzX10_end_41))))
theorem dX10_end_50 : decode cX10_end 50 = .ok (.iastore, 1) := dq_h (dq_t (dq_t (dq_t (dq_t (dq_t dzX10_end_41)))))
theorem dX10_end_51 : decode cX10_end 51 = .ok (.return_, 1) := dq_h (dq_t (dq_t (dq_t (dq_t (dq_t (dq_t dzX10_end_41))))))
theorem dzX10_repent_0 : dq_F cX10_repent [(0, .aload_n 0, 1), (1, .dup, 1), (2, .getfield 18, 3), (5, .bipush 50, 2), (7, .isub, 1), (8, .putfield 18, 3), (11, .aload_n 0, 1), (12, .dup, 1), (13, .getfield 15, 3), (16, .iconst 2, 1), (17, .idiv, 1), (18, .putfield 15, 3), (21, .return_, 1)] := dq_s 13 0 (by decide +kernel)
theorem dX10_repent_0 : decode cX10_repent 0 = .ok (.aload_n 0, 1) := dq_h dzX10_repent_0
theorem dX10_repent_1 : decode cX10_repent 1 = .ok (.dup, 1) := dq_h (dq_t dzX10_repent_0)
theorem dX10_repent_2 : decode cX10_repent 2 = .ok (.getfield 18, 3) := dq_h (dq_t (dq_t dzX10_repent_0))
theorem dX10_repent_5 : decode cX10_repent 5 = .ok (.bipush 50, 2) := dq_h (dq_t (dq_t (dq_t dzX10_repent_0)))
theorem dX10_repent_7 : decode cX10_repent 7 = .ok (.isub, 1) := dq_h (dq_t (dq_t (dq_t (dq_t dzX10_repent_0))))
theorem dX10_repent_8 : decode cX10_repent 8 = .ok (.putfield 18, 3) := dq_h (dq_t (dq_t (dq_t (dq_t (dq_t dzX10_repent_0)))))
theorem dX10_repent_11 : decode cX10_repent 11 = .ok (.aload_n 0, 1) := dq_h (dq_t (dq_t (dq_t (dq_t (dq_t (dq_t dzX10_repent_0))))))
theorem dX10_repent_12 : decode cX10_repent 12 = .ok (.dup, 1) := dq_h (dq_t (dq_t (dq_t (dq_t (dq_t (dq_t (dq_t dzX10_repent_0)))))))
theorem dX10_repent_13 : decode cX10_repent 13 = .ok (.getfield 15, 3) := dq_h (dq_t (dq_t (dq_t (dq_t (dq_t (dq_t (dq_t (dq_t dzX10_repent_0))))))))
theorem dX10_repent_16 : decode cX10_repent 16 = .ok (.iconst 2, 1) := dq_h (dq_t (dq_t (dq_t (dq_t (dq_t (dq_t (dq_t (dq_t (dq_t dzX10_repent_0)))))))))
theorem dX10_repent_17 : decode cX10_repent 17 = .ok (.idiv, 1) := dq_h (dq_t (dq_t (dq_t (dq_t (dq_t (dq_t (dq_t (dq_t (dq_t (dq_t dzX10_repent_0))))))))))
theorem dX10_repent_18 : decode cX10_repent 18 = .ok (.putfield 15, 3) := dq_h (dq_t (dq_t (dq_t (dq_t (dq_t (dq_t (dq_t (dq_t (dq_t (dq_t (dq_t dzX10_repent_0)))))))))))
theorem dX10_repent_21 : decode cX10_repent 21 = .ok (.return_, 1) := dq_h (dq_t (dq_t (dq_t (dq_t (dq_t (dq_t (dq_t (dq_t (dq_t (dq_t (dq_t (dq_t dzX10_repent_0))))))))))))
theorem dzX10_passHours_0 : dq_F cX10_passHours [(0, .iconst 0, 1), (1, .istore_n 3, 1), (2, .iload_n 3, 1), (3, .iload_n 2, 1), (4, .if_icmp .ge 23, 3), (7, .aload_n 0, 1), (8, .aload_n 1, 1), (9, .aload_n 1, 1), (10, .aload_n 0, 1), (11, .getfield 27, 3), (14, .invokevirtual 56, 3), (17, .invokevirtual 61, 3), (20, .pop, 1), (21, .iinc 3 1, 3), (24, .goto (-22), 3), (27, .return_, 1)] := dq_s 16 0 (by decide +kernel)
theorem dX10_passHours_0 : decode cX10_passHours 0 = .ok (.iconst 0, 1) := dq_h dzX10_passHours_0
theorem dX10_passHours_1 : decode cX10_passHours 1 = .ok (.istore_n 3, 1) := dq_h (dq_t dzX10_passHours_0)
theorem dX10_passHours_2 : decode cX10_passHours 2 = .ok (.iload_n 3, 1) := dq_h (dq_t (dq_t dzX10_passHours_0))
theorem dX10_passHours_3 : decode cX10_passHours 3 = .ok (.iload_n 2, 1) := dq_h (dq_t (dq_t (dq_t dzX10_passHours_0)))
theorem dX10_passHours_4 : decode cX10_passHours 4 = .ok (.if_icmp .ge 23, 3) := dq_h (dq_t (dq_t (dq_t (dq_t dzX10_passHours_0))))
theorem dX10_passHours_7 : decode cX10_passHours 7 = .ok (.aload_n 0, 1) := dq_h (dq_t (dq_t (dq_t (dq_t (dq_t dzX10_passHours_0)))))
theorem dX10_passHours_8 : decode cX10_passHours 8 = .ok (.aload_n 1, 1) := dq_h (dq_t (dq_t (dq_t (dq_t (dq_t (dq_t dzX10_passHours_0))))))
theorem dX10_passHours_9 : decode cX10_passHours 9 = .ok (.aload_n 1, 1) := dq_h (dq_t (dq_t (dq_t (dq_t (dq_t (dq_t (dq_t dzX10_passHours_0)))))))
theorem dX10_passHours_10 : decode cX10_passHours 10 = .ok (.aload_n 0, 1) := dq_h (dq_t (dq_t (dq_t (dq_t (dq_t (dq_t (dq_t (dq_t dzX10_passHours_0))))))))
theorem dX10_passHours_11 : decode cX10_passHours 11 = .ok (.getfield 27, 3) := dq_h (dq_t (dq_t (dq_t (dq_t (dq_t (dq_t (dq_t (dq_t (dq_t dzX10_passHours_0)))))))))
theorem dX10_passHours_14 : decode cX10_passHours 14 = .ok (.invokevirtual 56, 3) := dq_h (dq_t (dq_t (dq_t (dq_t (dq_t (dq_t (dq_t (dq_t (dq_t (dq_t dzX10_passHours_0))))))))))
theorem dX10_passHours_17 : decode cX10_passHours 17 = .ok (.invokevirtual 61, 3) := dq_h (dq_t (dq_t (dq_t (dq_t (dq_t (dq_t (dq_t (dq_t (dq_t (dq_t (dq_t dzX10_passHours_0)))))))))))
theorem dX10_passHours_20 : decode cX10_passHours 20 = .ok (.pop, 1) := dq_h (dq_t (dq_t (dq_t (dq_t (dq_t (dq_t (dq_t (dq_t (dq_t (dq_t (dq_t (dq_t dzX10_passHours_0))))))))))))
theorem dX10_passHours_21 : decode cX10_passHours 21 = .ok (.iinc 3 1, 3) := dq_h (dq_t (dq_t (dq_t (dq_t (dq_t (dq_t (dq_t (dq_t (dq_t (dq_t (dq_t (dq_t (dq_t dzX10_passHours_0)))))))))))))
theorem dX10_passHours_24 : decode cX10_passHours 24 = .ok (.goto (-22), 3) := dq_h (dq_t (dq_t (dq_t (dq_t (dq_t (dq_t (dq_t (dq_t (dq_t (dq_t (dq_t (dq_t (dq_t (dq_t dzX10_passHours_0))))))))))))))
theorem dX10_passHours_27 : decode cX10_passHours 27 = .ok (.return_, 1) := dq_h (dq_t (dq_t (dq_t (dq_t (dq_t (dq_t (dq_t (dq_t (dq_t (dq_t (dq_t (dq_t (dq_t (dq_t (dq_t dzX10_passHours_0)))))))))))))))
theorem dzX10_passHour_0 : dq_F cX10_passHour [(0, .aload_n 0, 1), (1, .iload_n 2, 1), (2, .putfield 30, 3), (5, .aload_n 1, 1), (6, .aload_n 0, 1), (7, .getfield 24, 3), (10, .invokevirtual 65, 3), (13, .ifCond .eq 48, 3), (16, .aload_n 1, 1), (17, .aload_n 0, 1), (18, .getfield 24, 3), (21, .aload_n 0, 1), (22, .getfield 27, 3), (25, .aload_n 0, 1), (26, .getfield 30, 3), (29, .aload_n 0, 1), (30, .getfield 33, 3), (33, .invokevirtual 68, 3), (36, .ifCond .eq 25, 3), (39, .aload_n 0, 1), (40, .aload_n 1, 1), (41, .invokevirtual 72, 3), (44, .aload_n 1, 1), (45, .getfield 76, 3)] := dq_s 24 0 (by decide +kernel)
theorem dX10_passHour_0 : decode cX10_passHour 0 = .ok (.aload_n 0, 1) := dq_h dzX10_passHour_0
theorem dX10_passHour_1 : decode cX10_passHour 1 = .ok (.iload_n 2, 1) := dq_h (dq_t dzX10_passHour_0)
theorem dX10_passHour_2 : decode cX10_passHour 2 = .ok (.putfield 30, 3) := dq_h (dq_t (dq_t dzX10_passHour_0))
theorem dX10_passHour_5 : decode cX10_passHour 5 = .ok (.aload_n 1, 1) := dq_h (dq_t (dq_t (dq_t dzX10_passHour_0)))
theorem dX10_passHour_6 : decode cX10_passHour 6 = .ok (.aload_n 0, 1) := dq_h (dq_t (dq_t (dq_t (dq_t dzX10_passHour_0))))
theorem dX10_passHour_7 : decode cX10_passHour 7 = .ok (.getfield 24, 3) := dq_h (dq_t (dq_t (dq_t (dq_t (dq_t dzX10_passHour_0)))))
theorem dX10_passHour_10 : decode cX10_passHour 10 = .ok (.invokevirtual 65, 3) := dq_h (dq_t (dq_t (dq_t (dq_t (dq_t (dq_t dzX10_passHour_0))))))
theorem dX10_passHour_13 : decode cX10_passHour 13 = .ok (.ifCond .eq 48, 3) := dq_h (dq_t (dq_t (dq_t (dq_t (dq_t (dq_t (dq_t dzX10_passHour_0)))))))
theorem dX10_passHour_16 : decode cX10_passHour 16 = .ok (.aload_n 1, 1) := dq_h (dq_t (dq_t (dq_t (dq_t (dq_t (dq_t (dq_t (dq_t dzX10_passHour_0))))))))
theorem dX10_passHour_17 : decode cX10_passHour 17 = .ok (.aload_n 0, 1) := dq_h (dq_t (dq_t (dq_t (dq_t (dq_t (dq_t (dq_t (dq_t (dq_t dzX10_passHour_0)))))))))
theorem dX10_passHour_18 : decode cX10_passHour 18 = .ok (.getfield 24, 3) := dq_h (dq_t (dq_t (dq_t (dq_t (dq_t (dq_t (dq_t (dq_t (dq_t (dq_t dzX10_passHour_0))))))))))
theorem dX10_passHour_21 : decode cX10_passHour 21 = .ok (.aload_n 0, 1) := dq_h (dq_t (dq_t (dq_t (dq_t (dq_t (dq_t (dq_t (dq_t (dq_t (dq_t (dq_t dzX10_passHour_0)))))))))))
theorem dX10_passHour_22 : decode cX10_passHour 22 = .ok (.getfield 27, 3) := dq_h (dq_t (dq_t (dq_t (dq_t (dq_t (dq_t (dq_t (dq_t (dq_t (dq_t (dq_t (dq_t dzX10_passHour_0))))))))))))
theorem dX10_passHour_25 : decode cX10_passHour 25 = .ok (.aload_n 0, 1) := dq_h (dq_t (dq_t (dq_t (dq_t (dq_t (dq_t (dq_t (dq_t (dq_t (dq_t (dq_t (dq_t (dq_t dzX10_passHour_0)))))))))))))
theorem dX10_passHour_26 : decode cX10_passHour 26 = .ok (.getfield 30, 3) := dq_h (dq_t (dq_t (dq_t (dq_t (dq_t (dq_t (dq_t (dq_t (dq_t (dq_t (dq_t (dq_t (dq_t (dq_t dzX10_passHour_0))))))))))))))
theorem dX10_passHour_29 : decode cX10_passHour 29 = .ok (.aload_n 0, 1) := dq_h (dq_t (dq_t (dq_t (dq_t (dq_t (dq_t (dq_t (dq_t (dq_t (dq_t (dq_t (dq_t (dq_t (dq_t (dq_t dzX10_passHour_0)))))))))))))))
theorem dX10_passHour_30 : decode cX10_passHour 30 = .ok (.getfield 33, 3) := dq_h (dq_t (dq_t (dq_t (dq_t (dq_t (dq_t (dq_t (dq_t (dq_t (dq_t (dq_t (dq_t (dq_t (dq_t (dq_t (dq_t dzX10_passHour_0))))))))))))))))
theorem dX10_passHour_33 : decode cX10_passHour 33 = .ok (.invokevirtual 68, 3) := dq_h (dq_t (dq_t (dq_t (dq_t (dq_t (dq_t (dq_t (dq_t (dq_t (dq_t (dq_t (dq_t (dq_t (dq_t (dq_t (dq_t (dq_t dzX10_passHour_0)))))))))))))))))
theorem dX10_passHour_36 : decode cX10_passHour 36 = .ok (.ifCond .eq 25, 3) := dq_h (dq_t (dq_t (dq_t (dq_t (dq_t (dq_t (dq_t (dq_t (dq_t (dq_t (dq_t (dq_t (dq_t (dq_t (dq_t (dq_t (dq_t (dq_t dzX10_passHour_0))))))))))))))))))
theorem dX10_passHour_39 : decode cX10_passHour 39 = .ok (.aload_n 0, 1) := dq_h (dq_t (dq_t (dq_t (dq_t (dq_t (dq_t (dq_t (dq_t (dq_t (dq_t (dq_t (dq_t (dq_t (dq_t (dq_t (dq_t (dq_t (dq_t (dq_t dzX10_passHour_0)))))))))))))))))))
theorem dX10_passHour_40 : decode cX10_passHour 40 = .ok (.aload_n 1, 1) := dq_h (dq_t (dq_t (dq_t (dq_t (dq_t (dq_t (dq_t (dq_t (dq_t (dq_t (dq_t (dq_t (dq_t (dq_t (dq_t (dq_t (dq_t (dq_t (dq_t (dq_t dzX10_passHour_0))))))))))))))))))))
theorem dX10_passHour_41 : decode cX10_passHour 41 = .ok (.invokevirtual 72, 3) := dq_h (dq_t (dq_t (dq_t (dq_t (dq_t (dq_t (dq_t (dq_t (dq_t (dq_t (dq_t (dq_t (dq_t (dq_t (dq_t (dq_t (dq_t (dq_t (dq_t (dq_t (dq_t dzX10_passHour_0)))))))))))))))))))))
theorem dX10_passHour_44 : decode cX10_passHour 44 = .ok (.aload_n 1, 1) := dq_h (dq_t (dq_t (dq_t (dq_t (dq_t (dq_t (dq_t (dq_t (dq_t (dq_t (dq_t (dq_t (dq_t (dq_t (dq_t (dq_t (dq_t (dq_t (dq_t (dq_t (dq_t (dq_t dzX10_passHour_0))))))))))))))))))))))
theorem dX10_passHour_45 : decode cX10_passHour 45 = .ok (.getfield 76, 3) := dq_h (dq_t (dq_t (dq_t (dq_t (dq_t (dq_t (dq_t (dq_t (dq_t (dq_t (dq_t (dq_t (dq_t (dq_t (dq_t (dq_t (dq_t (dq_t (dq_t (dq_t (dq_t (dq_t (dq_t dzX10_passHour_0)))))))))))))))))))))))
theorem dzX10_passHour_48 : dq_F cX10_passHour [(48, .aload_n 0, 1), (49, .getfield 24, 3), (52, .baload, 1), (53, .ifCond .eq 8, 3), (56, .aload_n 0, 1), (57, .aload_n 1, 1), (58, .invokevirtual 72, 3), (61, .aload_n 0, 1), (62, .sipush 999, 3), (65, .aload_n 0, 1), (66, .getfield 18, 3), (69, .iconst 3, 1), (70, .aload_n 0, 1), (71, .getfield 9, 3), (74, .imul, 1), (75, .iadd, 1), (76, .invokestatic 80, 3), (79, .putfield 18, 3), (82, .aload_n 0, 1), (83, .bipush 99, 2), (85, .aload_n 0, 1), (86, .getfield 15, 3), (89, .aload_n 0, 1), (90, .getfield 9, 3)] := dq_s 24 48 (by decide +kernel)
theorem dX10_passHour_48 : decode cX10_passHour 48 = .ok (.aload_n 0, 1) := dq_h dzX10_passHour_48
theorem dX10_passHour_49 : decode cX10_passHour 49 = .ok (.getfield 24, 3) := dq_h (dq_t dzX10_passHour_48)
theorem dX10_passHour_52 : decode cX10_passHour 52 = .ok (.baload, 1) := dq_h (dq_t (dq_t dzX10_passHour_48))
theorem dX10_passHour_53 : decode cX10_passHour 53 = .ok (.ifCond .eq 8, 3) := dq_h (dq_t (dq_t (dq_t dzX10_passHour_48)))
theorem dX10_passHour_56 : decode cX10_passHour 56 = .ok (.aload_n 0, 1) := dq_h (dq_t (dq_t (dq_t (dq_t dzX10_passHour_48))))
theorem dX10_passHour_57 : decode cX10_passHour 57 = .ok (.aload_n 1, 1) := dq_h (dq_t (dq_t (dq_t (dq_t (dq_t dzX10_passHour_48)))))
theorem dX10_passHour_58 : decode cX10_passHour 58 = .ok (.invokevirtual 72, 3) := dq_h (dq_t (dq_t (dq_t (dq_t (dq_t (dq_t dzX10_passHour_48))))))
theorem dX10_passHour_61 : decode cX10_passHour 61 = .ok (.aload_n 0, 1) := dq_h (dq_t (dq_t (dq_t (dq_t (dq_t (dq_t (dq_t dzX10_passHour_48)))))))
theorem dX10_passHour_62 : decode cX10_passHour 62 = .ok (.sipush 999, 3) := dq_h (dq_t (dq_t (dq_t (dq_t (dq_t (dq_t (dq_t (dq_t dzX10_passHour_48))))))))
theorem dX10_passHour_65 : decode cX10_passHour 65 = .ok (.aload_n 0, 1) := dq_h (dq_t (dq_t (dq_t (dq_t (dq_t (dq_t (dq_t (dq_t (dq_t dzX10_passHour_48)))))))))
theorem dX10_passHour_66 : decode cX10_passHour 66 = .ok (.getfield 18, 3) := dq_h (dq_t (dq_t (dq_t (dq_t (dq_t (dq_t (dq_t (dq_t (dq_t (dq_t dzX10_passHour_48))))))))))
theorem dX10_passHour_69 : decode cX10_passHour 69 = .ok (.iconst 3, 1) := dq_h (dq_t (dq_t (dq_t (dq_t (dq_t (dq_t (dq_t (dq_t (dq_t (dq_t (dq_t dzX10_passHour_48)))))))))))
theorem dX10_passHour_70 : decode cX10_passHour 70 = .ok (.aload_n 0, 1) := dq_h (dq_t (dq_t (dq_t (dq_t (dq_t (dq_t (dq_t (dq_t (dq_t (dq_t (dq_t (dq_t dzX10_passHour_48))))))))))))
theorem dX10_passHour_71 : decode cX10_passHour 71 = .ok (.getfield 9, 3) := dq_h (dq_t (dq_t (dq_t (dq_t (dq_t (dq_t (dq_t (dq_t (dq_t (dq_t (dq_t (dq_t (dq_t dzX10_passHour_48)))))))))))))
theorem dX10_passHour_74 : decode cX10_passHour 74 = .ok (.imul, 1) := dq_h (dq_t (dq_t (dq_t (dq_t (dq_t (dq_t (dq_t (dq_t (dq_t (dq_t (dq_t (dq_t (dq_t (dq_t dzX10_passHour_48))))))))))))))
theorem dX10_passHour_75 : decode cX10_passHour 75 = .ok (.iadd, 1) := dq_h (dq_t (dq_t (dq_t (dq_t (dq_t (dq_t (dq_t (dq_t (dq_t (dq_t (dq_t (dq_t (dq_t (dq_t (dq_t dzX10_passHour_48)))))))))))))))
theorem dX10_passHour_76 : decode cX10_passHour 76 = .ok (.invokestatic 80, 3) := dq_h (dq_t (dq_t (dq_t (dq_t (dq_t (dq_t (dq_t (dq_t (dq_t (dq_t (dq_t (dq_t (dq_t (dq_t (dq_t (dq_t dzX10_passHour_48))))))))))))))))
theorem dX10_passHour_79 : decode cX10_passHour 79 = .ok (.putfield 18, 3) := dq_h (dq_t (dq_t (dq_t (dq_t (dq_t (dq_t (dq_t (dq_t (dq_t (dq_t (dq_t (dq_t (dq_t (dq_t (dq_t (dq_t (dq_t dzX10_passHour_48)))))))))))))))))
theorem dX10_passHour_82 : decode cX10_passHour 82 = .ok (.aload_n 0, 1) := dq_h (dq_t (dq_t (dq_t (dq_t (dq_t (dq_t (dq_t (dq_t (dq_t (dq_t (dq_t (dq_t (dq_t (dq_t (dq_t (dq_t (dq_t (dq_t dzX10_passHour_48))))))))))))))))))
theorem dX10_passHour_83 : decode cX10_passHour 83 = .ok (.bipush 99, 2) := dq_h (dq_t (dq_t (dq_t (dq_t (dq_t (dq_t (dq_t (dq_t (dq_t (dq_t (dq_t (dq_t (dq_t (dq_t (dq_t (dq_t (dq_t (dq_t (dq_t dzX10_passHour_48)))))))))))))))))))
theorem dX10_passHour_85 : decode cX10_passHour 85 = .ok (.aload_n 0, 1) := dq_h (dq_t (dq_t (dq_t (dq_t (dq_t (dq_t (dq_t (dq_t (dq_t (dq_t (dq_t (dq_t (dq_t (dq_t (dq_t (dq_t (dq_t (dq_t (dq_t (dq_t dzX10_passHour_48))))))))))))))))))))
theorem dX10_passHour_86 : decode cX10_passHour 86 = .ok (.getfield 15, 3) := dq_h (dq_t (dq_t (dq_t (dq_t (dq_t (dq_t (dq_t (dq_t (dq_t (dq_t (dq_t (dq_t (dq_t (dq_t (dq_t (dq_t (dq_t (dq_t (dq_t (dq_t (dq_t dzX10_passHour_48)))))))))))))))))))))
theorem dX10_passHour_89 : decode cX10_passHour 89 = .ok (.aload_n 0, 1) := dq_h (dq_t (dq_t (dq_t (dq_t (dq_t (dq_t (dq_t (dq_t (dq_t (dq_t (dq_t (dq_t (dq_t (dq_t (dq_t (dq_t (dq_t (dq_t (dq_t (dq_t (dq_t (dq_t dzX10_passHour_48))))))))))))))))))))))
theorem dX10_passHour_90 : decode cX10_passHour 90 = .ok (.getfield 9, 3) := dq_h (dq_t (dq_t (dq_t (dq_t (dq_t (dq_t (dq_t (dq_t (dq_t (dq_t (dq_t (dq_t (dq_t (dq_t (dq_t (dq_t (dq_t (dq_t (dq_t (dq_t (dq_t (dq_t (dq_t dzX10_passHour_48)))))))))))))))))))))))
theorem dzX10_passHour_93 : dq_F cX10_passHour [(93, .iadd, 1), (94, .invokestatic 80, 3), (97, .putfield 15, 3), (100, .aload_n 0, 1), (101, .aload_n 1, 1), (102, .invokevirtual 86, 3), (105, .istore_n 3, 1), (106, .aload_n 0, 1), (107, .getfield 18, 3), (110, .iload_n 3, 1), (111, .if_icmp .lt 16, 3), (114, .aload_n 0, 1), (115, .dup, 1), (116, .getfield 18, 3), (119, .iload_n 3, 1), (120, .isub, 1), (121, .putfield 18, 3), (124, .goto 8, 3), (127, .aload_n 0, 1), (128, .iconst (-1), 1), (129, .putfield 24, 3), (132, .aload_n 0, 1), (133, .getfield 15, 3), (136, .aload_n 1, 1)] := dq_s 24 93 (by decide +kernel)
theorem dX10_passHour_93 : decode cX10_passHour 93 = .ok (.iadd, 1) := dq_h dzX10_passHour_93
theorem dX10_passHour_94 : decode cX10_passHour 94 = .ok (.invokestatic 80, 3) := dq_h (dq_t dzX10_passHour_93)
theorem dX10_passHour_97 : decode cX10_passHour 97 = .ok (.putfield 15, 3) := dq_h (dq_t (dq_t dzX10_passHour_93))
theorem dX10_passHour_100 : decode cX10_passHour 100 = .ok (.aload_n 0, 1) := dq_h (dq_t (dq_t (dq_t dzX10_passHour_93)))
theorem dX10_passHour_101 : decode cX10_passHour 101 = .ok (.aload_n 1, 1) := dq_h (dq_t (dq_t (dq_t (dq_t dzX10_passHour_93))))
theorem dX10_passHour_102 : decode cX10_passHour 102 = .ok (.invokevirtual 86, 3) := dq_h (dq_t (dq_t (dq_t (dq_t (dq_t dzX10_passHour_93)))))
theorem dX10_passHour_105 : decode cX10_passHour 105 = .ok (.istore_n 3, 1) := dq_h (dq_t (dq_t (dq_t (dq_t (dq_t (dq_t dzX10_passHour_93))))))
theorem dX10_passHour_106 : decode cX10_passHour 106 = .ok (.aload_n 0, 1) := dq_h (dq_t (dq_t (dq_t (dq_t (dq_t (dq_t (dq_t dzX10_passHour_93)))))))
theorem dX10_passHour_107 : decode cX10_passHour 107 = .ok (.getfield 18, 3) := dq_h (dq_t (dq_t (dq_t (dq_t (dq_t (dq_t (dq_t (dq_t dzX10_passHour_93))))))))
theorem dX10_passHour_110 : decode cX10_passHour 110 = .ok (.iload_n 3, 1) := dq_h (dq_t (dq_t (dq_t (dq_t (dq_t (dq_t (dq_t (dq_t (dq_t dzX10_passHour_93)))))))))
theorem dX10_passHour_111 : decode cX10_passHour 111 = .ok (.if_icmp .lt 16, 3) := dq_h (dq_t (dq_t (dq_t (dq_t (dq_t (dq_t (dq_t (dq_t (dq_t (dq_t dzX10_passHour_93))))))))))
theorem dX10_passHour_114 : decode cX10_passHour 114 = .ok (.aload_n 0, 1) := dq_h (dq_t (dq_t (dq_t (dq_t (dq_t (dq_t (dq_t (dq_t (dq_t (dq_t (dq_t dzX10_passHour_93)))))))))))
theorem dX10_passHour_115 : decode cX10_passHour 115 = .ok (.dup, 1) := dq_h (dq_t (dq_t (dq_t (dq_t (dq_t (dq_t (dq_t (dq_t (dq_t (dq_t (dq_t (dq_t dzX10_passHour_93))))))))))))
theorem dX10_passHour_116 : decode cX10_passHour 116 = .ok (.getfield 18, 3) := dq_h (dq_t (dq_t (dq_t (dq_t (dq_t (dq_t (dq_t (dq_t (dq_t (dq_t (dq_t (dq_t (dq_t dzX10_passHour_93)))))))))))))
theorem dX10_passHour_119 : decode cX10_passHour 119 = .ok (.iload_n 3, 1) := dq_h (dq_t (dq_t (dq_t (dq_t (dq_t (dq_t (dq_t (dq_t (dq_t (dq_t (dq_t (dq_t (dq_t (dq_t dzX10_passHour_93))))))))))))))
theorem dX10_passHour_120 : decode cX10_passHour 120 = .ok (.isub, 1) := dq_h (dq_t (dq_t (dq_t (dq_t (dq_t (dq_t (dq_t (dq_t (dq_t (dq_t (dq_t (dq_t (dq_t (dq_t (dq_t dzX10_passHour_93)))))))))))))))
theorem dX10_passHour_121 : decode cX10_passHour 121 = .ok (.putfield 18, 3) := dq_h (dq_t (dq_t (dq_t (dq_t (dq_t (dq_t (dq_t (dq_t (dq_t (dq_t (dq_t (dq_t (dq_t (dq_t (dq_t (dq_t dzX10_passHour_93))))))))))))))))
theorem dX10_passHour_124 : decode cX10_passHour 124 = .ok (.goto 8, 3) := dq_h (dq_t (dq_t (dq_t (dq_t (dq_t (dq_t (dq_t (dq_t (dq_t (dq_t (dq_t (dq_t (dq_t (dq_t (dq_t (dq_t (dq_t dzX10_passHour_93)))))))))))))))))
theorem dX10_passHour_127 : decode cX10_passHour 127 = .ok (.aload_n 0, 1) := dq_h (dq_t (dq_t (dq_t (dq_t (dq_t (dq_t (dq_t (dq_t (dq_t (dq_t (dq_t (dq_t (dq_t (dq_t (dq_t (dq_t (dq_t (dq_t dzX10_passHour_93))))))))))))))))))
theorem dX10_passHour_128 : decode cX10_passHour 128 = .ok (.iconst (-1), 1) := dq_h (dq_t (dq_t (dq_t (dq_t (dq_t (dq_t (dq_t (dq_t (dq_t (dq_t (dq_t (dq_t (dq_t (dq_t (dq_t (dq_t (dq_t (dq_t (dq_t dzX10_passHour_93)))))))))))))))))))
theorem dX10_passHour_129 : decode cX10_passHour 129 = .ok (.putfield 24, 3) := dq_h (dq_t (dq_t (dq_t (dq_t (dq_t (dq_t (dq_t (dq_t (dq_t (dq_t (dq_t (dq_t (dq_t (dq_t (dq_t (dq_t (dq_t (dq_t (dq_t (dq_t dzX10_passHour_93))))))))))))))))))))
theorem dX10_passHour_132 : decode cX10_passHour 132 = .ok (.aload_n 0, 1) := dq_h (dq_t (dq_t (dq_t (dq_t (dq_t (dq_t (dq_t (dq_t (dq_t (dq_t (dq_t (dq_t (dq_t (dq_t (dq_t (dq_t (dq_t (dq_t (dq_t (dq_t (dq_t dzX10_passHour_93)))))))))))))))))))))
theorem dX10_passHour_133 : decode cX10_passHour 133 = .ok (.getfield 15, 3) := dq_h (dq_t (dq_t (dq_t (dq_t (dq_t (dq_t (dq_t (dq_t (dq_t (dq_t (dq_t (dq_t (dq_t (dq_t (dq_t (dq_t (dq_t (dq_t (dq_t (dq_t (dq_t (dq_t dzX10_passHour_93))))))))))))))))))))))
theorem dX10_passHour_136 : decode cX10_passHour 136 = .ok (.aload_n 1, 1) := dq_h (dq_t (dq_t (dq_t (dq_t (dq_t (dq_t (dq_t (dq_t (dq_t (dq_t (dq_t (dq_t (dq_t (dq_t (dq_t (dq_t (dq_t (dq_t (dq_t (dq_t (dq_t (dq_t (dq_t dzX10_passHour_93)))))))))))))))))))))))
theorem dzX10_passHour_137 : dq_F cX10_passHour [(137, .invokevirtual 90, 3), (140, .if_icmp .le 7, 3), (143, .iconst 1, 1), (144, .goto 4, 3), (147, .iconst 0, 1), (148, .istore 4, 2), (150, .iload 4, 2), (152, .ifCond .eq 29, 3), (155, .aload_n 0, 1), (156, .dup, 1), (157, .getfield 18, 3), (160, .iconst 2, 1), (161, .idiv, 1), (162, .putfield 18, 3), (165, .aload_n 0, 1), (166, .sipush 999, 3), (169, .aload_n 0, 1), (170, .getfield 21, 3), (173, .iconst 1, 1), (174, .iadd, 1), (175, .invokestatic 80, 3), (178, .putfield 21, 3), (181, .aload_n 0, 1), (182, .dup, 1)] := dq_s 24 137 (by decide +kernel)
theorem dX10_passHour_137 : decode cX10_passHour 137 = .ok (.invokevirtual 90, 3) := dq_h dzX10_passHour_137
theorem dX10_passHour_140 : decode cX10_passHour 140 = .ok (.if_icmp .le 7, 3) := dq_h (dq_t dzX10_passHour_137)
theorem dX10_passHour_143 : decode cX10_passHour 143 = .ok (.iconst 1, 1) := dq_h (dq_t (dq_t dzX10_passHour_137))
theorem dX10_passHour_144 : decode cX10_passHour 144 = .ok (.goto 4, 3) := dq_h (dq_t (dq_t (dq_t dzX10_passHour_137)))
theorem dX10_passHour_147 : decode cX10_passHour 147 = .ok (.iconst 0, 1) := dq_h (dq_t (dq_t (dq_t (dq_t dzX10_passHour_137))))
theorem dX10_passHour_148 : decode cX10_passHour 148 = .ok (.istore 4, 2) := dq_h (dq_t (dq_t (dq_t (dq_t (dq_t dzX10_passHour_137)))))
theorem dX10_passHour_150 : decode cX10_passHour 150 = .ok (.iload 4, 2) := dq_h (dq_t (dq_t (dq_t (dq_t (dq_t (dq_t dzX10_passHour_137))))))
theorem dX10_passHour_152 : decode cX10_passHour 152 = .ok (.ifCond .eq 29, 3) := dq_h (dq_t (dq_t (dq_t (dq_t (dq_t (dq_t (dq_t dzX10_passHour_137)))))))
theorem dX10_passHour_155 : decode cX10_passHour 155 = .ok (.aload_n 0, 1) := dq_h (dq_t (dq_t (dq_t (dq_t (dq_t (dq_t (dq_t (dq_t dzX10_passHour_137))))))))
theorem dX10_passHour_156 : decode cX10_passHour 156 = .ok (.dup, 1) := dq_h (dq_t (dq_t (dq_t (dq_t (dq_t (dq_t (dq_t (dq_t (dq_t dzX10_passHour_137)))))))))
theorem dX10_passHour_157 : decode cX10_passHour 157 = .ok (.getfield 18, 3) := dq_h (dq_t (dq_t (dq_t (dq_t (dq_t (dq_t (dq_t (dq_t (dq_t (dq_t dzX10_passHour_137))))))))))
theorem dX10_passHour_160 : decode cX10_passHour 160 = .ok (.iconst 2, 1) := dq_h (dq_t (dq_t (dq_t (dq_t (dq_t (dq_t (dq_t (dq_t (dq_t (dq_t (dq_t dzX10_passHour_137)))))))))))
theorem dX10_passHour_161 : decode cX10_passHour 161 = .ok (.idiv, 1) := dq_h (dq_t (dq_t (dq_t (dq_t (dq_t (dq_t (dq_t (dq_t (dq_t (dq_t (dq_t (dq_t dzX10_passHour_137))))))))))))
theorem dX10_passHour_162 : decode cX10_passHour 162 = .ok (.putfield 18, 3) := dq_h (dq_t (dq_t (dq_t (dq_t (dq_t (dq_t (dq_t (dq_t (dq_t (dq_t (dq_t (dq_t (dq_t dzX10_passHour_137)))))))))))))
theorem dX10_passHour_165 : decode cX10_passHour 165 = .ok (.aload_n 0, 1) := dq_h (dq_t (dq_t (dq_t (dq_t (dq_t (dq_t (dq_t (dq_t (dq_t (dq_t (dq_t (dq_t (dq_t (dq_t dzX10_passHour_137))))))))))))))
theorem dX10_passHour_166 : decode cX10_passHour 166 = .ok (.sipush 999, 3) := dq_h (dq_t (dq_t (dq_t (dq_t (dq_t (dq_t (dq_t (dq_t (dq_t (dq_t (dq_t (dq_t (dq_t (dq_t (dq_t dzX10_passHour_137)))))))))))))))
theorem dX10_passHour_169 : decode cX10_passHour 169 = .ok (.aload_n 0, 1) := dq_h (dq_t (dq_t (dq_t (dq_t (dq_t (dq_t (dq_t (dq_t (dq_t (dq_t (dq_t (dq_t (dq_t (dq_t (dq_t (dq_t dzX10_passHour_137))))))))))))))))
theorem dX10_passHour_170 : decode cX10_passHour 170 = .ok (.getfield 21, 3) := dq_h (dq_t (dq_t (dq_t (dq_t (dq_t (dq_t (dq_t (dq_t (dq_t (dq_t (dq_t (dq_t (dq_t (dq_t (dq_t (dq_t (dq_t dzX10_passHour_137)))))))))))))))))
theorem dX10_passHour_173 : decode cX10_passHour 173 = .ok (.iconst 1, 1) := dq_h (dq_t (dq_t (dq_t (dq_t (dq_t (dq_t (dq_t (dq_t (dq_t (dq_t (dq_t (dq_t (dq_t (dq_t (dq_t (dq_t (dq_t (dq_t dzX10_passHour_137))))))))))))))))))
theorem dX10_passHour_174 : decode cX10_passHour 174 = .ok (.iadd, 1) := dq_h (dq_t (dq_t (dq_t (dq_t (dq_t (dq_t (dq_t (dq_t (dq_t (dq_t (dq_t (dq_t (dq_t (dq_t (dq_t (dq_t (dq_t (dq_t (dq_t dzX10_passHour_137)))))))))))))))))))
theorem dX10_passHour_175 : decode cX10_passHour 175 = .ok (.invokestatic 80, 3) := dq_h (dq_t (dq_t (dq_t (dq_t (dq_t (dq_t (dq_t (dq_t (dq_t (dq_t (dq_t (dq_t (dq_t (dq_t (dq_t (dq_t (dq_t (dq_t (dq_t (dq_t dzX10_passHour_137))))))))))))))))))))
theorem dX10_passHour_178 : decode cX10_passHour 178 = .ok (.putfield 21, 3) := dq_h (dq_t (dq_t (dq_t (dq_t (dq_t (dq_t (dq_t (dq_t (dq_t (dq_t (dq_t (dq_t (dq_t (dq_t (dq_t (dq_t (dq_t (dq_t (dq_t (dq_t (dq_t dzX10_passHour_137)))))))))))))))))))))
theorem dX10_passHour_181 : decode cX10_passHour 181 = .ok (.aload_n 0, 1) := dq_h (dq_t (dq_t (dq_t (dq_t (dq_t (dq_t (dq_t (dq_t (dq_t (dq_t (dq_t (dq_t (dq_t (dq_t (dq_t (dq_t (dq_t (dq_t (dq_t (dq_t (dq_t (dq_t dzX10_passHour_137))))))))))))))))))))))
theorem dX10_passHour_182 : decode cX10_passHour 182 = .ok (.dup, 1) := dq_h (dq_t (dq_t (dq_t (dq_t (dq_t (dq_t (dq_t (dq_t (dq_t (dq_t (dq_t (dq_t (dq_t (dq_t (dq_t (dq_t (dq_t (dq_t (dq_t (dq_t (dq_t (dq_t (dq_t dzX10_passHour_137)))))))))))))))))))))))
theorem dzX10_passHour_183 : dq_F cX10_passHour [(183, .getfield 27, 3), (186, .iconst 1, 1), (187, .iadd, 1), (188, .putfield 27, 3), (191, .iload 4, 2), (193, .ireturn, 1)] := dq_s 6 183 (by decide +kernel)
theorem dX10_passHour_183 : decode cX10_passHour 183 = .ok (.getfield 27, 3) := dq_h dzX10_passHour_183
theorem dX10_passHour_186 : decode cX10_passHour 186 = .ok (.iconst 1, 1) := dq_h (dq_t dzX10_passHour_183)
theorem dX10_passHour_187 : decode cX10_passHour 187 = .ok (.iadd, 1) := dq_h (dq_t (dq_t dzX10_passHour_183))
theorem dX10_passHour_188 : decode cX10_passHour 188 = .ok (.putfield 27, 3) := dq_h (dq_t (dq_t (dq_t dzX10_passHour_183)))
theorem dX10_passHour_191 : decode cX10_passHour 191 = .ok (.iload 4, 2) := dq_h (dq_t (dq_t (dq_t (dq_t dzX10_passHour_183))))
theorem dX10_passHour_193 : decode cX10_passHour 193 = .ok (.ireturn, 1) := dq_h (dq_t (dq_t (dq_t (dq_t (dq_t dzX10_passHour_183)))))
theorem dzX10_cost_0 : dq_F cX10_cost [(0, .aload_n 1, 1), (1, .aload_n 0, 1), (2, .getfield 24, 3), (5, .invokevirtual 65, 3), (8, .ifCond .ne 5, 3), (11, .iconst 0, 1), (12, .ireturn, 1), (13, .aload_n 1, 1), (14, .getfield 94, 3), (17, .invokevirtual 98, 3), (20, .ifCond .eq 15, 3), (23, .aload_n 1, 1), (24, .getfield 94, 3), (27, .aload_n 1, 1), (28, .aload_n 0, 1), (29, .invokevirtual 104, 3), (32, .goto 12, 3), (35, .aload_n 1, 1), (36, .getfield 108, 3), (39, .aload_n 0, 1), (40, .getfield 24, 3), (43, .iaload, 1), (44, .istore_n 2, 1), (45, .iconst 0, 1)] := dq_s 24 0 (by decide +kernel)
theorem dX10_cost_0 : decode cX10_cost 0 = .ok (.aload_n 1, 1) := dq_h dzX10_cost_0
theorem dX10_cost_1 : decode cX10_cost 1 = .ok (.aload_n 0, 1) := dq_h (dq_t dzX10_cost_0)
theorem dX10_cost_2 : decode cX10_cost 2 = .ok (.getfield 24, 3) := dq_h (dq_t (dq_t dzX10_cost_0))
theorem dX10_cost_5 : decode cX10_cost 5 = .ok (.invokevirtual 65, 3) := dq_h (dq_t (dq_t (dq_t dzX10_cost_0)))
theorem dX10_cost_8 : decode cX10_cost 8 = .ok (.ifCond .ne 5, 3) := dq_h (dq_t (dq_t (dq_t (dq_t dzX10_cost_0))))
theorem dX10_cost_11 : decode cX10_cost 11 = .ok (.iconst 0, 1) := dq_h (dq_t (dq_t (dq_t (dq_t (dq_t dzX10_cost_0)))))
theorem dX10_cost_12 : decode cX10_cost 12 = .ok (.ireturn, 1) := dq_h (dq_t (dq_t (dq_t (dq_t (dq_t (dq_t dzX10_cost_0))))))
theorem dX10_cost_13 : decode cX10_cost 13 = .ok (.aload_n 1, 1) := dq_h (dq_t (dq_t (dq_t (dq_t (dq_t (dq_t (dq_t dzX10_cost_0)))))))
theorem dX10_cost_14 : decode cX10_cost 14 = .ok (.getfield 94, 3) := dq_h (dq_t (dq_t (dq_t (dq_t (dq_t (dq_t (dq_t (dq_t dzX10_cost_0))))))))
theorem dX10_cost_17 : decode cX10_cost 17 = .ok (.invokevirtual 98, 3) := dq_h (dq_t (dq_t (dq_t (dq_t (dq_t (dq_t (dq_t (dq_t (dq_t dzX10_cost_0)))))))))
theorem dX10_cost_20 : decode cX10_cost 20 = .ok (.ifCond .eq 15, 3) := dq_h (dq_t (dq_t (dq_t (dq_t (dq_t (dq_t (dq_t (dq_t (dq_t (dq_t dzX10_cost_0))))))))))
theorem dX10_cost_23 : decode cX10_cost 23 = .ok (.aload_n 1, 1) := dq_h (dq_t (dq_t (dq_t (dq_t (dq_t (dq_t (dq_t (dq_t (dq_t (dq_t (dq_t dzX10_cost_0)))))))))))
theorem dX10_cost_24 : decode cX10_cost 24 = .ok (.getfield 94, 3) := dq_h (dq_t (dq_t (dq_t (dq_t (dq_t (dq_t (dq_t (dq_t (dq_t (dq_t (dq_t (dq_t dzX10_cost_0))))))))))))
theorem dX10_cost_27 : decode cX10_cost 27 = .ok (.aload_n 1, 1) := dq_h (dq_t (dq_t (dq_t (dq_t (dq_t (dq_t (dq_t (dq_t (dq_t (dq_t (dq_t (dq_t (dq_t dzX10_cost_0)))))))))))))
theorem dX10_cost_28 : decode cX10_cost 28 = .ok (.aload_n 0, 1) := dq_h (dq_t (dq_t (dq_t (dq_t (dq_t (dq_t (dq_t (dq_t (dq_t (dq_t (dq_t (dq_t (dq_t (dq_t dzX10_cost_0))))))))))))))
theorem dX10_cost_29 : decode cX10_cost 29 = .ok (.invokevirtual 104, 3) := dq_h (dq_t (dq_t (dq_t (dq_t (dq_t (dq_t (dq_t (dq_t (dq_t (dq_t (dq_t (dq_t (dq_t (dq_t (dq_t dzX10_cost_0)))))))))))))))
theorem dX10_cost_32 : decode cX10_cost 32 = .ok (.goto 12, 3) := dq_h (dq_t (dq_t (dq_t (dq_t (dq_t (dq_t (dq_t (dq_t (dq_t (dq_t (dq_t (dq_t (dq_t (dq_t (dq_t (dq_t dzX10_cost_0))))))))))))))))
theorem dX10_cost_35 : decode cX10_cost 35 = .ok (.aload_n 1, 1) := dq_h (dq_t (dq_t (dq_t (dq_t (dq_t (dq_t (dq_t (dq_t (dq_t (dq_t (dq_t (dq_t (dq_t (dq_t (dq_t (dq_t (dq_t dzX10_cost_0)))))))))))))))))
theorem dX10_cost_36 : decode cX10_cost 36 = .ok (.getfield 108, 3) := dq_h (dq_t (dq_t (dq_t (dq_t (dq_t (dq_t (dq_t (dq_t (dq_t (dq_t (dq_t (dq_t (dq_t (dq_t (dq_t (dq_t (dq_t (dq_t dzX10_cost_0))))))))))))))))))
theorem dX10_cost_39 : decode cX10_cost 39 = .ok (.aload_n 0, 1) := dq_h (dq_t (dq_t (dq_t (dq_t (dq_t (dq_t (dq_t (dq_t (dq_t (dq_t (dq_t (dq_t (dq_t (dq_t (dq_t (dq_t (dq_t (dq_t (dq_t dzX10_cost_0)))))))))))))))))))
theorem dX10_cost_40 : decode cX10_cost 40 = .ok (.getfield 24, 3) := dq_h (dq_t (dq_t (dq_t (dq_t (dq_t (dq_t (dq_t (dq_t (dq_t (dq_t (dq_t (dq_t (dq_t (dq_t (dq_t (dq_t (dq_t (dq_t (dq_t (dq_t dzX10_cost_0))))))))))))))))))))
theorem dX10_cost_43 : decode cX10_cost 43 = .ok (.iaload, 1) := dq_h (dq_t (dq_t (dq_t (dq_t (dq_t (dq_t (dq_t (dq_t (dq_t (dq_t (dq_t (dq_t (dq_t (dq_t (dq_t (dq_t (dq_t (dq_t (dq_t (dq_t (dq_t dzX10_cost_0)))))))))))))))))))))
theorem dX10_cost_44 : decode cX10_cost 44 = .ok (.istore_n 2, 1) := dq_h (dq_t (dq_t (dq_t (dq_t (dq_t (dq_t (dq_t (dq_t (dq_t (dq_t (dq_t (dq_t (dq_t (dq_t (dq_t (dq_t (dq_t (dq_t (dq_t (dq_t (dq_t (dq_t dzX10_cost_0))))))))))))))))))))))
theorem dX10_cost_45 : decode cX10_cost 45 = .ok (.iconst 0, 1) := dq_h (dq_t (dq_t (dq_t (dq_t (dq_t (dq_t (dq_t (dq_t (dq_t (dq_t (dq_t (dq_t (dq_t (dq_t (dq_t (dq_t (dq_t (dq_t (dq_t (dq_t (dq_t (dq_t (dq_t dzX10_cost_0)))))))))))))))))))))))
theorem dzX10_cost_46 : dq_F cX10_cost [(46, .bipush 50, 2), (48, .iload_n 2, 1), (49, .invokestatic 80, 3), (52, .invokestatic 111, 3), (55, .ireturn, 1)] := dq_s 5 46 (by decide +kernel)
theorem dX10_cost_46 : decode cX10_cost 46 = .ok (.bipush 50, 2) := dq_h dzX10_cost_46
theorem dX10_cost_48 : decode cX10_cost 48 = .ok (.iload_n 2, 1) := dq_h (dq_t dzX10_cost_46)
theorem dX10_cost_49 : decode cX10_cost 49 = .ok (.invokestatic 80, 3) := dq_h (dq_t (dq_t dzX10_cost_46))
theorem dX10_cost_52 : decode cX10_cost 52 = .ok (.invokestatic 111, 3) := dq_h (dq_t (dq_t (dq_t dzX10_cost_46)))
theorem dX10_cost_55 : decode cX10_cost 55 = .ok (.ireturn, 1) := dq_h (dq_t (dq_t (dq_t (dq_t dzX10_cost_46))))
theorem dzX10_valueOf_0 : dq_F cX10_valueOf [(0, .aload_n 0, 1), (1, .getfield 24, 3), (4, .ifCond .lt 16, 3), (7, .aload_n 0, 1), (8, .getfield 24, 3), (11, .bipush 8, 2), (13, .if_icmp .ge 7, 3), (16, .iconst 1, 1), (17, .goto 4, 3), (20, .iconst 0, 1), (21, .istore_n 3, 1), (22, .iload_n 2, 1)] := dq_s 12 0 (by decide +kernel)
theorem dX10_valueOf_0 : decode cX10_valueOf 0 = .ok (.aload_n 0, 1) := dq_h dzX10_valueOf_0
theorem dX10_valueOf_1 : decode cX10_valueOf 1 = .ok (.getfield 24, 3) := dq_h (dq_t dzX10_valueOf_0)
theorem dX10_valueOf_4 : decode cX10_valueOf 4 = .ok (.ifCond .lt 16, 3) := dq_h (dq_t (dq_t dzX10_valueOf_0))
theorem dX10_valueOf_7 : decode cX10_valueOf 7 = .ok (.aload_n 0, 1) := dq_h (dq_t (dq_t (dq_t dzX10_valueOf_0)))
theorem dX10_valueOf_8 : decode cX10_valueOf 8 = .ok (.getfield 24, 3) := dq_h (dq_t (dq_t (dq_t (dq_t dzX10_valueOf_0))))
theorem dX10_valueOf_11 : decode cX10_valueOf 11 = .ok (.bipush 8, 2) := dq_h (dq_t (dq_t (dq_t (dq_t (dq_t dzX10_valueOf_0)))))
theorem dX10_valueOf_13 : decode cX10_valueOf 13 = .ok (.if_icmp .ge 7, 3) := dq_h (dq_t (dq_t (dq_t (dq_t (dq_t (dq_t dzX10_valueOf_0))))))
theorem dX10_valueOf_16 : decode cX10_valueOf 16 = .ok (.iconst 1, 1) := dq_h (dq_t (dq_t (dq_t (dq_t (dq_t (dq_t (dq_t dzX10_valueOf_0)))))))
theorem dX10_valueOf_17 : decode cX10_valueOf 17 = .ok (.goto 4, 3) := dq_h (dq_t (dq_t (dq_t (dq_t (dq_t (dq_t (dq_t (dq_t dzX10_valueOf_0))))))))
theorem dX10_valueOf_20 : decode cX10_valueOf 20 = .ok (.iconst 0, 1) := dq_h (dq_t (dq_t (dq_t (dq_t (dq_t (dq_t (dq_t (dq_t (dq_t dzX10_valueOf_0)))))))))
theorem dX10_valueOf_21 : decode cX10_valueOf 21 = .ok (.istore_n 3, 1) := dq_h (dq_t (dq_t (dq_t (dq_t (dq_t (dq_t (dq_t (dq_t (dq_t (dq_t dzX10_valueOf_0))))))))))
theorem dX10_valueOf_22 : decode cX10_valueOf 22 = .ok (.iload_n 2, 1) := dq_h (dq_t (dq_t (dq_t (dq_t (dq_t (dq_t (dq_t (dq_t (dq_t (dq_t (dq_t dzX10_valueOf_0)))))))))))
theorem dX10_valueOf_23 : decode cX10_valueOf 23 = .ok (.tableswitch 93 10000 10005 #[37, 42, 47, 65, 83, 88], 37) := by decide +kernel
theorem dzX10_valueOf_60 : dq_F cX10_valueOf [(60, .aload_n 0, 1), (61, .getfield 15, 3), (64, .ireturn, 1), (65, .aload_n 0, 1), (66, .getfield 18, 3), (69, .ireturn, 1), (70, .iload_n 3, 1), (71, .ifCond .eq 15, 3), (74, .aload_n 1, 1), (75, .getfield 114, 3), (78, .aload_n 0, 1), (79, .getfield 24, 3), (82, .iaload, 1), (83, .goto 4, 3), (86, .iconst 0, 1), (87, .ireturn, 1), (88, .iload_n 3, 1), (89, .ifCond .eq 15, 3), (92, .aload_n 1, 1), (93, .getfield 108, 3), (96, .aload_n 0, 1), (97, .getfield 24, 3), (100, .iaload, 1), (101, .goto 4, 3)] := dq_s 24 60 (by decide +kernel)
theorem dX10_valueOf_60 : decode cX10_valueOf 60 = .ok (.aload_n 0, 1) := dq_h dzX10_valueOf_60
theorem dX10_valueOf_61 : decode cX10_valueOf 61 = .ok (.getfield 15, 3) := dq_h (dq_t dzX10_valueOf_60)
theorem dX10_valueOf_64 : decode cX10_valueOf 64 = .ok (.ireturn, 1) := dq_h (dq_t (dq_t dzX10_valueOf_60))
theorem dX10_valueOf_65 : decode cX10_valueOf 65 = .ok (.aload_n 0, 1) := dq_h (dq_t (dq_t (dq_t dzX10_valueOf_60)))
theorem dX10_valueOf_66 : decode cX10_valueOf 66 = .ok (.getfield 18, 3) := dq_h (dq_t (dq_t (dq_t (dq_t dzX10_valueOf_60))))
theorem dX10_valueOf_69 : decode cX10_valueOf 69 = .ok (.ireturn, 1) := dq_h (dq_t (dq_t (dq_t (dq_t (dq_t dzX10_valueOf_60)))))
theorem dX10_valueOf_70 : decode cX10_valueOf 70 = .ok (.iload_n 3, 1) := dq_h (dq_t (dq_t (dq_t (dq_t (dq_t (dq_t dzX10_valueOf_60))))))
theorem dX10_valueOf_71 : decode cX10_valueOf 71 = .ok (.ifCond .eq 15, 3) := dq_h (dq_t (dq_t (dq_t (dq_t (dq_t (dq_t (dq_t dzX10_valueOf_60)))))))
theorem dX10_valueOf_74 : decode cX10_valueOf 74 = .ok (.aload_n 1, 1) := dq_h (dq_t (dq_t (dq_t (dq_t (dq_t (dq_t (dq_t (dq_t dzX10_valueOf_60))))))))
theorem dX10_valueOf_75 : decode cX10_valueOf 75 = .ok (.getfield 114, 3) := dq_h (dq_t (dq_t (dq_t (dq_t (dq_t (dq_t (dq_t (dq_t (dq_t dzX10_valueOf_60)))))))))
theorem dX10_valueOf_78 : decode cX10_valueOf 78 = .ok (.aload_n 0, 1) := dq_h (dq_t (dq_t (dq_t (dq_t (dq_t (dq_t (dq_t (dq_t (dq_t (dq_t dzX10_valueOf_60))))))))))
theorem dX10_valueOf_79 : decode cX10_valueOf 79 = .ok (.getfield 24, 3) := dq_h (dq_t (dq_t (dq_t (dq_t (dq_t (dq_t (dq_t (dq_t (dq_t (dq_t (dq_t dzX10_valueOf_60)))))))))))
theorem dX10_valueOf_82 : decode cX10_valueOf 82 = .ok (.iaload, 1) := dq_h (dq_t (dq_t (dq_t (dq_t (dq_t (dq_t (dq_t (dq_t (dq_t (dq_t (dq_t (dq_t dzX10_valueOf_60))))))))))))
theorem dX10_valueOf_83 : decode cX10_valueOf 83 = .ok (.goto 4, 3) := dq_h (dq_t (dq_t (dq_t (dq_t (dq_t (dq_t (dq_t (dq_t (dq_t (dq_t (dq_t (dq_t (dq_t dzX10_valueOf_60)))))))))))))
theorem dX10_valueOf_86 : decode cX10_valueOf 86 = .ok (.iconst 0, 1) := dq_h (dq_t (dq_t (dq_t (dq_t (dq_t (dq_t (dq_t (dq_t (dq_t (dq_t (dq_t (dq_t (dq_t (dq_t dzX10_valueOf_60))))))))))))))
theorem dX10_valueOf_87 : decode cX10_valueOf 87 = .ok (.ireturn, 1) := dq_h (dq_t (dq_t (dq_t (dq_t (dq_t (dq_t (dq_t (dq_t (dq_t (dq_t (dq_t (dq_t (dq_t (dq_t (dq_t dzX10_valueOf_60)))))))))))))))
theorem dX10_valueOf_88 : decode cX10_valueOf 88 = .ok (.iload_n 3, 1) := dq_h (dq_t (dq_t (dq_t (dq_t (dq_t (dq_t (dq_t (dq_t (dq_t (dq_t (dq_t (dq_t (dq_t (dq_t (dq_t (dq_t dzX10_valueOf_60))))))))))))))))
theorem dX10_valueOf_89 : decode cX10_valueOf 89 = .ok (.ifCond .eq 15, 3) := dq_h (dq_t (dq_t (dq_t (dq_t (dq_t (dq_t (dq_t (dq_t (dq_t (dq_t (dq_t (dq_t (dq_t (dq_t (dq_t (dq_t (dq_t dzX10_valueOf_60)))))))))))))))))
theorem dX10_valueOf_92 : decode cX10_valueOf 92 = .ok (.aload_n 1, 1) := dq_h (dq_t (dq_t (dq_t (dq_t (dq_t (dq_t (dq_t (dq_t (dq_t (dq_t (dq_t (dq_t (dq_t (dq_t (dq_t (dq_t (dq_t (dq_t dzX10_valueOf_60))))))))))))))))))
theorem dX10_valueOf_93 : decode cX10_valueOf 93 = .ok (.getfield 108, 3) := dq_h (dq_t (dq_t (dq_t (dq_t (dq_t (dq_t (dq_t (dq_t (dq_t (dq_t (dq_t (dq_t (dq_t (dq_t (dq_t (dq_t (dq_t (dq_t (dq_t dzX10_valueOf_60)))))))))))))))))))
theorem dX10_valueOf_96 : decode cX10_valueOf 96 = .ok (.aload_n 0, 1) := dq_h (dq_t (dq_t (dq_t (dq_t (dq_t (dq_t (dq_t (dq_t (dq_t (dq_t (dq_t (dq_t (dq_t (dq_t (dq_t (dq_t (dq_t (dq_t (dq_t (dq_t dzX10_valueOf_60))))))))))))))))))))
theorem dX10_valueOf_97 : decode cX10_valueOf 97 = .ok (.getfield 24, 3) := dq_h (dq_t (dq_t (dq_t (dq_t (dq_t (dq_t (dq_t (dq_t (dq_t (dq_t (dq_t (dq_t (dq_t (dq_t (dq_t (dq_t (dq_t (dq_t (dq_t (dq_t (dq_t dzX10_valueOf_60)))))))))))))))))))))
theorem dX10_valueOf_100 : decode cX10_valueOf 100 = .ok (.iaload, 1) := dq_h (dq_t (dq_t (dq_t (dq_t (dq_t (dq_t (dq_t (dq_t (dq_t (dq_t (dq_t (dq_t (dq_t (dq_t (dq_t (dq_t (dq_t (dq_t (dq_t (dq_t (dq_t (dq_t dzX10_valueOf_60))))))))))))))))))))))
theorem dX10_valueOf_101 : decode cX10_valueOf 101 = .ok (.goto 4, 3) := dq_h (dq_t (dq_t (dq_t (dq_t (dq_t (dq_t (dq_t (dq_t (dq_t (dq_t (dq_t (dq_t (dq_t (dq_t (dq_t (dq_t (dq_t (dq_t (dq_t (dq_t (dq_t (dq_t (dq_t dzX10_valueOf_60)))))))))))))))))))))))
theorem dzX10_valueOf_104 : dq_F cX10_valueOf [(104, .iconst 0, 1), (105, .ireturn, 1), (106, .aload_n 0, 1), (107, .getfield 30, 3), (110, .ireturn, 1), (111, .aload_n 0, 1), (112, .getfield 27, 3), (115, .ireturn, 1), (116, .aload_n 0, 1), (117, .getfield 9, 3), (120, .ireturn, 1)] := dq_s 11 104 (by decide +kernel)
theorem dX10_valueOf_104 : decode cX10_valueOf 104 = .ok (.iconst 0, 1) := dq_h dzX10_valueOf_104
theorem dX10_valueOf_105 : decode cX10_valueOf 105 = .ok (.ireturn, 1) := dq_h (dq_t dzX10_valueOf_104)
theorem dX10_valueOf_106 : decode cX10_valueOf 106 = .ok (.aload_n 0, 1) := dq_h (dq_t (dq_t dzX10_valueOf_104))
theorem dX10_valueOf_107 : decode cX10_valueOf 107 = .ok (.getfield 30, 3) := dq_h (dq_t (dq_t (dq_t dzX10_valueOf_104)))
theorem dX10_valueOf_110 : decode cX10_valueOf 110 = .ok (.ireturn, 1) := dq_h (dq_t (dq_t (dq_t (dq_t dzX10_valueOf_104))))
theorem dX10_valueOf_111 : decode cX10_valueOf 111 = .ok (.aload_n 0, 1) := dq_h (dq_t (dq_t (dq_t (dq_t (dq_t dzX10_valueOf_104)))))
theorem dX10_valueOf_112 : decode cX10_valueOf 112 = .ok (.getfield 27, 3) := dq_h (dq_t (dq_t (dq_t (dq_t (dq_t (dq_t dzX10_valueOf_104))))))
theorem dX10_valueOf_115 : decode cX10_valueOf 115 = .ok (.ireturn, 1) := dq_h (dq_t (dq_t (dq_t (dq_t (dq_t (dq_t (dq_t dzX10_valueOf_104)))))))
theorem dX10_valueOf_116 : decode cX10_valueOf 116 = .ok (.aload_n 0, 1) := dq_h (dq_t (dq_t (dq_t (dq_t (dq_t (dq_t (dq_t (dq_t dzX10_valueOf_104))))))))
theorem dX10_valueOf_117 : decode cX10_valueOf 117 = .ok (.getfield 9, 3) := dq_h (dq_t (dq_t (dq_t (dq_t (dq_t (dq_t (dq_t (dq_t (dq_t dzX10_valueOf_104)))))))))
theorem dX10_valueOf_120 : decode cX10_valueOf 120 = .ok (.ireturn, 1) := dq_h (dq_t (dq_t (dq_t (dq_t (dq_t (dq_t (dq_t (dq_t (dq_t (dq_t dzX10_valueOf_104))))))))))
theorem dzX10_pray_0 : dq_F cX10_pray [(0, .aload_n 1, 1), (1, .getfield 117, 3), (4, .invokevirtual 98, 3), (7, .ifCond .eq 15, 3), (10, .aload_n 1, 1), (11, .getfield 117, 3), (14, .aload_n 1, 1), (15, .aload_n 0, 1), (16, .invokevirtual 104, 3), (19, .goto 4, 3), (22, .iconst 5, 1), (23, .istore_n 2, 1), (24, .aload_n 0, 1), (25, .dup, 1), (26, .getfield 15, 3), (29, .iconst 0, 1), (30, .aload_n 0, 1), (31, .getfield 15, 3), (34, .iload_n 2, 1), (35, .invokestatic 80, 3), (38, .invokestatic 111, 3), (41, .isub, 1), (42, .putfield 15, 3), (45, .return_, 1)] := dq_s 24 0 (by decide +kernel)
theorem dX10_pray_0 : decode cX10_pray 0 = .ok (.aload_n 1, 1) := dq_h dzX10_pray_0
theorem dX10_pray_1 : decode cX10_pray 1 = .ok (.getfield 117, 3) := dq_h (dq_t dzX10_pray_0)
theorem dX10_pray_4 : decode cX10_pray 4 = .ok (.invokevirtual 98, 3) := dq_h (dq_t (dq_t dzX10_pray_0))
theorem dX10_pray_7 : decode cX10_pray 7 = .ok (.ifCond .eq 15, 3) := dq_h (dq_t (dq_t (dq_t dzX10_pray_0)))
theorem dX10_pray_10 : decode cX10_pray 10 = .ok (.aload_n 1, 1) := dq_h (dq_t (dq_t (dq_t (dq_t dzX10_pray_0))))
theorem dX10_pray_11 : decode cX10_pray 11 = .ok (.getfield 117, 3) := dq_h (dq_t (dq_t (dq_t (dq_t (dq_t dzX10_pray_0)))))
theorem dX10_pray_14 : decode cX10_pray 14 = .ok (.aload_n 1, 1) := dq_h (dq_t (dq_t (dq_t (dq_t (dq_t (dq_t dzX10_pray_0))))))
theorem dX10_pray_15 : decode cX10_pray 15 = .ok (.aload_n 0, 1) := dq_h (dq_t (dq_t (dq_t (dq_t (dq_t (dq_t (dq_t dzX10_pray_0)))))))
theorem dX10_pray_16 : decode cX10_pray 16 = .ok (.invokevirtual 104, 3) := dq_h (dq_t (dq_t (dq_t (dq_t (dq_t (dq_t (dq_t (dq_t dzX10_pray_0))))))))
theorem dX10_pray_19 : decode cX10_pray 19 = .ok (.goto 4, 3) := dq_h (dq_t (dq_t (dq_t (dq_t (dq_t (dq_t (dq_t (dq_t (dq_t dzX10_pray_0)))))))))
theorem dX10_pray_22 : decode cX10_pray 22 = .ok (.iconst 5, 1) := dq_h (dq_t (dq_t (dq_t (dq_t (dq_t (dq_t (dq_t (dq_t (dq_t (dq_t dzX10_pray_0))))))))))
theorem dX10_pray_23 : decode cX10_pray 23 = .ok (.istore_n 2, 1) := dq_h (dq_t (dq_t (dq_t (dq_t (dq_t (dq_t (dq_t (dq_t (dq_t (dq_t (dq_t dzX10_pray_0)))))))))))
theorem dX10_pray_24 : decode cX10_pray 24 = .ok (.aload_n 0, 1) := dq_h (dq_t (dq_t (dq_t (dq_t (dq_t (dq_t (dq_t (dq_t (dq_t (dq_t (dq_t (dq_t dzX10_pray_0))))))))))))
theorem dX10_pray_25 : decode cX10_pray 25 = .ok (.dup, 1) := dq_h (dq_t (dq_t (dq_t (dq_t (dq_t (dq_t (dq_t (dq_t (dq_t (dq_t (dq_t (dq_t (dq_t dzX10_pray_0)))))))))))))
theorem dX10_pray_26 : decode cX10_pray 26 = .ok (.getfield 15, 3) := dq_h (dq_t (dq_t (dq_t (dq_t (dq_t (dq_t (dq_t (dq_t (dq_t (dq_t (dq_t (dq_t (dq_t (dq_t dzX10_pray_0))))))))))))))
theorem dX10_pray_29 : decode cX10_pray 29 = .ok (.iconst 0, 1) := dq_h (dq_t (dq_t (dq_t (dq_t (dq_t (dq_t (dq_t (dq_t (dq_t (dq_t (dq_t (dq_t (dq_t (dq_t (dq_t dzX10_pray_0)))))))))))))))
theorem dX10_pray_30 : decode cX10_pray 30 = .ok (.aload_n 0, 1) := dq_h (dq_t (dq_t (dq_t (dq_t (dq_t (dq_t (dq_t (dq_t (dq_t (dq_t (dq_t (dq_t (dq_t (dq_t (dq_t (dq_t dzX10_pray_0))))))))))))))))
theorem dX10_pray_31 : decode cX10_pray 31 = .ok (.getfield 15, 3) := dq_h (dq_t (dq_t (dq_t (dq_t (dq_t (dq_t (dq_t (dq_t (dq_t (dq_t (dq_t (dq_t (dq_t (dq_t (dq_t (dq_t (dq_t dzX10_pray_0)))))))))))))))))
theorem dX10_pray_34 : decode cX10_pray 34 = .ok (.iload_n 2, 1) := dq_h (dq_t (dq_t (dq_t (dq_t (dq_t (dq_t (dq_t (dq_t (dq_t (dq_t (dq_t (dq_t (dq_t (dq_t (dq_t (dq_t (dq_t (dq_t dzX10_pray_0))))))))))))))))))
theorem dX10_pray_35 : decode cX10_pray 35 = .ok (.invokestatic 80, 3) := dq_h (dq_t (dq_t (dq_t (dq_t (dq_t (dq_t (dq_t (dq_t (dq_t (dq_t (dq_t (dq_t (dq_t (dq_t (dq_t (dq_t (dq_t (dq_t (dq_t dzX10_pray_0)))))))))))))))))))
theorem dX10_pray_38 : decode cX10_pray 38 = .ok (.invokestatic 111, 3) := dq_h (dq_t (dq_t (dq_t (dq_t (dq_t (dq_t (dq_t (dq_t (dq_t (dq_t (dq_t (dq_t (dq_t (dq_t (dq_t (dq_t (dq_t (dq_t (dq_t (dq_t dzX10_pray_0))))))))))))))))))))
theorem dX10_pray_41 : decode cX10_pray 41 = .ok (.isub, 1) := dq_h (dq_t (dq_t (dq_t (dq_t (dq_t (dq_t (dq_t (dq_t (dq_t (dq_t (dq_t (dq_t (dq_t (dq_t (dq_t (dq_t (dq_t (dq_t (dq_t (dq_t (dq_t dzX10_pray_0)))))))))))))))))))))
theorem dX10_pray_42 : decode cX10_pray 42 = .ok (.putfield 15, 3) := dq_h (dq_t (dq_t (dq_t (dq_t (dq_t (dq_t (dq_t (dq_t (dq_t (dq_t (dq_t (dq_t (dq_t (dq_t (dq_t (dq_t (dq_t (dq_t (dq_t (dq_t (dq_t (dq_t dzX10_pray_0))))))))))))))))))))))
theorem dX10_pray_45 : decode cX10_pray 45 = .ok (.return_, 1) := dq_h (dq_t (dq_t (dq_t (dq_t (dq_t (dq_t (dq_t (dq_t (dq_t (dq_t (dq_t (dq_t (dq_t (dq_t (dq_t (dq_t (dq_t (dq_t (dq_t (dq_t (dq_t (dq_t (dq_t dzX10_pray_0)))))))))))))))))))))))
theorem dzX11_init_0 : dq_F cX11_init [(0, .aload_n 0, 1), (1, .invokespecial 3, 3), (4, .aload_n 0, 1), (5, .new 9, 3), (8, .dup, 1), (9, .invokespecial 11, 3), (12, .putfield 12, 3), (15, .aload_n 0, 1), (16, .new 16, 3), (19, .dup, 1), (20, .invokespecial 18, 3), (23, .putfield 19, 3), (26, .aload_n 0, 1), (27, .new 16, 3), (30, .dup, 1), (31, .invokespecial 18, 3), (34, .putfield 23, 3), (37, .aload_n 0, 1), (38, .new 26, 3), (41, .dup, 1), (42, .invokespecial 28, 3), (45, .putfield 29, 3), (48, .aload_n 0, 1), (49, .new 33, 3)] := dq_s 24 0 (by decide +kernel)
theorem dX11_init_0 : decode cX11_init 0 = .ok (.aload_n 0, 1) := dq_h dzX11_init_0
theorem dX11_init_1 : decode cX11_init 1 = .ok (.invokespecial 3, 3) := dq_h (dq_t dzX11_init_0)
theorem dX11_init_4 : decode cX11_init 4 = .ok (.aload_n 0, 1) := dq_h (dq_t (dq_t dzX11_init_0))
theorem dX11_init_5 : decode cX11_init 5 = .ok (.new 9, 3) := dq_h (dq_t (dq_t (dq_t dzX11_init_0)))
theorem dX11_init_8 : decode cX11_init 8 = .ok (.dup, 1) := dq_h (dq_t (dq_t (dq_t (dq_t dzX11_init_0))))
theorem dX11_init_9 : decode cX11_init 9 = .ok (.invokespecial 11, 3) := dq_h (dq_t (dq_t (dq_t (dq_t (dq_t dzX11_init_0)))))
theorem dX11_init_12 : decode cX11_init 12 = .ok (.putfield 12, 3) := dq_h (dq_t (dq_t (dq_t (dq_t (dq_t (dq_t dzX11_init_0))))))
theorem dX11_init_15 : decode cX11_init 15 = .ok (.aload_n 0, 1) := dq_h (dq_t (dq_t (dq_t (dq_t (dq_t (dq_t (dq_t dzX11_init_0)))))))
theorem dX11_init_16 : decode cX11_init 16 = .ok (.new 16, 3) := dq_h (dq_t (dq_t (dq_t (dq_t (dq_t (dq_t (dq_t (dq_t dzX11_init_0))))))))
theorem dX11_init_19 : decode cX11_init 19 = .ok (.dup, 1) := dq_h (dq_t (dq_t (dq_t (dq_t (dq_t (dq_t (dq_t (dq_t (dq_t dzX11_init_0)))))))))
theorem dX11_init_20 : decode cX11_init 20 = .ok (.invokespecial 18, 3) := dq_h (dq_t (dq_t (dq_t (dq_t (dq_t (dq_t (dq_t (dq_t (dq_t (dq_t dzX11_init_0))))))))))
theorem dX11_init_23 : decode cX11_init 23 = .ok (.putfield 19, 3) := dq_h (dq_t (dq_t (dq_t (dq_t (dq_t (dq_t (dq_t (dq_t (dq_t (dq_t (dq_t dzX11_init_0)))))))))))
theorem dX11_init_26 : decode cX11_init 26 = .ok (.aload_n 0, 1) := dq_h (dq_t (dq_t (dq_t (dq_t (dq_t (dq_t (dq_t (dq_t (dq_t (dq_t (dq_t (dq_t dzX11_init_0))))))))))))
theorem dX11_init_27 : decode cX11_init 27 = .ok (.new 16, 3) := dq_h (dq_t (dq_t (dq_t (dq_t (dq_t (dq_t (dq_t (dq_t (dq_t (dq_t (dq_t (dq_t (dq_t dzX11_init_0)))))))))))))
theorem dX11_init_30 : decode cX11_init 30 = .ok (.dup, 1) := dq_h (dq_t (dq_t (dq_t (dq_t (dq_t (dq_t (dq_t (dq_t (dq_t (dq_t (dq_t (dq_t (dq_t (dq_t dzX11_init_0))))))))))))))
theorem dX11_init_31 : decode cX11_init 31 = .ok (.invokespecial 18, 3) := dq_h (dq_t (dq_t (dq_t (dq_t (dq_t (dq_t (dq_t (dq_t (dq_t (dq_t (dq_t (dq_t (dq_t (dq_t (dq_t dzX11_init_0)))))))))))))))
theorem dX11_init_34 : decode cX11_init 34 = .ok (.putfield 23, 3) := dq_h (dq_t (dq_t (dq_t (dq_t (dq_t (dq_t (dq_t (dq_t (dq_t (dq_t (dq_t (dq_t (dq_t (dq_t (dq_t (dq_t dzX11_init_0))))))))))))))))
theorem dX11_init_37 : decode cX11_init 37 = .ok (.aload_n 0, 1) := dq_h (dq_t (dq_t (dq_t (dq_t (dq_t (dq_t (dq_t (dq_t (dq_t (dq_t (dq_t (dq_t (dq_t (dq_t (dq_t (dq_t (dq_t dzX11_init_0)))))))))))))))))
theorem dX11_init_38 : decode cX11_init 38 = .ok (.new 26, 3) := dq_h (dq_t (dq_t (dq_t (dq_t (dq_t (dq_t (dq_t (dq_t (dq_t (dq_t (dq_t (dq_t (dq_t (dq_t (dq_t (dq_t (dq_t (dq_t dzX11_init_0))))))))))))))))))
theorem dX11_init_41 : decode cX11_init 41 = .ok (.dup, 1) := dq_h (dq_t (dq_t (dq_t (dq_t (dq_t (dq_t (dq_t (dq_t (dq_t (dq_t (dq_t (dq_t (dq_t (dq_t (dq_t (dq_t (dq_t (dq_t (dq_t dzX11_init_0)))))))))))))))))))
theorem dX11_init_42 : decode cX11_init 42 = .ok (.invokespecial 28, 3) := dq_h (dq_t (dq_t (dq_t (dq_t (dq_t (dq_t (dq_t (dq_t (dq_t (dq_t (dq_t (dq_t (dq_t (dq_t (dq_t (dq_t (dq_t (dq_t (dq_t (dq_t dzX11_init_0))))))))))))))))))))
theorem dX11_init_45 : decode cX11_init 45 = .ok (.putfield 29, 3) := dq_h (dq_t (dq_t (dq_t (dq_t (dq_t (dq_t (dq_t (dq_t (dq_t (dq_t (dq_t (dq_t (dq_t (dq_t (dq_t (dq_t (dq_t (dq_t (dq_t (dq_t (dq_t dzX11_init_0)))))))))))))))))))))
theorem dX11_init_48 : decode cX11_init 48 = .ok (.aload_n 0, 1) := dq_h (dq_t (dq_t (dq_t (dq_t (dq_t (dq_t (dq_t (dq_t (dq_t (dq_t (dq_t (dq_t (dq_t (dq_t (dq_t (dq_t (dq_t (dq_t (dq_t (dq_t (dq_t (dq_t dzX11_init_0))))))))))))))))))))))
theorem dX11_init_49 : decode cX11_init 49 = .ok (.new 33, 3) := dq_h (dq_t (dq_t (dq_t (dq_t (dq_t (dq_t (dq_t (dq_t (dq_t (dq_t (dq_t (dq_t (dq_t (dq_t (dq_t (dq_t (dq_t (dq_t (dq_t (dq_t (dq_t (dq_t (dq_t dzX11_init_0)))))))))))))))))))))))
theorem dzX11_init_52 : dq_F cX11_init [(52, .dup, 1), (53, .invokespecial 35, 3), (56, .putfield 36, 3), (59, .aload_n 0, 1), (60, .new 40, 3), (63, .dup, 1), (64, .invokespecial 42, 3), (67, .putfield 43, 3), (70, .aload_n 0, 1), (71, .new 47, 3), (74, .dup, 1), (75, .invokespecial 49, 3), (78, .putfield 50, 3), (81, .aload_n 0, 1), (82, .new 54, 3), (85, .dup, 1), (86, .invokespecial 56, 3), (89, .putfield 57, 3), (92, .aload_n 0, 1), (93, .iconst 0, 1), (94, .putfield 61, 3), (97, .aload_n 0, 1), (98, .iconst 0, 1), (99, .putfield 65, 3)] := dq_s 24 52 (by decide +kernel)
theorem dX11_init_52 : decode cX11_init 52 = .ok (.dup, 1) := dq_h dzX11_init_52
theorem dX11_init_53 : decode cX11_init 53 = .ok (.invokespecial 35, 3) := dq_h (dq_t dzX11_init_52)
theorem dX11_init_56 : decode cX11_init 56 = .ok (.putfield 36, 3) := dq_h (dq_t (dq_t dzX11_init_52))
theorem dX11_init_59 : decode cX11_init 59 = .ok (.aload_n 0, 1) := dq_h (dq_t (dq_t (dq_t dzX11_init_52)))
theorem dX11_init_60 : decode cX11_init 60 = .ok (.new 40, 3) := dq_h (dq_t (dq_t (dq_t (dq_t dzX11_init_52))))
theorem dX11_init_63 : decode cX11_init 63 = .ok (.dup, 1) := dq_h (dq_t (dq_t (dq_t (dq_t (dq_t dzX11_init_52)))))
theorem dX11_init_64 : decode cX11_init 64 = .ok (.invokespecial 42, 3) := dq_h (dq_t (dq_t (dq_t (dq_t (dq_t (dq_t dzX11_init_52))))))
theorem dX11_init_67 : decode cX11_init 67 = .ok (.putfield 43, 3) := dq_h (dq_t (dq_t (dq_t (dq_t (dq_t (dq_t (dq_t dzX11_init_52)))))))
theorem dX11_init_70 : decode cX11_init 70 = .ok (.aload_n 0, 1) := dq_h (dq_t (dq_t (dq_t (dq_t (dq_t (dq_t (dq_t (dq_t dzX11_init_52))))))))
theorem dX11_init_71 : decode cX11_init 71 = .ok (.new 47, 3) := dq_h (dq_t (dq_t (dq_t (dq_t (dq_t (dq_t (dq_t (dq_t (dq_t dzX11_init_52)))))))))
theorem dX11_init_74 : decode cX11_init 74 = .ok (.dup, 1) := dq_h (dq_t (dq_t (dq_t (dq_t (dq_t (dq_t (dq_t (dq_t (dq_t (dq_t dzX11_init_52))))))))))
theorem dX11_init_75 : decode cX11_init 75 = .ok (.invokespecial 49, 3) := dq_h (dq_t (dq_t (dq_t (dq_t (dq_t (dq_t (dq_t (dq_t (dq_t (dq_t (dq_t dzX11_init_52)))))))))))
theorem dX11_init_78 : decode cX11_init 78 = .ok (.putfield 50, 3) := dq_h (dq_t (dq_t (dq_t (dq_t (dq_t (dq_t (dq_t (dq_t (dq_t (dq_t (dq_t (dq_t dzX11_init_52))))))))))))
theorem dX11_init_81 : decode cX11_init 81 = .ok (.aload_n 0, 1) := dq_h (dq_t (dq_t (dq_t (dq_t (dq_t (dq_t (dq_t (dq_t (dq_t (dq_t (dq_t (dq_t (dq_t dzX11_init_52)))))))))))))
theorem dX11_init_82 : decode cX11_init 82 = .ok (.new 54, 3) := dq_h (dq_t (dq_t (dq_t (dq_t (dq_t (dq_t (dq_t (dq_t (dq_t (dq_t (dq_t (dq_t (dq_t (dq_t dzX11_init_52))))))))))))))
theorem dX11_init_85 : decode cX11_init 85 = .ok (.dup, 1) := dq_h (dq_t (dq_t (dq_t (dq_t (dq_t (dq_t (dq_t (dq_t (dq_t (dq_t (dq_t (dq_t (dq_t (dq_t (dq_t dzX11_init_52)))))))))))))))
theorem dX11_init_86 : decode cX11_init 86 = .ok (.invokespecial 56, 3) := dq_h (dq_t (dq_t (dq_t (dq_t (dq_t (dq_t (dq_t (dq_t (dq_t (dq_t (dq_t (dq_t (dq_t (dq_t (dq_t (dq_t dzX11_init_52))))))))))))))))
theorem dX11_init_89 : decode cX11_init 89 = .ok (.putfield 57, 3) := dq_h (dq_t (dq_t (dq_t (dq_t (dq_t (dq_t (dq_t (dq_t (dq_t (dq_t (dq_t (dq_t (dq_t (dq_t (dq_t (dq_t (dq_t dzX11_init_52)))))))))))))))))
theorem dX11_init_92 : decode cX11_init 92 = .ok (.aload_n 0, 1) := dq_h (dq_t (dq_t (dq_t (dq_t (dq_t (dq_t (dq_t (dq_t (dq_t (dq_t (dq_t (dq_t (dq_t (dq_t (dq_t (dq_t (dq_t (dq_t dzX11_init_52))))))))))))))))))
theorem dX11_init_93 : decode cX11_init 93 = .ok (.iconst 0, 1) := dq_h (dq_t (dq_t (dq_t (dq_t (dq_t (dq_t (dq_t (dq_t (dq_t (dq_t (dq_t (dq_t (dq_t (dq_t (dq_t (dq_t (dq_t (dq_t (dq_t dzX11_init_52)))))))))))))))))))
theorem dX11_init_94 : decode cX11_init 94 = .ok (.putfield 61, 3) := dq_h (dq_t (dq_t (dq_t (dq_t (dq_t (dq_t (dq_t (dq_t (dq_t (dq_t (dq_t (dq_t (dq_t (dq_t (dq_t (dq_t (dq_t (dq_t (dq_t (dq_t dzX11_init_52))))))))))))))))))))
theorem dX11_init_97 : decode cX11_init 97 = .ok (.aload_n 0, 1) := dq_h (dq_t (dq_t (dq_t (dq_t (dq_t (dq_t (dq_t (dq_t (dq_t (dq_t (dq_t (dq_t (dq_t (dq_t (dq_t (dq_t (dq_t (dq_t (dq_t (dq_t (dq_t dzX11_init_52)))))))))))))))))))))
theorem dX11_init_98 : decode cX11_init 98 = .ok (.iconst 0, 1) := dq_h (dq_t (dq_t (dq_t (dq_t (dq_t (dq_t (dq_t (dq_t (dq_t (dq_t (dq_t (dq_t (dq_t (dq_t (dq_t (dq_t (dq_t (dq_t (dq_t (dq_t (dq_t (dq_t dzX11_init_52))))))))))))))))))))))
theorem dX11_init_99 : decode cX11_init 99 = .ok (.putfield 65, 3) := dq_h (dq_t (dq_t (dq_t (dq_t (dq_t (dq_t (dq_t (dq_t (dq_t (dq_t (dq_t (dq_t (dq_t (dq_t (dq_t (dq_t (dq_t (dq_t (dq_t (dq_t (dq_t (dq_t (dq_t dzX11_init_52)))))))))))))))))))))))
theorem dX11_init_102 : decode cX11_init 102 = .ok (.return_, 1) := by decide +kernel
theorem dzX11_feed_0 : dq_F cX11_feed [(0, .aload_n 0, 1), (1, .getfield 12, 3), (4, .getfield 69, 3), (7, .astore 6, 2), (9, .aload 6, 2), (11, .getfield 73, 3), (14, .bipush 20, 2), (16, .iadd, 1), (17, .sipush 700, 3), (20, .if_icmp .le 5, 3), (23, .iconst (-1), 1), (24, .ireturn, 1), (25, .aload 6, 2), (27, .iload_n 1, 1), (28, .invokevirtual 78, 3), (31, .aload 6, 2), (33, .iload_n 2, 1), (34, .invokevirtual 78, 3), (37, .aload 6, 2), (39, .iload_n 3, 1), (40, .invokevirtual 78, 3), (43, .aload 6, 2), (45, .iload 4, 2), (47, .invokevirtual 78, 3)] := dq_s 24 0 (by decide +kernel)
theorem dX11_feed_0 : decode cX11_feed 0 = .ok (.aload_n 0, 1) := dq_h dzX11_feed_0
theorem dX11_feed_1 : decode cX11_feed 1 = .ok (.getfield 12, 3) := dq_h (dq_t dzX11_feed_0)
theorem dX11_feed_4 : decode cX11_feed 4 = .ok (.getfield 69, 3) := dq_h (dq_t (dq_t dzX11_feed_0))
theorem dX11_feed_7 : decode cX11_feed 7 = .ok (.astore 6, 2) := dq_h (dq_t (dq_t (dq_t dzX11_feed_0)))
theorem dX11_feed_9 : decode cX11_feed 9 = .ok (.aload 6, 2) := dq_h (dq_t (dq_t (dq_t (dq_t dzX11_feed_0))))
theorem dX11_feed_11 : decode cX11_feed 11 = .ok (.getfield 73, 3) := dq_h (dq_t (dq_t (dq_t (dq_t (dq_t dzX11_feed_0)))))
theorem dX11_feed_14 : decode cX11_feed 14 = .ok (.bipush 20, 2) := dq_h (dq_t (dq_t (dq_t (dq_t (dq_t (dq_t dzX11_feed_0))))))
theorem dX11_feed_16 : decode cX11_feed 16 = .ok (.iadd, 1) := dq_h (dq_t (dq_t (dq_t (dq_t (dq_t (dq_t (dq_t dzX11_feed_0)))))))
theorem dX11_feed_17 : decode cX11_feed 17 = .ok (.sipush 700, 3) := dq_h (dq_t (dq_t (dq_t (dq_t (dq_t (dq_t (dq_t (dq_t dzX11_feed_0))))))))
theorem dX11_feed_20 : decode cX11_feed 20 = .ok (.if_icmp .le 5, 3) := dq_h (dq_t (dq_t (dq_t (dq_t (dq_t (dq_t (dq_t (dq_t (dq_t dzX11_feed_0)))))))))
theorem dX11_feed_23 : decode cX11_feed 23 = .ok (.iconst (-1), 1) := dq_h (dq_t (dq_t (dq_t (dq_t (dq_t (dq_t (dq_t (dq_t (dq_t (dq_t dzX11_feed_0))))))))))
theorem dX11_feed_24 : decode cX11_feed 24 = .ok (.ireturn, 1) := dq_h (dq_t (dq_t (dq_t (dq_t (dq_t (dq_t (dq_t (dq_t (dq_t (dq_t (dq_t dzX11_feed_0)))))))))))
theorem dX11_feed_25 : decode cX11_feed 25 = .ok (.aload 6, 2) := dq_h (dq_t (dq_t (dq_t (dq_t (dq_t (dq_t (dq_t (dq_t (dq_t (dq_t (dq_t (dq_t dzX11_feed_0))))))))))))
theorem dX11_feed_27 : decode cX11_feed 27 = .ok (.iload_n 1, 1) := dq_h (dq_t (dq_t (dq_t (dq_t (dq_t (dq_t (dq_t (dq_t (dq_t (dq_t (dq_t (dq_t (dq_t dzX11_feed_0)))))))))))))
theorem dX11_feed_28 : decode cX11_feed 28 = .ok (.invokevirtual 78, 3) := dq_h (dq_t (dq_t (dq_t (dq_t (dq_t (dq_t (dq_t (dq_t (dq_t (dq_t (dq_t (dq_t (dq_t (dq_t dzX11_feed_0))))))))))))))
theorem dX11_feed_31 : decode cX11_feed 31 = .ok (.aload 6, 2) := dq_h (dq_t (dq_t (dq_t (dq_t (dq_t (dq_t (dq_t (dq_t (dq_t (dq_t (dq_t (dq_t (dq_t (dq_t (dq_t dzX11_feed_0)))))))))))))))
theorem dX11_feed_33 : decode cX11_feed 33 = .ok (.iload_n 2, 1) := dq_h (dq_t (dq_t (dq_t (dq_t (dq_t (dq_t (dq_t (dq_t (dq_t (dq_t (dq_t (dq_t (dq_t (dq_t (dq_t (dq_t dzX11_feed_0))))))))))))))))
theorem dX11_feed_34 : decode cX11_feed 34 = .ok (.invokevirtual 78, 3) := dq_h (dq_t (dq_t (dq_t (dq_t (dq_t (dq_t (dq_t (dq_t (dq_t (dq_t (dq_t (dq_t (dq_t (dq_t (dq_t (dq_t (dq_t dzX11_feed_0)))))))))))))))))
theorem dX11_feed_37 : decode cX11_feed 37 = .ok (.aload 6, 2) := dq_h (dq_t (dq_t (dq_t (dq_t (dq_t (dq_t (dq_t (dq_t (dq_t (dq_t (dq_t (dq_t (dq_t (dq_t (dq_t (dq_t (dq_t (dq_t dzX11_feed_0))))))))))))))))))
theorem dX11_feed_39 : decode cX11_feed 39 = .ok (.iload_n 3, 1) := dq_h (dq_t (dq_t (dq_t (dq_t (dq_t (dq_t (dq_t (dq_t (dq_t (dq_t (dq_t (dq_t (dq_t (dq_t (dq_t (dq_t (dq_t (dq_t (dq_t dzX11_feed_0)))))))))))))))))))
theorem dX11_feed_40 : decode cX11_feed 40 = .ok (.invokevirtual 78, 3) := dq_h (dq_t (dq_t (dq_t (dq_t (dq_t (dq_t (dq_t (dq_t (dq_t (dq_t (dq_t (dq_t (dq_t (dq_t (dq_t (dq_t (dq_t (dq_t (dq_t (dq_t dzX11_feed_0))))))))))))))))))))
theorem dX11_feed_43 : decode cX11_feed 43 = .ok (.aload 6, 2) := dq_h (dq_t (dq_t (dq_t (dq_t (dq_t (dq_t (dq_t (dq_t (dq_t (dq_t (dq_t (dq_t (dq_t (dq_t (dq_t (dq_t (dq_t (dq_t (dq_t (dq_t (dq_t dzX11_feed_0)))))))))))))))))))))
theorem dX11_feed_45 : decode cX11_feed 45 = .ok (.iload 4, 2) := dq_h (dq_t (dq_t (dq_t (dq_t (dq_t (dq_t (dq_t (dq_t (dq_t (dq_t (dq_t (dq_t (dq_t (dq_t (dq_t (dq_t (dq_t (dq_t (dq_t (dq_t (dq_t (dq_t dzX11_feed_0))))))))))))))))))))))
theorem dX11_feed_47 : decode cX11_feed 47 = .ok (.invokevirtual 78, 3) := dq_h (dq_t (dq_t (dq_t (dq_t (dq_t (dq_t (dq_t (dq_t (dq_t (dq_t (dq_t (dq_t (dq_t (dq_t (dq_t (dq_t (dq_t (dq_t (dq_t (dq_t (dq_t (dq_t (dq_t dzX11_feed_0)))))))))))))))))))))))
theorem dzX11_feed_50 : dq_F cX11_feed [(50, .aload 6, 2), (52, .iload 5, 2), (54, .invokevirtual 78, 3), (57, .aload 6, 2), (59, .getfield 73, 3), (62, .ireturn, 1)] := dq_s 6 50 (by decide +kernel)
theorem dX11_feed_50 : decode cX11_feed 50 = .ok (.aload 6, 2) := dq_h dzX11_feed_50
theorem dX11_feed_52 : decode cX11_feed 52 = .ok (.iload 5, 2) := dq_h (dq_t dzX11_feed_50)
theorem dX11_feed_54 : decode cX11_feed 54 = .ok (.invokevirtual 78, 3) := dq_h (dq_t (dq_t dzX11_feed_50))
theorem dX11_feed_57 : decode cX11_feed 57 = .ok (.aload 6, 2) := dq_h (dq_t (dq_t (dq_t dzX11_feed_50)))
theorem dX11_feed_59 : decode cX11_feed 59 = .ok (.getfield 73, 3) := dq_h (dq_t (dq_t (dq_t (dq_t dzX11_feed_50))))
theorem dX11_feed_62 : decode cX11_feed 62 = .ok (.ireturn, 1) := dq_h (dq_t (dq_t (dq_t (dq_t (dq_t dzX11_feed_50)))))
theorem dzX11_port_0 : dq_F cX11_port [(0, .iload_n 1, 1), (1, .ifCond .lt 17, 3), (4, .iload_n 1, 1), (5, .aload_n 0, 1), (6, .getfield 12, 3), (9, .getfield 69, 3), (12, .getfield 73, 3), (15, .if_icmp .le 13, 3), (18, .new 82, 3), (21, .dup, 1), (22, .ldc 84, 2), (24, .invokespecial 86, 3), (27, .athrow, 1), (28, .aload_n 0, 1), (29, .getfield 12, 3), (32, .iload_n 1, 1), (33, .invokevirtual 89, 3), (36, .istore_n 2, 1), (37, .aload_n 0, 1), (38, .getfield 12, 3), (41, .getfield 69, 3), (44, .iconst 0, 1), (45, .putfield 73, 3), (48, .iload_n 2, 1)] := dq_s 24 0 (by decide +kernel)
theorem dX11_port_0 : decode cX11_port 0 = .ok (.iload_n 1, 1) := dq_h dzX11_port_0
theorem dX11_port_1 : decode cX11_port 1 = .ok (.ifCond .lt 17, 3) := dq_h (dq_t dzX11_port_0)
theorem dX11_port_4 : decode cX11_port 4 = .ok (.iload_n 1, 1) := dq_h (dq_t (dq_t dzX11_port_0))
theorem dX11_port_5 : decode cX11_port 5 = .ok (.aload_n 0, 1) := dq_h (dq_t (dq_t (dq_t dzX11_port_0)))
theorem dX11_port_6 : decode cX11_port 6 = .ok (.getfield 12, 3) := dq_h (dq_t (dq_t (dq_t (dq_t dzX11_port_0))))
theorem dX11_port_9 : decode cX11_port 9 = .ok (.getfield 69, 3) := dq_h (dq_t (dq_t (dq_t (dq_t (dq_t dzX11_port_0)))))
theorem dX11_port_12 : decode cX11_port 12 = .ok (.getfield 73, 3) := dq_h (dq_t (dq_t (dq_t (dq_t (dq_t (dq_t dzX11_port_0))))))
theorem dX11_port_15 : decode cX11_port 15 = .ok (.if_icmp .le 13, 3) := dq_h (dq_t (dq_t (dq_t (dq_t (dq_t (dq_t (dq_t dzX11_port_0)))))))
theorem dX11_port_18 : decode cX11_port 18 = .ok (.new 82, 3) := dq_h (dq_t (dq_t (dq_t (dq_t (dq_t (dq_t (dq_t (dq_t dzX11_port_0))))))))
theorem dX11_port_21 : decode cX11_port 21 = .ok (.dup, 1) := dq_h (dq_t (dq_t (dq_t (dq_t (dq_t (dq_t (dq_t (dq_t (dq_t dzX11_port_0)))))))))
theorem dX11_port_22 : decode cX11_port 22 = .ok (.ldc 84, 2) := dq_h (dq_t (dq_t (dq_t (dq_t (dq_t (dq_t (dq_t (dq_t (dq_t (dq_t dzX11_port_0))))))))))
theorem dX11_port_24 : decode cX11_port 24 = .ok (.invokespecial 86, 3) := dq_h (dq_t (dq_t (dq_t (dq_t (dq_t (dq_t (dq_t (dq_t (dq_t (dq_t (dq_t dzX11_port_0)))))))))))
theorem dX11_port_27 : decode cX11_port 27 = .ok (.athrow, 1) := dq_h (dq_t (dq_t (dq_t (dq_t (dq_t (dq_t (dq_t (dq_t (dq_t (dq_t (dq_t (dq_t dzX11_port_0))))))))))))
theorem dX11_port_28 : decode cX11_port 28 = .ok (.aload_n 0, 1) := dq_h (dq_t (dq_t (dq_t (dq_t (dq_t (dq_t (dq_t (dq_t (dq_t (dq_t (dq_t (dq_t (dq_t dzX11_port_0)))))))))))))
theorem dX11_port_29 : decode cX11_port 29 = .ok (.getfield 12, 3) := dq_h (dq_t (dq_t (dq_t (dq_t (dq_t (dq_t (dq_t (dq_t (dq_t (dq_t (dq_t (dq_t (dq_t (dq_t dzX11_port_0))))))))))))))
theorem dX11_port_32 : decode cX11_port 32 = .ok (.iload_n 1, 1) := dq_h (dq_t (dq_t (dq_t (dq_t (dq_t (dq_t (dq_t (dq_t (dq_t (dq_t (dq_t (dq_t (dq_t (dq_t (dq_t dzX11_port_0)))))))))))))))
theorem dX11_port_33 : decode cX11_port 33 = .ok (.invokevirtual 89, 3) := dq_h (dq_t (dq_t (dq_t (dq_t (dq_t (dq_t (dq_t (dq_t (dq_t (dq_t (dq_t (dq_t (dq_t (dq_t (dq_t (dq_t dzX11_port_0))))))))))))))))
theorem dX11_port_36 : decode cX11_port 36 = .ok (.istore_n 2, 1) := dq_h (dq_t (dq_t (dq_t (dq_t (dq_t (dq_t (dq_t (dq_t (dq_t (dq_t (dq_t (dq_t (dq_t (dq_t (dq_t (dq_t (dq_t dzX11_port_0)))))))))))))))))
theorem dX11_port_37 : decode cX11_port 37 = .ok (.aload_n 0, 1) := dq_h (dq_t (dq_t (dq_t (dq_t (dq_t (dq_t (dq_t (dq_t (dq_t (dq_t (dq_t (dq_t (dq_t (dq_t (dq_t (dq_t (dq_t (dq_t dzX11_port_0))))))))))))))))))
theorem dX11_port_38 : decode cX11_port 38 = .ok (.getfield 12, 3) := dq_h (dq_t (dq_t (dq_t (dq_t (dq_t (dq_t (dq_t (dq_t (dq_t (dq_t (dq_t (dq_t (dq_t (dq_t (dq_t (dq_t (dq_t (dq_t (dq_t dzX11_port_0)))))))))))))))))))
theorem dX11_port_41 : decode cX11_port 41 = .ok (.getfield 69, 3) := dq_h (dq_t (dq_t (dq_t (dq_t (dq_t (dq_t (dq_t (dq_t (dq_t (dq_t (dq_t (dq_t (dq_t (dq_t (dq_t (dq_t (dq_t (dq_t (dq_t (dq_t dzX11_port_0))))))))))))))))))))
theorem dX11_port_44 : decode cX11_port 44 = .ok (.iconst 0, 1) := dq_h (dq_t (dq_t (dq_t (dq_t (dq_t (dq_t (dq_t (dq_t (dq_t (dq_t (dq_t (dq_t (dq_t (dq_t (dq_t (dq_t (dq_t (dq_t (dq_t (dq_t (dq_t dzX11_port_0)))))))))))))))))))))
theorem dX11_port_45 : decode cX11_port 45 = .ok (.putfield 73, 3) := dq_h (dq_t (dq_t (dq_t (dq_t (dq_t (dq_t (dq_t (dq_t (dq_t (dq_t (dq_t (dq_t (dq_t (dq_t (dq_t (dq_t (dq_t (dq_t (dq_t (dq_t (dq_t (dq_t dzX11_port_0))))))))))))))))))))))
theorem dX11_port_48 : decode cX11_port 48 = .ok (.iload_n 2, 1) := dq_h (dq_t (dq_t (dq_t (dq_t (dq_t (dq_t (dq_t (dq_t (dq_t (dq_t (dq_t (dq_t (dq_t (dq_t (dq_t (dq_t (dq_t (dq_t (dq_t (dq_t (dq_t (dq_t (dq_t dzX11_port_0)))))))))))))))))))))))
theorem dzX11_port_49 : dq_F cX11_port [(49, .ifCond .eq 14, 3), (52, .aload_n 0, 1), (53, .getfield 19, 3), (56, .iconst 0, 1), (57, .invokevirtual 93, 3), (60, .pop, 1), (61, .iload_n 2, 1), (62, .ireturn, 1), (63, .aload_n 0, 1), (64, .getfield 57, 3), (67, .astore_n 3, 1), (68, .aload_n 0, 1), (69, .aload_n 0, 1), (70, .getfield 12, 3), (73, .getfield 96, 3), (76, .putfield 57, 3), (79, .aload_n 0, 1), (80, .getfield 12, 3), (83, .aload_n 3, 1), (84, .putfield 96, 3), (87, .aload_n 0, 1), (88, .getfield 19, 3), (91, .aload_n 0, 1), (92, .getfield 57, 3)] := dq_s 24 49 (by decide +kernel)
theorem dX11_port_49 : decode cX11_port 49 = .ok (.ifCond .eq 14, 3) := dq_h dzX11_port_49
theorem dX11_port_52 : decode cX11_port 52 = .ok (.aload_n 0, 1) := dq_h (dq_t dzX11_port_49)
theorem dX11_port_53 : decode cX11_port 53 = .ok (.getfield 19, 3) := dq_h (dq_t (dq_t dzX11_port_49))
theorem dX11_port_56 : decode cX11_port 56 = .ok (.iconst 0, 1) := dq_h (dq_t (dq_t (dq_t dzX11_port_49)))
theorem dX11_port_57 : decode cX11_port 57 = .ok (.invokevirtual 93, 3) := dq_h (dq_t (dq_t (dq_t (dq_t dzX11_port_49))))
theorem dX11_port_60 : decode cX11_port 60 = .ok (.pop, 1) := dq_h (dq_t (dq_t (dq_t (dq_t (dq_t dzX11_port_49)))))
theorem dX11_port_61 : decode cX11_port 61 = .ok (.iload_n 2, 1) := dq_h (dq_t (dq_t (dq_t (dq_t (dq_t (dq_t dzX11_port_49))))))
theorem dX11_port_62 : decode cX11_port 62 = .ok (.ireturn, 1) := dq_h (dq_t (dq_t (dq_t (dq_t (dq_t (dq_t (dq_t dzX11_port_49)))))))
theorem dX11_port_63 : decode cX11_port 63 = .ok (.aload_n 0, 1) := dq_h (dq_t (dq_t (dq_t (dq_t (dq_t (dq_t (dq_t (dq_t dzX11_port_49))))))))
theorem dX11_port_64 : decode cX11_port 64 = .ok (.getfield 57, 3) := dq_h (dq_t (dq_t (dq_t (dq_t (dq_t (dq_t (dq_t (dq_t (dq_t dzX11_port_49)))))))))
theorem dX11_port_67 : decode cX11_port 67 = .ok (.astore_n 3, 1) := dq_h (dq_t (dq_t (dq_t (dq_t (dq_t (dq_t (dq_t (dq_t (dq_t (dq_t dzX11_port_49))))))))))
theorem dX11_port_68 : decode cX11_port 68 = .ok (.aload_n 0, 1) := dq_h (dq_t (dq_t (dq_t (dq_t (dq_t (dq_t (dq_t (dq_t (dq_t (dq_t (dq_t dzX11_port_49)))))))))))
theorem dX11_port_69 : decode cX11_port 69 = .ok (.aload_n 0, 1) := dq_h (dq_t (dq_t (dq_t (dq_t (dq_t (dq_t (dq_t (dq_t (dq_t (dq_t (dq_t (dq_t dzX11_port_49))))))))))))
theorem dX11_port_70 : decode cX11_port 70 = .ok (.getfield 12, 3) := dq_h (dq_t (dq_t (dq_t (dq_t (dq_t (dq_t (dq_t (dq_t (dq_t (dq_t (dq_t (dq_t (dq_t dzX11_port_49)))))))))))))
theorem dX11_port_73 : decode cX11_port 73 = .ok (.getfield 96, 3) := dq_h (dq_t (dq_t (dq_t (dq_t (dq_t (dq_t (dq_t (dq_t (dq_t (dq_t (dq_t (dq_t (dq_t (dq_t dzX11_port_49))))))))))))))
theorem dX11_port_76 : decode cX11_port 76 = .ok (.putfield 57, 3) := dq_h (dq_t (dq_t (dq_t (dq_t (dq_t (dq_t (dq_t (dq_t (dq_t (dq_t (dq_t (dq_t (dq_t (dq_t (dq_t dzX11_port_49)))))))))))))))
theorem dX11_port_79 : decode cX11_port 79 = .ok (.aload_n 0, 1) := dq_h (dq_t (dq_t (dq_t (dq_t (dq_t (dq_t (dq_t (dq_t (dq_t (dq_t (dq_t (dq_t (dq_t (dq_t (dq_t (dq_t dzX11_port_49))))))))))))))))
theorem dX11_port_80 : decode cX11_port 80 = .ok (.getfield 12, 3) := dq_h (dq_t (dq_t (dq_t (dq_t (dq_t (dq_t (dq_t (dq_t (dq_t (dq_t (dq_t (dq_t (dq_t (dq_t (dq_t (dq_t (dq_t dzX11_port_49)))))))))))))))))
theorem dX11_port_83 : decode cX11_port 83 = .ok (.aload_n 3, 1) := dq_h (dq_t (dq_t (dq_t (dq_t (dq_t (dq_t (dq_t (dq_t (dq_t (dq_t (dq_t (dq_t (dq_t (dq_t (dq_t (dq_t (dq_t (dq_t dzX11_port_49))))))))))))))))))
theorem dX11_port_84 : decode cX11_port 84 = .ok (.putfield 96, 3) := dq_h (dq_t (dq_t (dq_t (dq_t (dq_t (dq_t (dq_t (dq_t (dq_t (dq_t (dq_t (dq_t (dq_t (dq_t (dq_t (dq_t (dq_t (dq_t (dq_t dzX11_port_49)))))))))))))))))))
theorem dX11_port_87 : decode cX11_port 87 = .ok (.aload_n 0, 1) := dq_h (dq_t (dq_t (dq_t (dq_t (dq_t (dq_t (dq_t (dq_t (dq_t (dq_t (dq_t (dq_t (dq_t (dq_t (dq_t (dq_t (dq_t (dq_t (dq_t (dq_t dzX11_port_49))))))))))))))))))))
theorem dX11_port_88 : decode cX11_port 88 = .ok (.getfield 19, 3) := dq_h (dq_t (dq_t (dq_t (dq_t (dq_t (dq_t (dq_t (dq_t (dq_t (dq_t (dq_t (dq_t (dq_t (dq_t (dq_t (dq_t (dq_t (dq_t (dq_t (dq_t (dq_t dzX11_port_49)))))))))))))))))))))
theorem dX11_port_91 : decode cX11_port 91 = .ok (.aload_n 0, 1) := dq_h (dq_t (dq_t (dq_t (dq_t (dq_t (dq_t (dq_t (dq_t (dq_t (dq_t (dq_t (dq_t (dq_t (dq_t (dq_t (dq_t (dq_t (dq_t (dq_t (dq_t (dq_t (dq_t dzX11_port_49))))))))))))))))))))))
theorem dX11_port_92 : decode cX11_port 92 = .ok (.getfield 57, 3) := dq_h (dq_t (dq_t (dq_t (dq_t (dq_t (dq_t (dq_t (dq_t (dq_t (dq_t (dq_t (dq_t (dq_t (dq_t (dq_t (dq_t (dq_t (dq_t (dq_t (dq_t (dq_t (dq_t (dq_t dzX11_port_49)))))))))))))))))))))))
theorem dzX11_port_95 : dq_F cX11_port [(95, .invokevirtual 98, 3), (98, .aload_n 0, 1), (99, .iconst 0, 1), (100, .putfield 61, 3), (103, .iconst 0, 1), (104, .ireturn, 1)] := dq_s 6 95 (by decide +kernel)
theorem dX11_port_95 : decode cX11_port 95 = .ok (.invokevirtual 98, 3) := dq_h dzX11_port_95
theorem dX11_port_98 : decode cX11_port 98 = .ok (.aload_n 0, 1) := dq_h (dq_t dzX11_port_95)
theorem dX11_port_99 : decode cX11_port 99 = .ok (.iconst 0, 1) := dq_h (dq_t (dq_t dzX11_port_95))
theorem dX11_port_100 : decode cX11_port 100 = .ok (.putfield 61, 3) := dq_h (dq_t (dq_t (dq_t dzX11_port_95)))
theorem dX11_port_103 : decode cX11_port 103 = .ok (.iconst 0, 1) := dq_h (dq_t (dq_t (dq_t (dq_t dzX11_port_95))))
theorem dX11_port_104 : decode cX11_port 104 = .ok (.ireturn, 1) := dq_h (dq_t (dq_t (dq_t (dq_t (dq_t dzX11_port_95)))))
theorem dzX11_fault_0 : dq_F cX11_fault [(0, .aload_n 0, 1), (1, .getfield 12, 3), (4, .getfield 102, 3), (7, .ireturn, 1)] := dq_s 4 0 (by decide +kernel)
theorem dX11_fault_0 : decode cX11_fault 0 = .ok (.aload_n 0, 1) := dq_h dzX11_fault_0
theorem dX11_fault_1 : decode cX11_fault 1 = .ok (.getfield 12, 3) := dq_h (dq_t dzX11_fault_0)
theorem dX11_fault_4 : decode cX11_fault 4 = .ok (.getfield 102, 3) := dq_h (dq_t (dq_t dzX11_fault_0))
theorem dX11_fault_7 : decode cX11_fault 7 = .ok (.ireturn, 1) := dq_h (dq_t (dq_t (dq_t dzX11_fault_0)))
theorem dzX11_count_0 : dq_F cX11_count [(0, .aload_n 0, 1), (1, .getfield 19, 3), (4, .getfield 105, 3), (7, .astore_n 2, 1), (8, .iload_n 1, 1)] := dq_s 5 0 (by decide +kernel)
theorem dX11_count_0 : decode cX11_count 0 = .ok (.aload_n 0, 1) := dq_h dzX11_count_0
theorem dX11_count_1 : decode cX11_count 1 = .ok (.getfield 19, 3) := dq_h (dq_t dzX11_count_0)
theorem dX11_count_4 : decode cX11_count 4 = .ok (.getfield 105, 3) := dq_h (dq_t (dq_t dzX11_count_0))
theorem dX11_count_7 : decode cX11_count 7 = .ok (.astore_n 2, 1) := dq_h (dq_t (dq_t (dq_t dzX11_count_0)))
theorem dX11_count_8 : decode cX11_count 8 = .ok (.iload_n 1, 1) := dq_h (dq_t (dq_t (dq_t (dq_t dzX11_count_0))))
theorem dX11_count_9 : decode cX11_count 9 = .ok (.tableswitch 211 0 14 #[75, 83, 91, 96, 108, 116, 125, 130, 139, 148, 159, 170, 181, 191, 201], 75) := by decide +kernel
theorem dzX11_count_84 : dq_F cX11_count [(84, .aload_n 0, 1), (85, .getfield 57, 3), (88, .getfield 108, 3), (91, .ireturn, 1), (92, .aload_n 0, 1), (93, .getfield 57, 3), (96, .getfield 111, 3), (99, .ireturn, 1), (100, .aload_n 2, 1), (101, .getfield 114, 3), (104, .ireturn, 1), (105, .aload_n 0, 1), (106, .getfield 57, 3), (109, .aload_n 2, 1), (110, .getfield 114, 3), (113, .invokevirtual 117, 3), (116, .ireturn, 1), (117, .aload_n 0, 1), (118, .getfield 57, 3), (121, .invokevirtual 120, 3), (124, .ireturn, 1), (125, .aload_n 2, 1), (126, .aload_n 0, 1), (127, .getfield 57, 3)] := dq_s 24 84 (by decide +kernel)
theorem dX11_count_84 : decode cX11_count 84 = .ok (.aload_n 0, 1) := dq_h dzX11_count_84
theorem dX11_count_85 : decode cX11_count 85 = .ok (.getfield 57, 3) := dq_h (dq_t dzX11_count_84)
theorem dX11_count_88 : decode cX11_count 88 = .ok (.getfield 108, 3) := dq_h (dq_t (dq_t dzX11_count_84))
theorem dX11_count_91 : decode cX11_count 91 = .ok (.ireturn, 1) := dq_h (dq_t (dq_t (dq_t dzX11_count_84)))
theorem dX11_count_92 : decode cX11_count 92 = .ok (.aload_n 0, 1) := dq_h (dq_t (dq_t (dq_t (dq_t dzX11_count_84))))
theorem dX11_count_93 : decode cX11_count 93 = .ok (.getfield 57, 3) := dq_h (dq_t (dq_t (dq_t (dq_t (dq_t dzX11_count_84)))))
theorem dX11_count_96 : decode cX11_count 96 = .ok (.getfield 111, 3) := dq_h (dq_t (dq_t (dq_t (dq_t (dq_t (dq_t dzX11_count_84))))))
theorem dX11_count_99 : decode cX11_count 99 = .ok (.ireturn, 1) := dq_h (dq_t (dq_t (dq_t (dq_t (dq_t (dq_t (dq_t dzX11_count_84)))))))
theorem dX11_count_100 : decode cX11_count 100 = .ok (.aload_n 2, 1) := dq_h (dq_t (dq_t (dq_t (dq_t (dq_t (dq_t (dq_t (dq_t dzX11_count_84))))))))
theorem dX11_count_101 : decode cX11_count 101 = .ok (.getfield 114, 3) := dq_h (dq_t (dq_t (dq_t (dq_t (dq_t (dq_t (dq_t (dq_t (dq_t dzX11_count_84)))))))))
theorem dX11_count_104 : decode cX11_count 104 = .ok (.ireturn, 1) := dq_h (dq_t (dq_t (dq_t (dq_t (dq_t (dq_t (dq_t (dq_t (dq_t (dq_t dzX11_count_84))))))))))
theorem dX11_count_105 : decode cX11_count 105 = .ok (.aload_n 0, 1) := dq_h (dq_t (dq_t (dq_t (dq_t (dq_t (dq_t (dq_t (dq_t (dq_t (dq_t (dq_t dzX11_count_84)))))))))))
theorem dX11_count_106 : decode cX11_count 106 = .ok (.getfield 57, 3) := dq_h (dq_t (dq_t (dq_t (dq_t (dq_t (dq_t (dq_t (dq_t (dq_t (dq_t (dq_t (dq_t dzX11_count_84))))))))))))
theorem dX11_count_109 : decode cX11_count 109 = .ok (.aload_n 2, 1) := dq_h (dq_t (dq_t (dq_t (dq_t (dq_t (dq_t (dq_t (dq_t (dq_t (dq_t (dq_t (dq_t (dq_t dzX11_count_84)))))))))))))
theorem dX11_count_110 : decode cX11_count 110 = .ok (.getfield 114, 3) := dq_h (dq_t (dq_t (dq_t (dq_t (dq_t (dq_t (dq_t (dq_t (dq_t (dq_t (dq_t (dq_t (dq_t (dq_t dzX11_count_84))))))))))))))
theorem dX11_count_113 : decode cX11_count 113 = .ok (.invokevirtual 117, 3) := dq_h (dq_t (dq_t (dq_t (dq_t (dq_t (dq_t (dq_t (dq_t (dq_t (dq_t (dq_t (dq_t (dq_t (dq_t (dq_t dzX11_count_84)))))))))))))))
theorem dX11_count_116 : decode cX11_count 116 = .ok (.ireturn, 1) := dq_h (dq_t (dq_t (dq_t (dq_t (dq_t (dq_t (dq_t (dq_t (dq_t (dq_t (dq_t (dq_t (dq_t (dq_t (dq_t (dq_t dzX11_count_84))))))))))))))))
theorem dX11_count_117 : decode cX11_count 117 = .ok (.aload_n 0, 1) := dq_h (dq_t (dq_t (dq_t (dq_t (dq_t (dq_t (dq_t (dq_t (dq_t (dq_t (dq_t (dq_t (dq_t (dq_t (dq_t (dq_t (dq_t dzX11_count_84)))))))))))))))))
theorem dX11_count_118 : decode cX11_count 118 = .ok (.getfield 57, 3) := dq_h (dq_t (dq_t (dq_t (dq_t (dq_t (dq_t (dq_t (dq_t (dq_t (dq_t (dq_t (dq_t (dq_t (dq_t (dq_t (dq_t (dq_t (dq_t dzX11_count_84))))))))))))))))))
theorem dX11_count_121 : decode cX11_count 121 = .ok (.invokevirtual 120, 3) := dq_h (dq_t (dq_t (dq_t (dq_t (dq_t (dq_t (dq_t (dq_t (dq_t (dq_t (dq_t (dq_t (dq_t (dq_t (dq_t (dq_t (dq_t (dq_t (dq_t dzX11_count_84)))))))))))))))))))
theorem dX11_count_124 : decode cX11_count 124 = .ok (.ireturn, 1) := dq_h (dq_t (dq_t (dq_t (dq_t (dq_t (dq_t (dq_t (dq_t (dq_t (dq_t (dq_t (dq_t (dq_t (dq_t (dq_t (dq_t (dq_t (dq_t (dq_t (dq_t dzX11_count_84))))))))))))))))))))
theorem dX11_count_125 : decode cX11_count 125 = .ok (.aload_n 2, 1) := dq_h (dq_t (dq_t (dq_t (dq_t (dq_t (dq_t (dq_t (dq_t (dq_t (dq_t (dq_t (dq_t (dq_t (dq_t (dq_t (dq_t (dq_t (dq_t (dq_t (dq_t (dq_t dzX11_count_84)))))))))))))))))))))
theorem dX11_count_126 : decode cX11_count 126 = .ok (.aload_n 0, 1) := dq_h (dq_t (dq_t (dq_t (dq_t (dq_t (dq_t (dq_t (dq_t (dq_t (dq_t (dq_t (dq_t (dq_t (dq_t (dq_t (dq_t (dq_t (dq_t (dq_t (dq_t (dq_t (dq_t dzX11_count_84))))))))))))))))))))))
theorem dX11_count_127 : decode cX11_count 127 = .ok (.getfield 57, 3) := dq_h (dq_t (dq_t (dq_t (dq_t (dq_t (dq_t (dq_t (dq_t (dq_t (dq_t (dq_t (dq_t (dq_t (dq_t (dq_t (dq_t (dq_t (dq_t (dq_t (dq_t (dq_t (dq_t (dq_t dzX11_count_84)))))))))))))))))))))))
theorem dzX11_count_130 : dq_F cX11_count [(130, .invokevirtual 124, 3), (133, .ireturn, 1), (134, .aload_n 2, 1), (135, .getfield 128, 3), (138, .ireturn, 1), (139, .aload_n 2, 1), (140, .aload_n 0, 1), (141, .getfield 57, 3), (144, .invokevirtual 131, 3), (147, .ireturn, 1), (148, .aload_n 2, 1), (149, .aload_n 0, 1), (150, .getfield 57, 3), (153, .invokevirtual 134, 3), (156, .ireturn, 1), (157, .aload_n 0, 1), (158, .getfield 19, 3), (161, .getfield 137, 3), (164, .getfield 141, 3), (167, .ireturn, 1), (168, .aload_n 0, 1), (169, .getfield 19, 3), (172, .getfield 146, 3), (175, .getfield 150, 3)] := dq_s 24 130 (by decide +kernel)
theorem dX11_count_130 : decode cX11_count 130 = .ok (.invokevirtual 124, 3) := dq_h dzX11_count_130
theorem dX11_count_133 : decode cX11_count 133 = .ok (.ireturn, 1) := dq_h (dq_t dzX11_count_130)
theorem dX11_count_134 : decode cX11_count 134 = .ok (.aload_n 2, 1) := dq_h (dq_t (dq_t dzX11_count_130))
theorem dX11_count_135 : decode cX11_count 135 = .ok (.getfield 128, 3) := dq_h (dq_t (dq_t (dq_t dzX11_count_130)))
theorem dX11_count_138 : decode cX11_count 138 = .ok (.ireturn, 1) := dq_h (dq_t (dq_t (dq_t (dq_t dzX11_count_130))))
theorem dX11_count_139 : decode cX11_count 139 = .ok (.aload_n 2, 1) := dq_h (dq_t (dq_t (dq_t (dq_t (dq_t dzX11_count_130)))))
theorem dX11_count_140 : decode cX11_count 140 = .ok (.aload_n 0, 1) := dq_h (dq_t (dq_t (dq_t (dq_t (dq_t (dq_t dzX11_count_130))))))
theorem dX11_count_141 : decode cX11_count 141 = .ok (.getfield 57, 3) := dq_h (dq_t (dq_t (dq_t (dq_t (dq_t (dq_t (dq_t dzX11_count_130)))))))
theorem dX11_count_144 : decode cX11_count 144 = .ok (.invokevirtual 131, 3) := dq_h (dq_t (dq_t (dq_t (dq_t (dq_t (dq_t (dq_t (dq_t dzX11_count_130))))))))
theorem dX11_count_147 : decode cX11_count 147 = .ok (.ireturn, 1) := dq_h (dq_t (dq_t (dq_t (dq_t (dq_t (dq_t (dq_t (dq_t (dq_t dzX11_count_130)))))))))
theorem dX11_count_148 : decode cX11_count 148 = .ok (.aload_n 2, 1) := dq_h (dq_t (dq_t (dq_t (dq_t (dq_t (dq_t (dq_t (dq_t (dq_t (dq_t dzX11_count_130))))))))))
theorem dX11_count_149 : decode cX11_count 149 = .ok (.aload_n 0, 1) := dq_h (dq_t (dq_t (dq_t (dq_t (dq_t (dq_t (dq_t (dq_t (dq_t (dq_t (dq_t dzX11_count_130)))))))))))
theorem dX11_count_150 : decode cX11_count 150 = .ok (.getfield 57, 3) := dq_h (dq_t (dq_t (dq_t (dq_t (dq_t (dq_t (dq_t (dq_t (dq_t (dq_t (dq_t (dq_t dzX11_count_130))))))))))))
theorem dX11_count_153 : decode cX11_count 153 = .ok (.invokevirtual 134, 3) := dq_h (dq_t (dq_t (dq_t (dq_t (dq_t (dq_t (dq_t (dq_t (dq_t (dq_t (dq_t (dq_t (dq_t dzX11_count_130)))))))))))))
theorem dX11_count_156 : decode cX11_count 156 = .ok (.ireturn, 1) := dq_h (dq_t (dq_t (dq_t (dq_t (dq_t (dq_t (dq_t (dq_t (dq_t (dq_t (dq_t (dq_t (dq_t (dq_t dzX11_count_130))))))))))))))
theorem dX11_count_157 : decode cX11_count 157 = .ok (.aload_n 0, 1) := dq_h (dq_t (dq_t (dq_t (dq_t (dq_t (dq_t (dq_t (dq_t (dq_t (dq_t (dq_t (dq_t (dq_t (dq_t (dq_t dzX11_count_130)))))))))))))))
theorem dX11_count_158 : decode cX11_count 158 = .ok (.getfield 19, 3) := dq_h (dq_t (dq_t (dq_t (dq_t (dq_t (dq_t (dq_t (dq_t (dq_t (dq_t (dq_t (dq_t (dq_t (dq_t (dq_t (dq_t dzX11_count_130))))))))))))))))
theorem dX11_count_161 : decode cX11_count 161 = .ok (.getfield 137, 3) := dq_h (dq_t (dq_t (dq_t (dq_t (dq_t (dq_t (dq_t (dq_t (dq_t (dq_t (dq_t (dq_t (dq_t (dq_t (dq_t (dq_t (dq_t dzX11_count_130)))))))))))))))))
theorem dX11_count_164 : decode cX11_count 164 = .ok (.getfield 141, 3) := dq_h (dq_t (dq_t (dq_t (dq_t (dq_t (dq_t (dq_t (dq_t (dq_t (dq_t (dq_t (dq_t (dq_t (dq_t (dq_t (dq_t (dq_t (dq_t dzX11_count_130))))))))))))))))))
theorem dX11_count_167 : decode cX11_count 167 = .ok (.ireturn, 1) := dq_h (dq_t (dq_t (dq_t (dq_t (dq_t (dq_t (dq_t (dq_t (dq_t (dq_t (dq_t (dq_t (dq_t (dq_t (dq_t (dq_t (dq_t (dq_t (dq_t dzX11_count_130)))))))))))))))))))
theorem dX11_count_168 : decode cX11_count 168 = .ok (.aload_n 0, 1) := dq_h (dq_t (dq_t (dq_t (dq_t (dq_t (dq_t (dq_t (dq_t (dq_t (dq_t (dq_t (dq_t (dq_t (dq_t (dq_t (dq_t (dq_t (dq_t (dq_t (dq_t dzX11_count_130))))))))))))))))))))
theorem dX11_count_169 : decode cX11_count 169 = .ok (.getfield 19, 3) := dq_h (dq_t (dq_t (dq_t (dq_t (dq_t (dq_t (dq_t (dq_t (dq_t (dq_t (dq_t (dq_t (dq_t (dq_t (dq_t (dq_t (dq_t (dq_t (dq_t (dq_t (dq_t dzX11_count_130)))))))))))))))))))))
theorem dX11_count_172 : decode cX11_count 172 = .ok (.getfield 146, 3) := dq_h (dq_t (dq_t (dq_t (dq_t (dq_t (dq_t (dq_t (dq_t (dq_t (dq_t (dq_t (dq_t (dq_t (dq_t (dq_t (dq_t (dq_t (dq_t (dq_t (dq_t (dq_t (dq_t dzX11_count_130))))))))))))))))))))))
theorem dX11_count_175 : decode cX11_count 175 = .ok (.getfield 150, 3) := dq_h (dq_t (dq_t (dq_t (dq_t (dq_t (dq_t (dq_t (dq_t (dq_t (dq_t (dq_t (dq_t (dq_t (dq_t (dq_t (dq_t (dq_t (dq_t (dq_t (dq_t (dq_t (dq_t (dq_t dzX11_count_130)))))))))))))))))))))))
theorem dzX11_count_178 : dq_F cX11_count [(178, .ireturn, 1), (179, .aload_n 0, 1), (180, .getfield 12, 3), (183, .getfield 69, 3), (186, .getfield 73, 3), (189, .ireturn, 1), (190, .aload_n 0, 1), (191, .getfield 19, 3), (194, .getfield 153, 3), (197, .iconst 0, 1), (198, .iaload, 1), (199, .ireturn, 1), (200, .aload_n 0, 1), (201, .getfield 19, 3), (204, .getfield 153, 3), (207, .iconst 1, 1), (208, .iaload, 1), (209, .ireturn, 1), (210, .aload_n 0, 1), (211, .getfield 19, 3), (214, .getfield 153, 3), (217, .iconst 2, 1), (218, .iaload, 1), (219, .ireturn, 1)] := dq_s 24 178 (by decide +kernel)
theorem dX11_count_178 : decode cX11_count 178 = .ok (.ireturn, 1) := dq_h dzX11_count_178
theorem dX11_count_179 : decode cX11_count 179 = .ok (.aload_n 0, 1) := dq_h (dq_t dzX11_count_178)
theorem dX11_count_180 : decode cX11_count 180 = .ok (.getfield 12, 3) := dq_h (dq_t (dq_t dzX11_count_178))
theorem dX11_count_183 : decode cX11_count 183 = .ok (.getfield 69, 3) := dq_h (dq_t (dq_t (dq_t dzX11_count_178)))
theorem dX11_count_186 : decode cX11_count 186 = .ok (.getfield 73, 3) := dq_h (dq_t (dq_t (dq_t (dq_t dzX11_count_178))))
theorem dX11_count_189 : decode cX11_count 189 = .ok (.ireturn, 1) := dq_h (dq_t (dq_t (dq_t (dq_t (dq_t dzX11_count_178)))))
theorem dX11_count_190 : decode cX11_count 190 = .ok (.aload_n 0, 1) := dq_h (dq_t (dq_t (dq_t (dq_t (dq_t (dq_t dzX11_count_178))))))
theorem dX11_count_191 : decode cX11_count 191 = .ok (.getfield 19, 3) := dq_h (dq_t (dq_t (dq_t (dq_t (dq_t (dq_t (dq_t dzX11_count_178)))))))
theorem dX11_count_194 : decode cX11_count 194 = .ok (.getfield 153, 3) := dq_h (dq_t (dq_t (dq_t (dq_t (dq_t (dq_t (dq_t (dq_t dzX11_count_178))))))))
theorem dX11_count_197 : decode cX11_count 197 = .ok (.iconst 0, 1) := dq_h (dq_t (dq_t (dq_t (dq_t (dq_t (dq_t (dq_t (dq_t (dq_t dzX11_count_178)))))))))
theorem dX11_count_198 : decode cX11_count 198 = .ok (.iaload, 1) := dq_h (dq_t (dq_t (dq_t (dq_t (dq_t (dq_t (dq_t (dq_t (dq_t (dq_t dzX11_count_178))))))))))
theorem dX11_count_199 : decode cX11_count 199 = .ok (.ireturn, 1) := dq_h (dq_t (dq_t (dq_t (dq_t (dq_t (dq_t (dq_t (dq_t (dq_t (dq_t (dq_t dzX11_count_178)))))))))))
theorem dX11_count_200 : decode cX11_count 200 = .ok (.aload_n 0, 1) := dq_h (dq_t (dq_t (dq_t (dq_t (dq_t (dq_t (dq_t (dq_t (dq_t (dq_t (dq_t (dq_t dzX11_count_178))))))))))))
theorem dX11_count_201 : decode cX11_count 201 = .ok (.getfield 19, 3) := dq_h (dq_t (dq_t (dq_t (dq_t (dq_t (dq_t (dq_t (dq_t (dq_t (dq_t (dq_t (dq_t (dq_t dzX11_count_178)))))))))))))
theorem dX11_count_204 : decode cX11_count 204 = .ok (.getfield 153, 3) := dq_h (dq_t (dq_t (dq_t (dq_t (dq_t (dq_t (dq_t (dq_t (dq_t (dq_t (dq_t (dq_t (dq_t (dq_t dzX11_count_178))))))))))))))
theorem dX11_count_207 : decode cX11_count 207 = .ok (.iconst 1, 1) := dq_h (dq_t (dq_t (dq_t (dq_t (dq_t (dq_t (dq_t (dq_t (dq_t (dq_t (dq_t (dq_t (dq_t (dq_t (dq_t dzX11_count_178)))))))))))))))
theorem dX11_count_208 : decode cX11_count 208 = .ok (.iaload, 1) := dq_h (dq_t (dq_t (dq_t (dq_t (dq_t (dq_t (dq_t (dq_t (dq_t (dq_t (dq_t (dq_t (dq_t (dq_t (dq_t (dq_t dzX11_count_178))))))))))))))))
theorem dX11_count_209 : decode cX11_count 209 = .ok (.ireturn, 1) := dq_h (dq_t (dq_t (dq_t (dq_t (dq_t (dq_t (dq_t (dq_t (dq_t (dq_t (dq_t (dq_t (dq_t (dq_t (dq_t (dq_t (dq_t dzX11_count_178)))))))))))))))))
theorem dX11_count_210 : decode cX11_count 210 = .ok (.aload_n 0, 1) := dq_h (dq_t (dq_t (dq_t (dq_t (dq_t (dq_t (dq_t (dq_t (dq_t (dq_t (dq_t (dq_t (dq_t (dq_t (dq_t (dq_t (dq_t (dq_t dzX11_count_178))))))))))))))))))
theorem dX11_count_211 : decode cX11_count 211 = .ok (.getfield 19, 3) := dq_h (dq_t (dq_t (dq_t (dq_t (dq_t (dq_t (dq_t (dq_t (dq_t (dq_t (dq_t (dq_t (dq_t (dq_t (dq_t (dq_t (dq_t (dq_t (dq_t dzX11_count_178)))))))))))))))))))
theorem dX11_count_214 : decode cX11_count 214 = .ok (.getfield 153, 3) := dq_h (dq_t (dq_t (dq_t (dq_t (dq_t (dq_t (dq_t (dq_t (dq_t (dq_t (dq_t (dq_t (dq_t (dq_t (dq_t (dq_t (dq_t (dq_t (dq_t (dq_t dzX11_count_178))))))))))))))))))))
theorem dX11_count_217 : decode cX11_count 217 = .ok (.iconst 2, 1) := dq_h (dq_t (dq_t (dq_t (dq_t (dq_t (dq_t (dq_t (dq_t (dq_t (dq_t (dq_t (dq_t (dq_t (dq_t (dq_t (dq_t (dq_t (dq_t (dq_t (dq_t (dq_t dzX11_count_178)))))))))))))))))))))
theorem dX11_count_218 : decode cX11_count 218 = .ok (.iaload, 1) := dq_h (dq_t (dq_t (dq_t (dq_t (dq_t (dq_t (dq_t (dq_t (dq_t (dq_t (dq_t (dq_t (dq_t (dq_t (dq_t (dq_t (dq_t (dq_t (dq_t (dq_t (dq_t (dq_t dzX11_count_178))))))))))))))))))))))
theorem dX11_count_219 : decode cX11_count 219 = .ok (.ireturn, 1) := dq_h (dq_t (dq_t (dq_t (dq_t (dq_t (dq_t (dq_t (dq_t (dq_t (dq_t (dq_t (dq_t (dq_t (dq_t (dq_t (dq_t (dq_t (dq_t (dq_t (dq_t (dq_t (dq_t (dq_t dzX11_count_178)))))))))))))))))))))))
theorem dzX11_count_220 : dq_F cX11_count [(220, .new 157, 3), (223, .dup, 1), (224, .ldc 159, 2), (226, .invokespecial 161, 3), (229, .athrow, 1)] := dq_s 5 220 (by decide +kernel)
theorem dX11_count_220 : decode cX11_count 220 = .ok (.new 157, 3) := dq_h dzX11_count_220
theorem dX11_count_223 : decode cX11_count 223 = .ok (.dup, 1) := dq_h (dq_t dzX11_count_220)
theorem dX11_count_224 : decode cX11_count 224 = .ok (.ldc 159, 2) := dq_h (dq_t (dq_t dzX11_count_220))
theorem dX11_count_226 : decode cX11_count 226 = .ok (.invokespecial 161, 3) := dq_h (dq_t (dq_t (dq_t dzX11_count_220)))
theorem dX11_count_229 : decode cX11_count 229 = .ok (.athrow, 1) := dq_h (dq_t (dq_t (dq_t (dq_t dzX11_count_220))))
theorem dzX11_grotto_0 : dq_F cX11_grotto [(0, .aload_n 0, 1), (1, .iload_n 1, 1), (2, .invokevirtual 162, 3), (5, .iload_n 2, 1)] := dq_s 4 0 (by decide +kernel)
theorem dX11_grotto_0 : decode cX11_grotto 0 = .ok (.aload_n 0, 1) := dq_h dzX11_grotto_0
theorem dX11_grotto_1 : decode cX11_grotto 1 = .ok (.iload_n 1, 1) := dq_h (dq_t dzX11_grotto_0)
theorem dX11_grotto_2 : decode cX11_grotto 2 = .ok (.invokevirtual 162, 3) := dq_h (dq_t (dq_t dzX11_grotto_0))
theorem dX11_grotto_5 : decode cX11_grotto 5 = .ok (.iload_n 2, 1) := dq_h (dq_t (dq_t (dq_t dzX11_grotto_0)))
theorem dX11_grotto_6 : decode cX11_grotto 6 = .ok (.tableswitch 132 0 6 #[42, 52, 62, 72, 90, 110, 126], 42) := by decide +kernel
theorem dzX11_grotto_48 : dq_F cX11_grotto [(48, .aload_n 0, 1), (49, .getfield 57, 3), (52, .getfield 165, 3), (55, .iload_n 1, 1), (56, .iaload, 1), (57, .ireturn, 1), (58, .aload_n 0, 1), (59, .getfield 57, 3), (62, .getfield 168, 3), (65, .iload_n 1, 1), (66, .iaload, 1), (67, .ireturn, 1), (68, .aload_n 0, 1), (69, .getfield 57, 3), (72, .getfield 171, 3), (75, .iload_n 1, 1), (76, .iaload, 1), (77, .ireturn, 1), (78, .aload_n 0, 1), (79, .getfield 57, 3), (82, .getfield 174, 3), (85, .iload_n 1, 1), (86, .baload, 1), (87, .ifCond .eq 7, 3)] := dq_s 24 48 (by decide +kernel)
theorem dX11_grotto_48 : decode cX11_grotto 48 = .ok (.aload_n 0, 1) := dq_h dzX11_grotto_48
theorem dX11_grotto_49 : decode cX11_grotto 49 = .ok (.getfield 57, 3) := dq_h (dq_t dzX11_grotto_48)
theorem dX11_grotto_52 : decode cX11_grotto 52 = .ok (.getfield 165, 3) := dq_h (dq_t (dq_t dzX11_grotto_48))
theorem dX11_grotto_55 : decode cX11_grotto 55 = .ok (.iload_n 1, 1) := dq_h (dq_t (dq_t (dq_t dzX11_grotto_48)))
theorem dX11_grotto_56 : decode cX11_grotto 56 = .ok (.iaload, 1) := dq_h (dq_t (dq_t (dq_t (dq_t dzX11_grotto_48))))
theorem dX11_grotto_57 : decode cX11_grotto 57 = .ok (.ireturn, 1) := dq_h (dq_t (dq_t (dq_t (dq_t (dq_t dzX11_grotto_48)))))
theorem dX11_grotto_58 : decode cX11_grotto 58 = .ok (.aload_n 0, 1) := dq_h (dq_t (dq_t (dq_t (dq_t (dq_t (dq_t dzX11_grotto_48))))))
theorem dX11_grotto_59 : decode cX11_grotto 59 = .ok (.getfield 57, 3) := dq_h (dq_t (dq_t (dq_t (dq_t (dq_t (dq_t (dq_t dzX11_grotto_48)))))))
theorem dX11_grotto_62 : decode cX11_grotto 62 = .ok (.getfield 168, 3) := dq_h (dq_t (dq_t (dq_t (dq_t (dq_t (dq_t (dq_t (dq_t dzX11_grotto_48))))))))
theorem dX11_grotto_65 : decode cX11_grotto 65 = .ok (.iload_n 1, 1) := dq_h (dq_t (dq_t (dq_t (dq_t (dq_t (dq_t (dq_t (dq_t (dq_t dzX11_grotto_48)))))))))
theorem dX11_grotto_66 : decode cX11_grotto 66 = .ok (.iaload, 1) := dq_h (dq_t (dq_t (dq_t (dq_t (dq_t (dq_t (dq_t (dq_t (dq_t (dq_t dzX11_grotto_48))))))))))
theorem dX11_grotto_67 : decode cX11_grotto 67 = .ok (.ireturn, 1) := dq_h (dq_t (dq_t (dq_t (dq_t (dq_t (dq_t (dq_t (dq_t (dq_t (dq_t (dq_t dzX11_grotto_48)))))))))))
theorem dX11_grotto_68 : decode cX11_grotto 68 = .ok (.aload_n 0, 1) := dq_h (dq_t (dq_t (dq_t (dq_t (dq_t (dq_t (dq_t (dq_t (dq_t (dq_t (dq_t (dq_t dzX11_grotto_48))))))))))))
theorem dX11_grotto_69 : decode cX11_grotto 69 = .ok (.getfield 57, 3) := dq_h (dq_t (dq_t (dq_t (dq_t (dq_t (dq_t (dq_t (dq_t (dq_t (dq_t (dq_t (dq_t (dq_t dzX11_grotto_48)))))))))))))
theorem dX11_grotto_72 : decode cX11_grotto 72 = .ok (.getfield 171, 3) := dq_h (dq_t (dq_t (dq_t (dq_t (dq_t (dq_t (dq_t (dq_t (dq_t (dq_t (dq_t (dq_t (dq_t (dq_t dzX11_grotto_48))))))))))))))
theorem dX11_grotto_75 : decode cX11_grotto 75 = .ok (.iload_n 1, 1) := dq_h (dq_t (dq_t (dq_t (dq_t (dq_t (dq_t (dq_t (dq_t (dq_t (dq_t (dq_t (dq_t (dq_t (dq_t (dq_t dzX11_grotto_48)))))))))))))))
theorem dX11_grotto_76 : decode cX11_grotto 76 = .ok (.iaload, 1) := dq_h (dq_t (dq_t (dq_t (dq_t (dq_t (dq_t (dq_t (dq_t (dq_t (dq_t (dq_t (dq_t (dq_t (dq_t (dq_t (dq_t dzX11_grotto_48))))))))))))))))
theorem dX11_grotto_77 : decode cX11_grotto 77 = .ok (.ireturn, 1) := dq_h (dq_t (dq_t (dq_t (dq_t (dq_t (dq_t (dq_t (dq_t (dq_t (dq_t (dq_t (dq_t (dq_t (dq_t (dq_t (dq_t (dq_t dzX11_grotto_48)))))))))))))))))
theorem dX11_grotto_78 : decode cX11_grotto 78 = .ok (.aload_n 0, 1) := dq_h (dq_t (dq_t (dq_t (dq_t (dq_t (dq_t (dq_t (dq_t (dq_t (dq_t (dq_t (dq_t (dq_t (dq_t (dq_t (dq_t (dq_t (dq_t dzX11_grotto_48))))))))))))))))))
theorem dX11_grotto_79 : decode cX11_grotto 79 = .ok (.getfield 57, 3) := dq_h (dq_t (dq_t (dq_t (dq_t (dq_t (dq_t (dq_t (dq_t (dq_t (dq_t (dq_t (dq_t (dq_t (dq_t (dq_t (dq_t (dq_t (dq_t (dq_t dzX11_grotto_48)))))))))))))))))))
theorem dX11_grotto_82 : decode cX11_grotto 82 = .ok (.getfield 174, 3) := dq_h (dq_t (dq_t (dq_t (dq_t (dq_t (dq_t (dq_t (dq_t (dq_t (dq_t (dq_t (dq_t (dq_t (dq_t (dq_t (dq_t (dq_t (dq_t (dq_t (dq_t dzX11_grotto_48))))))))))))))))))))
theorem dX11_grotto_85 : decode cX11_grotto 85 = .ok (.iload_n 1, 1) := dq_h (dq_t (dq_t (dq_t (dq_t (dq_t (dq_t (dq_t (dq_t (dq_t (dq_t (dq_t (dq_t (dq_t (dq_t (dq_t (dq_t (dq_t (dq_t (dq_t (dq_t (dq_t dzX11_grotto_48)))))))))))))))))))))
theorem dX11_grotto_86 : decode cX11_grotto 86 = .ok (.baload, 1) := dq_h (dq_t (dq_t (dq_t (dq_t (dq_t (dq_t (dq_t (dq_t (dq_t (dq_t (dq_t (dq_t (dq_t (dq_t (dq_t (dq_t (dq_t (dq_t (dq_t (dq_t (dq_t (dq_t dzX11_grotto_48))))))))))))))))))))))
theorem dX11_grotto_87 : decode cX11_grotto 87 = .ok (.ifCond .eq 7, 3) := dq_h (dq_t (dq_t (dq_t (dq_t (dq_t (dq_t (dq_t (dq_t (dq_t (dq_t (dq_t (dq_t (dq_t (dq_t (dq_t (dq_t (dq_t (dq_t (dq_t (dq_t (dq_t (dq_t (dq_t dzX11_grotto_48)))))))))))))))))))))))
theorem dzX11_grotto_90 : dq_F cX11_grotto [(90, .iconst 1, 1), (91, .goto 4, 3), (94, .iconst 0, 1), (95, .ireturn, 1), (96, .aload_n 0, 1), (97, .getfield 19, 3), (100, .getfield 105, 3), (103, .iload_n 1, 1), (104, .invokevirtual 178, 3), (107, .ifCond .eq 7, 3), (110, .iconst 1, 1), (111, .goto 4, 3), (114, .iconst 0, 1), (115, .ireturn, 1), (116, .aload_n 0, 1), (117, .getfield 19, 3), (120, .getfield 105, 3), (123, .aload_n 0, 1), (124, .getfield 57, 3), (127, .iload_n 1, 1), (128, .invokevirtual 182, 3), (131, .ireturn, 1), (132, .aload_n 0, 1), (133, .iload_n 1, 1)] := dq_s 24 90 (by decide +kernel)
theorem dX11_grotto_90 : decode cX11_grotto 90 = .ok (.iconst 1, 1) := dq_h dzX11_grotto_90
theorem dX11_grotto_91 : decode cX11_grotto 91 = .ok (.goto 4, 3) := dq_h (dq_t dzX11_grotto_90)
theorem dX11_grotto_94 : decode cX11_grotto 94 = .ok (.iconst 0, 1) := dq_h (dq_t (dq_t dzX11_grotto_90))
theorem dX11_grotto_95 : decode cX11_grotto 95 = .ok (.ireturn, 1) := dq_h (dq_t (dq_t (dq_t dzX11_grotto_90)))
theorem dX11_grotto_96 : decode cX11_grotto 96 = .ok (.aload_n 0, 1) := dq_h (dq_t (dq_t (dq_t (dq_t dzX11_grotto_90))))
theorem dX11_grotto_97 : decode cX11_grotto 97 = .ok (.getfield 19, 3) := dq_h (dq_t (dq_t (dq_t (dq_t (dq_t dzX11_grotto_90)))))
theorem dX11_grotto_100 : decode cX11_grotto 100 = .ok (.getfield 105, 3) := dq_h (dq_t (dq_t (dq_t (dq_t (dq_t (dq_t dzX11_grotto_90))))))
theorem dX11_grotto_103 : decode cX11_grotto 103 = .ok (.iload_n 1, 1) := dq_h (dq_t (dq_t (dq_t (dq_t (dq_t (dq_t (dq_t dzX11_grotto_90)))))))
theorem dX11_grotto_104 : decode cX11_grotto 104 = .ok (.invokevirtual 178, 3) := dq_h (dq_t (dq_t (dq_t (dq_t (dq_t (dq_t (dq_t (dq_t dzX11_grotto_90))))))))
theorem dX11_grotto_107 : decode cX11_grotto 107 = .ok (.ifCond .eq 7, 3) := dq_h (dq_t (dq_t (dq_t (dq_t (dq_t (dq_t (dq_t (dq_t (dq_t dzX11_grotto_90)))))))))
theorem dX11_grotto_110 : decode cX11_grotto 110 = .ok (.iconst 1, 1) := dq_h (dq_t (dq_t (dq_t (dq_t (dq_t (dq_t (dq_t (dq_t (dq_t (dq_t dzX11_grotto_90))))))))))
theorem dX11_grotto_111 : decode cX11_grotto 111 = .ok (.goto 4, 3) := dq_h (dq_t (dq_t (dq_t (dq_t (dq_t (dq_t (dq_t (dq_t (dq_t (dq_t (dq_t dzX11_grotto_90)))))))))))
theorem dX11_grotto_114 : decode cX11_grotto 114 = .ok (.iconst 0, 1) := dq_h (dq_t (dq_t (dq_t (dq_t (dq_t (dq_t (dq_t (dq_t (dq_t (dq_t (dq_t (dq_t dzX11_grotto_90))))))))))))
theorem dX11_grotto_115 : decode cX11_grotto 115 = .ok (.ireturn, 1) := dq_h (dq_t (dq_t (dq_t (dq_t (dq_t (dq_t (dq_t (dq_t (dq_t (dq_t (dq_t (dq_t (dq_t dzX11_grotto_90)))))))))))))
theorem dX11_grotto_116 : decode cX11_grotto 116 = .ok (.aload_n 0, 1) := dq_h (dq_t (dq_t (dq_t (dq_t (dq_t (dq_t (dq_t (dq_t (dq_t (dq_t (dq_t (dq_t (dq_t (dq_t dzX11_grotto_90))))))))))))))
theorem dX11_grotto_117 : decode cX11_grotto 117 = .ok (.getfield 19, 3) := dq_h (dq_t (dq_t (dq_t (dq_t (dq_t (dq_t (dq_t (dq_t (dq_t (dq_t (dq_t (dq_t (dq_t (dq_t (dq_t dzX11_grotto_90)))))))))))))))
theorem dX11_grotto_120 : decode cX11_grotto 120 = .ok (.getfield 105, 3) := dq_h (dq_t (dq_t (dq_t (dq_t (dq_t (dq_t (dq_t (dq_t (dq_t (dq_t (dq_t (dq_t (dq_t (dq_t (dq_t (dq_t dzX11_grotto_90))))))))))))))))
theorem dX11_grotto_123 : decode cX11_grotto 123 = .ok (.aload_n 0, 1) := dq_h (dq_t (dq_t (dq_t (dq_t (dq_t (dq_t (dq_t (dq_t (dq_t (dq_t (dq_t (dq_t (dq_t (dq_t (dq_t (dq_t (dq_t dzX11_grotto_90)))))))))))))))))
theorem dX11_grotto_124 : decode cX11_grotto 124 = .ok (.getfield 57, 3) := dq_h (dq_t (dq_t (dq_t (dq_t (dq_t (dq_t (dq_t (dq_t (dq_t (dq_t (dq_t (dq_t (dq_t (dq_t (dq_t (dq_t (dq_t (dq_t dzX11_grotto_90))))))))))))))))))
theorem dX11_grotto_127 : decode cX11_grotto 127 = .ok (.iload_n 1, 1) := dq_h (dq_t (dq_t (dq_t (dq_t (dq_t (dq_t (dq_t (dq_t (dq_t (dq_t (dq_t (dq_t (dq_t (dq_t (dq_t (dq_t (dq_t (dq_t (dq_t dzX11_grotto_90)))))))))))))))))))
theorem dX11_grotto_128 : decode cX11_grotto 128 = .ok (.invokevirtual 182, 3) := dq_h (dq_t (dq_t (dq_t (dq_t (dq_t (dq_t (dq_t (dq_t (dq_t (dq_t (dq_t (dq_t (dq_t (dq_t (dq_t (dq_t (dq_t (dq_t (dq_t (dq_t dzX11_grotto_90))))))))))))))))))))
theorem dX11_grotto_131 : decode cX11_grotto 131 = .ok (.ireturn, 1) := dq_h (dq_t (dq_t (dq_t (dq_t (dq_t (dq_t (dq_t (dq_t (dq_t (dq_t (dq_t (dq_t (dq_t (dq_t (dq_t (dq_t (dq_t (dq_t (dq_t (dq_t (dq_t dzX11_grotto_90)))))))))))))))))))))
theorem dX11_grotto_132 : decode cX11_grotto 132 = .ok (.aload_n 0, 1) := dq_h (dq_t (dq_t (dq_t (dq_t (dq_t (dq_t (dq_t (dq_t (dq_t (dq_t (dq_t (dq_t (dq_t (dq_t (dq_t (dq_t (dq_t (dq_t (dq_t (dq_t (dq_t (dq_t dzX11_grotto_90))))))))))))))))))))))
theorem dX11_grotto_133 : decode cX11_grotto 133 = .ok (.iload_n 1, 1) := dq_h (dq_t (dq_t (dq_t (dq_t (dq_t (dq_t (dq_t (dq_t (dq_t (dq_t (dq_t (dq_t (dq_t (dq_t (dq_t (dq_t (dq_t (dq_t (dq_t (dq_t (dq_t (dq_t (dq_t dzX11_grotto_90)))))))))))))))))))))))
theorem dzX11_grotto_134 : dq_F cX11_grotto [(134, .invokevirtual 186, 3), (137, .ireturn, 1), (138, .new 157, 3), (141, .dup, 1), (142, .ldc 189, 2), (144, .invokespecial 161, 3), (147, .athrow, 1)] := dq_s 7 134 (by decide +kernel)
theorem dX11_grotto_134 : decode cX11_grotto 134 = .ok (.invokevirtual 186, 3) := dq_h dzX11_grotto_134
theorem dX11_grotto_137 : decode cX11_grotto 137 = .ok (.ireturn, 1) := dq_h (dq_t dzX11_grotto_134)
theorem dX11_grotto_138 : decode cX11_grotto 138 = .ok (.new 157, 3) := dq_h (dq_t (dq_t dzX11_grotto_134))
theorem dX11_grotto_141 : decode cX11_grotto 141 = .ok (.dup, 1) := dq_h (dq_t (dq_t (dq_t dzX11_grotto_134)))
theorem dX11_grotto_142 : decode cX11_grotto 142 = .ok (.ldc 189, 2) := dq_h (dq_t (dq_t (dq_t (dq_t dzX11_grotto_134))))
theorem dX11_grotto_144 : decode cX11_grotto 144 = .ok (.invokespecial 161, 3) := dq_h (dq_t (dq_t (dq_t (dq_t (dq_t dzX11_grotto_134)))))
theorem dX11_grotto_147 : decode cX11_grotto 147 = .ok (.athrow, 1) := dq_h (dq_t (dq_t (dq_t (dq_t (dq_t (dq_t dzX11_grotto_134))))))
theorem dzX11_guild_0 : dq_F cX11_guild [(0, .aload_n 0, 1), (1, .iload_n 1, 1), (2, .invokevirtual 191, 3), (5, .aload_n 0, 1), (6, .getfield 19, 3), (9, .getfield 105, 3), (12, .astore_n 3, 1), (13, .iload_n 2, 1)] := dq_s 8 0 (by decide +kernel)
theorem dX11_guild_0 : decode cX11_guild 0 = .ok (.aload_n 0, 1) := dq_h dzX11_guild_0
theorem dX11_guild_1 : decode cX11_guild 1 = .ok (.iload_n 1, 1) := dq_h (dq_t dzX11_guild_0)
theorem dX11_guild_2 : decode cX11_guild 2 = .ok (.invokevirtual 191, 3) := dq_h (dq_t (dq_t dzX11_guild_0))
theorem dX11_guild_5 : decode cX11_guild 5 = .ok (.aload_n 0, 1) := dq_h (dq_t (dq_t (dq_t dzX11_guild_0)))
theorem dX11_guild_6 : decode cX11_guild 6 = .ok (.getfield 19, 3) := dq_h (dq_t (dq_t (dq_t (dq_t dzX11_guild_0))))
theorem dX11_guild_9 : decode cX11_guild 9 = .ok (.getfield 105, 3) := dq_h (dq_t (dq_t (dq_t (dq_t (dq_t dzX11_guild_0)))))
theorem dX11_guild_12 : decode cX11_guild 12 = .ok (.astore_n 3, 1) := dq_h (dq_t (dq_t (dq_t (dq_t (dq_t (dq_t dzX11_guild_0))))))
theorem dX11_guild_13 : decode cX11_guild 13 = .ok (.iload_n 2, 1) := dq_h (dq_t (dq_t (dq_t (dq_t (dq_t (dq_t (dq_t dzX11_guild_0)))))))
theorem dX11_guild_14 : decode cX11_guild 14 = .ok (.tableswitch 82 0 5 #[38, 48, 55, 62, 69, 76], 38) := by decide +kernel
theorem dzX11_guild_52 : dq_F cX11_guild [(52, .aload_n 0, 1), (53, .getfield 57, 3), (56, .getfield 194, 3), (59, .iload_n 1, 1), (60, .iaload, 1), (61, .ireturn, 1), (62, .aload_n 3, 1), (63, .getfield 197, 3), (66, .iload_n 1, 1), (67, .iaload, 1), (68, .ireturn, 1), (69, .aload_n 3, 1), (70, .getfield 200, 3), (73, .iload_n 1, 1), (74, .iaload, 1), (75, .ireturn, 1), (76, .aload_n 3, 1), (77, .getfield 203, 3), (80, .iload_n 1, 1), (81, .iaload, 1), (82, .ireturn, 1), (83, .aload_n 3, 1), (84, .getfield 206, 3), (87, .iload_n 1, 1)] := dq_s 24 52 (by decide +kernel)
theorem dX11_guild_52 : decode cX11_guild 52 = .ok (.aload_n 0, 1) := dq_h dzX11_guild_52
theorem dX11_guild_53 : decode cX11_guild 53 = .ok (.getfield 57, 3) := dq_h (dq_t dzX11_guild_52)
theorem dX11_guild_56 : decode cX11_guild 56 = .ok (.getfield 194, 3) := dq_h (dq_t (dq_t dzX11_guild_52))
theorem dX11_guild_59 : decode cX11_guild 59 = .ok (.iload_n 1, 1) := dq_h (dq_t (dq_t (dq_t dzX11_guild_52)))
theorem dX11_guild_60 : decode cX11_guild 60 = .ok (.iaload, 1) := dq_h (dq_t (dq_t (dq_t (dq_t dzX11_guild_52))))
theorem dX11_guild_61 : decode cX11_guild 61 = .ok (.ireturn, 1) := dq_h (dq_t (dq_t (dq_t (dq_t (dq_t dzX11_guild_52)))))
theorem dX11_guild_62 : decode cX11_guild 62 = .ok (.aload_n 3, 1) := dq_h (dq_t (dq_t (dq_t (dq_t (dq_t (dq_t dzX11_guild_52))))))
theorem dX11_guild_63 : decode cX11_guild 63 = .ok (.getfield 197, 3) := dq_h (dq_t (dq_t (dq_t (dq_t (dq_t (dq_t (dq_t dzX11_guild_52)))))))
theorem dX11_guild_66 : decode cX11_guild 66 = .ok (.iload_n 1, 1) := dq_h (dq_t (dq_t (dq_t (dq_t (dq_t (dq_t (dq_t (dq_t dzX11_guild_52))))))))
theorem dX11_guild_67 : decode cX11_guild 67 = .ok (.iaload, 1) := dq_h (dq_t (dq_t (dq_t (dq_t (dq_t (dq_t (dq_t (dq_t (dq_t dzX11_guild_52)))))))))
theorem dX11_guild_68 : decode cX11_guild 68 = .ok (.ireturn, 1) := dq_h (dq_t (dq_t (dq_t (dq_t (dq_t (dq_t (dq_t (dq_t (dq_t (dq_t dzX11_guild_52))))))))))
theorem dX11_guild_69 : decode cX11_guild 69 = .ok (.aload_n 3, 1) := dq_h (dq_t (dq_t (dq_t (dq_t (dq_t (dq_t (dq_t (dq_t (dq_t (dq_t (dq_t dzX11_guild_52)))))))))))
theorem dX11_guild_70 : decode cX11_guild 70 = .ok (.getfield 200, 3) := dq_h (dq_t (dq_t (dq_t (dq_t (dq_t (dq_t (dq_t (dq_t (dq_t (dq_t (dq_t (dq_t dzX11_guild_52))))))))))))
theorem dX11_guild_73 : decode cX11_guild 73 = .ok (.iload_n 1, 1) := dq_h (dq_t (dq_t (dq_t (dq_t (dq_t (dq_t (dq_t (dq_t (dq_t (dq_t (dq_t (dq_t (dq_t dzX11_guild_52)))))))))))))
theorem dX11_guild_74 : decode cX11_guild 74 = .ok (.iaload, 1) := dq_h (dq_t (dq_t (dq_t (dq_t (dq_t (dq_t (dq_t (dq_t (dq_t (dq_t (dq_t (dq_t (dq_t (dq_t dzX11_guild_52))))))))))))))
theorem dX11_guild_75 : decode cX11_guild 75 = .ok (.ireturn, 1) := dq_h (dq_t (dq_t (dq_t (dq_t (dq_t (dq_t (dq_t (dq_t (dq_t (dq_t (dq_t (dq_t (dq_t (dq_t (dq_t dzX11_guild_52)))))))))))))))
theorem dX11_guild_76 : decode cX11_guild 76 = .ok (.aload_n 3, 1) := dq_h (dq_t (dq_t (dq_t (dq_t (dq_t (dq_t (dq_t (dq_t (dq_t (dq_t (dq_t (dq_t (dq_t (dq_t (dq_t (dq_t dzX11_guild_52))))))))))))))))
theorem dX11_guild_77 : decode cX11_guild 77 = .ok (.getfield 203, 3) := dq_h (dq_t (dq_t (dq_t (dq_t (dq_t (dq_t (dq_t (dq_t (dq_t (dq_t (dq_t (dq_t (dq_t (dq_t (dq_t (dq_t (dq_t dzX11_guild_52)))))))))))))))))
theorem dX11_guild_80 : decode cX11_guild 80 = .ok (.iload_n 1, 1) := dq_h (dq_t (dq_t (dq_t (dq_t (dq_t (dq_t (dq_t (dq_t (dq_t (dq_t (dq_t (dq_t (dq_t (dq_t (dq_t (dq_t (dq_t (dq_t dzX11_guild_52))))))))))))))))))
theorem dX11_guild_81 : decode cX11_guild 81 = .ok (.iaload, 1) := dq_h (dq_t (dq_t (dq_t (dq_t (dq_t (dq_t (dq_t (dq_t (dq_t (dq_t (dq_t (dq_t (dq_t (dq_t (dq_t (dq_t (dq_t (dq_t (dq_t dzX11_guild_52)))))))))))))))))))
theorem dX11_guild_82 : decode cX11_guild 82 = .ok (.ireturn, 1) := dq_h (dq_t (dq_t (dq_t (dq_t (dq_t (dq_t (dq_t (dq_t (dq_t (dq_t (dq_t (dq_t (dq_t (dq_t (dq_t (dq_t (dq_t (dq_t (dq_t (dq_t dzX11_guild_52))))))))))))))))))))
theorem dX11_guild_83 : decode cX11_guild 83 = .ok (.aload_n 3, 1) := dq_h (dq_t (dq_t (dq_t (dq_t (dq_t (dq_t (dq_t (dq_t (dq_t (dq_t (dq_t (dq_t (dq_t (dq_t (dq_t (dq_t (dq_t (dq_t (dq_t (dq_t (dq_t dzX11_guild_52)))))))))))))))))))))
theorem dX11_guild_84 : decode cX11_guild 84 = .ok (.getfield 206, 3) := dq_h (dq_t (dq_t (dq_t (dq_t (dq_t (dq_t (dq_t (dq_t (dq_t (dq_t (dq_t (dq_t (dq_t (dq_t (dq_t (dq_t (dq_t (dq_t (dq_t (dq_t (dq_t (dq_t dzX11_guild_52))))))))))))))))))))))
theorem dX11_guild_87 : decode cX11_guild 87 = .ok (.iload_n 1, 1) := dq_h (dq_t (dq_t (dq_t (dq_t (dq_t (dq_t (dq_t (dq_t (dq_t (dq_t (dq_t (dq_t (dq_t (dq_t (dq_t (dq_t (dq_t (dq_t (dq_t (dq_t (dq_t (dq_t (dq_t dzX11_guild_52)))))))))))))))))))))))
theorem dzX11_guild_88 : dq_F cX11_guild [(88, .iaload, 1), (89, .ireturn, 1), (90, .aload_n 0, 1), (91, .iload_n 1, 1), (92, .invokevirtual 209, 3), (95, .ireturn, 1), (96, .new 157, 3), (99, .dup, 1), (100, .ldc 212, 2), (102, .invokespecial 161, 3), (105, .athrow, 1)] := dq_s 11 88 (by decide +kernel)
theorem dX11_guild_88 : decode cX11_guild 88 = .ok (.iaload, 1) := dq_h dzX11_guild_88
theorem dX11_guild_89 : decode cX11_guild 89 = .ok (.ireturn, 1) := dq_h (dq_t dzX11_guild_88)
theorem dX11_guild_90 : decode cX11_guild 90 = .ok (.aload_n 0, 1) := dq_h (dq_t (dq_t dzX11_guild_88))
theorem dX11_guild_91 : decode cX11_guild 91 = .ok (.iload_n 1, 1) := dq_h (dq_t (dq_t (dq_t dzX11_guild_88)))
theorem dX11_guild_92 : decode cX11_guild 92 = .ok (.invokevirtual 209, 3) := dq_h (dq_t (dq_t (dq_t (dq_t dzX11_guild_88))))
theorem dX11_guild_95 : decode cX11_guild 95 = .ok (.ireturn, 1) := dq_h (dq_t (dq_t (dq_t (dq_t (dq_t dzX11_guild_88)))))
theorem dX11_guild_96 : decode cX11_guild 96 = .ok (.new 157, 3) := dq_h (dq_t (dq_t (dq_t (dq_t (dq_t (dq_t dzX11_guild_88))))))
theorem dX11_guild_99 : decode cX11_guild 99 = .ok (.dup, 1) := dq_h (dq_t (dq_t (dq_t (dq_t (dq_t (dq_t (dq_t dzX11_guild_88)))))))
theorem dX11_guild_100 : decode cX11_guild 100 = .ok (.ldc 212, 2) := dq_h (dq_t (dq_t (dq_t (dq_t (dq_t (dq_t (dq_t (dq_t dzX11_guild_88))))))))
theorem dX11_guild_102 : decode cX11_guild 102 = .ok (.invokespecial 161, 3) := dq_h (dq_t (dq_t (dq_t (dq_t (dq_t (dq_t (dq_t (dq_t (dq_t dzX11_guild_88)))))))))
theorem dX11_guild_105 : decode cX11_guild 105 = .ok (.athrow, 1) := dq_h (dq_t (dq_t (dq_t (dq_t (dq_t (dq_t (dq_t (dq_t (dq_t (dq_t dzX11_guild_88))))))))))
theorem dzX11_hours_0 : dq_F cX11_hours [(0, .aload_n 0, 1), (1, .getfield 19, 3), (4, .getfield 105, 3), (7, .astore_n 2, 1), (8, .iload_n 1, 1), (9, .iconst 1, 1), (10, .bipush 20, 2), (12, .invokestatic 214, 3), (15, .ifCond .eq 15, 3), (18, .aload_n 2, 1), (19, .getfield 114, 3), (22, .iload_n 1, 1), (23, .iadd, 1), (24, .sipush 999, 3), (27, .if_icmp .le 12, 3), (30, .aload_n 0, 1), (31, .getfield 19, 3), (34, .iconst 1, 1), (35, .invokevirtual 93, 3), (38, .ireturn, 1), (39, .aload_n 0, 1), (40, .getfield 19, 3), (43, .invokevirtual 218, 3), (46, .iconst 0, 1)] := dq_s 24 0 (by decide +kernel)
theorem dX11_hours_0 : decode cX11_hours 0 = .ok (.aload_n 0, 1) := dq_h dzX11_hours_0
theorem dX11_hours_1 : decode cX11_hours 1 = .ok (.getfield 19, 3) := dq_h (dq_t dzX11_hours_0)
theorem dX11_hours_4 : decode cX11_hours 4 = .ok (.getfield 105, 3) := dq_h (dq_t (dq_t dzX11_hours_0))
theorem dX11_hours_7 : decode cX11_hours 7 = .ok (.astore_n 2, 1) := dq_h (dq_t (dq_t (dq_t dzX11_hours_0)))
theorem dX11_hours_8 : decode cX11_hours 8 = .ok (.iload_n 1, 1) := dq_h (dq_t (dq_t (dq_t (dq_t dzX11_hours_0))))
theorem dX11_hours_9 : decode cX11_hours 9 = .ok (.iconst 1, 1) := dq_h (dq_t (dq_t (dq_t (dq_t (dq_t dzX11_hours_0)))))
theorem dX11_hours_10 : decode cX11_hours 10 = .ok (.bipush 20, 2) := dq_h (dq_t (dq_t (dq_t (dq_t (dq_t (dq_t dzX11_hours_0))))))
theorem dX11_hours_12 : decode cX11_hours 12 = .ok (.invokestatic 214, 3) := dq_h (dq_t (dq_t (dq_t (dq_t (dq_t (dq_t (dq_t dzX11_hours_0)))))))
theorem dX11_hours_15 : decode cX11_hours 15 = .ok (.ifCond .eq 15, 3) := dq_h (dq_t (dq_t (dq_t (dq_t (dq_t (dq_t (dq_t (dq_t dzX11_hours_0))))))))
theorem dX11_hours_18 : decode cX11_hours 18 = .ok (.aload_n 2, 1) := dq_h (dq_t (dq_t (dq_t (dq_t (dq_t (dq_t (dq_t (dq_t (dq_t dzX11_hours_0)))))))))
theorem dX11_hours_19 : decode cX11_hours 19 = .ok (.getfield 114, 3) := dq_h (dq_t (dq_t (dq_t (dq_t (dq_t (dq_t (dq_t (dq_t (dq_t (dq_t dzX11_hours_0))))))))))
theorem dX11_hours_22 : decode cX11_hours 22 = .ok (.iload_n 1, 1) := dq_h (dq_t (dq_t (dq_t (dq_t (dq_t (dq_t (dq_t (dq_t (dq_t (dq_t (dq_t dzX11_hours_0)))))))))))
theorem dX11_hours_23 : decode cX11_hours 23 = .ok (.iadd, 1) := dq_h (dq_t (dq_t (dq_t (dq_t (dq_t (dq_t (dq_t (dq_t (dq_t (dq_t (dq_t (dq_t dzX11_hours_0))))))))))))
theorem dX11_hours_24 : decode cX11_hours 24 = .ok (.sipush 999, 3) := dq_h (dq_t (dq_t (dq_t (dq_t (dq_t (dq_t (dq_t (dq_t (dq_t (dq_t (dq_t (dq_t (dq_t dzX11_hours_0)))))))))))))
theorem dX11_hours_27 : decode cX11_hours 27 = .ok (.if_icmp .le 12, 3) := dq_h (dq_t (dq_t (dq_t (dq_t (dq_t (dq_t (dq_t (dq_t (dq_t (dq_t (dq_t (dq_t (dq_t (dq_t dzX11_hours_0))))))))))))))
theorem dX11_hours_30 : decode cX11_hours 30 = .ok (.aload_n 0, 1) := dq_h (dq_t (dq_t (dq_t (dq_t (dq_t (dq_t (dq_t (dq_t (dq_t (dq_t (dq_t (dq_t (dq_t (dq_t (dq_t dzX11_hours_0)))))))))))))))
theorem dX11_hours_31 : decode cX11_hours 31 = .ok (.getfield 19, 3) := dq_h (dq_t (dq_t (dq_t (dq_t (dq_t (dq_t (dq_t (dq_t (dq_t (dq_t (dq_t (dq_t (dq_t (dq_t (dq_t (dq_t dzX11_hours_0))))))))))))))))
theorem dX11_hours_34 : decode cX11_hours 34 = .ok (.iconst 1, 1) := dq_h (dq_t (dq_t (dq_t (dq_t (dq_t (dq_t (dq_t (dq_t (dq_t (dq_t (dq_t (dq_t (dq_t (dq_t (dq_t (dq_t (dq_t dzX11_hours_0)))))))))))))))))
theorem dX11_hours_35 : decode cX11_hours 35 = .ok (.invokevirtual 93, 3) := dq_h (dq_t (dq_t (dq_t (dq_t (dq_t (dq_t (dq_t (dq_t (dq_t (dq_t (dq_t (dq_t (dq_t (dq_t (dq_t (dq_t (dq_t (dq_t dzX11_hours_0))))))))))))))))))
theorem dX11_hours_38 : decode cX11_hours 38 = .ok (.ireturn, 1) := dq_h (dq_t (dq_t (dq_t (dq_t (dq_t (dq_t (dq_t (dq_t (dq_t (dq_t (dq_t (dq_t (dq_t (dq_t (dq_t (dq_t (dq_t (dq_t (dq_t dzX11_hours_0)))))))))))))))))))
theorem dX11_hours_39 : decode cX11_hours 39 = .ok (.aload_n 0, 1) := dq_h (dq_t (dq_t (dq_t (dq_t (dq_t (dq_t (dq_t (dq_t (dq_t (dq_t (dq_t (dq_t (dq_t (dq_t (dq_t (dq_t (dq_t (dq_t (dq_t (dq_t dzX11_hours_0))))))))))))))))))))
theorem dX11_hours_40 : decode cX11_hours 40 = .ok (.getfield 19, 3) := dq_h (dq_t (dq_t (dq_t (dq_t (dq_t (dq_t (dq_t (dq_t (dq_t (dq_t (dq_t (dq_t (dq_t (dq_t (dq_t (dq_t (dq_t (dq_t (dq_t (dq_t (dq_t dzX11_hours_0)))))))))))))))))))))
theorem dX11_hours_43 : decode cX11_hours 43 = .ok (.invokevirtual 218, 3) := dq_h (dq_t (dq_t (dq_t (dq_t (dq_t (dq_t (dq_t (dq_t (dq_t (dq_t (dq_t (dq_t (dq_t (dq_t (dq_t (dq_t (dq_t (dq_t (dq_t (dq_t (dq_t (dq_t dzX11_hours_0))))))))))))))))))))))
theorem dX11_hours_46 : decode cX11_hours 46 = .ok (.iconst 0, 1) := dq_h (dq_t (dq_t (dq_t (dq_t (dq_t (dq_t (dq_t (dq_t (dq_t (dq_t (dq_t (dq_t (dq_t (dq_t (dq_t (dq_t (dq_t (dq_t (dq_t (dq_t (dq_t (dq_t (dq_t dzX11_hours_0)))))))))))))))))))))))
theorem dzX11_hours_47 : dq_F cX11_hours [(47, .istore_n 3, 1), (48, .iload_n 3, 1), (49, .iload_n 1, 1), (50, .if_icmp .ge 26, 3), (53, .aload_n 0, 1), (54, .aload_n 2, 1), (55, .aload_n 0, 1), (56, .getfield 57, 3), (59, .aload_n 2, 1), (60, .getfield 114, 3), (63, .invokevirtual 117, 3), (66, .invokevirtual 221, 3), (69, .pop, 1), (70, .iinc 3 1, 3), (73, .goto (-25), 3), (76, .aload_n 2, 1), (77, .getfield 114, 3), (80, .ireturn, 1)] := dq_s 18 47 (by decide +kernel)
theorem dX11_hours_47 : decode cX11_hours 47 = .ok (.istore_n 3, 1) := dq_h dzX11_hours_47
theorem dX11_hours_48 : decode cX11_hours 48 = .ok (.iload_n 3, 1) := dq_h (dq_t dzX11_hours_47)
theorem dX11_hours_49 : decode cX11_hours 49 = .ok (.iload_n 1, 1) := dq_h (dq_t (dq_t dzX11_hours_47))
theorem dX11_hours_50 : decode cX11_hours 50 = .ok (.if_icmp .ge 26, 3) := dq_h (dq_t (dq_t (dq_t dzX11_hours_47)))
theorem dX11_hours_53 : decode cX11_hours 53 = .ok (.aload_n 0, 1) := dq_h (dq_t (dq_t (dq_t (dq_t dzX11_hours_47))))
theorem dX11_hours_54 : decode cX11_hours 54 = .ok (.aload_n 2, 1) := dq_h (dq_t (dq_t (dq_t (dq_t (dq_t dzX11_hours_47)))))
theorem dX11_hours_55 : decode cX11_hours 55 = .ok (.aload_n 0, 1) := dq_h (dq_t (dq_t (dq_t (dq_t (dq_t (dq_t dzX11_hours_47))))))
theorem dX11_hours_56 : decode cX11_hours 56 = .ok (.getfield 57, 3) := dq_h (dq_t (dq_t (dq_t (dq_t (dq_t (dq_t (dq_t dzX11_hours_47)))))))
theorem dX11_hours_59 : decode cX11_hours 59 = .ok (.aload_n 2, 1) := dq_h (dq_t (dq_t (dq_t (dq_t (dq_t (dq_t (dq_t (dq_t dzX11_hours_47))))))))
theorem dX11_hours_60 : decode cX11_hours 60 = .ok (.getfield 114, 3) := dq_h (dq_t (dq_t (dq_t (dq_t (dq_t (dq_t (dq_t (dq_t (dq_t dzX11_hours_47)))))))))
theorem dX11_hours_63 : decode cX11_hours 63 = .ok (.invokevirtual 117, 3) := dq_h (dq_t (dq_t (dq_t (dq_t (dq_t (dq_t (dq_t (dq_t (dq_t (dq_t dzX11_hours_47))))))))))
theorem dX11_hours_66 : decode cX11_hours 66 = .ok (.invokevirtual 221, 3) := dq_h (dq_t (dq_t (dq_t (dq_t (dq_t (dq_t (dq_t (dq_t (dq_t (dq_t (dq_t dzX11_hours_47)))))))))))
theorem dX11_hours_69 : decode cX11_hours 69 = .ok (.pop, 1) := dq_h (dq_t (dq_t (dq_t (dq_t (dq_t (dq_t (dq_t (dq_t (dq_t (dq_t (dq_t (dq_t dzX11_hours_47))))))))))))
theorem dX11_hours_70 : decode cX11_hours 70 = .ok (.iinc 3 1, 3) := dq_h (dq_t (dq_t (dq_t (dq_t (dq_t (dq_t (dq_t (dq_t (dq_t (dq_t (dq_t (dq_t (dq_t dzX11_hours_47)))))))))))))
theorem dX11_hours_73 : decode cX11_hours 73 = .ok (.goto (-25), 3) := dq_h (dq_t (dq_t (dq_t (dq_t (dq_t (dq_t (dq_t (dq_t (dq_t (dq_t (dq_t (dq_t (dq_t (dq_t dzX11_hours_47))))))))))))))
theorem dX11_hours_76 : decode cX11_hours 76 = .ok (.aload_n 2, 1) := dq_h (dq_t (dq_t (dq_t (dq_t (dq_t (dq_t (dq_t (dq_t (dq_t (dq_t (dq_t (dq_t (dq_t (dq_t (dq_t dzX11_hours_47)))))))))))))))
theorem dX11_hours_77 : decode cX11_hours 77 = .ok (.getfield 114, 3) := dq_h (dq_t (dq_t (dq_t (dq_t (dq_t (dq_t (dq_t (dq_t (dq_t (dq_t (dq_t (dq_t (dq_t (dq_t (dq_t (dq_t dzX11_hours_47))))))))))))))))
theorem dX11_hours_80 : decode cX11_hours 80 = .ok (.ireturn, 1) := dq_h (dq_t (dq_t (dq_t (dq_t (dq_t (dq_t (dq_t (dq_t (dq_t (dq_t (dq_t (dq_t (dq_t (dq_t (dq_t (dq_t (dq_t dzX11_hours_47)))))))))))))))))
theorem dzX11_hire_0 : dq_F cX11_hire [(0, .aload_n 0, 1), (1, .iload_n 1, 1), (2, .invokevirtual 191, 3), (5, .aload_n 0, 1), (6, .iload_n 2, 1), (7, .invokevirtual 162, 3), (10, .aload_n 0, 1), (11, .getfield 19, 3), (14, .getfield 105, 3), (17, .aload_n 0, 1), (18, .getfield 57, 3), (21, .iload_n 2, 1), (22, .invokevirtual 182, 3), (25, .iconst (-1), 1), (26, .if_icmp .eq 14, 3), (29, .aload_n 0, 1), (30, .getfield 19, 3), (33, .iconst 1, 1), (34, .invokevirtual 93, 3), (37, .pop, 1), (38, .iconst 0, 1), (39, .ireturn, 1), (40, .aload_n 0, 1), (41, .getfield 19, 3)] := dq_s 24 0 (by decide +kernel)
theorem dX11_hire_0 : decode cX11_hire 0 = .ok (.aload_n 0, 1) := dq_h dzX11_hire_0
theorem dX11_hire_1 : decode cX11_hire 1 = .ok (.iload_n 1, 1) := dq_h (dq_t dzX11_hire_0)
theorem dX11_hire_2 : decode cX11_hire 2 = .ok (.invokevirtual 191, 3) := dq_h (dq_t (dq_t dzX11_hire_0))
theorem dX11_hire_5 : decode cX11_hire 5 = .ok (.aload_n 0, 1) := dq_h (dq_t (dq_t (dq_t dzX11_hire_0)))
theorem dX11_hire_6 : decode cX11_hire 6 = .ok (.iload_n 2, 1) := dq_h (dq_t (dq_t (dq_t (dq_t dzX11_hire_0))))
theorem dX11_hire_7 : decode cX11_hire 7 = .ok (.invokevirtual 162, 3) := dq_h (dq_t (dq_t (dq_t (dq_t (dq_t dzX11_hire_0)))))
theorem dX11_hire_10 : decode cX11_hire 10 = .ok (.aload_n 0, 1) := dq_h (dq_t (dq_t (dq_t (dq_t (dq_t (dq_t dzX11_hire_0))))))
theorem dX11_hire_11 : decode cX11_hire 11 = .ok (.getfield 19, 3) := dq_h (dq_t (dq_t (dq_t (dq_t (dq_t (dq_t (dq_t dzX11_hire_0)))))))
theorem dX11_hire_14 : decode cX11_hire 14 = .ok (.getfield 105, 3) := dq_h (dq_t (dq_t (dq_t (dq_t (dq_t (dq_t (dq_t (dq_t dzX11_hire_0))))))))
theorem dX11_hire_17 : decode cX11_hire 17 = .ok (.aload_n 0, 1) := dq_h (dq_t (dq_t (dq_t (dq_t (dq_t (dq_t (dq_t (dq_t (dq_t dzX11_hire_0)))))))))
theorem dX11_hire_18 : decode cX11_hire 18 = .ok (.getfield 57, 3) := dq_h (dq_t (dq_t (dq_t (dq_t (dq_t (dq_t (dq_t (dq_t (dq_t (dq_t dzX11_hire_0))))))))))
theorem dX11_hire_21 : decode cX11_hire 21 = .ok (.iload_n 2, 1) := dq_h (dq_t (dq_t (dq_t (dq_t (dq_t (dq_t (dq_t (dq_t (dq_t (dq_t (dq_t dzX11_hire_0)))))))))))
theorem dX11_hire_22 : decode cX11_hire 22 = .ok (.invokevirtual 182, 3) := dq_h (dq_t (dq_t (dq_t (dq_t (dq_t (dq_t (dq_t (dq_t (dq_t (dq_t (dq_t (dq_t dzX11_hire_0))))))))))))
theorem dX11_hire_25 : decode cX11_hire 25 = .ok (.iconst (-1), 1) := dq_h (dq_t (dq_t (dq_t (dq_t (dq_t (dq_t (dq_t (dq_t (dq_t (dq_t (dq_t (dq_t (dq_t dzX11_hire_0)))))))))))))
theorem dX11_hire_26 : decode cX11_hire 26 = .ok (.if_icmp .eq 14, 3) := dq_h (dq_t (dq_t (dq_t (dq_t (dq_t (dq_t (dq_t (dq_t (dq_t (dq_t (dq_t (dq_t (dq_t (dq_t dzX11_hire_0))))))))))))))
theorem dX11_hire_29 : decode cX11_hire 29 = .ok (.aload_n 0, 1) := dq_h (dq_t (dq_t (dq_t (dq_t (dq_t (dq_t (dq_t (dq_t (dq_t (dq_t (dq_t (dq_t (dq_t (dq_t (dq_t dzX11_hire_0)))))))))))))))
theorem dX11_hire_30 : decode cX11_hire 30 = .ok (.getfield 19, 3) := dq_h (dq_t (dq_t (dq_t (dq_t (dq_t (dq_t (dq_t (dq_t (dq_t (dq_t (dq_t (dq_t (dq_t (dq_t (dq_t (dq_t dzX11_hire_0))))))))))))))))
theorem dX11_hire_33 : decode cX11_hire 33 = .ok (.iconst 1, 1) := dq_h (dq_t (dq_t (dq_t (dq_t (dq_t (dq_t (dq_t (dq_t (dq_t (dq_t (dq_t (dq_t (dq_t (dq_t (dq_t (dq_t (dq_t dzX11_hire_0)))))))))))))))))
theorem dX11_hire_34 : decode cX11_hire 34 = .ok (.invokevirtual 93, 3) := dq_h (dq_t (dq_t (dq_t (dq_t (dq_t (dq_t (dq_t (dq_t (dq_t (dq_t (dq_t (dq_t (dq_t (dq_t (dq_t (dq_t (dq_t (dq_t dzX11_hire_0))))))))))))))))))
theorem dX11_hire_37 : decode cX11_hire 37 = .ok (.pop, 1) := dq_h (dq_t (dq_t (dq_t (dq_t (dq_t (dq_t (dq_t (dq_t (dq_t (dq_t (dq_t (dq_t (dq_t (dq_t (dq_t (dq_t (dq_t (dq_t (dq_t dzX11_hire_0)))))))))))))))))))
theorem dX11_hire_38 : decode cX11_hire 38 = .ok (.iconst 0, 1) := dq_h (dq_t (dq_t (dq_t (dq_t (dq_t (dq_t (dq_t (dq_t (dq_t (dq_t (dq_t (dq_t (dq_t (dq_t (dq_t (dq_t (dq_t (dq_t (dq_t (dq_t dzX11_hire_0))))))))))))))))))))
theorem dX11_hire_39 : decode cX11_hire 39 = .ok (.ireturn, 1) := dq_h (dq_t (dq_t (dq_t (dq_t (dq_t (dq_t (dq_t (dq_t (dq_t (dq_t (dq_t (dq_t (dq_t (dq_t (dq_t (dq_t (dq_t (dq_t (dq_t (dq_t (dq_t dzX11_hire_0)))))))))))))))))))))
theorem dX11_hire_40 : decode cX11_hire 40 = .ok (.aload_n 0, 1) := dq_h (dq_t (dq_t (dq_t (dq_t (dq_t (dq_t (dq_t (dq_t (dq_t (dq_t (dq_t (dq_t (dq_t (dq_t (dq_t (dq_t (dq_t (dq_t (dq_t (dq_t (dq_t (dq_t dzX11_hire_0))))))))))))))))))))))
theorem dX11_hire_41 : decode cX11_hire 41 = .ok (.getfield 19, 3) := dq_h (dq_t (dq_t (dq_t (dq_t (dq_t (dq_t (dq_t (dq_t (dq_t (dq_t (dq_t (dq_t (dq_t (dq_t (dq_t (dq_t (dq_t (dq_t (dq_t (dq_t (dq_t (dq_t (dq_t dzX11_hire_0)))))))))))))))))))))))
theorem dzX11_hire_44 : dq_F cX11_hire [(44, .invokevirtual 218, 3), (47, .aload_n 0, 1), (48, .getfield 19, 3), (51, .getfield 105, 3), (54, .getfield 206, 3), (57, .iload_n 1, 1), (58, .iload_n 2, 1), (59, .iastore, 1), (60, .iconst 1, 1), (61, .ireturn, 1)] := dq_s 10 44 (by decide +kernel)
theorem dX11_hire_44 : decode cX11_hire 44 = .ok (.invokevirtual 218, 3) := dq_h dzX11_hire_44
theorem dX11_hire_47 : decode cX11_hire 47 = .ok (.aload_n 0, 1) := dq_h (dq_t dzX11_hire_44)
theorem dX11_hire_48 : decode cX11_hire 48 = .ok (.getfield 19, 3) := dq_h (dq_t (dq_t dzX11_hire_44))
theorem dX11_hire_51 : decode cX11_hire 51 = .ok (.getfield 105, 3) := dq_h (dq_t (dq_t (dq_t dzX11_hire_44)))
theorem dX11_hire_54 : decode cX11_hire 54 = .ok (.getfield 206, 3) := dq_h (dq_t (dq_t (dq_t (dq_t dzX11_hire_44))))
theorem dX11_hire_57 : decode cX11_hire 57 = .ok (.iload_n 1, 1) := dq_h (dq_t (dq_t (dq_t (dq_t (dq_t dzX11_hire_44)))))
theorem dX11_hire_58 : decode cX11_hire 58 = .ok (.iload_n 2, 1) := dq_h (dq_t (dq_t (dq_t (dq_t (dq_t (dq_t dzX11_hire_44))))))
theorem dX11_hire_59 : decode cX11_hire 59 = .ok (.iastore, 1) := dq_h (dq_t (dq_t (dq_t (dq_t (dq_t (dq_t (dq_t dzX11_hire_44)))))))
theorem dX11_hire_60 : decode cX11_hire 60 = .ok (.iconst 1, 1) := dq_h (dq_t (dq_t (dq_t (dq_t (dq_t (dq_t (dq_t (dq_t dzX11_hire_44))))))))
theorem dX11_hire_61 : decode cX11_hire 61 = .ok (.ireturn, 1) := dq_h (dq_t (dq_t (dq_t (dq_t (dq_t (dq_t (dq_t (dq_t (dq_t dzX11_hire_44)))))))))
theorem dzX11_dismiss_0 : dq_F cX11_dismiss [(0, .aload_n 0, 1), (1, .iload_n 1, 1), (2, .invokevirtual 191, 3), (5, .aload_n 0, 1), (6, .getfield 19, 3), (9, .getfield 105, 3), (12, .getfield 206, 3), (15, .iload_n 1, 1), (16, .iaload, 1), (17, .istore_n 2, 1), (18, .iload_n 2, 1), (19, .iconst (-1), 1), (20, .if_icmp .ne 12, 3), (23, .aload_n 0, 1), (24, .getfield 19, 3), (27, .iconst 1, 1), (28, .invokevirtual 93, 3), (31, .ireturn, 1), (32, .aload_n 0, 1), (33, .getfield 19, 3), (36, .invokevirtual 218, 3), (39, .aload_n 0, 1), (40, .getfield 19, 3), (43, .getfield 105, 3)] := dq_s 24 0 (by decide +kernel)
theorem dX11_dismiss_0 : decode cX11_dismiss 0 = .ok (.aload_n 0, 1) := dq_h dzX11_dismiss_0
theorem dX11_dismiss_1 : decode cX11_dismiss 1 = .ok (.iload_n 1, 1) := dq_h (dq_t dzX11_dismiss_0)
theorem dX11_dismiss_2 : decode cX11_dismiss 2 = .ok (.invokevirtual 191, 3) := dq_h (dq_t (dq_t dzX11_dismiss_0))
theorem dX11_dismiss_5 : decode cX11_dismiss 5 = .ok (.aload_n 0, 1) := dq_h (dq_t (dq_t (dq_t dzX11_dismiss_0)))
theorem dX11_dismiss_6 : decode cX11_dismiss 6 = .ok (.getfield 19, 3) := dq_h (dq_t (dq_t (dq_t (dq_t dzX11_dismiss_0))))
theorem dX11_dismiss_9 : decode cX11_dismiss 9 = .ok (.getfield 105, 3) := dq_h (dq_t (dq_t (dq_t (dq_t (dq_t dzX11_dismiss_0)))))
theorem dX11_dismiss_12 : decode cX11_dismiss 12 = .ok (.getfield 206, 3) := dq_h (dq_t (dq_t (dq_t (dq_t (dq_t (dq_t dzX11_dismiss_0))))))
theorem dX11_dismiss_15 : decode cX11_dismiss 15 = .ok (.iload_n 1, 1) := dq_h (dq_t (dq_t (dq_t (dq_t (dq_t (dq_t (dq_t dzX11_dismiss_0)))))))
theorem dX11_dismiss_16 : decode cX11_dismiss 16 = .ok (.iaload, 1) := dq_h (dq_t (dq_t (dq_t (dq_t (dq_t (dq_t (dq_t (dq_t dzX11_dismiss_0))))))))
theorem dX11_dismiss_17 : decode cX11_dismiss 17 = .ok (.istore_n 2, 1) := dq_h (dq_t (dq_t (dq_t (dq_t (dq_t (dq_t (dq_t (dq_t (dq_t dzX11_dismiss_0)))))))))
theorem dX11_dismiss_18 : decode cX11_dismiss 18 = .ok (.iload_n 2, 1) := dq_h (dq_t (dq_t (dq_t (dq_t (dq_t (dq_t (dq_t (dq_t (dq_t (dq_t dzX11_dismiss_0))))))))))
theorem dX11_dismiss_19 : decode cX11_dismiss 19 = .ok (.iconst (-1), 1) := dq_h (dq_t (dq_t (dq_t (dq_t (dq_t (dq_t (dq_t (dq_t (dq_t (dq_t (dq_t dzX11_dismiss_0)))))))))))
theorem dX11_dismiss_20 : decode cX11_dismiss 20 = .ok (.if_icmp .ne 12, 3) := dq_h (dq_t (dq_t (dq_t (dq_t (dq_t (dq_t (dq_t (dq_t (dq_t (dq_t (dq_t (dq_t dzX11_dismiss_0))))))))))))
theorem dX11_dismiss_23 : decode cX11_dismiss 23 = .ok (.aload_n 0, 1) := dq_h (dq_t (dq_t (dq_t (dq_t (dq_t (dq_t (dq_t (dq_t (dq_t (dq_t (dq_t (dq_t (dq_t dzX11_dismiss_0)))))))))))))
theorem dX11_dismiss_24 : decode cX11_dismiss 24 = .ok (.getfield 19, 3) := dq_h (dq_t (dq_t (dq_t (dq_t (dq_t (dq_t (dq_t (dq_t (dq_t (dq_t (dq_t (dq_t (dq_t (dq_t dzX11_dismiss_0))))))))))))))
theorem dX11_dismiss_27 : decode cX11_dismiss 27 = .ok (.iconst 1, 1) := dq_h (dq_t (dq_t (dq_t (dq_t (dq_t (dq_t (dq_t (dq_t (dq_t (dq_t (dq_t (dq_t (dq_t (dq_t (dq_t dzX11_dismiss_0)))))))))))))))
theorem dX11_dismiss_28 : decode cX11_dismiss 28 = .ok (.invokevirtual 93, 3) := dq_h (dq_t (dq_t (dq_t (dq_t (dq_t (dq_t (dq_t (dq_t (dq_t (dq_t (dq_t (dq_t (dq_t (dq_t (dq_t (dq_t dzX11_dismiss_0))))))))))))))))
theorem dX11_dismiss_31 : decode cX11_dismiss 31 = .ok (.ireturn, 1) := dq_h (dq_t (dq_t (dq_t (dq_t (dq_t (dq_t (dq_t (dq_t (dq_t (dq_t (dq_t (dq_t (dq_t (dq_t (dq_t (dq_t (dq_t dzX11_dismiss_0)))))))))))))))))
theorem dX11_dismiss_32 : decode cX11_dismiss 32 = .ok (.aload_n 0, 1) := dq_h (dq_t (dq_t (dq_t (dq_t (dq_t (dq_t (dq_t (dq_t (dq_t (dq_t (dq_t (dq_t (dq_t (dq_t (dq_t (dq_t (dq_t (dq_t dzX11_dismiss_0))))))))))))))))))
theorem dX11_dismiss_33 : decode cX11_dismiss 33 = .ok (.getfield 19, 3) := dq_h (dq_t (dq_t (dq_t (dq_t (dq_t (dq_t (dq_t (dq_t (dq_t (dq_t (dq_t (dq_t (dq_t (dq_t (dq_t (dq_t (dq_t (dq_t (dq_t dzX11_dismiss_0)))))))))))))))))))
theorem dX11_dismiss_36 : decode cX11_dismiss 36 = .ok (.invokevirtual 218, 3) := dq_h (dq_t (dq_t (dq_t (dq_t (dq_t (dq_t (dq_t (dq_t (dq_t (dq_t (dq_t (dq_t (dq_t (dq_t (dq_t (dq_t (dq_t (dq_t (dq_t (dq_t dzX11_dismiss_0))))))))))))))))))))
theorem dX11_dismiss_39 : decode cX11_dismiss 39 = .ok (.aload_n 0, 1) := dq_h (dq_t (dq_t (dq_t (dq_t (dq_t (dq_t (dq_t (dq_t (dq_t (dq_t (dq_t (dq_t (dq_t (dq_t (dq_t (dq_t (dq_t (dq_t (dq_t (dq_t (dq_t dzX11_dismiss_0)))))))))))))))))))))
theorem dX11_dismiss_40 : decode cX11_dismiss 40 = .ok (.getfield 19, 3) := dq_h (dq_t (dq_t (dq_t (dq_t (dq_t (dq_t (dq_t (dq_t (dq_t (dq_t (dq_t (dq_t (dq_t (dq_t (dq_t (dq_t (dq_t (dq_t (dq_t (dq_t (dq_t (dq_t dzX11_dismiss_0))))))))))))))))))))))
theorem dX11_dismiss_43 : decode cX11_dismiss 43 = .ok (.getfield 105, 3) := dq_h (dq_t (dq_t (dq_t (dq_t (dq_t (dq_t (dq_t (dq_t (dq_t (dq_t (dq_t (dq_t (dq_t (dq_t (dq_t (dq_t (dq_t (dq_t (dq_t (dq_t (dq_t (dq_t (dq_t dzX11_dismiss_0)))))))))))))))))))))))
theorem dzX11_dismiss_46 : dq_F cX11_dismiss [(46, .getfield 206, 3), (49, .iload_n 1, 1), (50, .iconst (-1), 1), (51, .iastore, 1), (52, .iload_n 2, 1), (53, .ireturn, 1)] := dq_s 6 46 (by decide +kernel)
theorem dX11_dismiss_46 : decode cX11_dismiss 46 = .ok (.getfield 206, 3) := dq_h dzX11_dismiss_46
theorem dX11_dismiss_49 : decode cX11_dismiss 49 = .ok (.iload_n 1, 1) := dq_h (dq_t dzX11_dismiss_46)
theorem dX11_dismiss_50 : decode cX11_dismiss 50 = .ok (.iconst (-1), 1) := dq_h (dq_t (dq_t dzX11_dismiss_46))
theorem dX11_dismiss_51 : decode cX11_dismiss 51 = .ok (.iastore, 1) := dq_h (dq_t (dq_t (dq_t dzX11_dismiss_46)))
theorem dX11_dismiss_52 : decode cX11_dismiss 52 = .ok (.iload_n 2, 1) := dq_h (dq_t (dq_t (dq_t (dq_t dzX11_dismiss_46))))
theorem dX11_dismiss_53 : decode cX11_dismiss 53 = .ok (.ireturn, 1) := dq_h (dq_t (dq_t (dq_t (dq_t (dq_t dzX11_dismiss_46)))))
theorem dzX11_confess_0 : dq_F cX11_confess [(0, .aload_n 0, 1), (1, .iload_n 1, 1), (2, .invokevirtual 191, 3), (5, .aload_n 0, 1), (6, .getfield 19, 3), (9, .getfield 105, 3), (12, .astore_n 2, 1), (13, .aload_n 2, 1), (14, .getfield 200, 3), (17, .iload_n 1, 1), (18, .iaload, 1), (19, .bipush 50, 2), (21, .if_icmp .ge 12, 3), (24, .aload_n 0, 1), (25, .getfield 19, 3), (28, .iconst 1, 1), (29, .invokevirtual 93, 3), (32, .ireturn, 1), (33, .aload_n 0, 1), (34, .getfield 19, 3), (37, .invokevirtual 218, 3), (40, .aload_n 2, 1), (41, .getfield 200, 3), (44, .iload_n 1, 1)] := dq_s 24 0 (by decide +kernel)
theorem dX11_confess_0 : decode cX11_confess 0 = .ok (.aload_n 0, 1) := dq_h dzX11_confess_0
theorem dX11_confess_1 : decode cX11_confess 1 = .ok (.iload_n 1, 1) := dq_h (dq_t dzX11_confess_0)
theorem dX11_confess_2 : decode cX11_confess 2 = .ok (.invokevirtual 191, 3) := dq_h (dq_t (dq_t dzX11_confess_0))
theorem dX11_confess_5 : decode cX11_confess 5 = .ok (.aload_n 0, 1) := dq_h (dq_t (dq_t (dq_t dzX11_confess_0)))
theorem dX11_confess_6 : decode cX11_confess 6 = .ok (.getfield 19, 3) := dq_h (dq_t (dq_t (dq_t (dq_t dzX11_confess_0))))
theorem dX11_confess_9 : decode cX11_confess 9 = .ok (.getfield 105, 3) := dq_h (dq_t (dq_t (dq_t (dq_t (dq_t dzX11_confess_0)))))
theorem dX11_confess_12 : decode cX11_confess 12 = .ok (.astore_n 2, 1) := dq_h (dq_t (dq_t (dq_t (dq_t (dq_t (dq_t dzX11_confess_0))))))
theorem dX11_confess_13 : decode cX11_confess 13 = .ok (.aload_n 2, 1) := dq_h (dq_t (dq_t (dq_t (dq_t (dq_t (dq_t (dq_t dzX11_confess_0)))))))
theorem dX11_confess_14 : decode cX11_confess 14 = .ok (.getfield 200, 3) := dq_h (dq_t (dq_t (dq_t (dq_t (dq_t (dq_t (dq_t (dq_t dzX11_confess_0))))))))
theorem dX11_confess_17 : decode cX11_confess 17 = .ok (.iload_n 1, 1) := dq_h (dq_t (dq_t (dq_t (dq_t (dq_t (dq_t (dq_t (dq_t (dq_t dzX11_confess_0)))))))))
theorem dX11_confess_18 : decode cX11_confess 18 = .ok (.iaload, 1) := dq_h (dq_t (dq_t (dq_t (dq_t (dq_t (dq_t (dq_t (dq_t (dq_t (dq_t dzX11_confess_0))))))))))
theorem dX11_confess_19 : decode cX11_confess 19 = .ok (.bipush 50, 2) := dq_h (dq_t (dq_t (dq_t (dq_t (dq_t (dq_t (dq_t (dq_t (dq_t (dq_t (dq_t dzX11_confess_0)))))))))))
theorem dX11_confess_21 : decode cX11_confess 21 = .ok (.if_icmp .ge 12, 3) := dq_h (dq_t (dq_t (dq_t (dq_t (dq_t (dq_t (dq_t (dq_t (dq_t (dq_t (dq_t (dq_t dzX11_confess_0))))))))))))
theorem dX11_confess_24 : decode cX11_confess 24 = .ok (.aload_n 0, 1) := dq_h (dq_t (dq_t (dq_t (dq_t (dq_t (dq_t (dq_t (dq_t (dq_t (dq_t (dq_t (dq_t (dq_t dzX11_confess_0)))))))))))))
theorem dX11_confess_25 : decode cX11_confess 25 = .ok (.getfield 19, 3) := dq_h (dq_t (dq_t (dq_t (dq_t (dq_t (dq_t (dq_t (dq_t (dq_t (dq_t (dq_t (dq_t (dq_t (dq_t dzX11_confess_0))))))))))))))
theorem dX11_confess_28 : decode cX11_confess 28 = .ok (.iconst 1, 1) := dq_h (dq_t (dq_t (dq_t (dq_t (dq_t (dq_t (dq_t (dq_t (dq_t (dq_t (dq_t (dq_t (dq_t (dq_t (dq_t dzX11_confess_0)))))))))))))))
theorem dX11_confess_29 : decode cX11_confess 29 = .ok (.invokevirtual 93, 3) := dq_h (dq_t (dq_t (dq_t (dq_t (dq_t (dq_t (dq_t (dq_t (dq_t (dq_t (dq_t (dq_t (dq_t (dq_t (dq_t (dq_t dzX11_confess_0))))))))))))))))
theorem dX11_confess_32 : decode cX11_confess 32 = .ok (.ireturn, 1) := dq_h (dq_t (dq_t (dq_t (dq_t (dq_t (dq_t (dq_t (dq_t (dq_t (dq_t (dq_t (dq_t (dq_t (dq_t (dq_t (dq_t (dq_t dzX11_confess_0)))))))))))))))))
theorem dX11_confess_33 : decode cX11_confess 33 = .ok (.aload_n 0, 1) := dq_h (dq_t (dq_t (dq_t (dq_t (dq_t (dq_t (dq_t (dq_t (dq_t (dq_t (dq_t (dq_t (dq_t (dq_t (dq_t (dq_t (dq_t (dq_t dzX11_confess_0))))))))))))))))))
theorem dX11_confess_34 : decode cX11_confess 34 = .ok (.getfield 19, 3) := dq_h (dq_t (dq_t (dq_t (dq_t (dq_t (dq_t (dq_t (dq_t (dq_t (dq_t (dq_t (dq_t (dq_t (dq_t (dq_t (dq_t (dq_t (dq_t (dq_t dzX11_confess_0)))))))))))))))))))
theorem dX11_confess_37 : decode cX11_confess 37 = .ok (.invokevirtual 218, 3) := dq_h (dq_t (dq_t (dq_t (dq_t (dq_t (dq_t (dq_t (dq_t (dq_t (dq_t (dq_t (dq_t (dq_t (dq_t (dq_t (dq_t (dq_t (dq_t (dq_t (dq_t dzX11_confess_0))))))))))))))))))))
theorem dX11_confess_40 : decode cX11_confess 40 = .ok (.aload_n 2, 1) := dq_h (dq_t (dq_t (dq_t (dq_t (dq_t (dq_t (dq_t (dq_t (dq_t (dq_t (dq_t (dq_t (dq_t (dq_t (dq_t (dq_t (dq_t (dq_t (dq_t (dq_t (dq_t dzX11_confess_0)))))))))))))))))))))
theorem dX11_confess_41 : decode cX11_confess 41 = .ok (.getfield 200, 3) := dq_h (dq_t (dq_t (dq_t (dq_t (dq_t (dq_t (dq_t (dq_t (dq_t (dq_t (dq_t (dq_t (dq_t (dq_t (dq_t (dq_t (dq_t (dq_t (dq_t (dq_t (dq_t (dq_t dzX11_confess_0))))))))))))))))))))))
theorem dX11_confess_44 : decode cX11_confess 44 = .ok (.iload_n 1, 1) := dq_h (dq_t (dq_t (dq_t (dq_t (dq_t (dq_t (dq_t (dq_t (dq_t (dq_t (dq_t (dq_t (dq_t (dq_t (dq_t (dq_t (dq_t (dq_t (dq_t (dq_t (dq_t (dq_t (dq_t dzX11_confess_0)))))))))))))))))))))))
theorem dzX11_confess_45 : dq_F cX11_confess [(45, .dup2, 1), (46, .iaload, 1), (47, .bipush 50, 2), (49, .isub, 1), (50, .iastore, 1), (51, .aload_n 2, 1), (52, .getfield 197, 3), (55, .iload_n 1, 1), (56, .dup2, 1), (57, .iaload, 1), (58, .iconst 2, 1), (59, .idiv, 1), (60, .iastore, 1), (61, .aload_n 2, 1), (62, .getfield 197, 3), (65, .iload_n 1, 1), (66, .iaload, 1), (67, .ireturn, 1)] := dq_s 18 45 (by decide +kernel)
theorem dX11_confess_45 : decode cX11_confess 45 = .ok (.dup2, 1) := dq_h dzX11_confess_45
theorem dX11_confess_46 : decode cX11_confess 46 = .ok (.iaload, 1) := dq_h (dq_t dzX11_confess_45)
theorem dX11_confess_47 : decode cX11_confess 47 = .ok (.bipush 50, 2) := dq_h (dq_t (dq_t dzX11_confess_45))
theorem dX11_confess_49 : decode cX11_confess 49 = .ok (.isub, 1) := dq_h (dq_t (dq_t (dq_t dzX11_confess_45)))
theorem dX11_confess_50 : decode cX11_confess 50 = .ok (.iastore, 1) := dq_h (dq_t (dq_t (dq_t (dq_t dzX11_confess_45))))
theorem dX11_confess_51 : decode cX11_confess 51 = .ok (.aload_n 2, 1) := dq_h (dq_t (dq_t (dq_t (dq_t (dq_t dzX11_confess_45)))))
theorem dX11_confess_52 : decode cX11_confess 52 = .ok (.getfield 197, 3) := dq_h (dq_t (dq_t (dq_t (dq_t (dq_t (dq_t dzX11_confess_45))))))
theorem dX11_confess_55 : decode cX11_confess 55 = .ok (.iload_n 1, 1) := dq_h (dq_t (dq_t (dq_t (dq_t (dq_t (dq_t (dq_t dzX11_confess_45)))))))
theorem dX11_confess_56 : decode cX11_confess 56 = .ok (.dup2, 1) := dq_h (dq_t (dq_t (dq_t (dq_t (dq_t (dq_t (dq_t (dq_t dzX11_confess_45))))))))
theorem dX11_confess_57 : decode cX11_confess 57 = .ok (.iaload, 1) := dq_h (dq_t (dq_t (dq_t (dq_t (dq_t (dq_t (dq_t (dq_t (dq_t dzX11_confess_45)))))))))
theorem dX11_confess_58 : decode cX11_confess 58 = .ok (.iconst 2, 1) := dq_h (dq_t (dq_t (dq_t (dq_t (dq_t (dq_t (dq_t (dq_t (dq_t (dq_t dzX11_confess_45))))))))))
theorem dX11_confess_59 : decode cX11_confess 59 = .ok (.idiv, 1) := dq_h (dq_t (dq_t (dq_t (dq_t (dq_t (dq_t (dq_t (dq_t (dq_t (dq_t (dq_t dzX11_confess_45)))))))))))
theorem dX11_confess_60 : decode cX11_confess 60 = .ok (.iastore, 1) := dq_h (dq_t (dq_t (dq_t (dq_t (dq_t (dq_t (dq_t (dq_t (dq_t (dq_t (dq_t (dq_t dzX11_confess_45))))))))))))
theorem dX11_confess_61 : decode cX11_confess 61 = .ok (.aload_n 2, 1) := dq_h (dq_t (dq_t (dq_t (dq_t (dq_t (dq_t (dq_t (dq_t (dq_t (dq_t (dq_t (dq_t (dq_t dzX11_confess_45)))))))))))))
theorem dX11_confess_62 : decode cX11_confess 62 = .ok (.getfield 197, 3) := dq_h (dq_t (dq_t (dq_t (dq_t (dq_t (dq_t (dq_t (dq_t (dq_t (dq_t (dq_t (dq_t (dq_t (dq_t dzX11_confess_45))))))))))))))
theorem dX11_confess_65 : decode cX11_confess 65 = .ok (.iload_n 1, 1) := dq_h (dq_t (dq_t (dq_t (dq_t (dq_t (dq_t (dq_t (dq_t (dq_t (dq_t (dq_t (dq_t (dq_t (dq_t (dq_t dzX11_confess_45)))))))))))))))
theorem dX11_confess_66 : decode cX11_confess 66 = .ok (.iaload, 1) := dq_h (dq_t (dq_t (dq_t (dq_t (dq_t (dq_t (dq_t (dq_t (dq_t (dq_t (dq_t (dq_t (dq_t (dq_t (dq_t (dq_t dzX11_confess_45))))))))))))))))
theorem dX11_confess_67 : decode cX11_confess 67 = .ok (.ireturn, 1) := dq_h (dq_t (dq_t (dq_t (dq_t (dq_t (dq_t (dq_t (dq_t (dq_t (dq_t (dq_t (dq_t (dq_t (dq_t (dq_t (dq_t (dq_t dzX11_confess_45)))))))))))))))))
theorem dzX11_drain_0 : dq_F cX11_drain [(0, .aload_n 0, 1), (1, .iload_n 1, 1), (2, .invokevirtual 162, 3), (5, .aload_n 0, 1), (6, .getfield 19, 3), (9, .getfield 105, 3), (12, .iload_n 1, 1), (13, .invokevirtual 178, 3), (16, .iload_n 2, 1), (17, .if_icmp .ne 14, 3), (20, .aload_n 0, 1), (21, .getfield 19, 3), (24, .iconst 1, 1), (25, .invokevirtual 93, 3), (28, .pop, 1), (29, .iconst 0, 1), (30, .ireturn, 1), (31, .aload_n 0, 1), (32, .getfield 19, 3), (35, .invokevirtual 218, 3), (38, .aload_n 0, 1), (39, .getfield 19, 3), (42, .getfield 105, 3), (45, .iload_n 1, 1)] := dq_s 24 0 (by decide +kernel)
theorem dX11_drain_0 : decode cX11_drain 0 = .ok (.aload_n 0, 1) := dq_h dzX11_drain_0
theorem dX11_drain_1 : decode cX11_drain 1 = .ok (.iload_n 1, 1) := dq_h (dq_t dzX11_drain_0)
theorem dX11_drain_2 : decode cX11_drain 2 = .ok (.invokevirtual 162, 3) := dq_h (dq_t (dq_t dzX11_drain_0))
theorem dX11_drain_5 : decode cX11_drain 5 = .ok (.aload_n 0, 1) := dq_h (dq_t (dq_t (dq_t dzX11_drain_0)))
theorem dX11_drain_6 : decode cX11_drain 6 = .ok (.getfield 19, 3) := dq_h (dq_t (dq_t (dq_t (dq_t dzX11_drain_0))))
theorem dX11_drain_9 : decode cX11_drain 9 = .ok (.getfield 105, 3) := dq_h (dq_t (dq_t (dq_t (dq_t (dq_t dzX11_drain_0)))))
theorem dX11_drain_12 : decode cX11_drain 12 = .ok (.iload_n 1, 1) := dq_h (dq_t (dq_t (dq_t (dq_t (dq_t (dq_t dzX11_drain_0))))))
theorem dX11_drain_13 : decode cX11_drain 13 = .ok (.invokevirtual 178, 3) := dq_h (dq_t (dq_t (dq_t (dq_t (dq_t (dq_t (dq_t dzX11_drain_0)))))))
theorem dX11_drain_16 : decode cX11_drain 16 = .ok (.iload_n 2, 1) := dq_h (dq_t (dq_t (dq_t (dq_t (dq_t (dq_t (dq_t (dq_t dzX11_drain_0))))))))
theorem dX11_drain_17 : decode cX11_drain 17 = .ok (.if_icmp .ne 14, 3) := dq_h (dq_t (dq_t (dq_t (dq_t (dq_t (dq_t (dq_t (dq_t (dq_t dzX11_drain_0)))))))))
theorem dX11_drain_20 : decode cX11_drain 20 = .ok (.aload_n 0, 1) := dq_h (dq_t (dq_t (dq_t (dq_t (dq_t (dq_t (dq_t (dq_t (dq_t (dq_t dzX11_drain_0))))))))))
theorem dX11_drain_21 : decode cX11_drain 21 = .ok (.getfield 19, 3) := dq_h (dq_t (dq_t (dq_t (dq_t (dq_t (dq_t (dq_t (dq_t (dq_t (dq_t (dq_t dzX11_drain_0)))))))))))
theorem dX11_drain_24 : decode cX11_drain 24 = .ok (.iconst 1, 1) := dq_h (dq_t (dq_t (dq_t (dq_t (dq_t (dq_t (dq_t (dq_t (dq_t (dq_t (dq_t (dq_t dzX11_drain_0))))))))))))
theorem dX11_drain_25 : decode cX11_drain 25 = .ok (.invokevirtual 93, 3) := dq_h (dq_t (dq_t (dq_t (dq_t (dq_t (dq_t (dq_t (dq_t (dq_t (dq_t (dq_t (dq_t (dq_t dzX11_drain_0)))))))))))))
theorem dX11_drain_28 : decode cX11_drain 28 = .ok (.pop, 1) := dq_h (dq_t (dq_t (dq_t (dq_t (dq_t (dq_t (dq_t (dq_t (dq_t (dq_t (dq_t (dq_t (dq_t (dq_t dzX11_drain_0))))))))))))))
theorem dX11_drain_29 : decode cX11_drain 29 = .ok (.iconst 0, 1) := dq_h (dq_t (dq_t (dq_t (dq_t (dq_t (dq_t (dq_t (dq_t (dq_t (dq_t (dq_t (dq_t (dq_t (dq_t (dq_t dzX11_drain_0)))))))))))))))
theorem dX11_drain_30 : decode cX11_drain 30 = .ok (.ireturn, 1) := dq_h (dq_t (dq_t (dq_t (dq_t (dq_t (dq_t (dq_t (dq_t (dq_t (dq_t (dq_t (dq_t (dq_t (dq_t (dq_t (dq_t dzX11_drain_0))))))))))))))))
theorem dX11_drain_31 : decode cX11_drain 31 = .ok (.aload_n 0, 1) := dq_h (dq_t (dq_t (dq_t (dq_t (dq_t (dq_t (dq_t (dq_t (dq_t (dq_t (dq_t (dq_t (dq_t (dq_t (dq_t (dq_t (dq_t dzX11_drain_0)))))))))))))))))
theorem dX11_drain_32 : decode cX11_drain 32 = .ok (.getfield 19, 3) := dq_h (dq_t (dq_t (dq_t (dq_t (dq_t (dq_t (dq_t (dq_t (dq_t (dq_t (dq_t (dq_t (dq_t (dq_t (dq_t (dq_t (dq_t (dq_t dzX11_drain_0))))))))))))))))))
theorem dX11_drain_35 : decode cX11_drain 35 = .ok (.invokevirtual 218, 3) := dq_h (dq_t (dq_t (dq_t (dq_t (dq_t (dq_t (dq_t (dq_t (dq_t (dq_t (dq_t (dq_t (dq_t (dq_t (dq_t (dq_t (dq_t (dq_t (dq_t dzX11_drain_0)))))))))))))))))))
theorem dX11_drain_38 : decode cX11_drain 38 = .ok (.aload_n 0, 1) := dq_h (dq_t (dq_t (dq_t (dq_t (dq_t (dq_t (dq_t (dq_t (dq_t (dq_t (dq_t (dq_t (dq_t (dq_t (dq_t (dq_t (dq_t (dq_t (dq_t (dq_t dzX11_drain_0))))))))))))))))))))
theorem dX11_drain_39 : decode cX11_drain 39 = .ok (.getfield 19, 3) := dq_h (dq_t (dq_t (dq_t (dq_t (dq_t (dq_t (dq_t (dq_t (dq_t (dq_t (dq_t (dq_t (dq_t (dq_t (dq_t (dq_t (dq_t (dq_t (dq_t (dq_t (dq_t dzX11_drain_0)))))))))))))))))))))
theorem dX11_drain_42 : decode cX11_drain 42 = .ok (.getfield 105, 3) := dq_h (dq_t (dq_t (dq_t (dq_t (dq_t (dq_t (dq_t (dq_t (dq_t (dq_t (dq_t (dq_t (dq_t (dq_t (dq_t (dq_t (dq_t (dq_t (dq_t (dq_t (dq_t (dq_t dzX11_drain_0))))))))))))))))))))))
theorem dX11_drain_45 : decode cX11_drain 45 = .ok (.iload_n 1, 1) := dq_h (dq_t (dq_t (dq_t (dq_t (dq_t (dq_t (dq_t (dq_t (dq_t (dq_t (dq_t (dq_t (dq_t (dq_t (dq_t (dq_t (dq_t (dq_t (dq_t (dq_t (dq_t (dq_t (dq_t dzX11_drain_0)))))))))))))))))))))))
theorem dzX11_drain_46 : dq_F cX11_drain [(46, .invokevirtual 225, 3), (49, .iconst 1, 1), (50, .ireturn, 1)] := dq_s 3 46 (by decide +kernel)
theorem dX11_drain_46 : decode cX11_drain 46 = .ok (.invokevirtual 225, 3) := dq_h dzX11_drain_46
theorem dX11_drain_49 : decode cX11_drain 49 = .ok (.iconst 1, 1) := dq_h (dq_t dzX11_drain_46)
theorem dX11_drain_50 : decode cX11_drain 50 = .ok (.ireturn, 1) := dq_h (dq_t (dq_t dzX11_drain_46))
theorem dzX11_give_0 : dq_F cX11_give [(0, .aload_n 0, 1), (1, .iload_n 1, 1), (2, .invokevirtual 191, 3), (5, .iload_n 2, 1), (6, .iconst 1, 1), (7, .bipush 100, 2), (9, .invokestatic 214, 3), (12, .ifCond .ne 12, 3), (15, .aload_n 0, 1), (16, .getfield 19, 3), (19, .iconst 1, 1), (20, .invokevirtual 93, 3), (23, .ireturn, 1), (24, .aload_n 0, 1), (25, .getfield 19, 3), (28, .invokevirtual 218, 3), (31, .aload_n 0, 1), (32, .getfield 19, 3), (35, .getfield 105, 3), (38, .iload_n 1, 1), (39, .iload_n 2, 1), (40, .invokevirtual 228, 3), (43, .aload_n 0, 1), (44, .getfield 19, 3)] := dq_s 24 0 (by decide +kernel)
theorem dX11_give_0 : decode cX11_give 0 = .ok (.aload_n 0, 1) := dq_h dzX11_give_0
theorem dX11_give_1 : decode cX11_give 1 = .ok (.iload_n 1, 1) := dq_h (dq_t dzX11_give_0)
theorem dX11_give_2 : decode cX11_give 2 = .ok (.invokevirtual 191, 3) := dq_h (dq_t (dq_t dzX11_give_0))
theorem dX11_give_5 : decode cX11_give 5 = .ok (.iload_n 2, 1) := dq_h (dq_t (dq_t (dq_t dzX11_give_0)))
theorem dX11_give_6 : decode cX11_give 6 = .ok (.iconst 1, 1) := dq_h (dq_t (dq_t (dq_t (dq_t dzX11_give_0))))
theorem dX11_give_7 : decode cX11_give 7 = .ok (.bipush 100, 2) := dq_h (dq_t (dq_t (dq_t (dq_t (dq_t dzX11_give_0)))))
theorem dX11_give_9 : decode cX11_give 9 = .ok (.invokestatic 214, 3) := dq_h (dq_t (dq_t (dq_t (dq_t (dq_t (dq_t dzX11_give_0))))))
theorem dX11_give_12 : decode cX11_give 12 = .ok (.ifCond .ne 12, 3) := dq_h (dq_t (dq_t (dq_t (dq_t (dq_t (dq_t (dq_t dzX11_give_0)))))))
theorem dX11_give_15 : decode cX11_give 15 = .ok (.aload_n 0, 1) := dq_h (dq_t (dq_t (dq_t (dq_t (dq_t (dq_t (dq_t (dq_t dzX11_give_0))))))))
theorem dX11_give_16 : decode cX11_give 16 = .ok (.getfield 19, 3) := dq_h (dq_t (dq_t (dq_t (dq_t (dq_t (dq_t (dq_t (dq_t (dq_t dzX11_give_0)))))))))
theorem dX11_give_19 : decode cX11_give 19 = .ok (.iconst 1, 1) := dq_h (dq_t (dq_t (dq_t (dq_t (dq_t (dq_t (dq_t (dq_t (dq_t (dq_t dzX11_give_0))))))))))
theorem dX11_give_20 : decode cX11_give 20 = .ok (.invokevirtual 93, 3) := dq_h (dq_t (dq_t (dq_t (dq_t (dq_t (dq_t (dq_t (dq_t (dq_t (dq_t (dq_t dzX11_give_0)))))))))))
theorem dX11_give_23 : decode cX11_give 23 = .ok (.ireturn, 1) := dq_h (dq_t (dq_t (dq_t (dq_t (dq_t (dq_t (dq_t (dq_t (dq_t (dq_t (dq_t (dq_t dzX11_give_0))))))))))))
theorem dX11_give_24 : decode cX11_give 24 = .ok (.aload_n 0, 1) := dq_h (dq_t (dq_t (dq_t (dq_t (dq_t (dq_t (dq_t (dq_t (dq_t (dq_t (dq_t (dq_t (dq_t dzX11_give_0)))))))))))))
theorem dX11_give_25 : decode cX11_give 25 = .ok (.getfield 19, 3) := dq_h (dq_t (dq_t (dq_t (dq_t (dq_t (dq_t (dq_t (dq_t (dq_t (dq_t (dq_t (dq_t (dq_t (dq_t dzX11_give_0))))))))))))))
theorem dX11_give_28 : decode cX11_give 28 = .ok (.invokevirtual 218, 3) := dq_h (dq_t (dq_t (dq_t (dq_t (dq_t (dq_t (dq_t (dq_t (dq_t (dq_t (dq_t (dq_t (dq_t (dq_t (dq_t dzX11_give_0)))))))))))))))
theorem dX11_give_31 : decode cX11_give 31 = .ok (.aload_n 0, 1) := dq_h (dq_t (dq_t (dq_t (dq_t (dq_t (dq_t (dq_t (dq_t (dq_t (dq_t (dq_t (dq_t (dq_t (dq_t (dq_t (dq_t dzX11_give_0))))))))))))))))
theorem dX11_give_32 : decode cX11_give 32 = .ok (.getfield 19, 3) := dq_h (dq_t (dq_t (dq_t (dq_t (dq_t (dq_t (dq_t (dq_t (dq_t (dq_t (dq_t (dq_t (dq_t (dq_t (dq_t (dq_t (dq_t dzX11_give_0)))))))))))))))))
theorem dX11_give_35 : decode cX11_give 35 = .ok (.getfield 105, 3) := dq_h (dq_t (dq_t (dq_t (dq_t (dq_t (dq_t (dq_t (dq_t (dq_t (dq_t (dq_t (dq_t (dq_t (dq_t (dq_t (dq_t (dq_t (dq_t dzX11_give_0))))))))))))))))))
theorem dX11_give_38 : decode cX11_give 38 = .ok (.iload_n 1, 1) := dq_h (dq_t (dq_t (dq_t (dq_t (dq_t (dq_t (dq_t (dq_t (dq_t (dq_t (dq_t (dq_t (dq_t (dq_t (dq_t (dq_t (dq_t (dq_t (dq_t dzX11_give_0)))))))))))))))))))
theorem dX11_give_39 : decode cX11_give 39 = .ok (.iload_n 2, 1) := dq_h (dq_t (dq_t (dq_t (dq_t (dq_t (dq_t (dq_t (dq_t (dq_t (dq_t (dq_t (dq_t (dq_t (dq_t (dq_t (dq_t (dq_t (dq_t (dq_t (dq_t dzX11_give_0))))))))))))))))))))
theorem dX11_give_40 : decode cX11_give 40 = .ok (.invokevirtual 228, 3) := dq_h (dq_t (dq_t (dq_t (dq_t (dq_t (dq_t (dq_t (dq_t (dq_t (dq_t (dq_t (dq_t (dq_t (dq_t (dq_t (dq_t (dq_t (dq_t (dq_t (dq_t (dq_t dzX11_give_0)))))))))))))))))))))
theorem dX11_give_43 : decode cX11_give 43 = .ok (.aload_n 0, 1) := dq_h (dq_t (dq_t (dq_t (dq_t (dq_t (dq_t (dq_t (dq_t (dq_t (dq_t (dq_t (dq_t (dq_t (dq_t (dq_t (dq_t (dq_t (dq_t (dq_t (dq_t (dq_t (dq_t dzX11_give_0))))))))))))))))))))))
theorem dX11_give_44 : decode cX11_give 44 = .ok (.getfield 19, 3) := dq_h (dq_t (dq_t (dq_t (dq_t (dq_t (dq_t (dq_t (dq_t (dq_t (dq_t (dq_t (dq_t (dq_t (dq_t (dq_t (dq_t (dq_t (dq_t (dq_t (dq_t (dq_t (dq_t (dq_t dzX11_give_0)))))))))))))))))))))))
theorem dzX11_give_47 : dq_F cX11_give [(47, .getfield 105, 3), (50, .getfield 200, 3), (53, .iload_n 1, 1), (54, .iaload, 1), (55, .ireturn, 1)] := dq_s 5 47 (by decide +kernel)
theorem dX11_give_47 : decode cX11_give 47 = .ok (.getfield 105, 3) := dq_h dzX11_give_47
theorem dX11_give_50 : decode cX11_give 50 = .ok (.getfield 200, 3) := dq_h (dq_t dzX11_give_47)
theorem dX11_give_53 : decode cX11_give 53 = .ok (.iload_n 1, 1) := dq_h (dq_t (dq_t dzX11_give_47))
theorem dX11_give_54 : decode cX11_give 54 = .ok (.iaload, 1) := dq_h (dq_t (dq_t (dq_t dzX11_give_47)))
theorem dX11_give_55 : decode cX11_give 55 = .ok (.ireturn, 1) := dq_h (dq_t (dq_t (dq_t (dq_t dzX11_give_47))))
theorem dzX11_undo_0 : dq_F cX11_undo [(0, .aload_n 0, 1), (1, .getfield 19, 3), (4, .getfield 137, 3), (7, .aload_n 0, 1), (8, .getfield 19, 3), (11, .getfield 105, 3), (14, .invokevirtual 232, 3), (17, .ireturn, 1)] := dq_s 8 0 (by decide +kernel)
theorem dX11_undo_0 : decode cX11_undo 0 = .ok (.aload_n 0, 1) := dq_h dzX11_undo_0
theorem dX11_undo_1 : decode cX11_undo 1 = .ok (.getfield 19, 3) := dq_h (dq_t dzX11_undo_0)
theorem dX11_undo_4 : decode cX11_undo 4 = .ok (.getfield 137, 3) := dq_h (dq_t (dq_t dzX11_undo_0))
theorem dX11_undo_7 : decode cX11_undo 7 = .ok (.aload_n 0, 1) := dq_h (dq_t (dq_t (dq_t dzX11_undo_0)))
theorem dX11_undo_8 : decode cX11_undo 8 = .ok (.getfield 19, 3) := dq_h (dq_t (dq_t (dq_t (dq_t dzX11_undo_0))))
theorem dX11_undo_11 : decode cX11_undo 11 = .ok (.getfield 105, 3) := dq_h (dq_t (dq_t (dq_t (dq_t (dq_t dzX11_undo_0)))))
theorem dX11_undo_14 : decode cX11_undo 14 = .ok (.invokevirtual 232, 3) := dq_h (dq_t (dq_t (dq_t (dq_t (dq_t (dq_t dzX11_undo_0))))))
theorem dX11_undo_17 : decode cX11_undo 17 = .ok (.ireturn, 1) := dq_h (dq_t (dq_t (dq_t (dq_t (dq_t (dq_t (dq_t dzX11_undo_0)))))))
theorem dzX11_then_0 : dq_F cX11_then [(0, .aload_n 0, 1), (1, .iload_n 1, 1), (2, .invokevirtual 191, 3), (5, .iload_n 3, 1), (6, .iconst 3, 1), (7, .invokestatic 236, 3), (10, .iload_n 2, 1), (11, .iconst 0, 1), (12, .bipush 60, 2), (14, .invokestatic 239, 3), (17, .aload_n 0, 1), (18, .getfield 36, 3), (21, .aload_n 0, 1), (22, .getfield 57, 3), (25, .aload_n 0, 1), (26, .getfield 19, 3), (29, .getfield 105, 3), (32, .iload_n 1, 1), (33, .invokevirtual 243, 3), (36, .aload_n 0, 1), (37, .getfield 36, 3), (40, .aload_n 0, 1), (41, .getfield 57, 3), (44, .iload_n 2, 1)] := dq_s 24 0 (by decide +kernel)
theorem dX11_then_0 : decode cX11_then 0 = .ok (.aload_n 0, 1) := dq_h dzX11_then_0
theorem dX11_then_1 : decode cX11_then 1 = .ok (.iload_n 1, 1) := dq_h (dq_t dzX11_then_0)
theorem dX11_then_2 : decode cX11_then 2 = .ok (.invokevirtual 191, 3) := dq_h (dq_t (dq_t dzX11_then_0))
theorem dX11_then_5 : decode cX11_then 5 = .ok (.iload_n 3, 1) := dq_h (dq_t (dq_t (dq_t dzX11_then_0)))
theorem dX11_then_6 : decode cX11_then 6 = .ok (.iconst 3, 1) := dq_h (dq_t (dq_t (dq_t (dq_t dzX11_then_0))))
theorem dX11_then_7 : decode cX11_then 7 = .ok (.invokestatic 236, 3) := dq_h (dq_t (dq_t (dq_t (dq_t (dq_t dzX11_then_0)))))
theorem dX11_then_10 : decode cX11_then 10 = .ok (.iload_n 2, 1) := dq_h (dq_t (dq_t (dq_t (dq_t (dq_t (dq_t dzX11_then_0))))))
theorem dX11_then_11 : decode cX11_then 11 = .ok (.iconst 0, 1) := dq_h (dq_t (dq_t (dq_t (dq_t (dq_t (dq_t (dq_t dzX11_then_0)))))))
theorem dX11_then_12 : decode cX11_then 12 = .ok (.bipush 60, 2) := dq_h (dq_t (dq_t (dq_t (dq_t (dq_t (dq_t (dq_t (dq_t dzX11_then_0))))))))
theorem dX11_then_14 : decode cX11_then 14 = .ok (.invokestatic 239, 3) := dq_h (dq_t (dq_t (dq_t (dq_t (dq_t (dq_t (dq_t (dq_t (dq_t dzX11_then_0)))))))))
theorem dX11_then_17 : decode cX11_then 17 = .ok (.aload_n 0, 1) := dq_h (dq_t (dq_t (dq_t (dq_t (dq_t (dq_t (dq_t (dq_t (dq_t (dq_t dzX11_then_0))))))))))
theorem dX11_then_18 : decode cX11_then 18 = .ok (.getfield 36, 3) := dq_h (dq_t (dq_t (dq_t (dq_t (dq_t (dq_t (dq_t (dq_t (dq_t (dq_t (dq_t dzX11_then_0)))))))))))
theorem dX11_then_21 : decode cX11_then 21 = .ok (.aload_n 0, 1) := dq_h (dq_t (dq_t (dq_t (dq_t (dq_t (dq_t (dq_t (dq_t (dq_t (dq_t (dq_t (dq_t dzX11_then_0))))))))))))
theorem dX11_then_22 : decode cX11_then 22 = .ok (.getfield 57, 3) := dq_h (dq_t (dq_t (dq_t (dq_t (dq_t (dq_t (dq_t (dq_t (dq_t (dq_t (dq_t (dq_t (dq_t dzX11_then_0)))))))))))))
theorem dX11_then_25 : decode cX11_then 25 = .ok (.aload_n 0, 1) := dq_h (dq_t (dq_t (dq_t (dq_t (dq_t (dq_t (dq_t (dq_t (dq_t (dq_t (dq_t (dq_t (dq_t (dq_t dzX11_then_0))))))))))))))
theorem dX11_then_26 : decode cX11_then 26 = .ok (.getfield 19, 3) := dq_h (dq_t (dq_t (dq_t (dq_t (dq_t (dq_t (dq_t (dq_t (dq_t (dq_t (dq_t (dq_t (dq_t (dq_t (dq_t dzX11_then_0)))))))))))))))
theorem dX11_then_29 : decode cX11_then 29 = .ok (.getfield 105, 3) := dq_h (dq_t (dq_t (dq_t (dq_t (dq_t (dq_t (dq_t (dq_t (dq_t (dq_t (dq_t (dq_t (dq_t (dq_t (dq_t (dq_t dzX11_then_0))))))))))))))))
theorem dX11_then_32 : decode cX11_then 32 = .ok (.iload_n 1, 1) := dq_h (dq_t (dq_t (dq_t (dq_t (dq_t (dq_t (dq_t (dq_t (dq_t (dq_t (dq_t (dq_t (dq_t (dq_t (dq_t (dq_t (dq_t dzX11_then_0)))))))))))))))))
theorem dX11_then_33 : decode cX11_then 33 = .ok (.invokevirtual 243, 3) := dq_h (dq_t (dq_t (dq_t (dq_t (dq_t (dq_t (dq_t (dq_t (dq_t (dq_t (dq_t (dq_t (dq_t (dq_t (dq_t (dq_t (dq_t (dq_t dzX11_then_0))))))))))))))))))
theorem dX11_then_36 : decode cX11_then 36 = .ok (.aload_n 0, 1) := dq_h (dq_t (dq_t (dq_t (dq_t (dq_t (dq_t (dq_t (dq_t (dq_t (dq_t (dq_t (dq_t (dq_t (dq_t (dq_t (dq_t (dq_t (dq_t (dq_t dzX11_then_0)))))))))))))))))))
theorem dX11_then_37 : decode cX11_then 37 = .ok (.getfield 36, 3) := dq_h (dq_t (dq_t (dq_t (dq_t (dq_t (dq_t (dq_t (dq_t (dq_t (dq_t (dq_t (dq_t (dq_t (dq_t (dq_t (dq_t (dq_t (dq_t (dq_t (dq_t dzX11_then_0))))))))))))))))))))
theorem dX11_then_40 : decode cX11_then 40 = .ok (.aload_n 0, 1) := dq_h (dq_t (dq_t (dq_t (dq_t (dq_t (dq_t (dq_t (dq_t (dq_t (dq_t (dq_t (dq_t (dq_t (dq_t (dq_t (dq_t (dq_t (dq_t (dq_t (dq_t (dq_t dzX11_then_0)))))))))))))))))))))
theorem dX11_then_41 : decode cX11_then 41 = .ok (.getfield 57, 3) := dq_h (dq_t (dq_t (dq_t (dq_t (dq_t (dq_t (dq_t (dq_t (dq_t (dq_t (dq_t (dq_t (dq_t (dq_t (dq_t (dq_t (dq_t (dq_t (dq_t (dq_t (dq_t (dq_t dzX11_then_0))))))))))))))))))))))
theorem dX11_then_44 : decode cX11_then 44 = .ok (.iload_n 2, 1) := dq_h (dq_t (dq_t (dq_t (dq_t (dq_t (dq_t (dq_t (dq_t (dq_t (dq_t (dq_t (dq_t (dq_t (dq_t (dq_t (dq_t (dq_t (dq_t (dq_t (dq_t (dq_t (dq_t (dq_t dzX11_then_0)))))))))))))))))))))))
theorem dzX11_then_45 : dq_F cX11_then [(45, .invokevirtual 246, 3), (48, .iload_n 3, 1)] := dq_s 2 45 (by decide +kernel)
theorem dX11_then_45 : decode cX11_then 45 = .ok (.invokevirtual 246, 3) := dq_h dzX11_then_45
theorem dX11_then_48 : decode cX11_then 48 = .ok (.iload_n 3, 1) := dq_h (dq_t dzX11_then_45)
theorem dX11_then_49 : decode cX11_then 49 = .ok (.tableswitch 51 0 2 #[27, 35, 43], 27) := by decide +kernel
theorem dzX11_then_76 : dq_F cX11_then [(76, .aload_n 0, 1), (77, .getfield 36, 3), (80, .getfield 250, 3), (83, .ireturn, 1), (84, .aload_n 0, 1), (85, .getfield 36, 3), (88, .getfield 252, 3), (91, .ireturn, 1), (92, .aload_n 0, 1), (93, .getfield 36, 3), (96, .getfield 254, 3), (99, .ireturn, 1), (100, .aload_n 0, 1), (101, .getfield 36, 3), (104, .getfield 256, 3), (107, .ireturn, 1)] := dq_s 16 76 (by decide +kernel)
theorem dX11_then_76 : decode cX11_then 76 = .ok (.aload_n 0, 1) := dq_h dzX11_then_76
theorem dX11_then_77 : decode cX11_then 77 = .ok (.getfield 36, 3) := dq_h (dq_t dzX11_then_76)
theorem dX11_then_80 : decode cX11_then 80 = .ok (.getfield 250, 3) := dq_h (dq_t (dq_t dzX11_then_76))
theorem dX11_then_83 : decode cX11_then 83 = .ok (.ireturn, 1) := dq_h (dq_t (dq_t (dq_t dzX11_then_76)))
theorem dX11_then_84 : decode cX11_then 84 = .ok (.aload_n 0, 1) := dq_h (dq_t (dq_t (dq_t (dq_t dzX11_then_76))))
theorem dX11_then_85 : decode cX11_then 85 = .ok (.getfield 36, 3) := dq_h (dq_t (dq_t (dq_t (dq_t (dq_t dzX11_then_76)))))
theorem dX11_then_88 : decode cX11_then 88 = .ok (.getfield 252, 3) := dq_h (dq_t (dq_t (dq_t (dq_t (dq_t (dq_t dzX11_then_76))))))
theorem dX11_then_91 : decode cX11_then 91 = .ok (.ireturn, 1) := dq_h (dq_t (dq_t (dq_t (dq_t (dq_t (dq_t (dq_t dzX11_then_76)))))))
theorem dX11_then_92 : decode cX11_then 92 = .ok (.aload_n 0, 1) := dq_h (dq_t (dq_t (dq_t (dq_t (dq_t (dq_t (dq_t (dq_t dzX11_then_76))))))))
theorem dX11_then_93 : decode cX11_then 93 = .ok (.getfield 36, 3) := dq_h (dq_t (dq_t (dq_t (dq_t (dq_t (dq_t (dq_t (dq_t (dq_t dzX11_then_76)))))))))
theorem dX11_then_96 : decode cX11_then 96 = .ok (.getfield 254, 3) := dq_h (dq_t (dq_t (dq_t (dq_t (dq_t (dq_t (dq_t (dq_t (dq_t (dq_t dzX11_then_76))))))))))
theorem dX11_then_99 : decode cX11_then 99 = .ok (.ireturn, 1) := dq_h (dq_t (dq_t (dq_t (dq_t (dq_t (dq_t (dq_t (dq_t (dq_t (dq_t (dq_t dzX11_then_76)))))))))))
theorem dX11_then_100 : decode cX11_then 100 = .ok (.aload_n 0, 1) := dq_h (dq_t (dq_t (dq_t (dq_t (dq_t (dq_t (dq_t (dq_t (dq_t (dq_t (dq_t (dq_t dzX11_then_76))))))))))))
theorem dX11_then_101 : decode cX11_then 101 = .ok (.getfield 36, 3) := dq_h (dq_t (dq_t (dq_t (dq_t (dq_t (dq_t (dq_t (dq_t (dq_t (dq_t (dq_t (dq_t (dq_t dzX11_then_76)))))))))))))
theorem dX11_then_104 : decode cX11_then 104 = .ok (.getfield 256, 3) := dq_h (dq_t (dq_t (dq_t (dq_t (dq_t (dq_t (dq_t (dq_t (dq_t (dq_t (dq_t (dq_t (dq_t (dq_t dzX11_then_76))))))))))))))
theorem dX11_then_107 : decode cX11_then 107 = .ok (.ireturn, 1) := dq_h (dq_t (dq_t (dq_t (dq_t (dq_t (dq_t (dq_t (dq_t (dq_t (dq_t (dq_t (dq_t (dq_t (dq_t (dq_t dzX11_then_76)))))))))))))))
theorem dzX11_dripping_0 : dq_F cX11_dripping [(0, .iload_n 1, 1), (1, .iconst 1, 1), (2, .bipush 60, 2), (4, .invokestatic 239, 3), (7, .aload_n 0, 1), (8, .iload_n 1, 1), (9, .invokevirtual 258, 3), (12, .ireturn, 1)] := dq_s 8 0 (by decide +kernel)
theorem dX11_dripping_0 : decode cX11_dripping 0 = .ok (.iload_n 1, 1) := dq_h dzX11_dripping_0
theorem dX11_dripping_1 : decode cX11_dripping 1 = .ok (.iconst 1, 1) := dq_h (dq_t dzX11_dripping_0)
theorem dX11_dripping_2 : decode cX11_dripping 2 = .ok (.bipush 60, 2) := dq_h (dq_t (dq_t dzX11_dripping_0))
theorem dX11_dripping_4 : decode cX11_dripping 4 = .ok (.invokestatic 239, 3) := dq_h (dq_t (dq_t (dq_t dzX11_dripping_0)))
theorem dX11_dripping_7 : decode cX11_dripping 7 = .ok (.aload_n 0, 1) := dq_h (dq_t (dq_t (dq_t (dq_t dzX11_dripping_0))))
theorem dX11_dripping_8 : decode cX11_dripping 8 = .ok (.iload_n 1, 1) := dq_h (dq_t (dq_t (dq_t (dq_t (dq_t dzX11_dripping_0)))))
theorem dX11_dripping_9 : decode cX11_dripping 9 = .ok (.invokevirtual 258, 3) := dq_h (dq_t (dq_t (dq_t (dq_t (dq_t (dq_t dzX11_dripping_0))))))
theorem dX11_dripping_12 : decode cX11_dripping 12 = .ok (.ireturn, 1) := dq_h (dq_t (dq_t (dq_t (dq_t (dq_t (dq_t (dq_t dzX11_dripping_0)))))))
theorem dzX11_first_0 : dq_F cX11_first [(0, .aload_n 0, 1), (1, .iload_n 1, 1), (2, .invokevirtual 191, 3), (5, .aload_n 0, 1), (6, .getfield 36, 3), (9, .aload_n 0, 1), (10, .getfield 57, 3), (13, .aload_n 0, 1), (14, .getfield 19, 3), (17, .getfield 105, 3), (20, .iload_n 1, 1), (21, .invokevirtual 243, 3), (24, .iconst 1, 1), (25, .istore_n 2, 1), (26, .iload_n 2, 1), (27, .bipush 60, 2), (29, .if_icmp .gt 39, 3), (32, .aload_n 0, 1), (33, .getfield 36, 3), (36, .aload_n 0, 1), (37, .getfield 57, 3), (40, .aload_n 0, 1), (41, .getfield 57, 3), (44, .aload_n 0, 1)] := dq_s 24 0 (by decide +kernel)
theorem dX11_first_0 : decode cX11_first 0 = .ok (.aload_n 0, 1) := dq_h dzX11_first_0
theorem dX11_first_1 : decode cX11_first 1 = .ok (.iload_n 1, 1) := dq_h (dq_t dzX11_first_0)
theorem dX11_first_2 : decode cX11_first 2 = .ok (.invokevirtual 191, 3) := dq_h (dq_t (dq_t dzX11_first_0))
theorem dX11_first_5 : decode cX11_first 5 = .ok (.aload_n 0, 1) := dq_h (dq_t (dq_t (dq_t dzX11_first_0)))
theorem dX11_first_6 : decode cX11_first 6 = .ok (.getfield 36, 3) := dq_h (dq_t (dq_t (dq_t (dq_t dzX11_first_0))))
theorem dX11_first_9 : decode cX11_first 9 = .ok (.aload_n 0, 1) := dq_h (dq_t (dq_t (dq_t (dq_t (dq_t dzX11_first_0)))))
theorem dX11_first_10 : decode cX11_first 10 = .ok (.getfield 57, 3) := dq_h (dq_t (dq_t (dq_t (dq_t (dq_t (dq_t dzX11_first_0))))))
theorem dX11_first_13 : decode cX11_first 13 = .ok (.aload_n 0, 1) := dq_h (dq_t (dq_t (dq_t (dq_t (dq_t (dq_t (dq_t dzX11_first_0)))))))
theorem dX11_first_14 : decode cX11_first 14 = .ok (.getfield 19, 3) := dq_h (dq_t (dq_t (dq_t (dq_t (dq_t (dq_t (dq_t (dq_t dzX11_first_0))))))))
theorem dX11_first_17 : decode cX11_first 17 = .ok (.getfield 105, 3) := dq_h (dq_t (dq_t (dq_t (dq_t (dq_t (dq_t (dq_t (dq_t (dq_t dzX11_first_0)))))))))
theorem dX11_first_20 : decode cX11_first 20 = .ok (.iload_n 1, 1) := dq_h (dq_t (dq_t (dq_t (dq_t (dq_t (dq_t (dq_t (dq_t (dq_t (dq_t dzX11_first_0))))))))))
theorem dX11_first_21 : decode cX11_first 21 = .ok (.invokevirtual 243, 3) := dq_h (dq_t (dq_t (dq_t (dq_t (dq_t (dq_t (dq_t (dq_t (dq_t (dq_t (dq_t dzX11_first_0)))))))))))
theorem dX11_first_24 : decode cX11_first 24 = .ok (.iconst 1, 1) := dq_h (dq_t (dq_t (dq_t (dq_t (dq_t (dq_t (dq_t (dq_t (dq_t (dq_t (dq_t (dq_t dzX11_first_0))))))))))))
theorem dX11_first_25 : decode cX11_first 25 = .ok (.istore_n 2, 1) := dq_h (dq_t (dq_t (dq_t (dq_t (dq_t (dq_t (dq_t (dq_t (dq_t (dq_t (dq_t (dq_t (dq_t dzX11_first_0)))))))))))))
theorem dX11_first_26 : decode cX11_first 26 = .ok (.iload_n 2, 1) := dq_h (dq_t (dq_t (dq_t (dq_t (dq_t (dq_t (dq_t (dq_t (dq_t (dq_t (dq_t (dq_t (dq_t (dq_t dzX11_first_0))))))))))))))
theorem dX11_first_27 : decode cX11_first 27 = .ok (.bipush 60, 2) := dq_h (dq_t (dq_t (dq_t (dq_t (dq_t (dq_t (dq_t (dq_t (dq_t (dq_t (dq_t (dq_t (dq_t (dq_t (dq_t dzX11_first_0)))))))))))))))
theorem dX11_first_29 : decode cX11_first 29 = .ok (.if_icmp .gt 39, 3) := dq_h (dq_t (dq_t (dq_t (dq_t (dq_t (dq_t (dq_t (dq_t (dq_t (dq_t (dq_t (dq_t (dq_t (dq_t (dq_t (dq_t dzX11_first_0))))))))))))))))
theorem dX11_first_32 : decode cX11_first 32 = .ok (.aload_n 0, 1) := dq_h (dq_t (dq_t (dq_t (dq_t (dq_t (dq_t (dq_t (dq_t (dq_t (dq_t (dq_t (dq_t (dq_t (dq_t (dq_t (dq_t (dq_t dzX11_first_0)))))))))))))))))
theorem dX11_first_33 : decode cX11_first 33 = .ok (.getfield 36, 3) := dq_h (dq_t (dq_t (dq_t (dq_t (dq_t (dq_t (dq_t (dq_t (dq_t (dq_t (dq_t (dq_t (dq_t (dq_t (dq_t (dq_t (dq_t (dq_t dzX11_first_0))))))))))))))))))
theorem dX11_first_36 : decode cX11_first 36 = .ok (.aload_n 0, 1) := dq_h (dq_t (dq_t (dq_t (dq_t (dq_t (dq_t (dq_t (dq_t (dq_t (dq_t (dq_t (dq_t (dq_t (dq_t (dq_t (dq_t (dq_t (dq_t (dq_t dzX11_first_0)))))))))))))))))))
theorem dX11_first_37 : decode cX11_first 37 = .ok (.getfield 57, 3) := dq_h (dq_t (dq_t (dq_t (dq_t (dq_t (dq_t (dq_t (dq_t (dq_t (dq_t (dq_t (dq_t (dq_t (dq_t (dq_t (dq_t (dq_t (dq_t (dq_t (dq_t dzX11_first_0))))))))))))))))))))
theorem dX11_first_40 : decode cX11_first 40 = .ok (.aload_n 0, 1) := dq_h (dq_t (dq_t (dq_t (dq_t (dq_t (dq_t (dq_t (dq_t (dq_t (dq_t (dq_t (dq_t (dq_t (dq_t (dq_t (dq_t (dq_t (dq_t (dq_t (dq_t (dq_t dzX11_first_0)))))))))))))))))))))
theorem dX11_first_41 : decode cX11_first 41 = .ok (.getfield 57, 3) := dq_h (dq_t (dq_t (dq_t (dq_t (dq_t (dq_t (dq_t (dq_t (dq_t (dq_t (dq_t (dq_t (dq_t (dq_t (dq_t (dq_t (dq_t (dq_t (dq_t (dq_t (dq_t (dq_t dzX11_first_0))))))))))))))))))))))
theorem dX11_first_44 : decode cX11_first 44 = .ok (.aload_n 0, 1) := dq_h (dq_t (dq_t (dq_t (dq_t (dq_t (dq_t (dq_t (dq_t (dq_t (dq_t (dq_t (dq_t (dq_t (dq_t (dq_t (dq_t (dq_t (dq_t (dq_t (dq_t (dq_t (dq_t (dq_t dzX11_first_0)))))))))))))))))))))))
theorem dzX11_first_45 : dq_F cX11_first [(45, .getfield 36, 3), (48, .getfield 261, 3), (51, .invokevirtual 117, 3), (54, .invokevirtual 262, 3), (57, .ifCond .eq 5, 3), (60, .iload_n 2, 1), (61, .ireturn, 1), (62, .iinc 2 1, 3), (65, .goto (-39), 3), (68, .iconst (-1), 1), (69, .ireturn, 1)] := dq_s 11 45 (by decide +kernel)
theorem dX11_first_45 : decode cX11_first 45 = .ok (.getfield 36, 3) := dq_h dzX11_first_45
theorem dX11_first_48 : decode cX11_first 48 = .ok (.getfield 261, 3) := dq_h (dq_t dzX11_first_45)
theorem dX11_first_51 : decode cX11_first 51 = .ok (.invokevirtual 117, 3) := dq_h (dq_t (dq_t dzX11_first_45))
theorem dX11_first_54 : decode cX11_first 54 = .ok (.invokevirtual 262, 3) := dq_h (dq_t (dq_t (dq_t dzX11_first_45)))
theorem dX11_first_57 : decode cX11_first 57 = .ok (.ifCond .eq 5, 3) := dq_h (dq_t (dq_t (dq_t (dq_t dzX11_first_45))))
theorem dX11_first_60 : decode cX11_first 60 = .ok (.iload_n 2, 1) := dq_h (dq_t (dq_t (dq_t (dq_t (dq_t dzX11_first_45)))))
theorem dX11_first_61 : decode cX11_first 61 = .ok (.ireturn, 1) := dq_h (dq_t (dq_t (dq_t (dq_t (dq_t (dq_t dzX11_first_45))))))
theorem dX11_first_62 : decode cX11_first 62 = .ok (.iinc 2 1, 3) := dq_h (dq_t (dq_t (dq_t (dq_t (dq_t (dq_t (dq_t dzX11_first_45)))))))
theorem dX11_first_65 : decode cX11_first 65 = .ok (.goto (-39), 3) := dq_h (dq_t (dq_t (dq_t (dq_t (dq_t (dq_t (dq_t (dq_t dzX11_first_45))))))))
theorem dX11_first_68 : decode cX11_first 68 = .ok (.iconst (-1), 1) := dq_h (dq_t (dq_t (dq_t (dq_t (dq_t (dq_t (dq_t (dq_t (dq_t dzX11_first_45)))))))))
theorem dX11_first_69 : decode cX11_first 69 = .ok (.ireturn, 1) := dq_h (dq_t (dq_t (dq_t (dq_t (dq_t (dq_t (dq_t (dq_t (dq_t (dq_t dzX11_first_45))))))))))
theorem dzX11_dismissed_0 : dq_F cX11_dismissed [(0, .aload_n 0, 1), (1, .iload_n 1, 1), (2, .invokevirtual 191, 3), (5, .aload_n 0, 1), (6, .getfield 19, 3), (9, .getfield 105, 3), (12, .getfield 206, 3), (15, .iload_n 1, 1), (16, .iaload, 1), (17, .iconst (-1), 1), (18, .if_icmp .ne 5, 3), (21, .iconst (-1), 1), (22, .ireturn, 1), (23, .aload_n 0, 1), (24, .getfield 36, 3), (27, .aload_n 0, 1), (28, .getfield 57, 3), (31, .aload_n 0, 1), (32, .getfield 19, 3), (35, .getfield 105, 3), (38, .iload_n 1, 1), (39, .invokevirtual 243, 3), (42, .iconst 1, 1), (43, .istore_n 2, 1)] := dq_s 24 0 (by decide +kernel)
theorem dX11_dismissed_0 : decode cX11_dismissed 0 = .ok (.aload_n 0, 1) := dq_h dzX11_dismissed_0
theorem dX11_dismissed_1 : decode cX11_dismissed 1 = .ok (.iload_n 1, 1) := dq_h (dq_t dzX11_dismissed_0)
theorem dX11_dismissed_2 : decode cX11_dismissed 2 = .ok (.invokevirtual 191, 3) := dq_h (dq_t (dq_t dzX11_dismissed_0))
theorem dX11_dismissed_5 : decode cX11_dismissed 5 = .ok (.aload_n 0, 1) := dq_h (dq_t (dq_t (dq_t dzX11_dismissed_0)))
theorem dX11_dismissed_6 : decode cX11_dismissed 6 = .ok (.getfield 19, 3) := dq_h (dq_t (dq_t (dq_t (dq_t dzX11_dismissed_0))))
theorem dX11_dismissed_9 : decode cX11_dismissed 9 = .ok (.getfield 105, 3) := dq_h (dq_t (dq_t (dq_t (dq_t (dq_t dzX11_dismissed_0)))))
theorem dX11_dismissed_12 : decode cX11_dismissed 12 = .ok (.getfield 206, 3) := dq_h (dq_t (dq_t (dq_t (dq_t (dq_t (dq_t dzX11_dismissed_0))))))
theorem dX11_dismissed_15 : decode cX11_dismissed 15 = .ok (.iload_n 1, 1) := dq_h (dq_t (dq_t (dq_t (dq_t (dq_t (dq_t (dq_t dzX11_dismissed_0)))))))
theorem dX11_dismissed_16 : decode cX11_dismissed 16 = .ok (.iaload, 1) := dq_h (dq_t (dq_t (dq_t (dq_t (dq_t (dq_t (dq_t (dq_t dzX11_dismissed_0))))))))
theorem dX11_dismissed_17 : decode cX11_dismissed 17 = .ok (.iconst (-1), 1) := dq_h (dq_t (dq_t (dq_t (dq_t (dq_t (dq_t (dq_t (dq_t (dq_t dzX11_dismissed_0)))))))))
theorem dX11_dismissed_18 : decode cX11_dismissed 18 = .ok (.if_icmp .ne 5, 3) := dq_h (dq_t (dq_t (dq_t (dq_t (dq_t (dq_t (dq_t (dq_t (dq_t (dq_t dzX11_dismissed_0))))))))))
theorem dX11_dismissed_21 : decode cX11_dismissed 21 = .ok (.iconst (-1), 1) := dq_h (dq_t (dq_t (dq_t (dq_t (dq_t (dq_t (dq_t (dq_t (dq_t (dq_t (dq_t dzX11_dismissed_0)))))))))))
theorem dX11_dismissed_22 : decode cX11_dismissed 22 = .ok (.ireturn, 1) := dq_h (dq_t (dq_t (dq_t (dq_t (dq_t (dq_t (dq_t (dq_t (dq_t (dq_t (dq_t (dq_t dzX11_dismissed_0))))))))))))
theorem dX11_dismissed_23 : decode cX11_dismissed 23 = .ok (.aload_n 0, 1) := dq_h (dq_t (dq_t (dq_t (dq_t (dq_t (dq_t (dq_t (dq_t (dq_t (dq_t (dq_t (dq_t (dq_t dzX11_dismissed_0)))))))))))))
theorem dX11_dismissed_24 : decode cX11_dismissed 24 = .ok (.getfield 36, 3) := dq_h (dq_t (dq_t (dq_t (dq_t (dq_t (dq_t (dq_t (dq_t (dq_t (dq_t (dq_t (dq_t (dq_t (dq_t dzX11_dismissed_0))))))))))))))
theorem dX11_dismissed_27 : decode cX11_dismissed 27 = .ok (.aload_n 0, 1) := dq_h (dq_t (dq_t (dq_t (dq_t (dq_t (dq_t (dq_t (dq_t (dq_t (dq_t (dq_t (dq_t (dq_t (dq_t (dq_t dzX11_dismissed_0)))))))))))))))
theorem dX11_dismissed_28 : decode cX11_dismissed 28 = .ok (.getfield 57, 3) := dq_h (dq_t (dq_t (dq_t (dq_t (dq_t (dq_t (dq_t (dq_t (dq_t (dq_t (dq_t (dq_t (dq_t (dq_t (dq_t (dq_t dzX11_dismissed_0))))))))))))))))
theorem dX11_dismissed_31 : decode cX11_dismissed 31 = .ok (.aload_n 0, 1) := dq_h (dq_t (dq_t (dq_t (dq_t (dq_t (dq_t (dq_t (dq_t (dq_t (dq_t (dq_t (dq_t (dq_t (dq_t (dq_t (dq_t (dq_t dzX11_dismissed_0)))))))))))))))))
theorem dX11_dismissed_32 : decode cX11_dismissed 32 = .ok (.getfield 19, 3) := dq_h (dq_t (dq_t (dq_t (dq_t (dq_t (dq_t (dq_t (dq_t (dq_t (dq_t (dq_t (dq_t (dq_t (dq_t (dq_t (dq_t (dq_t (dq_t dzX11_dismissed_0))))))))))))))))))
theorem dX11_dismissed_35 : decode cX11_dismissed 35 = .ok (.getfield 105, 3) := dq_h (dq_t (dq_t (dq_t (dq_t (dq_t (dq_t (dq_t (dq_t (dq_t (dq_t (dq_t (dq_t (dq_t (dq_t (dq_t (dq_t (dq_t (dq_t (dq_t dzX11_dismissed_0)))))))))))))))))))
theorem dX11_dismissed_38 : decode cX11_dismissed 38 = .ok (.iload_n 1, 1) := dq_h (dq_t (dq_t (dq_t (dq_t (dq_t (dq_t (dq_t (dq_t (dq_t (dq_t (dq_t (dq_t (dq_t (dq_t (dq_t (dq_t (dq_t (dq_t (dq_t (dq_t dzX11_dismissed_0))))))))))))))))))))
theorem dX11_dismissed_39 : decode cX11_dismissed 39 = .ok (.invokevirtual 243, 3) := dq_h (dq_t (dq_t (dq_t (dq_t (dq_t (dq_t (dq_t (dq_t (dq_t (dq_t (dq_t (dq_t (dq_t (dq_t (dq_t (dq_t (dq_t (dq_t (dq_t (dq_t (dq_t dzX11_dismissed_0)))))))))))))))))))))
theorem dX11_dismissed_42 : decode cX11_dismissed 42 = .ok (.iconst 1, 1) := dq_h (dq_t (dq_t (dq_t (dq_t (dq_t (dq_t (dq_t (dq_t (dq_t (dq_t (dq_t (dq_t (dq_t (dq_t (dq_t (dq_t (dq_t (dq_t (dq_t (dq_t (dq_t (dq_t dzX11_dismissed_0))))))))))))))))))))))
theorem dX11_dismissed_43 : decode cX11_dismissed 43 = .ok (.istore_n 2, 1) := dq_h (dq_t (dq_t (dq_t (dq_t (dq_t (dq_t (dq_t (dq_t (dq_t (dq_t (dq_t (dq_t (dq_t (dq_t (dq_t (dq_t (dq_t (dq_t (dq_t (dq_t (dq_t (dq_t (dq_t dzX11_dismissed_0)))))))))))))))))))))))
theorem dzX11_dismissed_44 : dq_F cX11_dismissed [(44, .iload_n 2, 1), (45, .bipush 60, 2), (47, .if_icmp .gt 34, 3), (50, .aload_n 0, 1), (51, .getfield 36, 3), (54, .aload_n 0, 1), (55, .getfield 57, 3), (58, .iconst 1, 1), (59, .invokevirtual 246, 3), (62, .aload_n 0, 1), (63, .getfield 36, 3), (66, .getfield 256, 3), (69, .iconst (-1), 1), (70, .if_icmp .ne 5, 3), (73, .iload_n 2, 1), (74, .ireturn, 1), (75, .iinc 2 1, 3), (78, .goto (-34), 3), (81, .iconst (-1), 1), (82, .ireturn, 1)] := dq_s 20 44 (by decide +kernel)
theorem dX11_dismissed_44 : decode cX11_dismissed 44 = .ok (.iload_n 2, 1) := dq_h dzX11_dismissed_44
theorem dX11_dismissed_45 : decode cX11_dismissed 45 = .ok (.bipush 60, 2) := dq_h (dq_t dzX11_dismissed_44)
theorem dX11_dismissed_47 : decode cX11_dismissed 47 = .ok (.if_icmp .gt 34, 3) := dq_h (dq_t (dq_t dzX11_dismissed_44))
theorem dX11_dismissed_50 : decode cX11_dismissed 50 = .ok (.aload_n 0, 1) := dq_h (dq_t (dq_t (dq_t dzX11_dismissed_44)))
theorem dX11_dismissed_51 : decode cX11_dismissed 51 = .ok (.getfield 36, 3) := dq_h (dq_t (dq_t (dq_t (dq_t dzX11_dismissed_44))))
theorem dX11_dismissed_54 : decode cX11_dismissed 54 = .ok (.aload_n 0, 1) := dq_h (dq_t (dq_t (dq_t (dq_t (dq_t dzX11_dismissed_44)))))
theorem dX11_dismissed_55 : decode cX11_dismissed 55 = .ok (.getfield 57, 3) := dq_h (dq_t (dq_t (dq_t (dq_t (dq_t (dq_t dzX11_dismissed_44))))))
theorem dX11_dismissed_58 : decode cX11_dismissed 58 = .ok (.iconst 1, 1) := dq_h (dq_t (dq_t (dq_t (dq_t (dq_t (dq_t (dq_t dzX11_dismissed_44)))))))
theorem dX11_dismissed_59 : decode cX11_dismissed 59 = .ok (.invokevirtual 246, 3) := dq_h (dq_t (dq_t (dq_t (dq_t (dq_t (dq_t (dq_t (dq_t dzX11_dismissed_44))))))))
theorem dX11_dismissed_62 : decode cX11_dismissed 62 = .ok (.aload_n 0, 1) := dq_h (dq_t (dq_t (dq_t (dq_t (dq_t (dq_t (dq_t (dq_t (dq_t dzX11_dismissed_44)))))))))
theorem dX11_dismissed_63 : decode cX11_dismissed 63 = .ok (.getfield 36, 3) := dq_h (dq_t (dq_t (dq_t (dq_t (dq_t (dq_t (dq_t (dq_t (dq_t (dq_t dzX11_dismissed_44))))))))))
theorem dX11_dismissed_66 : decode cX11_dismissed 66 = .ok (.getfield 256, 3) := dq_h (dq_t (dq_t (dq_t (dq_t (dq_t (dq_t (dq_t (dq_t (dq_t (dq_t (dq_t dzX11_dismissed_44)))))))))))
theorem dX11_dismissed_69 : decode cX11_dismissed 69 = .ok (.iconst (-1), 1) := dq_h (dq_t (dq_t (dq_t (dq_t (dq_t (dq_t (dq_t (dq_t (dq_t (dq_t (dq_t (dq_t dzX11_dismissed_44))))))))))))
theorem dX11_dismissed_70 : decode cX11_dismissed 70 = .ok (.if_icmp .ne 5, 3) := dq_h (dq_t (dq_t (dq_t (dq_t (dq_t (dq_t (dq_t (dq_t (dq_t (dq_t (dq_t (dq_t (dq_t dzX11_dismissed_44)))))))))))))
theorem dX11_dismissed_73 : decode cX11_dismissed 73 = .ok (.iload_n 2, 1) := dq_h (dq_t (dq_t (dq_t (dq_t (dq_t (dq_t (dq_t (dq_t (dq_t (dq_t (dq_t (dq_t (dq_t (dq_t dzX11_dismissed_44))))))))))))))
theorem dX11_dismissed_74 : decode cX11_dismissed 74 = .ok (.ireturn, 1) := dq_h (dq_t (dq_t (dq_t (dq_t (dq_t (dq_t (dq_t (dq_t (dq_t (dq_t (dq_t (dq_t (dq_t (dq_t (dq_t dzX11_dismissed_44)))))))))))))))
theorem dX11_dismissed_75 : decode cX11_dismissed 75 = .ok (.iinc 2 1, 3) := dq_h (dq_t (dq_t (dq_t (dq_t (dq_t (dq_t (dq_t (dq_t (dq_t (dq_t (dq_t (dq_t (dq_t (dq_t (dq_t (dq_t dzX11_dismissed_44))))))))))))))))
theorem dX11_dismissed_78 : decode cX11_dismissed 78 = .ok (.goto (-34), 3) := dq_h (dq_t (dq_t (dq_t (dq_t (dq_t (dq_t (dq_t (dq_t (dq_t (dq_t (dq_t (dq_t (dq_t (dq_t (dq_t (dq_t (dq_t dzX11_dismissed_44)))))))))))))))))
theorem dX11_dismissed_81 : decode cX11_dismissed 81 = .ok (.iconst (-1), 1) := dq_h (dq_t (dq_t (dq_t (dq_t (dq_t (dq_t (dq_t (dq_t (dq_t (dq_t (dq_t (dq_t (dq_t (dq_t (dq_t (dq_t (dq_t (dq_t dzX11_dismissed_44))))))))))))))))))
theorem dX11_dismissed_82 : decode cX11_dismissed 82 = .ok (.ireturn, 1) := dq_h (dq_t (dq_t (dq_t (dq_t (dq_t (dq_t (dq_t (dq_t (dq_t (dq_t (dq_t (dq_t (dq_t (dq_t (dq_t (dq_t (dq_t (dq_t (dq_t dzX11_dismissed_44)))))))))))))))))))
theorem dzX11_most_0 : dq_F cX11_most [(0, .iload_n 2, 1), (1, .iconst 1, 1), (2, .invokestatic 236, 3), (5, .iload_n 1, 1), (6, .iconst 0, 1), (7, .bipush 60, 2), (9, .invokestatic 239, 3), (12, .iconst (-1), 1), (13, .istore_n 3, 1), (14, .iconst (-1), 1), (15, .istore 4, 2), (17, .iconst 0, 1), (18, .istore 5, 2), (20, .iload 5, 2), (22, .aload_n 0, 1), (23, .getfield 57, 3), (26, .getfield 111, 3), (29, .if_icmp .ge 78, 3), (32, .aload_n 0, 1), (33, .getfield 36, 3), (36, .aload_n 0, 1), (37, .getfield 57, 3), (40, .aload_n 0, 1), (41, .getfield 19, 3)] := dq_s 24 0 (by decide +kernel)
theorem dX11_most_0 : decode cX11_most 0 = .ok (.iload_n 2, 1) := dq_h dzX11_most_0
theorem dX11_most_1 : decode cX11_most 1 = .ok (.iconst 1, 1) := dq_h (dq_t dzX11_most_0)
theorem dX11_most_2 : decode cX11_most 2 = .ok (.invokestatic 236, 3) := dq_h (dq_t (dq_t dzX11_most_0))
theorem dX11_most_5 : decode cX11_most 5 = .ok (.iload_n 1, 1) := dq_h (dq_t (dq_t (dq_t dzX11_most_0)))
theorem dX11_most_6 : decode cX11_most 6 = .ok (.iconst 0, 1) := dq_h (dq_t (dq_t (dq_t (dq_t dzX11_most_0))))
theorem dX11_most_7 : decode cX11_most 7 = .ok (.bipush 60, 2) := dq_h (dq_t (dq_t (dq_t (dq_t (dq_t dzX11_most_0)))))
theorem dX11_most_9 : decode cX11_most 9 = .ok (.invokestatic 239, 3) := dq_h (dq_t (dq_t (dq_t (dq_t (dq_t (dq_t dzX11_most_0))))))
theorem dX11_most_12 : decode cX11_most 12 = .ok (.iconst (-1), 1) := dq_h (dq_t (dq_t (dq_t (dq_t (dq_t (dq_t (dq_t dzX11_most_0)))))))
theorem dX11_most_13 : decode cX11_most 13 = .ok (.istore_n 3, 1) := dq_h (dq_t (dq_t (dq_t (dq_t (dq_t (dq_t (dq_t (dq_t dzX11_most_0))))))))
theorem dX11_most_14 : decode cX11_most 14 = .ok (.iconst (-1), 1) := dq_h (dq_t (dq_t (dq_t (dq_t (dq_t (dq_t (dq_t (dq_t (dq_t dzX11_most_0)))))))))
theorem dX11_most_15 : decode cX11_most 15 = .ok (.istore 4, 2) := dq_h (dq_t (dq_t (dq_t (dq_t (dq_t (dq_t (dq_t (dq_t (dq_t (dq_t dzX11_most_0))))))))))
theorem dX11_most_17 : decode cX11_most 17 = .ok (.iconst 0, 1) := dq_h (dq_t (dq_t (dq_t (dq_t (dq_t (dq_t (dq_t (dq_t (dq_t (dq_t (dq_t dzX11_most_0)))))))))))
theorem dX11_most_18 : decode cX11_most 18 = .ok (.istore 5, 2) := dq_h (dq_t (dq_t (dq_t (dq_t (dq_t (dq_t (dq_t (dq_t (dq_t (dq_t (dq_t (dq_t dzX11_most_0))))))))))))
theorem dX11_most_20 : decode cX11_most 20 = .ok (.iload 5, 2) := dq_h (dq_t (dq_t (dq_t (dq_t (dq_t (dq_t (dq_t (dq_t (dq_t (dq_t (dq_t (dq_t (dq_t dzX11_most_0)))))))))))))
theorem dX11_most_22 : decode cX11_most 22 = .ok (.aload_n 0, 1) := dq_h (dq_t (dq_t (dq_t (dq_t (dq_t (dq_t (dq_t (dq_t (dq_t (dq_t (dq_t (dq_t (dq_t (dq_t dzX11_most_0))))))))))))))
theorem dX11_most_23 : decode cX11_most 23 = .ok (.getfield 57, 3) := dq_h (dq_t (dq_t (dq_t (dq_t (dq_t (dq_t (dq_t (dq_t (dq_t (dq_t (dq_t (dq_t (dq_t (dq_t (dq_t dzX11_most_0)))))))))))))))
theorem dX11_most_26 : decode cX11_most 26 = .ok (.getfield 111, 3) := dq_h (dq_t (dq_t (dq_t (dq_t (dq_t (dq_t (dq_t (dq_t (dq_t (dq_t (dq_t (dq_t (dq_t (dq_t (dq_t (dq_t dzX11_most_0))))))))))))))))
theorem dX11_most_29 : decode cX11_most 29 = .ok (.if_icmp .ge 78, 3) := dq_h (dq_t (dq_t (dq_t (dq_t (dq_t (dq_t (dq_t (dq_t (dq_t (dq_t (dq_t (dq_t (dq_t (dq_t (dq_t (dq_t (dq_t dzX11_most_0)))))))))))))))))
theorem dX11_most_32 : decode cX11_most 32 = .ok (.aload_n 0, 1) := dq_h (dq_t (dq_t (dq_t (dq_t (dq_t (dq_t (dq_t (dq_t (dq_t (dq_t (dq_t (dq_t (dq_t (dq_t (dq_t (dq_t (dq_t (dq_t dzX11_most_0))))))))))))))))))
theorem dX11_most_33 : decode cX11_most 33 = .ok (.getfield 36, 3) := dq_h (dq_t (dq_t (dq_t (dq_t (dq_t (dq_t (dq_t (dq_t (dq_t (dq_t (dq_t (dq_t (dq_t (dq_t (dq_t (dq_t (dq_t (dq_t (dq_t dzX11_most_0)))))))))))))))))))
theorem dX11_most_36 : decode cX11_most 36 = .ok (.aload_n 0, 1) := dq_h (dq_t (dq_t (dq_t (dq_t (dq_t (dq_t (dq_t (dq_t (dq_t (dq_t (dq_t (dq_t (dq_t (dq_t (dq_t (dq_t (dq_t (dq_t (dq_t (dq_t dzX11_most_0))))))))))))))))))))
theorem dX11_most_37 : decode cX11_most 37 = .ok (.getfield 57, 3) := dq_h (dq_t (dq_t (dq_t (dq_t (dq_t (dq_t (dq_t (dq_t (dq_t (dq_t (dq_t (dq_t (dq_t (dq_t (dq_t (dq_t (dq_t (dq_t (dq_t (dq_t (dq_t dzX11_most_0)))))))))))))))))))))
theorem dX11_most_40 : decode cX11_most 40 = .ok (.aload_n 0, 1) := dq_h (dq_t (dq_t (dq_t (dq_t (dq_t (dq_t (dq_t (dq_t (dq_t (dq_t (dq_t (dq_t (dq_t (dq_t (dq_t (dq_t (dq_t (dq_t (dq_t (dq_t (dq_t (dq_t dzX11_most_0))))))))))))))))))))))
theorem dX11_most_41 : decode cX11_most 41 = .ok (.getfield 19, 3) := dq_h (dq_t (dq_t (dq_t (dq_t (dq_t (dq_t (dq_t (dq_t (dq_t (dq_t (dq_t (dq_t (dq_t (dq_t (dq_t (dq_t (dq_t (dq_t (dq_t (dq_t (dq_t (dq_t (dq_t dzX11_most_0)))))))))))))))))))))))
theorem dzX11_most_44 : dq_F cX11_most [(44, .getfield 105, 3), (47, .iload 5, 2), (49, .invokevirtual 243, 3), (52, .aload_n 0, 1), (53, .getfield 36, 3), (56, .aload_n 0, 1), (57, .getfield 57, 3), (60, .iload_n 1, 1), (61, .invokevirtual 246, 3), (64, .iload_n 2, 1), (65, .ifCond .ne 13, 3), (68, .aload_n 0, 1), (69, .getfield 36, 3), (72, .getfield 252, 3), (75, .goto 10, 3), (78, .aload_n 0, 1), (79, .getfield 36, 3), (82, .getfield 250, 3), (85, .istore 6, 2), (87, .iload 6, 2), (89, .iload 4, 2), (91, .if_icmp .le 10, 3), (94, .iload 5, 2), (96, .istore_n 3, 1)] := dq_s 24 44 (by decide +kernel)
theorem dX11_most_44 : decode cX11_most 44 = .ok (.getfield 105, 3) := dq_h dzX11_most_44
theorem dX11_most_47 : decode cX11_most 47 = .ok (.iload 5, 2) := dq_h (dq_t dzX11_most_44)
theorem dX11_most_49 : decode cX11_most 49 = .ok (.invokevirtual 243, 3) := dq_h (dq_t (dq_t dzX11_most_44))
theorem dX11_most_52 : decode cX11_most 52 = .ok (.aload_n 0, 1) := dq_h (dq_t (dq_t (dq_t dzX11_most_44)))
theorem dX11_most_53 : decode cX11_most 53 = .ok (.getfield 36, 3) := dq_h (dq_t (dq_t (dq_t (dq_t dzX11_most_44))))
theorem dX11_most_56 : decode cX11_most 56 = .ok (.aload_n 0, 1) := dq_h (dq_t (dq_t (dq_t (dq_t (dq_t dzX11_most_44)))))
theorem dX11_most_57 : decode cX11_most 57 = .ok (.getfield 57, 3) := dq_h (dq_t (dq_t (dq_t (dq_t (dq_t (dq_t dzX11_most_44))))))
theorem dX11_most_60 : decode cX11_most 60 = .ok (.iload_n 1, 1) := dq_h (dq_t (dq_t (dq_t (dq_t (dq_t (dq_t (dq_t dzX11_most_44)))))))
theorem dX11_most_61 : decode cX11_most 61 = .ok (.invokevirtual 246, 3) := dq_h (dq_t (dq_t (dq_t (dq_t (dq_t (dq_t (dq_t (dq_t dzX11_most_44))))))))
theorem dX11_most_64 : decode cX11_most 64 = .ok (.iload_n 2, 1) := dq_h (dq_t (dq_t (dq_t (dq_t (dq_t (dq_t (dq_t (dq_t (dq_t dzX11_most_44)))))))))
theorem dX11_most_65 : decode cX11_most 65 = .ok (.ifCond .ne 13, 3) := dq_h (dq_t (dq_t (dq_t (dq_t (dq_t (dq_t (dq_t (dq_t (dq_t (dq_t dzX11_most_44))))))))))
theorem dX11_most_68 : decode cX11_most 68 = .ok (.aload_n 0, 1) := dq_h (dq_t (dq_t (dq_t (dq_t (dq_t (dq_t (dq_t (dq_t (dq_t (dq_t (dq_t dzX11_most_44)))))))))))
theorem dX11_most_69 : decode cX11_most 69 = .ok (.getfield 36, 3) := dq_h (dq_t (dq_t (dq_t (dq_t (dq_t (dq_t (dq_t (dq_t (dq_t (dq_t (dq_t (dq_t dzX11_most_44))))))))))))
theorem dX11_most_72 : decode cX11_most 72 = .ok (.getfield 252, 3) := dq_h (dq_t (dq_t (dq_t (dq_t (dq_t (dq_t (dq_t (dq_t (dq_t (dq_t (dq_t (dq_t (dq_t dzX11_most_44)))))))))))))
theorem dX11_most_75 : decode cX11_most 75 = .ok (.goto 10, 3) := dq_h (dq_t (dq_t (dq_t (dq_t (dq_t (dq_t (dq_t (dq_t (dq_t (dq_t (dq_t (dq_t (dq_t (dq_t dzX11_most_44))))))))))))))
theorem dX11_most_78 : decode cX11_most 78 = .ok (.aload_n 0, 1) := dq_h (dq_t (dq_t (dq_t (dq_t (dq_t (dq_t (dq_t (dq_t (dq_t (dq_t (dq_t (dq_t (dq_t (dq_t (dq_t dzX11_most_44)))))))))))))))
theorem dX11_most_79 : decode cX11_most 79 = .ok (.getfield 36, 3) := dq_h (dq_t (dq_t (dq_t (dq_t (dq_t (dq_t (dq_t (dq_t (dq_t (dq_t (dq_t (dq_t (dq_t (dq_t (dq_t (dq_t dzX11_most_44))))))))))))))))
theorem dX11_most_82 : decode cX11_most 82 = .ok (.getfield 250, 3) := dq_h (dq_t (dq_t (dq_t (dq_t (dq_t (dq_t (dq_t (dq_t (dq_t (dq_t (dq_t (dq_t (dq_t (dq_t (dq_t (dq_t (dq_t dzX11_most_44)))))))))))))))))
theorem dX11_most_85 : decode cX11_most 85 = .ok (.istore 6, 2) := dq_h (dq_t (dq_t (dq_t (dq_t (dq_t (dq_t (dq_t (dq_t (dq_t (dq_t (dq_t (dq_t (dq_t (dq_t (dq_t (dq_t (dq_t (dq_t dzX11_most_44))))))))))))))))))
theorem dX11_most_87 : decode cX11_most 87 = .ok (.iload 6, 2) := dq_h (dq_t (dq_t (dq_t (dq_t (dq_t (dq_t (dq_t (dq_t (dq_t (dq_t (dq_t (dq_t (dq_t (dq_t (dq_t (dq_t (dq_t (dq_t (dq_t dzX11_most_44)))))))))))))))))))
theorem dX11_most_89 : decode cX11_most 89 = .ok (.iload 4, 2) := dq_h (dq_t (dq_t (dq_t (dq_t (dq_t (dq_t (dq_t (dq_t (dq_t (dq_t (dq_t (dq_t (dq_t (dq_t (dq_t (dq_t (dq_t (dq_t (dq_t (dq_t dzX11_most_44))))))))))))))))))))
theorem dX11_most_91 : decode cX11_most 91 = .ok (.if_icmp .le 10, 3) := dq_h (dq_t (dq_t (dq_t (dq_t (dq_t (dq_t (dq_t (dq_t (dq_t (dq_t (dq_t (dq_t (dq_t (dq_t (dq_t (dq_t (dq_t (dq_t (dq_t (dq_t (dq_t dzX11_most_44)))))))))))))))))))))
theorem dX11_most_94 : decode cX11_most 94 = .ok (.iload 5, 2) := dq_h (dq_t (dq_t (dq_t (dq_t (dq_t (dq_t (dq_t (dq_t (dq_t (dq_t (dq_t (dq_t (dq_t (dq_t (dq_t (dq_t (dq_t (dq_t (dq_t (dq_t (dq_t (dq_t dzX11_most_44))))))))))))))))))))))
theorem dX11_most_96 : decode cX11_most 96 = .ok (.istore_n 3, 1) := dq_h (dq_t (dq_t (dq_t (dq_t (dq_t (dq_t (dq_t (dq_t (dq_t (dq_t (dq_t (dq_t (dq_t (dq_t (dq_t (dq_t (dq_t (dq_t (dq_t (dq_t (dq_t (dq_t (dq_t dzX11_most_44)))))))))))))))))))))))
theorem dzX11_most_97 : dq_F cX11_most [(97, .iload 6, 2), (99, .istore 4, 2), (101, .iinc 5 1, 3), (104, .goto (-84), 3), (107, .iload_n 3, 1), (108, .ireturn, 1)] := dq_s 6 97 (by decide +kernel)
theorem dX11_most_97 : decode cX11_most 97 = .ok (.iload 6, 2) := dq_h dzX11_most_97
theorem dX11_most_99 : decode cX11_most 99 = .ok (.istore 4, 2) := dq_h (dq_t dzX11_most_97)
theorem dX11_most_101 : decode cX11_most 101 = .ok (.iinc 5 1, 3) := dq_h (dq_t (dq_t dzX11_most_97))
theorem dX11_most_104 : decode cX11_most 104 = .ok (.goto (-84), 3) := dq_h (dq_t (dq_t (dq_t dzX11_most_97)))
theorem dX11_most_107 : decode cX11_most 107 = .ok (.iload_n 3, 1) := dq_h (dq_t (dq_t (dq_t (dq_t dzX11_most_97))))
theorem dX11_most_108 : decode cX11_most 108 = .ok (.ireturn, 1) := dq_h (dq_t (dq_t (dq_t (dq_t (dq_t dzX11_most_97)))))
theorem dzX11_hush_0 : dq_F cX11_hush [(0, .iload_n 1, 1), (1, .iconst 1, 1), (2, .bipush 60, 2), (4, .invokestatic 239, 3), (7, .iconst 0, 1), (8, .istore_n 2, 1), (9, .iconst 0, 1), (10, .istore_n 3, 1), (11, .iconst 1, 1), (12, .istore 4, 2), (14, .iload 4, 2), (16, .iload_n 1, 1), (17, .if_icmp .gt 32, 3), (20, .aload_n 0, 1), (21, .iload 4, 2), (23, .invokevirtual 258, 3), (26, .ifCond .ne 9, 3), (29, .iload_n 3, 1), (30, .iconst 1, 1), (31, .iadd, 1), (32, .goto 4, 3), (35, .iconst 0, 1), (36, .istore_n 3, 1), (37, .iload_n 2, 1)] := dq_s 24 0 (by decide +kernel)
theorem dX11_hush_0 : decode cX11_hush 0 = .ok (.iload_n 1, 1) := dq_h dzX11_hush_0
theorem dX11_hush_1 : decode cX11_hush 1 = .ok (.iconst 1, 1) := dq_h (dq_t dzX11_hush_0)
theorem dX11_hush_2 : decode cX11_hush 2 = .ok (.bipush 60, 2) := dq_h (dq_t (dq_t dzX11_hush_0))
theorem dX11_hush_4 : decode cX11_hush 4 = .ok (.invokestatic 239, 3) := dq_h (dq_t (dq_t (dq_t dzX11_hush_0)))
theorem dX11_hush_7 : decode cX11_hush 7 = .ok (.iconst 0, 1) := dq_h (dq_t (dq_t (dq_t (dq_t dzX11_hush_0))))
theorem dX11_hush_8 : decode cX11_hush 8 = .ok (.istore_n 2, 1) := dq_h (dq_t (dq_t (dq_t (dq_t (dq_t dzX11_hush_0)))))
theorem dX11_hush_9 : decode cX11_hush 9 = .ok (.iconst 0, 1) := dq_h (dq_t (dq_t (dq_t (dq_t (dq_t (dq_t dzX11_hush_0))))))
theorem dX11_hush_10 : decode cX11_hush 10 = .ok (.istore_n 3, 1) := dq_h (dq_t (dq_t (dq_t (dq_t (dq_t (dq_t (dq_t dzX11_hush_0)))))))
theorem dX11_hush_11 : decode cX11_hush 11 = .ok (.iconst 1, 1) := dq_h (dq_t (dq_t (dq_t (dq_t (dq_t (dq_t (dq_t (dq_t dzX11_hush_0))))))))
theorem dX11_hush_12 : decode cX11_hush 12 = .ok (.istore 4, 2) := dq_h (dq_t (dq_t (dq_t (dq_t (dq_t (dq_t (dq_t (dq_t (dq_t dzX11_hush_0)))))))))
theorem dX11_hush_14 : decode cX11_hush 14 = .ok (.iload 4, 2) := dq_h (dq_t (dq_t (dq_t (dq_t (dq_t (dq_t (dq_t (dq_t (dq_t (dq_t dzX11_hush_0))))))))))
theorem dX11_hush_16 : decode cX11_hush 16 = .ok (.iload_n 1, 1) := dq_h (dq_t (dq_t (dq_t (dq_t (dq_t (dq_t (dq_t (dq_t (dq_t (dq_t (dq_t dzX11_hush_0)))))))))))
theorem dX11_hush_17 : decode cX11_hush 17 = .ok (.if_icmp .gt 32, 3) := dq_h (dq_t (dq_t (dq_t (dq_t (dq_t (dq_t (dq_t (dq_t (dq_t (dq_t (dq_t (dq_t dzX11_hush_0))))))))))))
theorem dX11_hush_20 : decode cX11_hush 20 = .ok (.aload_n 0, 1) := dq_h (dq_t (dq_t (dq_t (dq_t (dq_t (dq_t (dq_t (dq_t (dq_t (dq_t (dq_t (dq_t (dq_t dzX11_hush_0)))))))))))))
theorem dX11_hush_21 : decode cX11_hush 21 = .ok (.iload 4, 2) := dq_h (dq_t (dq_t (dq_t (dq_t (dq_t (dq_t (dq_t (dq_t (dq_t (dq_t (dq_t (dq_t (dq_t (dq_t dzX11_hush_0))))))))))))))
theorem dX11_hush_23 : decode cX11_hush 23 = .ok (.invokevirtual 258, 3) := dq_h (dq_t (dq_t (dq_t (dq_t (dq_t (dq_t (dq_t (dq_t (dq_t (dq_t (dq_t (dq_t (dq_t (dq_t (dq_t dzX11_hush_0)))))))))))))))
theorem dX11_hush_26 : decode cX11_hush 26 = .ok (.ifCond .ne 9, 3) := dq_h (dq_t (dq_t (dq_t (dq_t (dq_t (dq_t (dq_t (dq_t (dq_t (dq_t (dq_t (dq_t (dq_t (dq_t (dq_t (dq_t dzX11_hush_0))))))))))))))))
theorem dX11_hush_29 : decode cX11_hush 29 = .ok (.iload_n 3, 1) := dq_h (dq_t (dq_t (dq_t (dq_t (dq_t (dq_t (dq_t (dq_t (dq_t (dq_t (dq_t (dq_t (dq_t (dq_t (dq_t (dq_t (dq_t dzX11_hush_0)))))))))))))))))
theorem dX11_hush_30 : decode cX11_hush 30 = .ok (.iconst 1, 1) := dq_h (dq_t (dq_t (dq_t (dq_t (dq_t (dq_t (dq_t (dq_t (dq_t (dq_t (dq_t (dq_t (dq_t (dq_t (dq_t (dq_t (dq_t (dq_t dzX11_hush_0))))))))))))))))))
theorem dX11_hush_31 : decode cX11_hush 31 = .ok (.iadd, 1) := dq_h (dq_t (dq_t (dq_t (dq_t (dq_t (dq_t (dq_t (dq_t (dq_t (dq_t (dq_t (dq_t (dq_t (dq_t (dq_t (dq_t (dq_t (dq_t (dq_t dzX11_hush_0)))))))))))))))))))
theorem dX11_hush_32 : decode cX11_hush 32 = .ok (.goto 4, 3) := dq_h (dq_t (dq_t (dq_t (dq_t (dq_t (dq_t (dq_t (dq_t (dq_t (dq_t (dq_t (dq_t (dq_t (dq_t (dq_t (dq_t (dq_t (dq_t (dq_t (dq_t dzX11_hush_0))))))))))))))))))))
theorem dX11_hush_35 : decode cX11_hush 35 = .ok (.iconst 0, 1) := dq_h (dq_t (dq_t (dq_t (dq_t (dq_t (dq_t (dq_t (dq_t (dq_t (dq_t (dq_t (dq_t (dq_t (dq_t (dq_t (dq_t (dq_t (dq_t (dq_t (dq_t (dq_t dzX11_hush_0)))))))))))))))))))))
theorem dX11_hush_36 : decode cX11_hush 36 = .ok (.istore_n 3, 1) := dq_h (dq_t (dq_t (dq_t (dq_t (dq_t (dq_t (dq_t (dq_t (dq_t (dq_t (dq_t (dq_t (dq_t (dq_t (dq_t (dq_t (dq_t (dq_t (dq_t (dq_t (dq_t (dq_t dzX11_hush_0))))))))))))))))))))))
theorem dX11_hush_37 : decode cX11_hush 37 = .ok (.iload_n 2, 1) := dq_h (dq_t (dq_t (dq_t (dq_t (dq_t (dq_t (dq_t (dq_t (dq_t (dq_t (dq_t (dq_t (dq_t (dq_t (dq_t (dq_t (dq_t (dq_t (dq_t (dq_t (dq_t (dq_t (dq_t dzX11_hush_0)))))))))))))))))))))))
theorem dzX11_hush_38 : dq_F cX11_hush [(38, .iload_n 3, 1), (39, .invokestatic 265, 3), (42, .istore_n 2, 1), (43, .iinc 4 1, 3), (46, .goto (-32), 3), (49, .iload_n 2, 1), (50, .ireturn, 1)] := dq_s 7 38 (by decide +kernel)
theorem dX11_hush_38 : decode cX11_hush 38 = .ok (.iload_n 3, 1) := dq_h dzX11_hush_38
theorem dX11_hush_39 : decode cX11_hush 39 = .ok (.invokestatic 265, 3) := dq_h (dq_t dzX11_hush_38)
theorem dX11_hush_42 : decode cX11_hush 42 = .ok (.istore_n 2, 1) := dq_h (dq_t (dq_t dzX11_hush_38))
theorem dX11_hush_43 : decode cX11_hush 43 = .ok (.iinc 4 1, 3) := dq_h (dq_t (dq_t (dq_t dzX11_hush_38)))
theorem dX11_hush_46 : decode cX11_hush 46 = .ok (.goto (-32), 3) := dq_h (dq_t (dq_t (dq_t (dq_t dzX11_hush_38))))
theorem dX11_hush_49 : decode cX11_hush 49 = .ok (.iload_n 2, 1) := dq_h (dq_t (dq_t (dq_t (dq_t (dq_t dzX11_hush_38)))))
theorem dX11_hush_50 : decode cX11_hush 50 = .ok (.ireturn, 1) := dq_h (dq_t (dq_t (dq_t (dq_t (dq_t (dq_t dzX11_hush_38))))))
theorem dzX11_chorus_0 : dq_F cX11_chorus [(0, .iload_n 1, 1), (1, .iconst 1, 1), (2, .bipush 60, 2), (4, .invokestatic 239, 3), (7, .iconst (-1), 1), (8, .istore_n 2, 1), (9, .iconst (-1), 1), (10, .istore_n 3, 1), (11, .iconst 1, 1), (12, .istore 4, 2), (14, .iload 4, 2), (16, .iload_n 1, 1), (17, .if_icmp .gt 32, 3), (20, .aload_n 0, 1), (21, .iload 4, 2), (23, .invokevirtual 258, 3), (26, .invokestatic 271, 3), (29, .istore 5, 2), (31, .iload 5, 2), (33, .iload_n 3, 1), (34, .if_icmp .le 9, 3), (37, .iload 4, 2), (39, .istore_n 2, 1), (40, .iload 5, 2)] := dq_s 24 0 (by decide +kernel)
theorem dX11_chorus_0 : decode cX11_chorus 0 = .ok (.iload_n 1, 1) := dq_h dzX11_chorus_0
theorem dX11_chorus_1 : decode cX11_chorus 1 = .ok (.iconst 1, 1) := dq_h (dq_t dzX11_chorus_0)
theorem dX11_chorus_2 : decode cX11_chorus 2 = .ok (.bipush 60, 2) := dq_h (dq_t (dq_t dzX11_chorus_0))
theorem dX11_chorus_4 : decode cX11_chorus 4 = .ok (.invokestatic 239, 3) := dq_h (dq_t (dq_t (dq_t dzX11_chorus_0)))
theorem dX11_chorus_7 : decode cX11_chorus 7 = .ok (.iconst (-1), 1) := dq_h (dq_t (dq_t (dq_t (dq_t dzX11_chorus_0))))
theorem dX11_chorus_8 : decode cX11_chorus 8 = .ok (.istore_n 2, 1) := dq_h (dq_t (dq_t (dq_t (dq_t (dq_t dzX11_chorus_0)))))
theorem dX11_chorus_9 : decode cX11_chorus 9 = .ok (.iconst (-1), 1) := dq_h (dq_t (dq_t (dq_t (dq_t (dq_t (dq_t dzX11_chorus_0))))))
theorem dX11_chorus_10 : decode cX11_chorus 10 = .ok (.istore_n 3, 1) := dq_h (dq_t (dq_t (dq_t (dq_t (dq_t (dq_t (dq_t dzX11_chorus_0)))))))
theorem dX11_chorus_11 : decode cX11_chorus 11 = .ok (.iconst 1, 1) := dq_h (dq_t (dq_t (dq_t (dq_t (dq_t (dq_t (dq_t (dq_t dzX11_chorus_0))))))))
theorem dX11_chorus_12 : decode cX11_chorus 12 = .ok (.istore 4, 2) := dq_h (dq_t (dq_t (dq_t (dq_t (dq_t (dq_t (dq_t (dq_t (dq_t dzX11_chorus_0)))))))))
theorem dX11_chorus_14 : decode cX11_chorus 14 = .ok (.iload 4, 2) := dq_h (dq_t (dq_t (dq_t (dq_t (dq_t (dq_t (dq_t (dq_t (dq_t (dq_t dzX11_chorus_0))))))))))
theorem dX11_chorus_16 : decode cX11_chorus 16 = .ok (.iload_n 1, 1) := dq_h (dq_t (dq_t (dq_t (dq_t (dq_t (dq_t (dq_t (dq_t (dq_t (dq_t (dq_t dzX11_chorus_0)))))))))))
theorem dX11_chorus_17 : decode cX11_chorus 17 = .ok (.if_icmp .gt 32, 3) := dq_h (dq_t (dq_t (dq_t (dq_t (dq_t (dq_t (dq_t (dq_t (dq_t (dq_t (dq_t (dq_t dzX11_chorus_0))))))))))))
theorem dX11_chorus_20 : decode cX11_chorus 20 = .ok (.aload_n 0, 1) := dq_h (dq_t (dq_t (dq_t (dq_t (dq_t (dq_t (dq_t (dq_t (dq_t (dq_t (dq_t (dq_t (dq_t dzX11_chorus_0)))))))))))))
theorem dX11_chorus_21 : decode cX11_chorus 21 = .ok (.iload 4, 2) := dq_h (dq_t (dq_t (dq_t (dq_t (dq_t (dq_t (dq_t (dq_t (dq_t (dq_t (dq_t (dq_t (dq_t (dq_t dzX11_chorus_0))))))))))))))
theorem dX11_chorus_23 : decode cX11_chorus 23 = .ok (.invokevirtual 258, 3) := dq_h (dq_t (dq_t (dq_t (dq_t (dq_t (dq_t (dq_t (dq_t (dq_t (dq_t (dq_t (dq_t (dq_t (dq_t (dq_t dzX11_chorus_0)))))))))))))))
theorem dX11_chorus_26 : decode cX11_chorus 26 = .ok (.invokestatic 271, 3) := dq_h (dq_t (dq_t (dq_t (dq_t (dq_t (dq_t (dq_t (dq_t (dq_t (dq_t (dq_t (dq_t (dq_t (dq_t (dq_t (dq_t dzX11_chorus_0))))))))))))))))
theorem dX11_chorus_29 : decode cX11_chorus 29 = .ok (.istore 5, 2) := dq_h (dq_t (dq_t (dq_t (dq_t (dq_t (dq_t (dq_t (dq_t (dq_t (dq_t (dq_t (dq_t (dq_t (dq_t (dq_t (dq_t (dq_t dzX11_chorus_0)))))))))))))))))
theorem dX11_chorus_31 : decode cX11_chorus 31 = .ok (.iload 5, 2) := dq_h (dq_t (dq_t (dq_t (dq_t (dq_t (dq_t (dq_t (dq_t (dq_t (dq_t (dq_t (dq_t (dq_t (dq_t (dq_t (dq_t (dq_t (dq_t dzX11_chorus_0))))))))))))))))))
theorem dX11_chorus_33 : decode cX11_chorus 33 = .ok (.iload_n 3, 1) := dq_h (dq_t (dq_t (dq_t (dq_t (dq_t (dq_t (dq_t (dq_t (dq_t (dq_t (dq_t (dq_t (dq_t (dq_t (dq_t (dq_t (dq_t (dq_t (dq_t dzX11_chorus_0)))))))))))))))))))
theorem dX11_chorus_34 : decode cX11_chorus 34 = .ok (.if_icmp .le 9, 3) := dq_h (dq_t (dq_t (dq_t (dq_t (dq_t (dq_t (dq_t (dq_t (dq_t (dq_t (dq_t (dq_t (dq_t (dq_t (dq_t (dq_t (dq_t (dq_t (dq_t (dq_t dzX11_chorus_0))))))))))))))))))))
theorem dX11_chorus_37 : decode cX11_chorus 37 = .ok (.iload 4, 2) := dq_h (dq_t (dq_t (dq_t (dq_t (dq_t (dq_t (dq_t (dq_t (dq_t (dq_t (dq_t (dq_t (dq_t (dq_t (dq_t (dq_t (dq_t (dq_t (dq_t (dq_t (dq_t dzX11_chorus_0)))))))))))))))))))))
theorem dX11_chorus_39 : decode cX11_chorus 39 = .ok (.istore_n 2, 1) := dq_h (dq_t (dq_t (dq_t (dq_t (dq_t (dq_t (dq_t (dq_t (dq_t (dq_t (dq_t (dq_t (dq_t (dq_t (dq_t (dq_t (dq_t (dq_t (dq_t (dq_t (dq_t (dq_t dzX11_chorus_0))))))))))))))))))))))
theorem dX11_chorus_40 : decode cX11_chorus 40 = .ok (.iload 5, 2) := dq_h (dq_t (dq_t (dq_t (dq_t (dq_t (dq_t (dq_t (dq_t (dq_t (dq_t (dq_t (dq_t (dq_t (dq_t (dq_t (dq_t (dq_t (dq_t (dq_t (dq_t (dq_t (dq_t (dq_t dzX11_chorus_0)))))))))))))))))))))))
theorem dzX11_chorus_42 : dq_F cX11_chorus [(42, .istore_n 3, 1), (43, .iinc 4 1, 3), (46, .goto (-32), 3), (49, .iload_n 2, 1), (50, .ireturn, 1)] := dq_s 5 42 (by decide +kernel)
theorem dX11_chorus_42 : decode cX11_chorus 42 = .ok (.istore_n 3, 1) := dq_h dzX11_chorus_42
theorem dX11_chorus_43 : decode cX11_chorus 43 = .ok (.iinc 4 1, 3) := dq_h (dq_t dzX11_chorus_42)
theorem dX11_chorus_46 : decode cX11_chorus 46 = .ok (.goto (-32), 3) := dq_h (dq_t (dq_t dzX11_chorus_42))
theorem dX11_chorus_49 : decode cX11_chorus 49 = .ok (.iload_n 2, 1) := dq_h (dq_t (dq_t (dq_t dzX11_chorus_42)))
theorem dX11_chorus_50 : decode cX11_chorus 50 = .ok (.ireturn, 1) := dq_h (dq_t (dq_t (dq_t (dq_t dzX11_chorus_42))))
theorem dzX11_together_0 : dq_F cX11_together [(0, .aload_n 0, 1), (1, .iload_n 1, 1), (2, .invokevirtual 276, 3), (5, .iconst 1, 1), (6, .istore_n 2, 1), (7, .iconst 1, 1), (8, .istore_n 3, 1), (9, .iconst 0, 1), (10, .istore 4, 2), (12, .iload 4, 2), (14, .aload_n 0, 1), (15, .getfield 57, 3), (18, .getfield 108, 3), (21, .if_icmp .ge 49, 3), (24, .iload_n 1, 1), (25, .iload 4, 2), (27, .invokestatic 279, 3), (30, .ifCond .eq 34, 3), (33, .aload_n 0, 1), (34, .iload 4, 2), (36, .iload_n 2, 1), (37, .iload_n 3, 1), (38, .invokevirtual 283, 3), (41, .istore_n 2, 1)] := dq_s 24 0 (by decide +kernel)
theorem dX11_together_0 : decode cX11_together 0 = .ok (.aload_n 0, 1) := dq_h dzX11_together_0
theorem dX11_together_1 : decode cX11_together 1 = .ok (.iload_n 1, 1) := dq_h (dq_t dzX11_together_0)
theorem dX11_together_2 : decode cX11_together 2 = .ok (.invokevirtual 276, 3) := dq_h (dq_t (dq_t dzX11_together_0))
theorem dX11_together_5 : decode cX11_together 5 = .ok (.iconst 1, 1) := dq_h (dq_t (dq_t (dq_t dzX11_together_0)))
theorem dX11_together_6 : decode cX11_together 6 = .ok (.istore_n 2, 1) := dq_h (dq_t (dq_t (dq_t (dq_t dzX11_together_0))))
theorem dX11_together_7 : decode cX11_together 7 = .ok (.iconst 1, 1) := dq_h (dq_t (dq_t (dq_t (dq_t (dq_t dzX11_together_0)))))
theorem dX11_together_8 : decode cX11_together 8 = .ok (.istore_n 3, 1) := dq_h (dq_t (dq_t (dq_t (dq_t (dq_t (dq_t dzX11_together_0))))))
theorem dX11_together_9 : decode cX11_together 9 = .ok (.iconst 0, 1) := dq_h (dq_t (dq_t (dq_t (dq_t (dq_t (dq_t (dq_t dzX11_together_0)))))))
theorem dX11_together_10 : decode cX11_together 10 = .ok (.istore 4, 2) := dq_h (dq_t (dq_t (dq_t (dq_t (dq_t (dq_t (dq_t (dq_t dzX11_together_0))))))))
theorem dX11_together_12 : decode cX11_together 12 = .ok (.iload 4, 2) := dq_h (dq_t (dq_t (dq_t (dq_t (dq_t (dq_t (dq_t (dq_t (dq_t dzX11_together_0)))))))))
theorem dX11_together_14 : decode cX11_together 14 = .ok (.aload_n 0, 1) := dq_h (dq_t (dq_t (dq_t (dq_t (dq_t (dq_t (dq_t (dq_t (dq_t (dq_t dzX11_together_0))))))))))
theorem dX11_together_15 : decode cX11_together 15 = .ok (.getfield 57, 3) := dq_h (dq_t (dq_t (dq_t (dq_t (dq_t (dq_t (dq_t (dq_t (dq_t (dq_t (dq_t dzX11_together_0)))))))))))
theorem dX11_together_18 : decode cX11_together 18 = .ok (.getfield 108, 3) := dq_h (dq_t (dq_t (dq_t (dq_t (dq_t (dq_t (dq_t (dq_t (dq_t (dq_t (dq_t (dq_t dzX11_together_0))))))))))))
theorem dX11_together_21 : decode cX11_together 21 = .ok (.if_icmp .ge 49, 3) := dq_h (dq_t (dq_t (dq_t (dq_t (dq_t (dq_t (dq_t (dq_t (dq_t (dq_t (dq_t (dq_t (dq_t dzX11_together_0)))))))))))))
theorem dX11_together_24 : decode cX11_together 24 = .ok (.iload_n 1, 1) := dq_h (dq_t (dq_t (dq_t (dq_t (dq_t (dq_t (dq_t (dq_t (dq_t (dq_t (dq_t (dq_t (dq_t (dq_t dzX11_together_0))))))))))))))
theorem dX11_together_25 : decode cX11_together 25 = .ok (.iload 4, 2) := dq_h (dq_t (dq_t (dq_t (dq_t (dq_t (dq_t (dq_t (dq_t (dq_t (dq_t (dq_t (dq_t (dq_t (dq_t (dq_t dzX11_together_0)))))))))))))))
theorem dX11_together_27 : decode cX11_together 27 = .ok (.invokestatic 279, 3) := dq_h (dq_t (dq_t (dq_t (dq_t (dq_t (dq_t (dq_t (dq_t (dq_t (dq_t (dq_t (dq_t (dq_t (dq_t (dq_t (dq_t dzX11_together_0))))))))))))))))
theorem dX11_together_30 : decode cX11_together 30 = .ok (.ifCond .eq 34, 3) := dq_h (dq_t (dq_t (dq_t (dq_t (dq_t (dq_t (dq_t (dq_t (dq_t (dq_t (dq_t (dq_t (dq_t (dq_t (dq_t (dq_t (dq_t dzX11_together_0)))))))))))))))))
theorem dX11_together_33 : decode cX11_together 33 = .ok (.aload_n 0, 1) := dq_h (dq_t (dq_t (dq_t (dq_t (dq_t (dq_t (dq_t (dq_t (dq_t (dq_t (dq_t (dq_t (dq_t (dq_t (dq_t (dq_t (dq_t (dq_t dzX11_together_0))))))))))))))))))
theorem dX11_together_34 : decode cX11_together 34 = .ok (.iload 4, 2) := dq_h (dq_t (dq_t (dq_t (dq_t (dq_t (dq_t (dq_t (dq_t (dq_t (dq_t (dq_t (dq_t (dq_t (dq_t (dq_t (dq_t (dq_t (dq_t (dq_t dzX11_together_0)))))))))))))))))))
theorem dX11_together_36 : decode cX11_together 36 = .ok (.iload_n 2, 1) := dq_h (dq_t (dq_t (dq_t (dq_t (dq_t (dq_t (dq_t (dq_t (dq_t (dq_t (dq_t (dq_t (dq_t (dq_t (dq_t (dq_t (dq_t (dq_t (dq_t (dq_t dzX11_together_0))))))))))))))))))))
theorem dX11_together_37 : decode cX11_together 37 = .ok (.iload_n 3, 1) := dq_h (dq_t (dq_t (dq_t (dq_t (dq_t (dq_t (dq_t (dq_t (dq_t (dq_t (dq_t (dq_t (dq_t (dq_t (dq_t (dq_t (dq_t (dq_t (dq_t (dq_t (dq_t dzX11_together_0)))))))))))))))))))))
theorem dX11_together_38 : decode cX11_together 38 = .ok (.invokevirtual 283, 3) := dq_h (dq_t (dq_t (dq_t (dq_t (dq_t (dq_t (dq_t (dq_t (dq_t (dq_t (dq_t (dq_t (dq_t (dq_t (dq_t (dq_t (dq_t (dq_t (dq_t (dq_t (dq_t (dq_t dzX11_together_0))))))))))))))))))))))
theorem dX11_together_41 : decode cX11_together 41 = .ok (.istore_n 2, 1) := dq_h (dq_t (dq_t (dq_t (dq_t (dq_t (dq_t (dq_t (dq_t (dq_t (dq_t (dq_t (dq_t (dq_t (dq_t (dq_t (dq_t (dq_t (dq_t (dq_t (dq_t (dq_t (dq_t (dq_t dzX11_together_0)))))))))))))))))))))))
theorem dzX11_together_42 : dq_F cX11_together [(42, .iload_n 2, 1), (43, .iconst (-1), 1), (44, .if_icmp .ne 5, 3), (47, .iconst (-1), 1), (48, .ireturn, 1), (49, .iload_n 3, 1), (50, .aload_n 0, 1), (51, .getfield 57, 3), (54, .getfield 165, 3), (57, .iload 4, 2), (59, .iaload, 1), (60, .invokestatic 287, 3), (63, .istore_n 3, 1), (64, .iinc 4 1, 3), (67, .goto (-55), 3), (70, .iload_n 2, 1), (71, .ireturn, 1)] := dq_s 17 42 (by decide +kernel)
theorem dX11_together_42 : decode cX11_together 42 = .ok (.iload_n 2, 1) := dq_h dzX11_together_42
theorem dX11_together_43 : decode cX11_together 43 = .ok (.iconst (-1), 1) := dq_h (dq_t dzX11_together_42)
theorem dX11_together_44 : decode cX11_together 44 = .ok (.if_icmp .ne 5, 3) := dq_h (dq_t (dq_t dzX11_together_42))
theorem dX11_together_47 : decode cX11_together 47 = .ok (.iconst (-1), 1) := dq_h (dq_t (dq_t (dq_t dzX11_together_42)))
theorem dX11_together_48 : decode cX11_together 48 = .ok (.ireturn, 1) := dq_h (dq_t (dq_t (dq_t (dq_t dzX11_together_42))))
theorem dX11_together_49 : decode cX11_together 49 = .ok (.iload_n 3, 1) := dq_h (dq_t (dq_t (dq_t (dq_t (dq_t dzX11_together_42)))))
theorem dX11_together_50 : decode cX11_together 50 = .ok (.aload_n 0, 1) := dq_h (dq_t (dq_t (dq_t (dq_t (dq_t (dq_t dzX11_together_42))))))
theorem dX11_together_51 : decode cX11_together 51 = .ok (.getfield 57, 3) := dq_h (dq_t (dq_t (dq_t (dq_t (dq_t (dq_t (dq_t dzX11_together_42)))))))
theorem dX11_together_54 : decode cX11_together 54 = .ok (.getfield 165, 3) := dq_h (dq_t (dq_t (dq_t (dq_t (dq_t (dq_t (dq_t (dq_t dzX11_together_42))))))))
theorem dX11_together_57 : decode cX11_together 57 = .ok (.iload 4, 2) := dq_h (dq_t (dq_t (dq_t (dq_t (dq_t (dq_t (dq_t (dq_t (dq_t dzX11_together_42)))))))))
theorem dX11_together_59 : decode cX11_together 59 = .ok (.iaload, 1) := dq_h (dq_t (dq_t (dq_t (dq_t (dq_t (dq_t (dq_t (dq_t (dq_t (dq_t dzX11_together_42))))))))))
theorem dX11_together_60 : decode cX11_together 60 = .ok (.invokestatic 287, 3) := dq_h (dq_t (dq_t (dq_t (dq_t (dq_t (dq_t (dq_t (dq_t (dq_t (dq_t (dq_t dzX11_together_42)))))))))))
theorem dX11_together_63 : decode cX11_together 63 = .ok (.istore_n 3, 1) := dq_h (dq_t (dq_t (dq_t (dq_t (dq_t (dq_t (dq_t (dq_t (dq_t (dq_t (dq_t (dq_t dzX11_together_42))))))))))))
theorem dX11_together_64 : decode cX11_together 64 = .ok (.iinc 4 1, 3) := dq_h (dq_t (dq_t (dq_t (dq_t (dq_t (dq_t (dq_t (dq_t (dq_t (dq_t (dq_t (dq_t (dq_t dzX11_together_42)))))))))))))
theorem dX11_together_67 : decode cX11_together 67 = .ok (.goto (-55), 3) := dq_h (dq_t (dq_t (dq_t (dq_t (dq_t (dq_t (dq_t (dq_t (dq_t (dq_t (dq_t (dq_t (dq_t (dq_t dzX11_together_42))))))))))))))
theorem dX11_together_70 : decode cX11_together 70 = .ok (.iload_n 2, 1) := dq_h (dq_t (dq_t (dq_t (dq_t (dq_t (dq_t (dq_t (dq_t (dq_t (dq_t (dq_t (dq_t (dq_t (dq_t (dq_t dzX11_together_42)))))))))))))))
theorem dX11_together_71 : decode cX11_together 71 = .ok (.ireturn, 1) := dq_h (dq_t (dq_t (dq_t (dq_t (dq_t (dq_t (dq_t (dq_t (dq_t (dq_t (dq_t (dq_t (dq_t (dq_t (dq_t (dq_t dzX11_together_42))))))))))))))))
theorem dzX11_rhythm_0 : dq_F cX11_rhythm [(0, .aload_n 0, 1), (1, .iload_n 1, 1), (2, .invokevirtual 276, 3), (5, .iconst 1, 1), (6, .istore_n 2, 1), (7, .iconst 0, 1), (8, .istore_n 3, 1), (9, .iload_n 3, 1), (10, .aload_n 0, 1), (11, .getfield 57, 3), (14, .getfield 108, 3), (17, .if_icmp .ge 31, 3), (20, .iload_n 1, 1), (21, .iload_n 3, 1), (22, .invokestatic 279, 3), (25, .ifCond .eq 17, 3), (28, .iload_n 2, 1), (29, .aload_n 0, 1), (30, .getfield 57, 3), (33, .getfield 165, 3), (36, .iload_n 3, 1), (37, .iaload, 1), (38, .invokestatic 287, 3), (41, .istore_n 2, 1)] := dq_s 24 0 (by decide +kernel)
theorem dX11_rhythm_0 : decode cX11_rhythm 0 = .ok (.aload_n 0, 1) := dq_h dzX11_rhythm_0
theorem dX11_rhythm_1 : decode cX11_rhythm 1 = .ok (.iload_n 1, 1) := dq_h (dq_t dzX11_rhythm_0)
theorem dX11_rhythm_2 : decode cX11_rhythm 2 = .ok (.invokevirtual 276, 3) := dq_h (dq_t (dq_t dzX11_rhythm_0))
theorem dX11_rhythm_5 : decode cX11_rhythm 5 = .ok (.iconst 1, 1) := dq_h (dq_t (dq_t (dq_t dzX11_rhythm_0)))
theorem dX11_rhythm_6 : decode cX11_rhythm 6 = .ok (.istore_n 2, 1) := dq_h (dq_t (dq_t (dq_t (dq_t dzX11_rhythm_0))))
theorem dX11_rhythm_7 : decode cX11_rhythm 7 = .ok (.iconst 0, 1) := dq_h (dq_t (dq_t (dq_t (dq_t (dq_t dzX11_rhythm_0)))))
theorem dX11_rhythm_8 : decode cX11_rhythm 8 = .ok (.istore_n 3, 1) := dq_h (dq_t (dq_t (dq_t (dq_t (dq_t (dq_t dzX11_rhythm_0))))))
theorem dX11_rhythm_9 : decode cX11_rhythm 9 = .ok (.iload_n 3, 1) := dq_h (dq_t (dq_t (dq_t (dq_t (dq_t (dq_t (dq_t dzX11_rhythm_0)))))))
theorem dX11_rhythm_10 : decode cX11_rhythm 10 = .ok (.aload_n 0, 1) := dq_h (dq_t (dq_t (dq_t (dq_t (dq_t (dq_t (dq_t (dq_t dzX11_rhythm_0))))))))
theorem dX11_rhythm_11 : decode cX11_rhythm 11 = .ok (.getfield 57, 3) := dq_h (dq_t (dq_t (dq_t (dq_t (dq_t (dq_t (dq_t (dq_t (dq_t dzX11_rhythm_0)))))))))
theorem dX11_rhythm_14 : decode cX11_rhythm 14 = .ok (.getfield 108, 3) := dq_h (dq_t (dq_t (dq_t (dq_t (dq_t (dq_t (dq_t (dq_t (dq_t (dq_t dzX11_rhythm_0))))))))))
theorem dX11_rhythm_17 : decode cX11_rhythm 17 = .ok (.if_icmp .ge 31, 3) := dq_h (dq_t (dq_t (dq_t (dq_t (dq_t (dq_t (dq_t (dq_t (dq_t (dq_t (dq_t dzX11_rhythm_0)))))))))))
theorem dX11_rhythm_20 : decode cX11_rhythm 20 = .ok (.iload_n 1, 1) := dq_h (dq_t (dq_t (dq_t (dq_t (dq_t (dq_t (dq_t (dq_t (dq_t (dq_t (dq_t (dq_t dzX11_rhythm_0))))))))))))
theorem dX11_rhythm_21 : decode cX11_rhythm 21 = .ok (.iload_n 3, 1) := dq_h (dq_t (dq_t (dq_t (dq_t (dq_t (dq_t (dq_t (dq_t (dq_t (dq_t (dq_t (dq_t (dq_t dzX11_rhythm_0)))))))))))))
theorem dX11_rhythm_22 : decode cX11_rhythm 22 = .ok (.invokestatic 279, 3) := dq_h (dq_t (dq_t (dq_t (dq_t (dq_t (dq_t (dq_t (dq_t (dq_t (dq_t (dq_t (dq_t (dq_t (dq_t dzX11_rhythm_0))))))))))))))
theorem dX11_rhythm_25 : decode cX11_rhythm 25 = .ok (.ifCond .eq 17, 3) := dq_h (dq_t (dq_t (dq_t (dq_t (dq_t (dq_t (dq_t (dq_t (dq_t (dq_t (dq_t (dq_t (dq_t (dq_t (dq_t dzX11_rhythm_0)))))))))))))))
theorem dX11_rhythm_28 : decode cX11_rhythm 28 = .ok (.iload_n 2, 1) := dq_h (dq_t (dq_t (dq_t (dq_t (dq_t (dq_t (dq_t (dq_t (dq_t (dq_t (dq_t (dq_t (dq_t (dq_t (dq_t (dq_t dzX11_rhythm_0))))))))))))))))
theorem dX11_rhythm_29 : decode cX11_rhythm 29 = .ok (.aload_n 0, 1) := dq_h (dq_t (dq_t (dq_t (dq_t (dq_t (dq_t (dq_t (dq_t (dq_t (dq_t (dq_t (dq_t (dq_t (dq_t (dq_t (dq_t (dq_t dzX11_rhythm_0)))))))))))))))))
theorem dX11_rhythm_30 : decode cX11_rhythm 30 = .ok (.getfield 57, 3) := dq_h (dq_t (dq_t (dq_t (dq_t (dq_t (dq_t (dq_t (dq_t (dq_t (dq_t (dq_t (dq_t (dq_t (dq_t (dq_t (dq_t (dq_t (dq_t dzX11_rhythm_0))))))))))))))))))
theorem dX11_rhythm_33 : decode cX11_rhythm 33 = .ok (.getfield 165, 3) := dq_h (dq_t (dq_t (dq_t (dq_t (dq_t (dq_t (dq_t (dq_t (dq_t (dq_t (dq_t (dq_t (dq_t (dq_t (dq_t (dq_t (dq_t (dq_t (dq_t dzX11_rhythm_0)))))))))))))))))))
theorem dX11_rhythm_36 : decode cX11_rhythm 36 = .ok (.iload_n 3, 1) := dq_h (dq_t (dq_t (dq_t (dq_t (dq_t (dq_t (dq_t (dq_t (dq_t (dq_t (dq_t (dq_t (dq_t (dq_t (dq_t (dq_t (dq_t (dq_t (dq_t (dq_t dzX11_rhythm_0))))))))))))))))))))
theorem dX11_rhythm_37 : decode cX11_rhythm 37 = .ok (.iaload, 1) := dq_h (dq_t (dq_t (dq_t (dq_t (dq_t (dq_t (dq_t (dq_t (dq_t (dq_t (dq_t (dq_t (dq_t (dq_t (dq_t (dq_t (dq_t (dq_t (dq_t (dq_t (dq_t dzX11_rhythm_0)))))))))))))))))))))
theorem dX11_rhythm_38 : decode cX11_rhythm 38 = .ok (.invokestatic 287, 3) := dq_h (dq_t (dq_t (dq_t (dq_t (dq_t (dq_t (dq_t (dq_t (dq_t (dq_t (dq_t (dq_t (dq_t (dq_t (dq_t (dq_t (dq_t (dq_t (dq_t (dq_t (dq_t (dq_t dzX11_rhythm_0))))))))))))))))))))))
theorem dX11_rhythm_41 : decode cX11_rhythm 41 = .ok (.istore_n 2, 1) := dq_h (dq_t (dq_t (dq_t (dq_t (dq_t (dq_t (dq_t (dq_t (dq_t (dq_t (dq_t (dq_t (dq_t (dq_t (dq_t (dq_t (dq_t (dq_t (dq_t (dq_t (dq_t (dq_t (dq_t dzX11_rhythm_0)))))))))))))))))))))))
theorem dzX11_rhythm_42 : dq_F cX11_rhythm [(42, .iinc 3 1, 3), (45, .goto (-36), 3), (48, .iload_n 2, 1), (49, .ireturn, 1)] := dq_s 4 42 (by decide +kernel)
theorem dX11_rhythm_42 : decode cX11_rhythm 42 = .ok (.iinc 3 1, 3) := dq_h dzX11_rhythm_42
theorem dX11_rhythm_45 : decode cX11_rhythm 45 = .ok (.goto (-36), 3) := dq_h (dq_t dzX11_rhythm_42)
theorem dX11_rhythm_48 : decode cX11_rhythm 48 = .ok (.iload_n 2, 1) := dq_h (dq_t (dq_t dzX11_rhythm_42))
theorem dX11_rhythm_49 : decode cX11_rhythm 49 = .ok (.ireturn, 1) := dq_h (dq_t (dq_t (dq_t dzX11_rhythm_42)))
theorem dzX11_often_0 : dq_F cX11_often [(0, .aload_n 0, 1), (1, .iload_n 1, 1), (2, .invokevirtual 162, 3), (5, .iload_n 2, 1), (6, .iconst 0, 1), (7, .bipush 60, 2), (9, .invokestatic 239, 3), (12, .iconst 0, 1), (13, .istore_n 3, 1), (14, .iconst 1, 1), (15, .istore 4, 2), (17, .iload 4, 2), (19, .iload_n 2, 1), (20, .if_icmp .gt 22, 3), (23, .aload_n 0, 1), (24, .iload_n 1, 1), (25, .iload 4, 2), (27, .invokevirtual 290, 3), (30, .ifCond .eq 6, 3), (33, .iinc 3 1, 3), (36, .iinc 4 1, 3), (39, .goto (-22), 3), (42, .iload_n 3, 1), (43, .ireturn, 1)] := dq_s 24 0 (by decide +kernel)
theorem dX11_often_0 : decode cX11_often 0 = .ok (.aload_n 0, 1) := dq_h dzX11_often_0
theorem dX11_often_1 : decode cX11_often 1 = .ok (.iload_n 1, 1) := dq_h (dq_t dzX11_often_0)
theorem dX11_often_2 : decode cX11_often 2 = .ok (.invokevirtual 162, 3) := dq_h (dq_t (dq_t dzX11_often_0))
theorem dX11_often_5 : decode cX11_often 5 = .ok (.iload_n 2, 1) := dq_h (dq_t (dq_t (dq_t dzX11_often_0)))
theorem dX11_often_6 : decode cX11_often 6 = .ok (.iconst 0, 1) := dq_h (dq_t (dq_t (dq_t (dq_t dzX11_often_0))))
theorem dX11_often_7 : decode cX11_often 7 = .ok (.bipush 60, 2) := dq_h (dq_t (dq_t (dq_t (dq_t (dq_t dzX11_often_0)))))
theorem dX11_often_9 : decode cX11_often 9 = .ok (.invokestatic 239, 3) := dq_h (dq_t (dq_t (dq_t (dq_t (dq_t (dq_t dzX11_often_0))))))
theorem dX11_often_12 : decode cX11_often 12 = .ok (.iconst 0, 1) := dq_h (dq_t (dq_t (dq_t (dq_t (dq_t (dq_t (dq_t dzX11_often_0)))))))
theorem dX11_often_13 : decode cX11_often 13 = .ok (.istore_n 3, 1) := dq_h (dq_t (dq_t (dq_t (dq_t (dq_t (dq_t (dq_t (dq_t dzX11_often_0))))))))
theorem dX11_often_14 : decode cX11_often 14 = .ok (.iconst 1, 1) := dq_h (dq_t (dq_t (dq_t (dq_t (dq_t (dq_t (dq_t (dq_t (dq_t dzX11_often_0)))))))))
theorem dX11_often_15 : decode cX11_often 15 = .ok (.istore 4, 2) := dq_h (dq_t (dq_t (dq_t (dq_t (dq_t (dq_t (dq_t (dq_t (dq_t (dq_t dzX11_often_0))))))))))
theorem dX11_often_17 : decode cX11_often 17 = .ok (.iload 4, 2) := dq_h (dq_t (dq_t (dq_t (dq_t (dq_t (dq_t (dq_t (dq_t (dq_t (dq_t (dq_t dzX11_often_0)))))))))))
theorem dX11_often_19 : decode cX11_often 19 = .ok (.iload_n 2, 1) := dq_h (dq_t (dq_t (dq_t (dq_t (dq_t (dq_t (dq_t (dq_t (dq_t (dq_t (dq_t (dq_t dzX11_often_0))))))))))))
theorem dX11_often_20 : decode cX11_often 20 = .ok (.if_icmp .gt 22, 3) := dq_h (dq_t (dq_t (dq_t (dq_t (dq_t (dq_t (dq_t (dq_t (dq_t (dq_t (dq_t (dq_t (dq_t dzX11_often_0)))))))))))))
theorem dX11_often_23 : decode cX11_often 23 = .ok (.aload_n 0, 1) := dq_h (dq_t (dq_t (dq_t (dq_t (dq_t (dq_t (dq_t (dq_t (dq_t (dq_t (dq_t (dq_t (dq_t (dq_t dzX11_often_0))))))))))))))
theorem dX11_often_24 : decode cX11_often 24 = .ok (.iload_n 1, 1) := dq_h (dq_t (dq_t (dq_t (dq_t (dq_t (dq_t (dq_t (dq_t (dq_t (dq_t (dq_t (dq_t (dq_t (dq_t (dq_t dzX11_often_0)))))))))))))))
theorem dX11_often_25 : decode cX11_often 25 = .ok (.iload 4, 2) := dq_h (dq_t (dq_t (dq_t (dq_t (dq_t (dq_t (dq_t (dq_t (dq_t (dq_t (dq_t (dq_t (dq_t (dq_t (dq_t (dq_t dzX11_often_0))))))))))))))))
theorem dX11_often_27 : decode cX11_often 27 = .ok (.invokevirtual 290, 3) := dq_h (dq_t (dq_t (dq_t (dq_t (dq_t (dq_t (dq_t (dq_t (dq_t (dq_t (dq_t (dq_t (dq_t (dq_t (dq_t (dq_t (dq_t dzX11_often_0)))))))))))))))))
theorem dX11_often_30 : decode cX11_often 30 = .ok (.ifCond .eq 6, 3) := dq_h (dq_t (dq_t (dq_t (dq_t (dq_t (dq_t (dq_t (dq_t (dq_t (dq_t (dq_t (dq_t (dq_t (dq_t (dq_t (dq_t (dq_t (dq_t dzX11_often_0))))))))))))))))))
theorem dX11_often_33 : decode cX11_often 33 = .ok (.iinc 3 1, 3) := dq_h (dq_t (dq_t (dq_t (dq_t (dq_t (dq_t (dq_t (dq_t (dq_t (dq_t (dq_t (dq_t (dq_t (dq_t (dq_t (dq_t (dq_t (dq_t (dq_t dzX11_often_0)))))))))))))))))))
theorem dX11_often_36 : decode cX11_often 36 = .ok (.iinc 4 1, 3) := dq_h (dq_t (dq_t (dq_t (dq_t (dq_t (dq_t (dq_t (dq_t (dq_t (dq_t (dq_t (dq_t (dq_t (dq_t (dq_t (dq_t (dq_t (dq_t (dq_t (dq_t dzX11_often_0))))))))))))))))))))
theorem dX11_often_39 : decode cX11_often 39 = .ok (.goto (-22), 3) := dq_h (dq_t (dq_t (dq_t (dq_t (dq_t (dq_t (dq_t (dq_t (dq_t (dq_t (dq_t (dq_t (dq_t (dq_t (dq_t (dq_t (dq_t (dq_t (dq_t (dq_t (dq_t dzX11_often_0)))))))))))))))))))))
theorem dX11_often_42 : decode cX11_often 42 = .ok (.iload_n 3, 1) := dq_h (dq_t (dq_t (dq_t (dq_t (dq_t (dq_t (dq_t (dq_t (dq_t (dq_t (dq_t (dq_t (dq_t (dq_t (dq_t (dq_t (dq_t (dq_t (dq_t (dq_t (dq_t (dq_t dzX11_often_0))))))))))))))))))))))
theorem dX11_often_43 : decode cX11_often 43 = .ok (.ireturn, 1) := dq_h (dq_t (dq_t (dq_t (dq_t (dq_t (dq_t (dq_t (dq_t (dq_t (dq_t (dq_t (dq_t (dq_t (dq_t (dq_t (dq_t (dq_t (dq_t (dq_t (dq_t (dq_t (dq_t (dq_t dzX11_often_0)))))))))))))))))))))))
theorem dzX11_toHire_0 : dq_F cX11_toHire [(0, .aload_n 0, 1), (1, .iload_n 1, 1), (2, .invokevirtual 191, 3), (5, .iload_n 3, 1), (6, .iconst 1, 1), (7, .invokestatic 236, 3), (10, .iload_n 2, 1), (11, .iconst 1, 1), (12, .bipush 60, 2), (14, .invokestatic 239, 3), (17, .iconst (-1), 1), (18, .istore 4, 2), (20, .iconst (-1), 1), (21, .istore 5, 2), (23, .iconst 0, 1), (24, .istore 6, 2), (26, .iload 6, 2), (28, .aload_n 0, 1), (29, .getfield 57, 3), (32, .getfield 108, 3), (35, .if_icmp .ge 110, 3), (38, .aload_n 0, 1), (39, .getfield 19, 3), (42, .getfield 105, 3)] := dq_s 24 0 (by decide +kernel)
theorem dX11_toHire_0 : decode cX11_toHire 0 = .ok (.aload_n 0, 1) := dq_h dzX11_toHire_0
theorem dX11_toHire_1 : decode cX11_toHire 1 = .ok (.iload_n 1, 1) := dq_h (dq_t dzX11_toHire_0)
theorem dX11_toHire_2 : decode cX11_toHire 2 = .ok (.invokevirtual 191, 3) := dq_h (dq_t (dq_t dzX11_toHire_0))
theorem dX11_toHire_5 : decode cX11_toHire 5 = .ok (.iload_n 3, 1) := dq_h (dq_t (dq_t (dq_t dzX11_toHire_0)))
theorem dX11_toHire_6 : decode cX11_toHire 6 = .ok (.iconst 1, 1) := dq_h (dq_t (dq_t (dq_t (dq_t dzX11_toHire_0))))
theorem dX11_toHire_7 : decode cX11_toHire 7 = .ok (.invokestatic 236, 3) := dq_h (dq_t (dq_t (dq_t (dq_t (dq_t dzX11_toHire_0)))))
theorem dX11_toHire_10 : decode cX11_toHire 10 = .ok (.iload_n 2, 1) := dq_h (dq_t (dq_t (dq_t (dq_t (dq_t (dq_t dzX11_toHire_0))))))
theorem dX11_toHire_11 : decode cX11_toHire 11 = .ok (.iconst 1, 1) := dq_h (dq_t (dq_t (dq_t (dq_t (dq_t (dq_t (dq_t dzX11_toHire_0)))))))
theorem dX11_toHire_12 : decode cX11_toHire 12 = .ok (.bipush 60, 2) := dq_h (dq_t (dq_t (dq_t (dq_t (dq_t (dq_t (dq_t (dq_t dzX11_toHire_0))))))))
theorem dX11_toHire_14 : decode cX11_toHire 14 = .ok (.invokestatic 239, 3) := dq_h (dq_t (dq_t (dq_t (dq_t (dq_t (dq_t (dq_t (dq_t (dq_t dzX11_toHire_0)))))))))
theorem dX11_toHire_17 : decode cX11_toHire 17 = .ok (.iconst (-1), 1) := dq_h (dq_t (dq_t (dq_t (dq_t (dq_t (dq_t (dq_t (dq_t (dq_t (dq_t dzX11_toHire_0))))))))))
theorem dX11_toHire_18 : decode cX11_toHire 18 = .ok (.istore 4, 2) := dq_h (dq_t (dq_t (dq_t (dq_t (dq_t (dq_t (dq_t (dq_t (dq_t (dq_t (dq_t dzX11_toHire_0)))))))))))
theorem dX11_toHire_20 : decode cX11_toHire 20 = .ok (.iconst (-1), 1) := dq_h (dq_t (dq_t (dq_t (dq_t (dq_t (dq_t (dq_t (dq_t (dq_t (dq_t (dq_t (dq_t dzX11_toHire_0))))))))))))
theorem dX11_toHire_21 : decode cX11_toHire 21 = .ok (.istore 5, 2) := dq_h (dq_t (dq_t (dq_t (dq_t (dq_t (dq_t (dq_t (dq_t (dq_t (dq_t (dq_t (dq_t (dq_t dzX11_toHire_0)))))))))))))
theorem dX11_toHire_23 : decode cX11_toHire 23 = .ok (.iconst 0, 1) := dq_h (dq_t (dq_t (dq_t (dq_t (dq_t (dq_t (dq_t (dq_t (dq_t (dq_t (dq_t (dq_t (dq_t (dq_t dzX11_toHire_0))))))))))))))
theorem dX11_toHire_24 : decode cX11_toHire 24 = .ok (.istore 6, 2) := dq_h (dq_t (dq_t (dq_t (dq_t (dq_t (dq_t (dq_t (dq_t (dq_t (dq_t (dq_t (dq_t (dq_t (dq_t (dq_t dzX11_toHire_0)))))))))))))))
theorem dX11_toHire_26 : decode cX11_toHire 26 = .ok (.iload 6, 2) := dq_h (dq_t (dq_t (dq_t (dq_t (dq_t (dq_t (dq_t (dq_t (dq_t (dq_t (dq_t (dq_t (dq_t (dq_t (dq_t (dq_t dzX11_toHire_0))))))))))))))))
theorem dX11_toHire_28 : decode cX11_toHire 28 = .ok (.aload_n 0, 1) := dq_h (dq_t (dq_t (dq_t (dq_t (dq_t (dq_t (dq_t (dq_t (dq_t (dq_t (dq_t (dq_t (dq_t (dq_t (dq_t (dq_t (dq_t dzX11_toHire_0)))))))))))))))))
theorem dX11_toHire_29 : decode cX11_toHire 29 = .ok (.getfield 57, 3) := dq_h (dq_t (dq_t (dq_t (dq_t (dq_t (dq_t (dq_t (dq_t (dq_t (dq_t (dq_t (dq_t (dq_t (dq_t (dq_t (dq_t (dq_t (dq_t dzX11_toHire_0))))))))))))))))))
theorem dX11_toHire_32 : decode cX11_toHire 32 = .ok (.getfield 108, 3) := dq_h (dq_t (dq_t (dq_t (dq_t (dq_t (dq_t (dq_t (dq_t (dq_t (dq_t (dq_t (dq_t (dq_t (dq_t (dq_t (dq_t (dq_t (dq_t (dq_t dzX11_toHire_0)))))))))))))))))))
theorem dX11_toHire_35 : decode cX11_toHire 35 = .ok (.if_icmp .ge 110, 3) := dq_h (dq_t (dq_t (dq_t (dq_t (dq_t (dq_t (dq_t (dq_t (dq_t (dq_t (dq_t (dq_t (dq_t (dq_t (dq_t (dq_t (dq_t (dq_t (dq_t (dq_t dzX11_toHire_0))))))))))))))))))))
theorem dX11_toHire_38 : decode cX11_toHire 38 = .ok (.aload_n 0, 1) := dq_h (dq_t (dq_t (dq_t (dq_t (dq_t (dq_t (dq_t (dq_t (dq_t (dq_t (dq_t (dq_t (dq_t (dq_t (dq_t (dq_t (dq_t (dq_t (dq_t (dq_t (dq_t dzX11_toHire_0)))))))))))))))))))))
theorem dX11_toHire_39 : decode cX11_toHire 39 = .ok (.getfield 19, 3) := dq_h (dq_t (dq_t (dq_t (dq_t (dq_t (dq_t (dq_t (dq_t (dq_t (dq_t (dq_t (dq_t (dq_t (dq_t (dq_t (dq_t (dq_t (dq_t (dq_t (dq_t (dq_t (dq_t dzX11_toHire_0))))))))))))))))))))))
theorem dX11_toHire_42 : decode cX11_toHire 42 = .ok (.getfield 105, 3) := dq_h (dq_t (dq_t (dq_t (dq_t (dq_t (dq_t (dq_t (dq_t (dq_t (dq_t (dq_t (dq_t (dq_t (dq_t (dq_t (dq_t (dq_t (dq_t (dq_t (dq_t (dq_t (dq_t (dq_t dzX11_toHire_0)))))))))))))))))))))))
theorem dzX11_toHire_45 : dq_F cX11_toHire [(45, .aload_n 0, 1), (46, .getfield 57, 3), (49, .iload 6, 2), (51, .invokevirtual 182, 3), (54, .istore 7, 2), (56, .iload 7, 2), (58, .iconst (-1), 1), (59, .if_icmp .eq 9, 3), (62, .iload 7, 2), (64, .iload_n 1, 1), (65, .if_icmp .ne 74, 3), (68, .aload_n 0, 1), (69, .getfield 36, 3), (72, .aload_n 0, 1), (73, .getfield 57, 3), (76, .aload_n 0, 1), (77, .getfield 19, 3), (80, .getfield 105, 3), (83, .iload_n 1, 1), (84, .invokevirtual 243, 3), (87, .aload_n 0, 1), (88, .getfield 36, 3), (91, .iload 6, 2), (93, .putfield 256, 3)] := dq_s 24 45 (by decide +kernel)
theorem dX11_toHire_45 : decode cX11_toHire 45 = .ok (.aload_n 0, 1) := dq_h dzX11_toHire_45
theorem dX11_toHire_46 : decode cX11_toHire 46 = .ok (.getfield 57, 3) := dq_h (dq_t dzX11_toHire_45)
theorem dX11_toHire_49 : decode cX11_toHire 49 = .ok (.iload 6, 2) := dq_h (dq_t (dq_t dzX11_toHire_45))
theorem dX11_toHire_51 : decode cX11_toHire 51 = .ok (.invokevirtual 182, 3) := dq_h (dq_t (dq_t (dq_t dzX11_toHire_45)))
theorem dX11_toHire_54 : decode cX11_toHire 54 = .ok (.istore 7, 2) := dq_h (dq_t (dq_t (dq_t (dq_t dzX11_toHire_45))))
theorem dX11_toHire_56 : decode cX11_toHire 56 = .ok (.iload 7, 2) := dq_h (dq_t (dq_t (dq_t (dq_t (dq_t dzX11_toHire_45)))))
theorem dX11_toHire_58 : decode cX11_toHire 58 = .ok (.iconst (-1), 1) := dq_h (dq_t (dq_t (dq_t (dq_t (dq_t (dq_t dzX11_toHire_45))))))
theorem dX11_toHire_59 : decode cX11_toHire 59 = .ok (.if_icmp .eq 9, 3) := dq_h (dq_t (dq_t (dq_t (dq_t (dq_t (dq_t (dq_t dzX11_toHire_45)))))))
theorem dX11_toHire_62 : decode cX11_toHire 62 = .ok (.iload 7, 2) := dq_h (dq_t (dq_t (dq_t (dq_t (dq_t (dq_t (dq_t (dq_t dzX11_toHire_45))))))))
theorem dX11_toHire_64 : decode cX11_toHire 64 = .ok (.iload_n 1, 1) := dq_h (dq_t (dq_t (dq_t (dq_t (dq_t (dq_t (dq_t (dq_t (dq_t dzX11_toHire_45)))))))))
theorem dX11_toHire_65 : decode cX11_toHire 65 = .ok (.if_icmp .ne 74, 3) := dq_h (dq_t (dq_t (dq_t (dq_t (dq_t (dq_t (dq_t (dq_t (dq_t (dq_t dzX11_toHire_45))))))))))
theorem dX11_toHire_68 : decode cX11_toHire 68 = .ok (.aload_n 0, 1) := dq_h (dq_t (dq_t (dq_t (dq_t (dq_t (dq_t (dq_t (dq_t (dq_t (dq_t (dq_t dzX11_toHire_45)))))))))))
theorem dX11_toHire_69 : decode cX11_toHire 69 = .ok (.getfield 36, 3) := dq_h (dq_t (dq_t (dq_t (dq_t (dq_t (dq_t (dq_t (dq_t (dq_t (dq_t (dq_t (dq_t dzX11_toHire_45))))))))))))
theorem dX11_toHire_72 : decode cX11_toHire 72 = .ok (.aload_n 0, 1) := dq_h (dq_t (dq_t (dq_t (dq_t (dq_t (dq_t (dq_t (dq_t (dq_t (dq_t (dq_t (dq_t (dq_t dzX11_toHire_45)))))))))))))
theorem dX11_toHire_73 : decode cX11_toHire 73 = .ok (.getfield 57, 3) := dq_h (dq_t (dq_t (dq_t (dq_t (dq_t (dq_t (dq_t (dq_t (dq_t (dq_t (dq_t (dq_t (dq_t (dq_t dzX11_toHire_45))))))))))))))
theorem dX11_toHire_76 : decode cX11_toHire 76 = .ok (.aload_n 0, 1) := dq_h (dq_t (dq_t (dq_t (dq_t (dq_t (dq_t (dq_t (dq_t (dq_t (dq_t (dq_t (dq_t (dq_t (dq_t (dq_t dzX11_toHire_45)))))))))))))))
theorem dX11_toHire_77 : decode cX11_toHire 77 = .ok (.getfield 19, 3) := dq_h (dq_t (dq_t (dq_t (dq_t (dq_t (dq_t (dq_t (dq_t (dq_t (dq_t (dq_t (dq_t (dq_t (dq_t (dq_t (dq_t dzX11_toHire_45))))))))))))))))
theorem dX11_toHire_80 : decode cX11_toHire 80 = .ok (.getfield 105, 3) := dq_h (dq_t (dq_t (dq_t (dq_t (dq_t (dq_t (dq_t (dq_t (dq_t (dq_t (dq_t (dq_t (dq_t (dq_t (dq_t (dq_t (dq_t dzX11_toHire_45)))))))))))))))))
theorem dX11_toHire_83 : decode cX11_toHire 83 = .ok (.iload_n 1, 1) := dq_h (dq_t (dq_t (dq_t (dq_t (dq_t (dq_t (dq_t (dq_t (dq_t (dq_t (dq_t (dq_t (dq_t (dq_t (dq_t (dq_t (dq_t (dq_t dzX11_toHire_45))))))))))))))))))
theorem dX11_toHire_84 : decode cX11_toHire 84 = .ok (.invokevirtual 243, 3) := dq_h (dq_t (dq_t (dq_t (dq_t (dq_t (dq_t (dq_t (dq_t (dq_t (dq_t (dq_t (dq_t (dq_t (dq_t (dq_t (dq_t (dq_t (dq_t (dq_t dzX11_toHire_45)))))))))))))))))))
theorem dX11_toHire_87 : decode cX11_toHire 87 = .ok (.aload_n 0, 1) := dq_h (dq_t (dq_t (dq_t (dq_t (dq_t (dq_t (dq_t (dq_t (dq_t (dq_t (dq_t (dq_t (dq_t (dq_t (dq_t (dq_t (dq_t (dq_t (dq_t (dq_t dzX11_toHire_45))))))))))))))))))))
theorem dX11_toHire_88 : decode cX11_toHire 88 = .ok (.getfield 36, 3) := dq_h (dq_t (dq_t (dq_t (dq_t (dq_t (dq_t (dq_t (dq_t (dq_t (dq_t (dq_t (dq_t (dq_t (dq_t (dq_t (dq_t (dq_t (dq_t (dq_t (dq_t (dq_t dzX11_toHire_45)))))))))))))))))))))
theorem dX11_toHire_91 : decode cX11_toHire 91 = .ok (.iload 6, 2) := dq_h (dq_t (dq_t (dq_t (dq_t (dq_t (dq_t (dq_t (dq_t (dq_t (dq_t (dq_t (dq_t (dq_t (dq_t (dq_t (dq_t (dq_t (dq_t (dq_t (dq_t (dq_t (dq_t dzX11_toHire_45))))))))))))))))))))))
theorem dX11_toHire_93 : decode cX11_toHire 93 = .ok (.putfield 256, 3) := dq_h (dq_t (dq_t (dq_t (dq_t (dq_t (dq_t (dq_t (dq_t (dq_t (dq_t (dq_t (dq_t (dq_t (dq_t (dq_t (dq_t (dq_t (dq_t (dq_t (dq_t (dq_t (dq_t (dq_t dzX11_toHire_45)))))))))))))))))))))))
theorem dzX11_toHire_96 : dq_F cX11_toHire [(96, .aload_n 0, 1), (97, .getfield 36, 3), (100, .aload_n 0, 1), (101, .getfield 57, 3), (104, .iload_n 2, 1), (105, .invokevirtual 246, 3), (108, .iload 4, 2), (110, .iconst (-1), 1), (111, .if_icmp .eq 15, 3), (114, .aload_n 0, 1), (115, .getfield 36, 3), (118, .getfield 250, 3), (121, .iload 5, 2), (123, .if_icmp .ge 16, 3), (126, .iload 6, 2), (128, .istore 4, 2), (130, .aload_n 0, 1), (131, .getfield 36, 3), (134, .getfield 250, 3), (137, .istore 5, 2), (139, .iinc 6 1, 3), (142, .goto (-116), 3), (145, .iload_n 3, 1), (146, .ifCond .ne 8, 3)] := dq_s 24 96 (by decide +kernel)
theorem dX11_toHire_96 : decode cX11_toHire 96 = .ok (.aload_n 0, 1) := dq_h dzX11_toHire_96
theorem dX11_toHire_97 : decode cX11_toHire 97 = .ok (.getfield 36, 3) := dq_h (dq_t dzX11_toHire_96)
theorem dX11_toHire_100 : decode cX11_toHire 100 = .ok (.aload_n 0, 1) := dq_h (dq_t (dq_t dzX11_toHire_96))
theorem dX11_toHire_101 : decode cX11_toHire 101 = .ok (.getfield 57, 3) := dq_h (dq_t (dq_t (dq_t dzX11_toHire_96)))
theorem dX11_toHire_104 : decode cX11_toHire 104 = .ok (.iload_n 2, 1) := dq_h (dq_t (dq_t (dq_t (dq_t dzX11_toHire_96))))
theorem dX11_toHire_105 : decode cX11_toHire 105 = .ok (.invokevirtual 246, 3) := dq_h (dq_t (dq_t (dq_t (dq_t (dq_t dzX11_toHire_96)))))
theorem dX11_toHire_108 : decode cX11_toHire 108 = .ok (.iload 4, 2) := dq_h (dq_t (dq_t (dq_t (dq_t (dq_t (dq_t dzX11_toHire_96))))))
theorem dX11_toHire_110 : decode cX11_toHire 110 = .ok (.iconst (-1), 1) := dq_h (dq_t (dq_t (dq_t (dq_t (dq_t (dq_t (dq_t dzX11_toHire_96)))))))
theorem dX11_toHire_111 : decode cX11_toHire 111 = .ok (.if_icmp .eq 15, 3) := dq_h (dq_t (dq_t (dq_t (dq_t (dq_t (dq_t (dq_t (dq_t dzX11_toHire_96))))))))
theorem dX11_toHire_114 : decode cX11_toHire 114 = .ok (.aload_n 0, 1) := dq_h (dq_t (dq_t (dq_t (dq_t (dq_t (dq_t (dq_t (dq_t (dq_t dzX11_toHire_96)))))))))
theorem dX11_toHire_115 : decode cX11_toHire 115 = .ok (.getfield 36, 3) := dq_h (dq_t (dq_t (dq_t (dq_t (dq_t (dq_t (dq_t (dq_t (dq_t (dq_t dzX11_toHire_96))))))))))
theorem dX11_toHire_118 : decode cX11_toHire 118 = .ok (.getfield 250, 3) := dq_h (dq_t (dq_t (dq_t (dq_t (dq_t (dq_t (dq_t (dq_t (dq_t (dq_t (dq_t dzX11_toHire_96)))))))))))
theorem dX11_toHire_121 : decode cX11_toHire 121 = .ok (.iload 5, 2) := dq_h (dq_t (dq_t (dq_t (dq_t (dq_t (dq_t (dq_t (dq_t (dq_t (dq_t (dq_t (dq_t dzX11_toHire_96))))))))))))
theorem dX11_toHire_123 : decode cX11_toHire 123 = .ok (.if_icmp .ge 16, 3) := dq_h (dq_t (dq_t (dq_t (dq_t (dq_t (dq_t (dq_t (dq_t (dq_t (dq_t (dq_t (dq_t (dq_t dzX11_toHire_96)))))))))))))
theorem dX11_toHire_126 : decode cX11_toHire 126 = .ok (.iload 6, 2) := dq_h (dq_t (dq_t (dq_t (dq_t (dq_t (dq_t (dq_t (dq_t (dq_t (dq_t (dq_t (dq_t (dq_t (dq_t dzX11_toHire_96))))))))))))))
theorem dX11_toHire_128 : decode cX11_toHire 128 = .ok (.istore 4, 2) := dq_h (dq_t (dq_t (dq_t (dq_t (dq_t (dq_t (dq_t (dq_t (dq_t (dq_t (dq_t (dq_t (dq_t (dq_t (dq_t dzX11_toHire_96)))))))))))))))
theorem dX11_toHire_130 : decode cX11_toHire 130 = .ok (.aload_n 0, 1) := dq_h (dq_t (dq_t (dq_t (dq_t (dq_t (dq_t (dq_t (dq_t (dq_t (dq_t (dq_t (dq_t (dq_t (dq_t (dq_t (dq_t dzX11_toHire_96))))))))))))))))
theorem dX11_toHire_131 : decode cX11_toHire 131 = .ok (.getfield 36, 3) := dq_h (dq_t (dq_t (dq_t (dq_t (dq_t (dq_t (dq_t (dq_t (dq_t (dq_t (dq_t (dq_t (dq_t (dq_t (dq_t (dq_t (dq_t dzX11_toHire_96)))))))))))))))))
theorem dX11_toHire_134 : decode cX11_toHire 134 = .ok (.getfield 250, 3) := dq_h (dq_t (dq_t (dq_t (dq_t (dq_t (dq_t (dq_t (dq_t (dq_t (dq_t (dq_t (dq_t (dq_t (dq_t (dq_t (dq_t (dq_t (dq_t dzX11_toHire_96))))))))))))))))))
theorem dX11_toHire_137 : decode cX11_toHire 137 = .ok (.istore 5, 2) := dq_h (dq_t (dq_t (dq_t (dq_t (dq_t (dq_t (dq_t (dq_t (dq_t (dq_t (dq_t (dq_t (dq_t (dq_t (dq_t (dq_t (dq_t (dq_t (dq_t dzX11_toHire_96)))))))))))))))))))
theorem dX11_toHire_139 : decode cX11_toHire 139 = .ok (.iinc 6 1, 3) := dq_h (dq_t (dq_t (dq_t (dq_t (dq_t (dq_t (dq_t (dq_t (dq_t (dq_t (dq_t (dq_t (dq_t (dq_t (dq_t (dq_t (dq_t (dq_t (dq_t (dq_t dzX11_toHire_96))))))))))))))))))))
theorem dX11_toHire_142 : decode cX11_toHire 142 = .ok (.goto (-116), 3) := dq_h (dq_t (dq_t (dq_t (dq_t (dq_t (dq_t (dq_t (dq_t (dq_t (dq_t (dq_t (dq_t (dq_t (dq_t (dq_t (dq_t (dq_t (dq_t (dq_t (dq_t (dq_t dzX11_toHire_96)))))))))))))))))))))
theorem dX11_toHire_145 : decode cX11_toHire 145 = .ok (.iload_n 3, 1) := dq_h (dq_t (dq_t (dq_t (dq_t (dq_t (dq_t (dq_t (dq_t (dq_t (dq_t (dq_t (dq_t (dq_t (dq_t (dq_t (dq_t (dq_t (dq_t (dq_t (dq_t (dq_t (dq_t dzX11_toHire_96))))))))))))))))))))))
theorem dX11_toHire_146 : decode cX11_toHire 146 = .ok (.ifCond .ne 8, 3) := dq_h (dq_t (dq_t (dq_t (dq_t (dq_t (dq_t (dq_t (dq_t (dq_t (dq_t (dq_t (dq_t (dq_t (dq_t (dq_t (dq_t (dq_t (dq_t (dq_t (dq_t (dq_t (dq_t (dq_t dzX11_toHire_96)))))))))))))))))))))))
theorem dzX11_toHire_149 : dq_F cX11_toHire [(149, .iload 4, 2), (151, .goto 5, 3), (154, .iload 5, 2), (156, .ireturn, 1)] := dq_s 4 149 (by decide +kernel)
theorem dX11_toHire_149 : decode cX11_toHire 149 = .ok (.iload 4, 2) := dq_h dzX11_toHire_149
theorem dX11_toHire_151 : decode cX11_toHire 151 = .ok (.goto 5, 3) := dq_h (dq_t dzX11_toHire_149)
theorem dX11_toHire_154 : decode cX11_toHire 154 = .ok (.iload 5, 2) := dq_h (dq_t (dq_t dzX11_toHire_149))
theorem dX11_toHire_156 : decode cX11_toHire 156 = .ok (.ireturn, 1) := dq_h (dq_t (dq_t (dq_t dzX11_toHire_149)))
theorem dzX11_shared_0 : dq_F cX11_shared [(0, .iload_n 1, 1), (1, .iconst 1, 1), (2, .invokestatic 236, 3), (5, .aload_n 0, 1), (6, .getfield 43, 3), (9, .aload_n 0, 1), (10, .getfield 57, 3), (13, .aload_n 0, 1), (14, .getfield 19, 3), (17, .getfield 105, 3), (20, .invokevirtual 293, 3), (23, .iload_n 1, 1), (24, .ifCond .ne 13, 3), (27, .aload_n 0, 1), (28, .getfield 43, 3), (31, .getfield 297, 3), (34, .goto 10, 3), (37, .aload_n 0, 1), (38, .getfield 43, 3), (41, .getfield 298, 3), (44, .ireturn, 1)] := dq_s 21 0 (by decide +kernel)
theorem dX11_shared_0 : decode cX11_shared 0 = .ok (.iload_n 1, 1) := dq_h dzX11_shared_0
theorem dX11_shared_1 : decode cX11_shared 1 = .ok (.iconst 1, 1) := dq_h (dq_t dzX11_shared_0)
theorem dX11_shared_2 : decode cX11_shared 2 = .ok (.invokestatic 236, 3) := dq_h (dq_t (dq_t dzX11_shared_0))
theorem dX11_shared_5 : decode cX11_shared 5 = .ok (.aload_n 0, 1) := dq_h (dq_t (dq_t (dq_t dzX11_shared_0)))
theorem dX11_shared_6 : decode cX11_shared 6 = .ok (.getfield 43, 3) := dq_h (dq_t (dq_t (dq_t (dq_t dzX11_shared_0))))
theorem dX11_shared_9 : decode cX11_shared 9 = .ok (.aload_n 0, 1) := dq_h (dq_t (dq_t (dq_t (dq_t (dq_t dzX11_shared_0)))))
theorem dX11_shared_10 : decode cX11_shared 10 = .ok (.getfield 57, 3) := dq_h (dq_t (dq_t (dq_t (dq_t (dq_t (dq_t dzX11_shared_0))))))
theorem dX11_shared_13 : decode cX11_shared 13 = .ok (.aload_n 0, 1) := dq_h (dq_t (dq_t (dq_t (dq_t (dq_t (dq_t (dq_t dzX11_shared_0)))))))
theorem dX11_shared_14 : decode cX11_shared 14 = .ok (.getfield 19, 3) := dq_h (dq_t (dq_t (dq_t (dq_t (dq_t (dq_t (dq_t (dq_t dzX11_shared_0))))))))
theorem dX11_shared_17 : decode cX11_shared 17 = .ok (.getfield 105, 3) := dq_h (dq_t (dq_t (dq_t (dq_t (dq_t (dq_t (dq_t (dq_t (dq_t dzX11_shared_0)))))))))
theorem dX11_shared_20 : decode cX11_shared 20 = .ok (.invokevirtual 293, 3) := dq_h (dq_t (dq_t (dq_t (dq_t (dq_t (dq_t (dq_t (dq_t (dq_t (dq_t dzX11_shared_0))))))))))
theorem dX11_shared_23 : decode cX11_shared 23 = .ok (.iload_n 1, 1) := dq_h (dq_t (dq_t (dq_t (dq_t (dq_t (dq_t (dq_t (dq_t (dq_t (dq_t (dq_t dzX11_shared_0)))))))))))
theorem dX11_shared_24 : decode cX11_shared 24 = .ok (.ifCond .ne 13, 3) := dq_h (dq_t (dq_t (dq_t (dq_t (dq_t (dq_t (dq_t (dq_t (dq_t (dq_t (dq_t (dq_t dzX11_shared_0))))))))))))
theorem dX11_shared_27 : decode cX11_shared 27 = .ok (.aload_n 0, 1) := dq_h (dq_t (dq_t (dq_t (dq_t (dq_t (dq_t (dq_t (dq_t (dq_t (dq_t (dq_t (dq_t (dq_t dzX11_shared_0)))))))))))))
theorem dX11_shared_28 : decode cX11_shared 28 = .ok (.getfield 43, 3) := dq_h (dq_t (dq_t (dq_t (dq_t (dq_t (dq_t (dq_t (dq_t (dq_t (dq_t (dq_t (dq_t (dq_t (dq_t dzX11_shared_0))))))))))))))
theorem dX11_shared_31 : decode cX11_shared 31 = .ok (.getfield 297, 3) := dq_h (dq_t (dq_t (dq_t (dq_t (dq_t (dq_t (dq_t (dq_t (dq_t (dq_t (dq_t (dq_t (dq_t (dq_t (dq_t dzX11_shared_0)))))))))))))))
theorem dX11_shared_34 : decode cX11_shared 34 = .ok (.goto 10, 3) := dq_h (dq_t (dq_t (dq_t (dq_t (dq_t (dq_t (dq_t (dq_t (dq_t (dq_t (dq_t (dq_t (dq_t (dq_t (dq_t (dq_t dzX11_shared_0))))))))))))))))
theorem dX11_shared_37 : decode cX11_shared 37 = .ok (.aload_n 0, 1) := dq_h (dq_t (dq_t (dq_t (dq_t (dq_t (dq_t (dq_t (dq_t (dq_t (dq_t (dq_t (dq_t (dq_t (dq_t (dq_t (dq_t (dq_t dzX11_shared_0)))))))))))))))))
theorem dX11_shared_38 : decode cX11_shared 38 = .ok (.getfield 43, 3) := dq_h (dq_t (dq_t (dq_t (dq_t (dq_t (dq_t (dq_t (dq_t (dq_t (dq_t (dq_t (dq_t (dq_t (dq_t (dq_t (dq_t (dq_t (dq_t dzX11_shared_0))))))))))))))))))
theorem dX11_shared_41 : decode cX11_shared 41 = .ok (.getfield 298, 3) := dq_h (dq_t (dq_t (dq_t (dq_t (dq_t (dq_t (dq_t (dq_t (dq_t (dq_t (dq_t (dq_t (dq_t (dq_t (dq_t (dq_t (dq_t (dq_t (dq_t dzX11_shared_0)))))))))))))))))))
theorem dX11_shared_44 : decode cX11_shared 44 = .ok (.ireturn, 1) := dq_h (dq_t (dq_t (dq_t (dq_t (dq_t (dq_t (dq_t (dq_t (dq_t (dq_t (dq_t (dq_t (dq_t (dq_t (dq_t (dq_t (dq_t (dq_t (dq_t (dq_t dzX11_shared_0))))))))))))))))))))
theorem dzX11_has_0 : dq_F cX11_has [(0, .aload_n 0, 1), (1, .iload_n 1, 1), (2, .invokevirtual 191, 3), (5, .aload_n 0, 1), (6, .getfield 43, 3), (9, .aload_n 0, 1), (10, .getfield 57, 3), (13, .aload_n 0, 1), (14, .getfield 19, 3), (17, .getfield 105, 3), (20, .invokevirtual 293, 3), (23, .aload_n 0, 1), (24, .getfield 43, 3), (27, .getfield 301, 3), (30, .iload_n 1, 1), (31, .iaload, 1), (32, .ireturn, 1)] := dq_s 17 0 (by decide +kernel)
theorem dX11_has_0 : decode cX11_has 0 = .ok (.aload_n 0, 1) := dq_h dzX11_has_0
theorem dX11_has_1 : decode cX11_has 1 = .ok (.iload_n 1, 1) := dq_h (dq_t dzX11_has_0)
theorem dX11_has_2 : decode cX11_has 2 = .ok (.invokevirtual 191, 3) := dq_h (dq_t (dq_t dzX11_has_0))
theorem dX11_has_5 : decode cX11_has 5 = .ok (.aload_n 0, 1) := dq_h (dq_t (dq_t (dq_t dzX11_has_0)))
theorem dX11_has_6 : decode cX11_has 6 = .ok (.getfield 43, 3) := dq_h (dq_t (dq_t (dq_t (dq_t dzX11_has_0))))
theorem dX11_has_9 : decode cX11_has 9 = .ok (.aload_n 0, 1) := dq_h (dq_t (dq_t (dq_t (dq_t (dq_t dzX11_has_0)))))
theorem dX11_has_10 : decode cX11_has 10 = .ok (.getfield 57, 3) := dq_h (dq_t (dq_t (dq_t (dq_t (dq_t (dq_t dzX11_has_0))))))
theorem dX11_has_13 : decode cX11_has 13 = .ok (.aload_n 0, 1) := dq_h (dq_t (dq_t (dq_t (dq_t (dq_t (dq_t (dq_t dzX11_has_0)))))))
theorem dX11_has_14 : decode cX11_has 14 = .ok (.getfield 19, 3) := dq_h (dq_t (dq_t (dq_t (dq_t (dq_t (dq_t (dq_t (dq_t dzX11_has_0))))))))
theorem dX11_has_17 : decode cX11_has 17 = .ok (.getfield 105, 3) := dq_h (dq_t (dq_t (dq_t (dq_t (dq_t (dq_t (dq_t (dq_t (dq_t dzX11_has_0)))))))))
theorem dX11_has_20 : decode cX11_has 20 = .ok (.invokevirtual 293, 3) := dq_h (dq_t (dq_t (dq_t (dq_t (dq_t (dq_t (dq_t (dq_t (dq_t (dq_t dzX11_has_0))))))))))
theorem dX11_has_23 : decode cX11_has 23 = .ok (.aload_n 0, 1) := dq_h (dq_t (dq_t (dq_t (dq_t (dq_t (dq_t (dq_t (dq_t (dq_t (dq_t (dq_t dzX11_has_0)))))))))))
theorem dX11_has_24 : decode cX11_has 24 = .ok (.getfield 43, 3) := dq_h (dq_t (dq_t (dq_t (dq_t (dq_t (dq_t (dq_t (dq_t (dq_t (dq_t (dq_t (dq_t dzX11_has_0))))))))))))
theorem dX11_has_27 : decode cX11_has 27 = .ok (.getfield 301, 3) := dq_h (dq_t (dq_t (dq_t (dq_t (dq_t (dq_t (dq_t (dq_t (dq_t (dq_t (dq_t (dq_t (dq_t dzX11_has_0)))))))))))))
theorem dX11_has_30 : decode cX11_has 30 = .ok (.iload_n 1, 1) := dq_h (dq_t (dq_t (dq_t (dq_t (dq_t (dq_t (dq_t (dq_t (dq_t (dq_t (dq_t (dq_t (dq_t (dq_t dzX11_has_0))))))))))))))
theorem dX11_has_31 : decode cX11_has 31 = .ok (.iaload, 1) := dq_h (dq_t (dq_t (dq_t (dq_t (dq_t (dq_t (dq_t (dq_t (dq_t (dq_t (dq_t (dq_t (dq_t (dq_t (dq_t dzX11_has_0)))))))))))))))
theorem dX11_has_32 : decode cX11_has 32 = .ok (.ireturn, 1) := dq_h (dq_t (dq_t (dq_t (dq_t (dq_t (dq_t (dq_t (dq_t (dq_t (dq_t (dq_t (dq_t (dq_t (dq_t (dq_t (dq_t dzX11_has_0))))))))))))))))
theorem dzX11_toGive_0 : dq_F cX11_toGive [(0, .aload_n 0, 1), (1, .iload_n 1, 1), (2, .invokevirtual 191, 3), (5, .iload_n 2, 1), (6, .iconst 1, 1), (7, .bipush 60, 2), (9, .invokestatic 239, 3), (12, .aload_n 0, 1), (13, .getfield 19, 3), (16, .getfield 105, 3), (19, .getfield 206, 3), (22, .iload_n 1, 1), (23, .iaload, 1), (24, .iconst (-1), 1), (25, .if_icmp .ne 5, 3), (28, .iconst (-1), 1), (29, .ireturn, 1), (30, .aload_n 0, 1), (31, .getfield 57, 3), (34, .getfield 304, 3), (37, .sipush 10001, 3), (40, .invokevirtual 308, 3), (43, .ifCond .ne 19, 3), (46, .aload_n 0, 1)] := dq_s 24 0 (by decide +kernel)
theorem dX11_toGive_0 : decode cX11_toGive 0 = .ok (.aload_n 0, 1) := dq_h dzX11_toGive_0
theorem dX11_toGive_1 : decode cX11_toGive 1 = .ok (.iload_n 1, 1) := dq_h (dq_t dzX11_toGive_0)
theorem dX11_toGive_2 : decode cX11_toGive 2 = .ok (.invokevirtual 191, 3) := dq_h (dq_t (dq_t dzX11_toGive_0))
theorem dX11_toGive_5 : decode cX11_toGive 5 = .ok (.iload_n 2, 1) := dq_h (dq_t (dq_t (dq_t dzX11_toGive_0)))
theorem dX11_toGive_6 : decode cX11_toGive 6 = .ok (.iconst 1, 1) := dq_h (dq_t (dq_t (dq_t (dq_t dzX11_toGive_0))))
theorem dX11_toGive_7 : decode cX11_toGive 7 = .ok (.bipush 60, 2) := dq_h (dq_t (dq_t (dq_t (dq_t (dq_t dzX11_toGive_0)))))
theorem dX11_toGive_9 : decode cX11_toGive 9 = .ok (.invokestatic 239, 3) := dq_h (dq_t (dq_t (dq_t (dq_t (dq_t (dq_t dzX11_toGive_0))))))
theorem dX11_toGive_12 : decode cX11_toGive 12 = .ok (.aload_n 0, 1) := dq_h (dq_t (dq_t (dq_t (dq_t (dq_t (dq_t (dq_t dzX11_toGive_0)))))))
theorem dX11_toGive_13 : decode cX11_toGive 13 = .ok (.getfield 19, 3) := dq_h (dq_t (dq_t (dq_t (dq_t (dq_t (dq_t (dq_t (dq_t dzX11_toGive_0))))))))
theorem dX11_toGive_16 : decode cX11_toGive 16 = .ok (.getfield 105, 3) := dq_h (dq_t (dq_t (dq_t (dq_t (dq_t (dq_t (dq_t (dq_t (dq_t dzX11_toGive_0)))))))))
theorem dX11_toGive_19 : decode cX11_toGive 19 = .ok (.getfield 206, 3) := dq_h (dq_t (dq_t (dq_t (dq_t (dq_t (dq_t (dq_t (dq_t (dq_t (dq_t dzX11_toGive_0))))))))))
theorem dX11_toGive_22 : decode cX11_toGive 22 = .ok (.iload_n 1, 1) := dq_h (dq_t (dq_t (dq_t (dq_t (dq_t (dq_t (dq_t (dq_t (dq_t (dq_t (dq_t dzX11_toGive_0)))))))))))
theorem dX11_toGive_23 : decode cX11_toGive 23 = .ok (.iaload, 1) := dq_h (dq_t (dq_t (dq_t (dq_t (dq_t (dq_t (dq_t (dq_t (dq_t (dq_t (dq_t (dq_t dzX11_toGive_0))))))))))))
theorem dX11_toGive_24 : decode cX11_toGive 24 = .ok (.iconst (-1), 1) := dq_h (dq_t (dq_t (dq_t (dq_t (dq_t (dq_t (dq_t (dq_t (dq_t (dq_t (dq_t (dq_t (dq_t dzX11_toGive_0)))))))))))))
theorem dX11_toGive_25 : decode cX11_toGive 25 = .ok (.if_icmp .ne 5, 3) := dq_h (dq_t (dq_t (dq_t (dq_t (dq_t (dq_t (dq_t (dq_t (dq_t (dq_t (dq_t (dq_t (dq_t (dq_t dzX11_toGive_0))))))))))))))
theorem dX11_toGive_28 : decode cX11_toGive 28 = .ok (.iconst (-1), 1) := dq_h (dq_t (dq_t (dq_t (dq_t (dq_t (dq_t (dq_t (dq_t (dq_t (dq_t (dq_t (dq_t (dq_t (dq_t (dq_t dzX11_toGive_0)))))))))))))))
theorem dX11_toGive_29 : decode cX11_toGive 29 = .ok (.ireturn, 1) := dq_h (dq_t (dq_t (dq_t (dq_t (dq_t (dq_t (dq_t (dq_t (dq_t (dq_t (dq_t (dq_t (dq_t (dq_t (dq_t (dq_t dzX11_toGive_0))))))))))))))))
theorem dX11_toGive_30 : decode cX11_toGive 30 = .ok (.aload_n 0, 1) := dq_h (dq_t (dq_t (dq_t (dq_t (dq_t (dq_t (dq_t (dq_t (dq_t (dq_t (dq_t (dq_t (dq_t (dq_t (dq_t (dq_t (dq_t dzX11_toGive_0)))))))))))))))))
theorem dX11_toGive_31 : decode cX11_toGive 31 = .ok (.getfield 57, 3) := dq_h (dq_t (dq_t (dq_t (dq_t (dq_t (dq_t (dq_t (dq_t (dq_t (dq_t (dq_t (dq_t (dq_t (dq_t (dq_t (dq_t (dq_t (dq_t dzX11_toGive_0))))))))))))))))))
theorem dX11_toGive_34 : decode cX11_toGive 34 = .ok (.getfield 304, 3) := dq_h (dq_t (dq_t (dq_t (dq_t (dq_t (dq_t (dq_t (dq_t (dq_t (dq_t (dq_t (dq_t (dq_t (dq_t (dq_t (dq_t (dq_t (dq_t (dq_t dzX11_toGive_0)))))))))))))))))))
theorem dX11_toGive_37 : decode cX11_toGive 37 = .ok (.sipush 10001, 3) := dq_h (dq_t (dq_t (dq_t (dq_t (dq_t (dq_t (dq_t (dq_t (dq_t (dq_t (dq_t (dq_t (dq_t (dq_t (dq_t (dq_t (dq_t (dq_t (dq_t (dq_t dzX11_toGive_0))))))))))))))))))))
theorem dX11_toGive_40 : decode cX11_toGive 40 = .ok (.invokevirtual 308, 3) := dq_h (dq_t (dq_t (dq_t (dq_t (dq_t (dq_t (dq_t (dq_t (dq_t (dq_t (dq_t (dq_t (dq_t (dq_t (dq_t (dq_t (dq_t (dq_t (dq_t (dq_t (dq_t dzX11_toGive_0)))))))))))))))))))))
theorem dX11_toGive_43 : decode cX11_toGive 43 = .ok (.ifCond .ne 19, 3) := dq_h (dq_t (dq_t (dq_t (dq_t (dq_t (dq_t (dq_t (dq_t (dq_t (dq_t (dq_t (dq_t (dq_t (dq_t (dq_t (dq_t (dq_t (dq_t (dq_t (dq_t (dq_t (dq_t dzX11_toGive_0))))))))))))))))))))))
theorem dX11_toGive_46 : decode cX11_toGive 46 = .ok (.aload_n 0, 1) := dq_h (dq_t (dq_t (dq_t (dq_t (dq_t (dq_t (dq_t (dq_t (dq_t (dq_t (dq_t (dq_t (dq_t (dq_t (dq_t (dq_t (dq_t (dq_t (dq_t (dq_t (dq_t (dq_t (dq_t dzX11_toGive_0)))))))))))))))))))))))
theorem dzX11_toGive_47 : dq_F cX11_toGive [(47, .getfield 57, 3), (50, .getfield 313, 3), (53, .sipush 10001, 3), (56, .invokevirtual 308, 3), (59, .ifCond .eq 10, 3), (62, .aload_n 0, 1), (63, .iload_n 1, 1), (64, .iload_n 2, 1), (65, .invokevirtual 316, 3), (68, .ireturn, 1), (69, .aload_n 0, 1), (70, .iload_n 1, 1), (71, .iload_n 2, 1), (72, .invokevirtual 319, 3), (75, .ireturn, 1)] := dq_s 15 47 (by decide +kernel)
theorem dX11_toGive_47 : decode cX11_toGive 47 = .ok (.getfield 57, 3) := dq_h dzX11_toGive_47
theorem dX11_toGive_50 : decode cX11_toGive 50 = .ok (.getfield 313, 3) := dq_h (dq_t dzX11_toGive_47)
theorem dX11_toGive_53 : decode cX11_toGive 53 = .ok (.sipush 10001, 3) := dq_h (dq_t (dq_t dzX11_toGive_47))
theorem dX11_toGive_56 : decode cX11_toGive 56 = .ok (.invokevirtual 308, 3) := dq_h (dq_t (dq_t (dq_t dzX11_toGive_47)))
theorem dX11_toGive_59 : decode cX11_toGive 59 = .ok (.ifCond .eq 10, 3) := dq_h (dq_t (dq_t (dq_t (dq_t dzX11_toGive_47))))
theorem dX11_toGive_62 : decode cX11_toGive 62 = .ok (.aload_n 0, 1) := dq_h (dq_t (dq_t (dq_t (dq_t (dq_t dzX11_toGive_47)))))
theorem dX11_toGive_63 : decode cX11_toGive 63 = .ok (.iload_n 1, 1) := dq_h (dq_t (dq_t (dq_t (dq_t (dq_t (dq_t dzX11_toGive_47))))))
theorem dX11_toGive_64 : decode cX11_toGive 64 = .ok (.iload_n 2, 1) := dq_h (dq_t (dq_t (dq_t (dq_t (dq_t (dq_t (dq_t dzX11_toGive_47)))))))
theorem dX11_toGive_65 : decode cX11_toGive 65 = .ok (.invokevirtual 316, 3) := dq_h (dq_t (dq_t (dq_t (dq_t (dq_t (dq_t (dq_t (dq_t dzX11_toGive_47))))))))
theorem dX11_toGive_68 : decode cX11_toGive 68 = .ok (.ireturn, 1) := dq_h (dq_t (dq_t (dq_t (dq_t (dq_t (dq_t (dq_t (dq_t (dq_t dzX11_toGive_47)))))))))
theorem dX11_toGive_69 : decode cX11_toGive 69 = .ok (.aload_n 0, 1) := dq_h (dq_t (dq_t (dq_t (dq_t (dq_t (dq_t (dq_t (dq_t (dq_t (dq_t dzX11_toGive_47))))))))))
theorem dX11_toGive_70 : decode cX11_toGive 70 = .ok (.iload_n 1, 1) := dq_h (dq_t (dq_t (dq_t (dq_t (dq_t (dq_t (dq_t (dq_t (dq_t (dq_t (dq_t dzX11_toGive_47)))))))))))
theorem dX11_toGive_71 : decode cX11_toGive 71 = .ok (.iload_n 2, 1) := dq_h (dq_t (dq_t (dq_t (dq_t (dq_t (dq_t (dq_t (dq_t (dq_t (dq_t (dq_t (dq_t dzX11_toGive_47))))))))))))
theorem dX11_toGive_72 : decode cX11_toGive 72 = .ok (.invokevirtual 319, 3) := dq_h (dq_t (dq_t (dq_t (dq_t (dq_t (dq_t (dq_t (dq_t (dq_t (dq_t (dq_t (dq_t (dq_t dzX11_toGive_47)))))))))))))
theorem dX11_toGive_75 : decode cX11_toGive 75 = .ok (.ireturn, 1) := dq_h (dq_t (dq_t (dq_t (dq_t (dq_t (dq_t (dq_t (dq_t (dq_t (dq_t (dq_t (dq_t (dq_t (dq_t dzX11_toGive_47))))))))))))))
theorem dzX11_confessing_0 : dq_F cX11_confessing [(0, .aload_n 0, 1), (1, .iload_n 1, 1), (2, .invokevirtual 191, 3), (5, .iload_n 2, 1), (6, .iconst 0, 1), (7, .bipush 60, 2), (9, .invokestatic 239, 3), (12, .aload_n 0, 1), (13, .getfield 19, 3), (16, .getfield 105, 3), (19, .getfield 200, 3), (22, .iload_n 1, 1), (23, .iaload, 1), (24, .bipush 50, 2), (26, .if_icmp .ge 5, 3)] := dq_s 15 0 (by decide +kernel)
theorem dX11_confessing_0 : decode cX11_confessing 0 = .ok (.aload_n 0, 1) := dq_h dzX11_confessing_0
theorem dX11_confessing_1 : decode cX11_confessing 1 = .ok (.iload_n 1, 1) := dq_h (dq_t dzX11_confessing_0)
theorem dX11_confessing_2 : decode cX11_confessing 2 = .ok (.invokevirtual 191, 3) := dq_h (dq_t (dq_t dzX11_confessing_0))
theorem dX11_confessing_5 : decode cX11_confessing 5 = .ok (.iload_n 2, 1) := dq_h (dq_t (dq_t (dq_t dzX11_confessing_0)))
theorem dX11_confessing_6 : decode cX11_confessing 6 = .ok (.iconst 0, 1) := dq_h (dq_t (dq_t (dq_t (dq_t dzX11_confessing_0))))
theorem dX11_confessing_7 : decode cX11_confessing 7 = .ok (.bipush 60, 2) := dq_h (dq_t (dq_t (dq_t (dq_t (dq_t dzX11_confessing_0)))))
theorem dX11_confessing_9 : decode cX11_confessing 9 = .ok (.invokestatic 239, 3) := dq_h (dq_t (dq_t (dq_t (dq_t (dq_t (dq_t dzX11_confessing_0))))))
theorem dX11_confessing_12 : decode cX11_confessing 12 = .ok (.aload_n 0, 1) := dq_h (dq_t (dq_t (dq_t (dq_t (dq_t (dq_t (dq_t dzX11_confessing_0)))))))
theorem dX11_confessing_13 : decode cX11_confessing 13 = .ok (.getfield 19, 3) := dq_h (dq_t (dq_t (dq_t (dq_t (dq_t (dq_t (dq_t (dq_t dzX11_confessing_0))))))))
theorem dX11_confessing_16 : decode cX11_confessing 16 = .ok (.getfield 105, 3) := dq_h (dq_t (dq_t (dq_t (dq_t (dq_t (dq_t (dq_t (dq_t (dq_t dzX11_confessing_0)))))))))
theorem dX11_confessing_19 : decode cX11_confessing 19 = .ok (.getfield 200, 3) := dq_h (dq_t (dq_t (dq_t (dq_t (dq_t (dq_t (dq_t (dq_t (dq_t (dq_t dzX11_confessing_0))))))))))
theorem dX11_confessing_22 : decode cX11_confessing 22 = .ok (.iload_n 1, 1) := dq_h (dq_t (dq_t (dq_t (dq_t (dq_t (dq_t (dq_t (dq_t (dq_t (dq_t (dq_t dzX11_confessing_0)))))))))))
theorem dX11_confessing_23 : decode cX11_confessing 23 = .ok (.iaload, 1) := dq_h (dq_t (dq_t (dq_t (dq_t (dq_t (dq_t (dq_t (dq_t (dq_t (dq_t (dq_t (dq_t dzX11_confessing_0))))))))))))
theorem dX11_confessing_24 : decode cX11_confessing 24 = .ok (.bipush 50, 2) := dq_h (dq_t (dq_t (dq_t (dq_t (dq_t (dq_t (dq_t (dq_t (dq_t (dq_t (dq_t (dq_t (dq_t dzX11_confessing_0)))))))))))))
theorem dX11_confessing_26 : decode cX11_confessing 26 = .ok (.if_icmp .ge 5, 3) := dq_h (dq_t (dq_t (dq_t (dq_t (dq_t (dq_t (dq_t (dq_t (dq_t (dq_t (dq_t (dq_t (dq_t (dq_t dzX11_confessing_0))))))))))))))
end

/-! part 11.d.3 -/
section
theorem dzX11_confessing_29 : dq_F cX11_confessing [(29, .iconst 0, 1), (30, .ireturn, 1), (31, .aload_n 0, 1), (32, .getfield 36, 3), (35, .aload_n 0, 1), (36, .getfield 57, 3), (39, .aload_n 0, 1), (40, .getfield 19, 3), (43, .getfield 105, 3), (46, .iload_n 1, 1), (47, .invokevirtual 243, 3), (50, .aload_n 0, 1), (51, .getfield 36, 3), (54, .aload_n 0, 1), (55, .getfield 57, 3), (58, .iload_n 2, 1), (59, .invokevirtual 246, 3), (62, .aload_n 0, 1), (63, .getfield 36, 3), (66, .getfield 250, 3), (69, .istore_n 3, 1), (70, .aload_n 0, 1), (71, .getfield 36, 3), (74, .aload_n 0, 1)] := dq_s 24 29 (by decide +kernel)
theorem dX11_confessing_29 : decode cX11_confessing 29 = .ok (.iconst 0, 1) := dq_h dzX11_confessing_29
theorem dX11_confessing_30 : decode cX11_confessing 30 = .ok (.ireturn, 1) := dq_h (dq_t dzX11_confessing_29)
theorem dX11_confessing_31 : decode cX11_confessing 31 = .ok (.aload_n 0, 1) := dq_h (dq_t (dq_t dzX11_confessing_29))
theorem dX11_confessing_32 : decode cX11_confessing 32 = .ok (.getfield 36, 3) := dq_h (dq_t (dq_t (dq_t dzX11_confessing_29)))
theorem dX11_confessing_35 : decode cX11_confessing 35 = .ok (.aload_n 0, 1) := dq_h (dq_t (dq_t (dq_t (dq_t dzX11_confessing_29))))
theorem dX11_confessing_36 : decode cX11_confessing 36 = .ok (.getfield 57, 3) := dq_h (dq_t (dq_t (dq_t (dq_t (dq_t dzX11_confessing_29)))))
theorem dX11_confessing_39 : decode cX11_confessing 39 = .ok (.aload_n 0, 1) := dq_h (dq_t (dq_t (dq_t (dq_t (dq_t (dq_t dzX11_confessing_29))))))
theorem dX11_confessing_40 : decode cX11_confessing 40 = .ok (.getfield 19, 3) := dq_h (dq_t (dq_t (dq_t (dq_t (dq_t (dq_t (dq_t dzX11_confessing_29)))))))
theorem dX11_confessing_43 : decode cX11_confessing 43 = .ok (.getfield 105, 3) := dq_h (dq_t (dq_t (dq_t (dq_t (dq_t (dq_t (dq_t (dq_t dzX11_confessing_29))))))))
theorem dX11_confessing_46 : decode cX11_confessing 46 = .ok (.iload_n 1, 1) := dq_h (dq_t (dq_t (dq_t (dq_t (dq_t (dq_t (dq_t (dq_t (dq_t dzX11_confessing_29)))))))))
theorem dX11_confessing_47 : decode cX11_confessing 47 = .ok (.invokevirtual 243, 3) := dq_h (dq_t (dq_t (dq_t (dq_t (dq_t (dq_t (dq_t (dq_t (dq_t (dq_t dzX11_confessing_29))))))))))
theorem dX11_confessing_50 : decode cX11_confessing 50 = .ok (.aload_n 0, 1) := dq_h (dq_t (dq_t (dq_t (dq_t (dq_t (dq_t (dq_t (dq_t (dq_t (dq_t (dq_t dzX11_confessing_29)))))))))))
theorem dX11_confessing_51 : decode cX11_confessing 51 = .ok (.getfield 36, 3) := dq_h (dq_t (dq_t (dq_t (dq_t (dq_t (dq_t (dq_t (dq_t (dq_t (dq_t (dq_t (dq_t dzX11_confessing_29))))))))))))
theorem dX11_confessing_54 : decode cX11_confessing 54 = .ok (.aload_n 0, 1) := dq_h (dq_t (dq_t (dq_t (dq_t (dq_t (dq_t (dq_t (dq_t (dq_t (dq_t (dq_t (dq_t (dq_t dzX11_confessing_29)))))))))))))
theorem dX11_confessing_55 : decode cX11_confessing 55 = .ok (.getfield 57, 3) := dq_h (dq_t (dq_t (dq_t (dq_t (dq_t (dq_t (dq_t (dq_t (dq_t (dq_t (dq_t (dq_t (dq_t (dq_t dzX11_confessing_29))))))))))))))
theorem dX11_confessing_58 : decode cX11_confessing 58 = .ok (.iload_n 2, 1) := dq_h (dq_t (dq_t (dq_t (dq_t (dq_t (dq_t (dq_t (dq_t (dq_t (dq_t (dq_t (dq_t (dq_t (dq_t (dq_t dzX11_confessing_29)))))))))))))))
theorem dX11_confessing_59 : decode cX11_confessing 59 = .ok (.invokevirtual 246, 3) := dq_h (dq_t (dq_t (dq_t (dq_t (dq_t (dq_t (dq_t (dq_t (dq_t (dq_t (dq_t (dq_t (dq_t (dq_t (dq_t (dq_t dzX11_confessing_29))))))))))))))))
theorem dX11_confessing_62 : decode cX11_confessing 62 = .ok (.aload_n 0, 1) := dq_h (dq_t (dq_t (dq_t (dq_t (dq_t (dq_t (dq_t (dq_t (dq_t (dq_t (dq_t (dq_t (dq_t (dq_t (dq_t (dq_t (dq_t dzX11_confessing_29)))))))))))))))))
theorem dX11_confessing_63 : decode cX11_confessing 63 = .ok (.getfield 36, 3) := dq_h (dq_t (dq_t (dq_t (dq_t (dq_t (dq_t (dq_t (dq_t (dq_t (dq_t (dq_t (dq_t (dq_t (dq_t (dq_t (dq_t (dq_t (dq_t dzX11_confessing_29))))))))))))))))))
theorem dX11_confessing_66 : decode cX11_confessing 66 = .ok (.getfield 250, 3) := dq_h (dq_t (dq_t (dq_t (dq_t (dq_t (dq_t (dq_t (dq_t (dq_t (dq_t (dq_t (dq_t (dq_t (dq_t (dq_t (dq_t (dq_t (dq_t (dq_t dzX11_confessing_29)))))))))))))))))))
theorem dX11_confessing_69 : decode cX11_confessing 69 = .ok (.istore_n 3, 1) := dq_h (dq_t (dq_t (dq_t (dq_t (dq_t (dq_t (dq_t (dq_t (dq_t (dq_t (dq_t (dq_t (dq_t (dq_t (dq_t (dq_t (dq_t (dq_t (dq_t (dq_t dzX11_confessing_29))))))))))))))))))))
theorem dX11_confessing_70 : decode cX11_confessing 70 = .ok (.aload_n 0, 1) := dq_h (dq_t (dq_t (dq_t (dq_t (dq_t (dq_t (dq_t (dq_t (dq_t (dq_t (dq_t (dq_t (dq_t (dq_t (dq_t (dq_t (dq_t (dq_t (dq_t (dq_t (dq_t dzX11_confessing_29)))))))))))))))))))))
theorem dX11_confessing_71 : decode cX11_confessing 71 = .ok (.getfield 36, 3) := dq_h (dq_t (dq_t (dq_t (dq_t (dq_t (dq_t (dq_t (dq_t (dq_t (dq_t (dq_t (dq_t (dq_t (dq_t (dq_t (dq_t (dq_t (dq_t (dq_t (dq_t (dq_t (dq_t dzX11_confessing_29))))))))))))))))))))))
theorem dX11_confessing_74 : decode cX11_confessing 74 = .ok (.aload_n 0, 1) := dq_h (dq_t (dq_t (dq_t (dq_t (dq_t (dq_t (dq_t (dq_t (dq_t (dq_t (dq_t (dq_t (dq_t (dq_t (dq_t (dq_t (dq_t (dq_t (dq_t (dq_t (dq_t (dq_t (dq_t dzX11_confessing_29)))))))))))))))))))))))
theorem dzX11_confessing_75 : dq_F cX11_confessing [(75, .getfield 57, 3), (78, .aload_n 0, 1), (79, .getfield 19, 3), (82, .getfield 105, 3), (85, .iload_n 1, 1), (86, .invokevirtual 243, 3), (89, .aload_n 0, 1), (90, .getfield 36, 3), (93, .invokevirtual 322, 3), (96, .aload_n 0, 1), (97, .getfield 36, 3), (100, .aload_n 0, 1), (101, .getfield 57, 3), (104, .iload_n 2, 1), (105, .invokevirtual 246, 3), (108, .iload_n 3, 1), (109, .aload_n 0, 1), (110, .getfield 36, 3), (113, .getfield 250, 3), (116, .isub, 1), (117, .ireturn, 1)] := dq_s 21 75 (by decide +kernel)
theorem dX11_confessing_75 : decode cX11_confessing 75 = .ok (.getfield 57, 3) := dq_h dzX11_confessing_75
theorem dX11_confessing_78 : decode cX11_confessing 78 = .ok (.aload_n 0, 1) := dq_h (dq_t dzX11_confessing_75)
theorem dX11_confessing_79 : decode cX11_confessing 79 = .ok (.getfield 19, 3) := dq_h (dq_t (dq_t dzX11_confessing_75))
theorem dX11_confessing_82 : decode cX11_confessing 82 = .ok (.getfield 105, 3) := dq_h (dq_t (dq_t (dq_t dzX11_confessing_75)))
theorem dX11_confessing_85 : decode cX11_confessing 85 = .ok (.iload_n 1, 1) := dq_h (dq_t (dq_t (dq_t (dq_t dzX11_confessing_75))))
theorem dX11_confessing_86 : decode cX11_confessing 86 = .ok (.invokevirtual 243, 3) := dq_h (dq_t (dq_t (dq_t (dq_t (dq_t dzX11_confessing_75)))))
theorem dX11_confessing_89 : decode cX11_confessing 89 = .ok (.aload_n 0, 1) := dq_h (dq_t (dq_t (dq_t (dq_t (dq_t (dq_t dzX11_confessing_75))))))
theorem dX11_confessing_90 : decode cX11_confessing 90 = .ok (.getfield 36, 3) := dq_h (dq_t (dq_t (dq_t (dq_t (dq_t (dq_t (dq_t dzX11_confessing_75)))))))
theorem dX11_confessing_93 : decode cX11_confessing 93 = .ok (.invokevirtual 322, 3) := dq_h (dq_t (dq_t (dq_t (dq_t (dq_t (dq_t (dq_t (dq_t dzX11_confessing_75))))))))
theorem dX11_confessing_96 : decode cX11_confessing 96 = .ok (.aload_n 0, 1) := dq_h (dq_t (dq_t (dq_t (dq_t (dq_t (dq_t (dq_t (dq_t (dq_t dzX11_confessing_75)))))))))
theorem dX11_confessing_97 : decode cX11_confessing 97 = .ok (.getfield 36, 3) := dq_h (dq_t (dq_t (dq_t (dq_t (dq_t (dq_t (dq_t (dq_t (dq_t (dq_t dzX11_confessing_75))))))))))
theorem dX11_confessing_100 : decode cX11_confessing 100 = .ok (.aload_n 0, 1) := dq_h (dq_t (dq_t (dq_t (dq_t (dq_t (dq_t (dq_t (dq_t (dq_t (dq_t (dq_t dzX11_confessing_75)))))))))))
theorem dX11_confessing_101 : decode cX11_confessing 101 = .ok (.getfield 57, 3) := dq_h (dq_t (dq_t (dq_t (dq_t (dq_t (dq_t (dq_t (dq_t (dq_t (dq_t (dq_t (dq_t dzX11_confessing_75))))))))))))
theorem dX11_confessing_104 : decode cX11_confessing 104 = .ok (.iload_n 2, 1) := dq_h (dq_t (dq_t (dq_t (dq_t (dq_t (dq_t (dq_t (dq_t (dq_t (dq_t (dq_t (dq_t (dq_t dzX11_confessing_75)))))))))))))
theorem dX11_confessing_105 : decode cX11_confessing 105 = .ok (.invokevirtual 246, 3) := dq_h (dq_t (dq_t (dq_t (dq_t (dq_t (dq_t (dq_t (dq_t (dq_t (dq_t (dq_t (dq_t (dq_t (dq_t dzX11_confessing_75))))))))))))))
theorem dX11_confessing_108 : decode cX11_confessing 108 = .ok (.iload_n 3, 1) := dq_h (dq_t (dq_t (dq_t (dq_t (dq_t (dq_t (dq_t (dq_t (dq_t (dq_t (dq_t (dq_t (dq_t (dq_t (dq_t dzX11_confessing_75)))))))))))))))
theorem dX11_confessing_109 : decode cX11_confessing 109 = .ok (.aload_n 0, 1) := dq_h (dq_t (dq_t (dq_t (dq_t (dq_t (dq_t (dq_t (dq_t (dq_t (dq_t (dq_t (dq_t (dq_t (dq_t (dq_t (dq_t dzX11_confessing_75))))))))))))))))
theorem dX11_confessing_110 : decode cX11_confessing 110 = .ok (.getfield 36, 3) := dq_h (dq_t (dq_t (dq_t (dq_t (dq_t (dq_t (dq_t (dq_t (dq_t (dq_t (dq_t (dq_t (dq_t (dq_t (dq_t (dq_t (dq_t dzX11_confessing_75)))))))))))))))))
theorem dX11_confessing_113 : decode cX11_confessing 113 = .ok (.getfield 250, 3) := dq_h (dq_t (dq_t (dq_t (dq_t (dq_t (dq_t (dq_t (dq_t (dq_t (dq_t (dq_t (dq_t (dq_t (dq_t (dq_t (dq_t (dq_t (dq_t dzX11_confessing_75))))))))))))))))))
theorem dX11_confessing_116 : decode cX11_confessing 116 = .ok (.isub, 1) := dq_h (dq_t (dq_t (dq_t (dq_t (dq_t (dq_t (dq_t (dq_t (dq_t (dq_t (dq_t (dq_t (dq_t (dq_t (dq_t (dq_t (dq_t (dq_t (dq_t dzX11_confessing_75)))))))))))))))))))
theorem dX11_confessing_117 : decode cX11_confessing 117 = .ok (.ireturn, 1) := dq_h (dq_t (dq_t (dq_t (dq_t (dq_t (dq_t (dq_t (dq_t (dq_t (dq_t (dq_t (dq_t (dq_t (dq_t (dq_t (dq_t (dq_t (dq_t (dq_t (dq_t dzX11_confessing_75))))))))))))))))))))
theorem dzX11_see_0 : dq_F cX11_see [(0, .aload_n 0, 1), (1, .iload_n 1, 1), (2, .invokevirtual 191, 3), (5, .aload_n 0, 1), (6, .getfield 19, 3), (9, .getfield 146, 3), (12, .astore 4, 2), (14, .iload_n 2, 1), (15, .iconst 0, 1), (16, .bipush 20, 2), (18, .invokestatic 214, 3), (21, .ifCond .eq 17, 3), (24, .iload_n 3, 1), (25, .iconst 0, 1), (26, .bipush 99, 2), (28, .invokestatic 214, 3), (31, .ifCond .eq 7, 3), (34, .iconst 1, 1), (35, .goto 4, 3), (38, .iconst 0, 1), (39, .istore 5, 2), (41, .iload 5, 2), (43, .ifCond .eq 13, 3), (46, .aload 4, 2)] := dq_s 24 0 (by decide +kernel)
theorem dX11_see_0 : decode cX11_see 0 = .ok (.aload_n 0, 1) := dq_h dzX11_see_0
theorem dX11_see_1 : decode cX11_see 1 = .ok (.iload_n 1, 1) := dq_h (dq_t dzX11_see_0)
theorem dX11_see_2 : decode cX11_see 2 = .ok (.invokevirtual 191, 3) := dq_h (dq_t (dq_t dzX11_see_0))
theorem dX11_see_5 : decode cX11_see 5 = .ok (.aload_n 0, 1) := dq_h (dq_t (dq_t (dq_t dzX11_see_0)))
theorem dX11_see_6 : decode cX11_see 6 = .ok (.getfield 19, 3) := dq_h (dq_t (dq_t (dq_t (dq_t dzX11_see_0))))
theorem dX11_see_9 : decode cX11_see 9 = .ok (.getfield 146, 3) := dq_h (dq_t (dq_t (dq_t (dq_t (dq_t dzX11_see_0)))))
theorem dX11_see_12 : decode cX11_see 12 = .ok (.astore 4, 2) := dq_h (dq_t (dq_t (dq_t (dq_t (dq_t (dq_t dzX11_see_0))))))
theorem dX11_see_14 : decode cX11_see 14 = .ok (.iload_n 2, 1) := dq_h (dq_t (dq_t (dq_t (dq_t (dq_t (dq_t (dq_t dzX11_see_0)))))))
theorem dX11_see_15 : decode cX11_see 15 = .ok (.iconst 0, 1) := dq_h (dq_t (dq_t (dq_t (dq_t (dq_t (dq_t (dq_t (dq_t dzX11_see_0))))))))
theorem dX11_see_16 : decode cX11_see 16 = .ok (.bipush 20, 2) := dq_h (dq_t (dq_t (dq_t (dq_t (dq_t (dq_t (dq_t (dq_t (dq_t dzX11_see_0)))))))))
theorem dX11_see_18 : decode cX11_see 18 = .ok (.invokestatic 214, 3) := dq_h (dq_t (dq_t (dq_t (dq_t (dq_t (dq_t (dq_t (dq_t (dq_t (dq_t dzX11_see_0))))))))))
theorem dX11_see_21 : decode cX11_see 21 = .ok (.ifCond .eq 17, 3) := dq_h (dq_t (dq_t (dq_t (dq_t (dq_t (dq_t (dq_t (dq_t (dq_t (dq_t (dq_t dzX11_see_0)))))))))))
theorem dX11_see_24 : decode cX11_see 24 = .ok (.iload_n 3, 1) := dq_h (dq_t (dq_t (dq_t (dq_t (dq_t (dq_t (dq_t (dq_t (dq_t (dq_t (dq_t (dq_t dzX11_see_0))))))))))))
theorem dX11_see_25 : decode cX11_see 25 = .ok (.iconst 0, 1) := dq_h (dq_t (dq_t (dq_t (dq_t (dq_t (dq_t (dq_t (dq_t (dq_t (dq_t (dq_t (dq_t (dq_t dzX11_see_0)))))))))))))
theorem dX11_see_26 : decode cX11_see 26 = .ok (.bipush 99, 2) := dq_h (dq_t (dq_t (dq_t (dq_t (dq_t (dq_t (dq_t (dq_t (dq_t (dq_t (dq_t (dq_t (dq_t (dq_t dzX11_see_0))))))))))))))
theorem dX11_see_28 : decode cX11_see 28 = .ok (.invokestatic 214, 3) := dq_h (dq_t (dq_t (dq_t (dq_t (dq_t (dq_t (dq_t (dq_t (dq_t (dq_t (dq_t (dq_t (dq_t (dq_t (dq_t dzX11_see_0)))))))))))))))
theorem dX11_see_31 : decode cX11_see 31 = .ok (.ifCond .eq 7, 3) := dq_h (dq_t (dq_t (dq_t (dq_t (dq_t (dq_t (dq_t (dq_t (dq_t (dq_t (dq_t (dq_t (dq_t (dq_t (dq_t (dq_t dzX11_see_0))))))))))))))))
theorem dX11_see_34 : decode cX11_see 34 = .ok (.iconst 1, 1) := dq_h (dq_t (dq_t (dq_t (dq_t (dq_t (dq_t (dq_t (dq_t (dq_t (dq_t (dq_t (dq_t (dq_t (dq_t (dq_t (dq_t (dq_t dzX11_see_0)))))))))))))))))
theorem dX11_see_35 : decode cX11_see 35 = .ok (.goto 4, 3) := dq_h (dq_t (dq_t (dq_t (dq_t (dq_t (dq_t (dq_t (dq_t (dq_t (dq_t (dq_t (dq_t (dq_t (dq_t (dq_t (dq_t (dq_t (dq_t dzX11_see_0))))))))))))))))))
theorem dX11_see_38 : decode cX11_see 38 = .ok (.iconst 0, 1) := dq_h (dq_t (dq_t (dq_t (dq_t (dq_t (dq_t (dq_t (dq_t (dq_t (dq_t (dq_t (dq_t (dq_t (dq_t (dq_t (dq_t (dq_t (dq_t (dq_t dzX11_see_0)))))))))))))))))))
theorem dX11_see_39 : decode cX11_see 39 = .ok (.istore 5, 2) := dq_h (dq_t (dq_t (dq_t (dq_t (dq_t (dq_t (dq_t (dq_t (dq_t (dq_t (dq_t (dq_t (dq_t (dq_t (dq_t (dq_t (dq_t (dq_t (dq_t (dq_t dzX11_see_0))))))))))))))))))))
theorem dX11_see_41 : decode cX11_see 41 = .ok (.iload 5, 2) := dq_h (dq_t (dq_t (dq_t (dq_t (dq_t (dq_t (dq_t (dq_t (dq_t (dq_t (dq_t (dq_t (dq_t (dq_t (dq_t (dq_t (dq_t (dq_t (dq_t (dq_t (dq_t dzX11_see_0)))))))))))))))))))))
theorem dX11_see_43 : decode cX11_see 43 = .ok (.ifCond .eq 13, 3) := dq_h (dq_t (dq_t (dq_t (dq_t (dq_t (dq_t (dq_t (dq_t (dq_t (dq_t (dq_t (dq_t (dq_t (dq_t (dq_t (dq_t (dq_t (dq_t (dq_t (dq_t (dq_t (dq_t dzX11_see_0))))))))))))))))))))))
theorem dX11_see_46 : decode cX11_see 46 = .ok (.aload 4, 2) := dq_h (dq_t (dq_t (dq_t (dq_t (dq_t (dq_t (dq_t (dq_t (dq_t (dq_t (dq_t (dq_t (dq_t (dq_t (dq_t (dq_t (dq_t (dq_t (dq_t (dq_t (dq_t (dq_t (dq_t dzX11_see_0)))))))))))))))))))))))
theorem dzX11_see_48 : dq_F cX11_see [(48, .getfield 150, 3), (51, .bipush 8, 2), (53, .if_icmp .lt 12, 3), (56, .aload_n 0, 1), (57, .getfield 19, 3), (60, .iconst 2, 1), (61, .invokevirtual 93, 3), (64, .ireturn, 1), (65, .aload 4, 2), (67, .iload_n 1, 1), (68, .iload_n 2, 1), (69, .iload_n 3, 1), (70, .invokevirtual 325, 3), (73, .aload 4, 2), (75, .getfield 150, 3), (78, .ireturn, 1)] := dq_s 16 48 (by decide +kernel)
theorem dX11_see_48 : decode cX11_see 48 = .ok (.getfield 150, 3) := dq_h dzX11_see_48
theorem dX11_see_51 : decode cX11_see 51 = .ok (.bipush 8, 2) := dq_h (dq_t dzX11_see_48)
theorem dX11_see_53 : decode cX11_see 53 = .ok (.if_icmp .lt 12, 3) := dq_h (dq_t (dq_t dzX11_see_48))
theorem dX11_see_56 : decode cX11_see 56 = .ok (.aload_n 0, 1) := dq_h (dq_t (dq_t (dq_t dzX11_see_48)))
theorem dX11_see_57 : decode cX11_see 57 = .ok (.getfield 19, 3) := dq_h (dq_t (dq_t (dq_t (dq_t dzX11_see_48))))
theorem dX11_see_60 : decode cX11_see 60 = .ok (.iconst 2, 1) := dq_h (dq_t (dq_t (dq_t (dq_t (dq_t dzX11_see_48)))))
theorem dX11_see_61 : decode cX11_see 61 = .ok (.invokevirtual 93, 3) := dq_h (dq_t (dq_t (dq_t (dq_t (dq_t (dq_t dzX11_see_48))))))
theorem dX11_see_64 : decode cX11_see 64 = .ok (.ireturn, 1) := dq_h (dq_t (dq_t (dq_t (dq_t (dq_t (dq_t (dq_t dzX11_see_48)))))))
theorem dX11_see_65 : decode cX11_see 65 = .ok (.aload 4, 2) := dq_h (dq_t (dq_t (dq_t (dq_t (dq_t (dq_t (dq_t (dq_t dzX11_see_48))))))))
theorem dX11_see_67 : decode cX11_see 67 = .ok (.iload_n 1, 1) := dq_h (dq_t (dq_t (dq_t (dq_t (dq_t (dq_t (dq_t (dq_t (dq_t dzX11_see_48)))))))))
theorem dX11_see_68 : decode cX11_see 68 = .ok (.iload_n 2, 1) := dq_h (dq_t (dq_t (dq_t (dq_t (dq_t (dq_t (dq_t (dq_t (dq_t (dq_t dzX11_see_48))))))))))
theorem dX11_see_69 : decode cX11_see 69 = .ok (.iload_n 3, 1) := dq_h (dq_t (dq_t (dq_t (dq_t (dq_t (dq_t (dq_t (dq_t (dq_t (dq_t (dq_t dzX11_see_48)))))))))))
theorem dX11_see_70 : decode cX11_see 70 = .ok (.invokevirtual 325, 3) := dq_h (dq_t (dq_t (dq_t (dq_t (dq_t (dq_t (dq_t (dq_t (dq_t (dq_t (dq_t (dq_t dzX11_see_48))))))))))))
theorem dX11_see_73 : decode cX11_see 73 = .ok (.aload 4, 2) := dq_h (dq_t (dq_t (dq_t (dq_t (dq_t (dq_t (dq_t (dq_t (dq_t (dq_t (dq_t (dq_t (dq_t dzX11_see_48)))))))))))))
theorem dX11_see_75 : decode cX11_see 75 = .ok (.getfield 150, 3) := dq_h (dq_t (dq_t (dq_t (dq_t (dq_t (dq_t (dq_t (dq_t (dq_t (dq_t (dq_t (dq_t (dq_t (dq_t dzX11_see_48))))))))))))))
theorem dX11_see_78 : decode cX11_see 78 = .ok (.ireturn, 1) := dq_h (dq_t (dq_t (dq_t (dq_t (dq_t (dq_t (dq_t (dq_t (dq_t (dq_t (dq_t (dq_t (dq_t (dq_t (dq_t dzX11_see_48)))))))))))))))
theorem dzX11_greedy_0 : dq_F cX11_greedy [(0, .iload_n 1, 1), (1, .iconst 2, 1), (2, .invokestatic 236, 3), (5, .aload_n 0, 1), (6, .getfield 50, 3), (9, .aload_n 0, 1), (10, .getfield 57, 3), (13, .aload_n 0, 1), (14, .getfield 19, 3), (17, .aload_n 0, 1), (18, .getfield 36, 3), (21, .invokevirtual 327, 3), (24, .iload_n 1, 1)] := dq_s 13 0 (by decide +kernel)
theorem dX11_greedy_0 : decode cX11_greedy 0 = .ok (.iload_n 1, 1) := dq_h dzX11_greedy_0
theorem dX11_greedy_1 : decode cX11_greedy 1 = .ok (.iconst 2, 1) := dq_h (dq_t dzX11_greedy_0)
theorem dX11_greedy_2 : decode cX11_greedy 2 = .ok (.invokestatic 236, 3) := dq_h (dq_t (dq_t dzX11_greedy_0))
theorem dX11_greedy_5 : decode cX11_greedy 5 = .ok (.aload_n 0, 1) := dq_h (dq_t (dq_t (dq_t dzX11_greedy_0)))
theorem dX11_greedy_6 : decode cX11_greedy 6 = .ok (.getfield 50, 3) := dq_h (dq_t (dq_t (dq_t (dq_t dzX11_greedy_0))))
theorem dX11_greedy_9 : decode cX11_greedy 9 = .ok (.aload_n 0, 1) := dq_h (dq_t (dq_t (dq_t (dq_t (dq_t dzX11_greedy_0)))))
theorem dX11_greedy_10 : decode cX11_greedy 10 = .ok (.getfield 57, 3) := dq_h (dq_t (dq_t (dq_t (dq_t (dq_t (dq_t dzX11_greedy_0))))))
theorem dX11_greedy_13 : decode cX11_greedy 13 = .ok (.aload_n 0, 1) := dq_h (dq_t (dq_t (dq_t (dq_t (dq_t (dq_t (dq_t dzX11_greedy_0)))))))
theorem dX11_greedy_14 : decode cX11_greedy 14 = .ok (.getfield 19, 3) := dq_h (dq_t (dq_t (dq_t (dq_t (dq_t (dq_t (dq_t (dq_t dzX11_greedy_0))))))))
theorem dX11_greedy_17 : decode cX11_greedy 17 = .ok (.aload_n 0, 1) := dq_h (dq_t (dq_t (dq_t (dq_t (dq_t (dq_t (dq_t (dq_t (dq_t dzX11_greedy_0)))))))))
theorem dX11_greedy_18 : decode cX11_greedy 18 = .ok (.getfield 36, 3) := dq_h (dq_t (dq_t (dq_t (dq_t (dq_t (dq_t (dq_t (dq_t (dq_t (dq_t dzX11_greedy_0))))))))))
theorem dX11_greedy_21 : decode cX11_greedy 21 = .ok (.invokevirtual 327, 3) := dq_h (dq_t (dq_t (dq_t (dq_t (dq_t (dq_t (dq_t (dq_t (dq_t (dq_t (dq_t dzX11_greedy_0)))))))))))
theorem dX11_greedy_24 : decode cX11_greedy 24 = .ok (.iload_n 1, 1) := dq_h (dq_t (dq_t (dq_t (dq_t (dq_t (dq_t (dq_t (dq_t (dq_t (dq_t (dq_t (dq_t dzX11_greedy_0))))))))))))
theorem dX11_greedy_25 : decode cX11_greedy 25 = .ok (.lookupswitch 43 #[(0, 27), (1, 35)], 27) := by decide +kernel
theorem dzX11_greedy_52 : dq_F cX11_greedy [(52, .aload_n 0, 1), (53, .getfield 50, 3), (56, .getfield 331, 3), (59, .ireturn, 1), (60, .aload_n 0, 1), (61, .getfield 50, 3), (64, .getfield 332, 3), (67, .ireturn, 1), (68, .aload_n 0, 1), (69, .getfield 50, 3), (72, .getfield 335, 3), (75, .ifCond .eq 7, 3), (78, .iconst 1, 1), (79, .goto 4, 3), (82, .iconst 0, 1), (83, .ireturn, 1)] := dq_s 16 52 (by decide +kernel)
theorem dX11_greedy_52 : decode cX11_greedy 52 = .ok (.aload_n 0, 1) := dq_h dzX11_greedy_52
theorem dX11_greedy_53 : decode cX11_greedy 53 = .ok (.getfield 50, 3) := dq_h (dq_t dzX11_greedy_52)
theorem dX11_greedy_56 : decode cX11_greedy 56 = .ok (.getfield 331, 3) := dq_h (dq_t (dq_t dzX11_greedy_52))
theorem dX11_greedy_59 : decode cX11_greedy 59 = .ok (.ireturn, 1) := dq_h (dq_t (dq_t (dq_t dzX11_greedy_52)))
theorem dX11_greedy_60 : decode cX11_greedy 60 = .ok (.aload_n 0, 1) := dq_h (dq_t (dq_t (dq_t (dq_t dzX11_greedy_52))))
theorem dX11_greedy_61 : decode cX11_greedy 61 = .ok (.getfield 50, 3) := dq_h (dq_t (dq_t (dq_t (dq_t (dq_t dzX11_greedy_52)))))
theorem dX11_greedy_64 : decode cX11_greedy 64 = .ok (.getfield 332, 3) := dq_h (dq_t (dq_t (dq_t (dq_t (dq_t (dq_t dzX11_greedy_52))))))
theorem dX11_greedy_67 : decode cX11_greedy 67 = .ok (.ireturn, 1) := dq_h (dq_t (dq_t (dq_t (dq_t (dq_t (dq_t (dq_t dzX11_greedy_52)))))))
theorem dX11_greedy_68 : decode cX11_greedy 68 = .ok (.aload_n 0, 1) := dq_h (dq_t (dq_t (dq_t (dq_t (dq_t (dq_t (dq_t (dq_t dzX11_greedy_52))))))))
theorem dX11_greedy_69 : decode cX11_greedy 69 = .ok (.getfield 50, 3) := dq_h (dq_t (dq_t (dq_t (dq_t (dq_t (dq_t (dq_t (dq_t (dq_t dzX11_greedy_52)))))))))
theorem dX11_greedy_72 : decode cX11_greedy 72 = .ok (.getfield 335, 3) := dq_h (dq_t (dq_t (dq_t (dq_t (dq_t (dq_t (dq_t (dq_t (dq_t (dq_t dzX11_greedy_52))))))))))
theorem dX11_greedy_75 : decode cX11_greedy 75 = .ok (.ifCond .eq 7, 3) := dq_h (dq_t (dq_t (dq_t (dq_t (dq_t (dq_t (dq_t (dq_t (dq_t (dq_t (dq_t dzX11_greedy_52)))))))))))
theorem dX11_greedy_78 : decode cX11_greedy 78 = .ok (.iconst 1, 1) := dq_h (dq_t (dq_t (dq_t (dq_t (dq_t (dq_t (dq_t (dq_t (dq_t (dq_t (dq_t (dq_t dzX11_greedy_52))))))))))))
theorem dX11_greedy_79 : decode cX11_greedy 79 = .ok (.goto 4, 3) := dq_h (dq_t (dq_t (dq_t (dq_t (dq_t (dq_t (dq_t (dq_t (dq_t (dq_t (dq_t (dq_t (dq_t dzX11_greedy_52)))))))))))))
theorem dX11_greedy_82 : decode cX11_greedy 82 = .ok (.iconst 0, 1) := dq_h (dq_t (dq_t (dq_t (dq_t (dq_t (dq_t (dq_t (dq_t (dq_t (dq_t (dq_t (dq_t (dq_t (dq_t dzX11_greedy_52))))))))))))))
theorem dX11_greedy_83 : decode cX11_greedy 83 = .ok (.ireturn, 1) := dq_h (dq_t (dq_t (dq_t (dq_t (dq_t (dq_t (dq_t (dq_t (dq_t (dq_t (dq_t (dq_t (dq_t (dq_t (dq_t dzX11_greedy_52)))))))))))))))
theorem dzX11_look_0 : dq_F cX11_look [(0, .iload_n 1, 1), (1, .iconst 1, 1), (2, .invokestatic 236, 3), (5, .aload_n 0, 1), (6, .getfield 50, 3), (9, .aload_n 0, 1), (10, .getfield 57, 3), (13, .aload_n 0, 1), (14, .getfield 19, 3), (17, .aload_n 0, 1), (18, .getfield 36, 3), (21, .invokevirtual 327, 3), (24, .aload_n 0, 1), (25, .getfield 50, 3), (28, .invokevirtual 338, 3), (31, .istore_n 2, 1), (32, .iload_n 1, 1), (33, .ifCond .ne 5, 3), (36, .iload_n 2, 1), (37, .ireturn, 1), (38, .iload_n 2, 1), (39, .iconst (-1), 1), (40, .if_icmp .ne 7, 3), (43, .iconst 0, 1)] := dq_s 24 0 (by decide +kernel)
theorem dX11_look_0 : decode cX11_look 0 = .ok (.iload_n 1, 1) := dq_h dzX11_look_0
theorem dX11_look_1 : decode cX11_look 1 = .ok (.iconst 1, 1) := dq_h (dq_t dzX11_look_0)
theorem dX11_look_2 : decode cX11_look 2 = .ok (.invokestatic 236, 3) := dq_h (dq_t (dq_t dzX11_look_0))
theorem dX11_look_5 : decode cX11_look 5 = .ok (.aload_n 0, 1) := dq_h (dq_t (dq_t (dq_t dzX11_look_0)))
theorem dX11_look_6 : decode cX11_look 6 = .ok (.getfield 50, 3) := dq_h (dq_t (dq_t (dq_t (dq_t dzX11_look_0))))
theorem dX11_look_9 : decode cX11_look 9 = .ok (.aload_n 0, 1) := dq_h (dq_t (dq_t (dq_t (dq_t (dq_t dzX11_look_0)))))
theorem dX11_look_10 : decode cX11_look 10 = .ok (.getfield 57, 3) := dq_h (dq_t (dq_t (dq_t (dq_t (dq_t (dq_t dzX11_look_0))))))
theorem dX11_look_13 : decode cX11_look 13 = .ok (.aload_n 0, 1) := dq_h (dq_t (dq_t (dq_t (dq_t (dq_t (dq_t (dq_t dzX11_look_0)))))))
theorem dX11_look_14 : decode cX11_look 14 = .ok (.getfield 19, 3) := dq_h (dq_t (dq_t (dq_t (dq_t (dq_t (dq_t (dq_t (dq_t dzX11_look_0))))))))
theorem dX11_look_17 : decode cX11_look 17 = .ok (.aload_n 0, 1) := dq_h (dq_t (dq_t (dq_t (dq_t (dq_t (dq_t (dq_t (dq_t (dq_t dzX11_look_0)))))))))
theorem dX11_look_18 : decode cX11_look 18 = .ok (.getfield 36, 3) := dq_h (dq_t (dq_t (dq_t (dq_t (dq_t (dq_t (dq_t (dq_t (dq_t (dq_t dzX11_look_0))))))))))
theorem dX11_look_21 : decode cX11_look 21 = .ok (.invokevirtual 327, 3) := dq_h (dq_t (dq_t (dq_t (dq_t (dq_t (dq_t (dq_t (dq_t (dq_t (dq_t (dq_t dzX11_look_0)))))))))))
theorem dX11_look_24 : decode cX11_look 24 = .ok (.aload_n 0, 1) := dq_h (dq_t (dq_t (dq_t (dq_t (dq_t (dq_t (dq_t (dq_t (dq_t (dq_t (dq_t (dq_t dzX11_look_0))))))))))))
theorem dX11_look_25 : decode cX11_look 25 = .ok (.getfield 50, 3) := dq_h (dq_t (dq_t (dq_t (dq_t (dq_t (dq_t (dq_t (dq_t (dq_t (dq_t (dq_t (dq_t (dq_t dzX11_look_0)))))))))))))
theorem dX11_look_28 : decode cX11_look 28 = .ok (.invokevirtual 338, 3) := dq_h (dq_t (dq_t (dq_t (dq_t (dq_t (dq_t (dq_t (dq_t (dq_t (dq_t (dq_t (dq_t (dq_t (dq_t dzX11_look_0))))))))))))))
theorem dX11_look_31 : decode cX11_look 31 = .ok (.istore_n 2, 1) := dq_h (dq_t (dq_t (dq_t (dq_t (dq_t (dq_t (dq_t (dq_t (dq_t (dq_t (dq_t (dq_t (dq_t (dq_t (dq_t dzX11_look_0)))))))))))))))
theorem dX11_look_32 : decode cX11_look 32 = .ok (.iload_n 1, 1) := dq_h (dq_t (dq_t (dq_t (dq_t (dq_t (dq_t (dq_t (dq_t (dq_t (dq_t (dq_t (dq_t (dq_t (dq_t (dq_t (dq_t dzX11_look_0))))))))))))))))
theorem dX11_look_33 : decode cX11_look 33 = .ok (.ifCond .ne 5, 3) := dq_h (dq_t (dq_t (dq_t (dq_t (dq_t (dq_t (dq_t (dq_t (dq_t (dq_t (dq_t (dq_t (dq_t (dq_t (dq_t (dq_t (dq_t dzX11_look_0)))))))))))))))))
theorem dX11_look_36 : decode cX11_look 36 = .ok (.iload_n 2, 1) := dq_h (dq_t (dq_t (dq_t (dq_t (dq_t (dq_t (dq_t (dq_t (dq_t (dq_t (dq_t (dq_t (dq_t (dq_t (dq_t (dq_t (dq_t (dq_t dzX11_look_0))))))))))))))))))
theorem dX11_look_37 : decode cX11_look 37 = .ok (.ireturn, 1) := dq_h (dq_t (dq_t (dq_t (dq_t (dq_t (dq_t (dq_t (dq_t (dq_t (dq_t (dq_t (dq_t (dq_t (dq_t (dq_t (dq_t (dq_t (dq_t (dq_t dzX11_look_0)))))))))))))))))))
theorem dX11_look_38 : decode cX11_look 38 = .ok (.iload_n 2, 1) := dq_h (dq_t (dq_t (dq_t (dq_t (dq_t (dq_t (dq_t (dq_t (dq_t (dq_t (dq_t (dq_t (dq_t (dq_t (dq_t (dq_t (dq_t (dq_t (dq_t (dq_t dzX11_look_0))))))))))))))))))))
theorem dX11_look_39 : decode cX11_look 39 = .ok (.iconst (-1), 1) := dq_h (dq_t (dq_t (dq_t (dq_t (dq_t (dq_t (dq_t (dq_t (dq_t (dq_t (dq_t (dq_t (dq_t (dq_t (dq_t (dq_t (dq_t (dq_t (dq_t (dq_t (dq_t dzX11_look_0)))))))))))))))))))))
theorem dX11_look_40 : decode cX11_look 40 = .ok (.if_icmp .ne 7, 3) := dq_h (dq_t (dq_t (dq_t (dq_t (dq_t (dq_t (dq_t (dq_t (dq_t (dq_t (dq_t (dq_t (dq_t (dq_t (dq_t (dq_t (dq_t (dq_t (dq_t (dq_t (dq_t (dq_t dzX11_look_0))))))))))))))))))))))
theorem dX11_look_43 : decode cX11_look 43 = .ok (.iconst 0, 1) := dq_h (dq_t (dq_t (dq_t (dq_t (dq_t (dq_t (dq_t (dq_t (dq_t (dq_t (dq_t (dq_t (dq_t (dq_t (dq_t (dq_t (dq_t (dq_t (dq_t (dq_t (dq_t (dq_t (dq_t dzX11_look_0)))))))))))))))))))))))
theorem dzX11_look_44 : dq_F cX11_look [(44, .goto 11, 3), (47, .aload_n 0, 1), (48, .getfield 50, 3), (51, .iload_n 2, 1), (52, .invokevirtual 341, 3), (55, .ireturn, 1)] := dq_s 6 44 (by decide +kernel)
theorem dX11_look_44 : decode cX11_look 44 = .ok (.goto 11, 3) := dq_h dzX11_look_44
theorem dX11_look_47 : decode cX11_look 47 = .ok (.aload_n 0, 1) := dq_h (dq_t dzX11_look_44)
theorem dX11_look_48 : decode cX11_look 48 = .ok (.getfield 50, 3) := dq_h (dq_t (dq_t dzX11_look_44))
theorem dX11_look_51 : decode cX11_look 51 = .ok (.iload_n 2, 1) := dq_h (dq_t (dq_t (dq_t dzX11_look_44)))
theorem dX11_look_52 : decode cX11_look 52 = .ok (.invokevirtual 341, 3) := dq_h (dq_t (dq_t (dq_t (dq_t dzX11_look_44))))
theorem dX11_look_55 : decode cX11_look 55 = .ok (.ireturn, 1) := dq_h (dq_t (dq_t (dq_t (dq_t (dq_t dzX11_look_44)))))
theorem dzX11_forget_0 : dq_F cX11_forget [(0, .aload_n 0, 1), (1, .getfield 19, 3), (4, .getfield 146, 3), (7, .iconst 0, 1), (8, .putfield 150, 3), (11, .return_, 1)] := dq_s 6 0 (by decide +kernel)
theorem dX11_forget_0 : decode cX11_forget 0 = .ok (.aload_n 0, 1) := dq_h dzX11_forget_0
theorem dX11_forget_1 : decode cX11_forget 1 = .ok (.getfield 19, 3) := dq_h (dq_t dzX11_forget_0)
theorem dX11_forget_4 : decode cX11_forget 4 = .ok (.getfield 146, 3) := dq_h (dq_t (dq_t dzX11_forget_0))
theorem dX11_forget_7 : decode cX11_forget 7 = .ok (.iconst 0, 1) := dq_h (dq_t (dq_t (dq_t dzX11_forget_0)))
theorem dX11_forget_8 : decode cX11_forget 8 = .ok (.putfield 150, 3) := dq_h (dq_t (dq_t (dq_t (dq_t dzX11_forget_0))))
theorem dX11_forget_11 : decode cX11_forget 11 = .ok (.return_, 1) := dq_h (dq_t (dq_t (dq_t (dq_t (dq_t dzX11_forget_0)))))
theorem dzX11_drought_0 : dq_F cX11_drought [(0, .aload_n 0, 1), (1, .iload_n 1, 1), (2, .invokevirtual 191, 3), (5, .iload_n 2, 1), (6, .iconst 1, 1), (7, .iconst 5, 1), (8, .invokestatic 239, 3), (11, .iload_n 3, 1), (12, .iconst 0, 1), (13, .bipush 10, 2), (15, .invokestatic 239, 3), (18, .iconst 0, 1), (19, .istore 4, 2), (21, .iconst 0, 1), (22, .istore 5, 2), (24, .iload 5, 2), (26, .iconst 1, 1), (27, .iload_n 2, 1), (28, .ishl, 1), (29, .if_icmp .ge 116, 3), (32, .iconst 1, 1), (33, .istore 6, 2), (35, .iconst 0, 1), (36, .istore 7, 2)] := dq_s 24 0 (by decide +kernel)
theorem dX11_drought_0 : decode cX11_drought 0 = .ok (.aload_n 0, 1) := dq_h dzX11_drought_0
theorem dX11_drought_1 : decode cX11_drought 1 = .ok (.iload_n 1, 1) := dq_h (dq_t dzX11_drought_0)
theorem dX11_drought_2 : decode cX11_drought 2 = .ok (.invokevirtual 191, 3) := dq_h (dq_t (dq_t dzX11_drought_0))
theorem dX11_drought_5 : decode cX11_drought 5 = .ok (.iload_n 2, 1) := dq_h (dq_t (dq_t (dq_t dzX11_drought_0)))
theorem dX11_drought_6 : decode cX11_drought 6 = .ok (.iconst 1, 1) := dq_h (dq_t (dq_t (dq_t (dq_t dzX11_drought_0))))
theorem dX11_drought_7 : decode cX11_drought 7 = .ok (.iconst 5, 1) := dq_h (dq_t (dq_t (dq_t (dq_t (dq_t dzX11_drought_0)))))
theorem dX11_drought_8 : decode cX11_drought 8 = .ok (.invokestatic 239, 3) := dq_h (dq_t (dq_t (dq_t (dq_t (dq_t (dq_t dzX11_drought_0))))))
theorem dX11_drought_11 : decode cX11_drought 11 = .ok (.iload_n 3, 1) := dq_h (dq_t (dq_t (dq_t (dq_t (dq_t (dq_t (dq_t dzX11_drought_0)))))))
theorem dX11_drought_12 : decode cX11_drought 12 = .ok (.iconst 0, 1) := dq_h (dq_t (dq_t (dq_t (dq_t (dq_t (dq_t (dq_t (dq_t dzX11_drought_0))))))))
theorem dX11_drought_13 : decode cX11_drought 13 = .ok (.bipush 10, 2) := dq_h (dq_t (dq_t (dq_t (dq_t (dq_t (dq_t (dq_t (dq_t (dq_t dzX11_drought_0)))))))))
theorem dX11_drought_15 : decode cX11_drought 15 = .ok (.invokestatic 239, 3) := dq_h (dq_t (dq_t (dq_t (dq_t (dq_t (dq_t (dq_t (dq_t (dq_t (dq_t dzX11_drought_0))))))))))
theorem dX11_drought_18 : decode cX11_drought 18 = .ok (.iconst 0, 1) := dq_h (dq_t (dq_t (dq_t (dq_t (dq_t (dq_t (dq_t (dq_t (dq_t (dq_t (dq_t dzX11_drought_0)))))))))))
theorem dX11_drought_19 : decode cX11_drought 19 = .ok (.istore 4, 2) := dq_h (dq_t (dq_t (dq_t (dq_t (dq_t (dq_t (dq_t (dq_t (dq_t (dq_t (dq_t (dq_t dzX11_drought_0))))))))))))
theorem dX11_drought_21 : decode cX11_drought 21 = .ok (.iconst 0, 1) := dq_h (dq_t (dq_t (dq_t (dq_t (dq_t (dq_t (dq_t (dq_t (dq_t (dq_t (dq_t (dq_t (dq_t dzX11_drought_0)))))))))))))
theorem dX11_drought_22 : decode cX11_drought 22 = .ok (.istore 5, 2) := dq_h (dq_t (dq_t (dq_t (dq_t (dq_t (dq_t (dq_t (dq_t (dq_t (dq_t (dq_t (dq_t (dq_t (dq_t dzX11_drought_0))))))))))))))
theorem dX11_drought_24 : decode cX11_drought 24 = .ok (.iload 5, 2) := dq_h (dq_t (dq_t (dq_t (dq_t (dq_t (dq_t (dq_t (dq_t (dq_t (dq_t (dq_t (dq_t (dq_t (dq_t (dq_t dzX11_drought_0)))))))))))))))
theorem dX11_drought_26 : decode cX11_drought 26 = .ok (.iconst 1, 1) := dq_h (dq_t (dq_t (dq_t (dq_t (dq_t (dq_t (dq_t (dq_t (dq_t (dq_t (dq_t (dq_t (dq_t (dq_t (dq_t (dq_t dzX11_drought_0))))))))))))))))
theorem dX11_drought_27 : decode cX11_drought 27 = .ok (.iload_n 2, 1) := dq_h (dq_t (dq_t (dq_t (dq_t (dq_t (dq_t (dq_t (dq_t (dq_t (dq_t (dq_t (dq_t (dq_t (dq_t (dq_t (dq_t (dq_t dzX11_drought_0)))))))))))))))))
theorem dX11_drought_28 : decode cX11_drought 28 = .ok (.ishl, 1) := dq_h (dq_t (dq_t (dq_t (dq_t (dq_t (dq_t (dq_t (dq_t (dq_t (dq_t (dq_t (dq_t (dq_t (dq_t (dq_t (dq_t (dq_t (dq_t dzX11_drought_0))))))))))))))))))
theorem dX11_drought_29 : decode cX11_drought 29 = .ok (.if_icmp .ge 116, 3) := dq_h (dq_t (dq_t (dq_t (dq_t (dq_t (dq_t (dq_t (dq_t (dq_t (dq_t (dq_t (dq_t (dq_t (dq_t (dq_t (dq_t (dq_t (dq_t (dq_t dzX11_drought_0)))))))))))))))))))
theorem dX11_drought_32 : decode cX11_drought 32 = .ok (.iconst 1, 1) := dq_h (dq_t (dq_t (dq_t (dq_t (dq_t (dq_t (dq_t (dq_t (dq_t (dq_t (dq_t (dq_t (dq_t (dq_t (dq_t (dq_t (dq_t (dq_t (dq_t (dq_t dzX11_drought_0))))))))))))))))))))
theorem dX11_drought_33 : decode cX11_drought 33 = .ok (.istore 6, 2) := dq_h (dq_t (dq_t (dq_t (dq_t (dq_t (dq_t (dq_t (dq_t (dq_t (dq_t (dq_t (dq_t (dq_t (dq_t (dq_t (dq_t (dq_t (dq_t (dq_t (dq_t (dq_t dzX11_drought_0)))))))))))))))))))))
theorem dX11_drought_35 : decode cX11_drought 35 = .ok (.iconst 0, 1) := dq_h (dq_t (dq_t (dq_t (dq_t (dq_t (dq_t (dq_t (dq_t (dq_t (dq_t (dq_t (dq_t (dq_t (dq_t (dq_t (dq_t (dq_t (dq_t (dq_t (dq_t (dq_t (dq_t dzX11_drought_0))))))))))))))))))))))
theorem dX11_drought_36 : decode cX11_drought 36 = .ok (.istore 7, 2) := dq_h (dq_t (dq_t (dq_t (dq_t (dq_t (dq_t (dq_t (dq_t (dq_t (dq_t (dq_t (dq_t (dq_t (dq_t (dq_t (dq_t (dq_t (dq_t (dq_t (dq_t (dq_t (dq_t (dq_t dzX11_drought_0)))))))))))))))))))))))
theorem dzX11_drought_38 : dq_F cX11_drought [(38, .aload_n 0, 1), (39, .getfield 36, 3), (42, .aload_n 0, 1), (43, .getfield 57, 3), (46, .aload_n 0, 1), (47, .getfield 19, 3), (50, .getfield 105, 3), (53, .iload_n 1, 1), (54, .invokevirtual 243, 3), (57, .iconst 0, 1), (58, .istore 8, 2), (60, .iload 8, 2), (62, .iload_n 2, 1), (63, .if_icmp .ge 64, 3), (66, .iload 5, 2), (68, .iload 8, 2), (70, .invokestatic 279, 3), (73, .istore 9, 2), (75, .iload 6, 2), (77, .iload 9, 2), (79, .ifCond .eq 7, 3), (82, .iload_n 3, 1), (83, .goto 7, 3), (86, .bipush 10, 2)] := dq_s 24 38 (by decide +kernel)
theorem dX11_drought_38 : decode cX11_drought 38 = .ok (.aload_n 0, 1) := dq_h dzX11_drought_38
theorem dX11_drought_39 : decode cX11_drought 39 = .ok (.getfield 36, 3) := dq_h (dq_t dzX11_drought_38)
theorem dX11_drought_42 : decode cX11_drought 42 = .ok (.aload_n 0, 1) := dq_h (dq_t (dq_t dzX11_drought_38))
theorem dX11_drought_43 : decode cX11_drought 43 = .ok (.getfield 57, 3) := dq_h (dq_t (dq_t (dq_t dzX11_drought_38)))
theorem dX11_drought_46 : decode cX11_drought 46 = .ok (.aload_n 0, 1) := dq_h (dq_t (dq_t (dq_t (dq_t dzX11_drought_38))))
theorem dX11_drought_47 : decode cX11_drought 47 = .ok (.getfield 19, 3) := dq_h (dq_t (dq_t (dq_t (dq_t (dq_t dzX11_drought_38)))))
theorem dX11_drought_50 : decode cX11_drought 50 = .ok (.getfield 105, 3) := dq_h (dq_t (dq_t (dq_t (dq_t (dq_t (dq_t dzX11_drought_38))))))
theorem dX11_drought_53 : decode cX11_drought 53 = .ok (.iload_n 1, 1) := dq_h (dq_t (dq_t (dq_t (dq_t (dq_t (dq_t (dq_t dzX11_drought_38)))))))
theorem dX11_drought_54 : decode cX11_drought 54 = .ok (.invokevirtual 243, 3) := dq_h (dq_t (dq_t (dq_t (dq_t (dq_t (dq_t (dq_t (dq_t dzX11_drought_38))))))))
theorem dX11_drought_57 : decode cX11_drought 57 = .ok (.iconst 0, 1) := dq_h (dq_t (dq_t (dq_t (dq_t (dq_t (dq_t (dq_t (dq_t (dq_t dzX11_drought_38)))))))))
theorem dX11_drought_58 : decode cX11_drought 58 = .ok (.istore 8, 2) := dq_h (dq_t (dq_t (dq_t (dq_t (dq_t (dq_t (dq_t (dq_t (dq_t (dq_t dzX11_drought_38))))))))))
theorem dX11_drought_60 : decode cX11_drought 60 = .ok (.iload 8, 2) := dq_h (dq_t (dq_t (dq_t (dq_t (dq_t (dq_t (dq_t (dq_t (dq_t (dq_t (dq_t dzX11_drought_38)))))))))))
theorem dX11_drought_62 : decode cX11_drought 62 = .ok (.iload_n 2, 1) := dq_h (dq_t (dq_t (dq_t (dq_t (dq_t (dq_t (dq_t (dq_t (dq_t (dq_t (dq_t (dq_t dzX11_drought_38))))))))))))
theorem dX11_drought_63 : decode cX11_drought 63 = .ok (.if_icmp .ge 64, 3) := dq_h (dq_t (dq_t (dq_t (dq_t (dq_t (dq_t (dq_t (dq_t (dq_t (dq_t (dq_t (dq_t (dq_t dzX11_drought_38)))))))))))))
theorem dX11_drought_66 : decode cX11_drought 66 = .ok (.iload 5, 2) := dq_h (dq_t (dq_t (dq_t (dq_t (dq_t (dq_t (dq_t (dq_t (dq_t (dq_t (dq_t (dq_t (dq_t (dq_t dzX11_drought_38))))))))))))))
theorem dX11_drought_68 : decode cX11_drought 68 = .ok (.iload 8, 2) := dq_h (dq_t (dq_t (dq_t (dq_t (dq_t (dq_t (dq_t (dq_t (dq_t (dq_t (dq_t (dq_t (dq_t (dq_t (dq_t dzX11_drought_38)))))))))))))))
theorem dX11_drought_70 : decode cX11_drought 70 = .ok (.invokestatic 279, 3) := dq_h (dq_t (dq_t (dq_t (dq_t (dq_t (dq_t (dq_t (dq_t (dq_t (dq_t (dq_t (dq_t (dq_t (dq_t (dq_t (dq_t dzX11_drought_38))))))))))))))))
theorem dX11_drought_73 : decode cX11_drought 73 = .ok (.istore 9, 2) := dq_h (dq_t (dq_t (dq_t (dq_t (dq_t (dq_t (dq_t (dq_t (dq_t (dq_t (dq_t (dq_t (dq_t (dq_t (dq_t (dq_t (dq_t dzX11_drought_38)))))))))))))))))
theorem dX11_drought_75 : decode cX11_drought 75 = .ok (.iload 6, 2) := dq_h (dq_t (dq_t (dq_t (dq_t (dq_t (dq_t (dq_t (dq_t (dq_t (dq_t (dq_t (dq_t (dq_t (dq_t (dq_t (dq_t (dq_t (dq_t dzX11_drought_38))))))))))))))))))
theorem dX11_drought_77 : decode cX11_drought 77 = .ok (.iload 9, 2) := dq_h (dq_t (dq_t (dq_t (dq_t (dq_t (dq_t (dq_t (dq_t (dq_t (dq_t (dq_t (dq_t (dq_t (dq_t (dq_t (dq_t (dq_t (dq_t (dq_t dzX11_drought_38)))))))))))))))))))
theorem dX11_drought_79 : decode cX11_drought 79 = .ok (.ifCond .eq 7, 3) := dq_h (dq_t (dq_t (dq_t (dq_t (dq_t (dq_t (dq_t (dq_t (dq_t (dq_t (dq_t (dq_t (dq_t (dq_t (dq_t (dq_t (dq_t (dq_t (dq_t (dq_t dzX11_drought_38))))))))))))))))))))
theorem dX11_drought_82 : decode cX11_drought 82 = .ok (.iload_n 3, 1) := dq_h (dq_t (dq_t (dq_t (dq_t (dq_t (dq_t (dq_t (dq_t (dq_t (dq_t (dq_t (dq_t (dq_t (dq_t (dq_t (dq_t (dq_t (dq_t (dq_t (dq_t (dq_t dzX11_drought_38)))))))))))))))))))))
theorem dX11_drought_83 : decode cX11_drought 83 = .ok (.goto 7, 3) := dq_h (dq_t (dq_t (dq_t (dq_t (dq_t (dq_t (dq_t (dq_t (dq_t (dq_t (dq_t (dq_t (dq_t (dq_t (dq_t (dq_t (dq_t (dq_t (dq_t (dq_t (dq_t (dq_t dzX11_drought_38))))))))))))))))))))))
theorem dX11_drought_86 : decode cX11_drought 86 = .ok (.bipush 10, 2) := dq_h (dq_t (dq_t (dq_t (dq_t (dq_t (dq_t (dq_t (dq_t (dq_t (dq_t (dq_t (dq_t (dq_t (dq_t (dq_t (dq_t (dq_t (dq_t (dq_t (dq_t (dq_t (dq_t (dq_t dzX11_drought_38)))))))))))))))))))))))
theorem dzX11_drought_88 : dq_F cX11_drought [(88, .iload_n 3, 1), (89, .isub, 1), (90, .imul, 1), (91, .istore 6, 2), (93, .aload_n 0, 1), (94, .getfield 36, 3), (97, .aload_n 0, 1), (98, .getfield 57, 3), (101, .iload 9, 2), (103, .ifCond .eq 7, 3), (106, .iconst 0, 1), (107, .goto 5, 3), (110, .bipush 9, 2), (112, .invokevirtual 262, 3), (115, .ifCond .eq 6, 3), (118, .iconst 1, 1), (119, .istore 7, 2), (121, .iinc 8 1, 3), (124, .goto (-64), 3), (127, .iload 7, 2), (129, .ifCond .eq 10, 3), (132, .iload 4, 2), (134, .iload 6, 2), (136, .iadd, 1)] := dq_s 24 88 (by decide +kernel)
theorem dX11_drought_88 : decode cX11_drought 88 = .ok (.iload_n 3, 1) := dq_h dzX11_drought_88
theorem dX11_drought_89 : decode cX11_drought 89 = .ok (.isub, 1) := dq_h (dq_t dzX11_drought_88)
theorem dX11_drought_90 : decode cX11_drought 90 = .ok (.imul, 1) := dq_h (dq_t (dq_t dzX11_drought_88))
theorem dX11_drought_91 : decode cX11_drought 91 = .ok (.istore 6, 2) := dq_h (dq_t (dq_t (dq_t dzX11_drought_88)))
theorem dX11_drought_93 : decode cX11_drought 93 = .ok (.aload_n 0, 1) := dq_h (dq_t (dq_t (dq_t (dq_t dzX11_drought_88))))
theorem dX11_drought_94 : decode cX11_drought 94 = .ok (.getfield 36, 3) := dq_h (dq_t (dq_t (dq_t (dq_t (dq_t dzX11_drought_88)))))
theorem dX11_drought_97 : decode cX11_drought 97 = .ok (.aload_n 0, 1) := dq_h (dq_t (dq_t (dq_t (dq_t (dq_t (dq_t dzX11_drought_88))))))
theorem dX11_drought_98 : decode cX11_drought 98 = .ok (.getfield 57, 3) := dq_h (dq_t (dq_t (dq_t (dq_t (dq_t (dq_t (dq_t dzX11_drought_88)))))))
theorem dX11_drought_101 : decode cX11_drought 101 = .ok (.iload 9, 2) := dq_h (dq_t (dq_t (dq_t (dq_t (dq_t (dq_t (dq_t (dq_t dzX11_drought_88))))))))
theorem dX11_drought_103 : decode cX11_drought 103 = .ok (.ifCond .eq 7, 3) := dq_h (dq_t (dq_t (dq_t (dq_t (dq_t (dq_t (dq_t (dq_t (dq_t dzX11_drought_88)))))))))
theorem dX11_drought_106 : decode cX11_drought 106 = .ok (.iconst 0, 1) := dq_h (dq_t (dq_t (dq_t (dq_t (dq_t (dq_t (dq_t (dq_t (dq_t (dq_t dzX11_drought_88))))))))))
theorem dX11_drought_107 : decode cX11_drought 107 = .ok (.goto 5, 3) := dq_h (dq_t (dq_t (dq_t (dq_t (dq_t (dq_t (dq_t (dq_t (dq_t (dq_t (dq_t dzX11_drought_88)))))))))))
theorem dX11_drought_110 : decode cX11_drought 110 = .ok (.bipush 9, 2) := dq_h (dq_t (dq_t (dq_t (dq_t (dq_t (dq_t (dq_t (dq_t (dq_t (dq_t (dq_t (dq_t dzX11_drought_88))))))))))))
theorem dX11_drought_112 : decode cX11_drought 112 = .ok (.invokevirtual 262, 3) := dq_h (dq_t (dq_t (dq_t (dq_t (dq_t (dq_t (dq_t (dq_t (dq_t (dq_t (dq_t (dq_t (dq_t dzX11_drought_88)))))))))))))
theorem dX11_drought_115 : decode cX11_drought 115 = .ok (.ifCond .eq 6, 3) := dq_h (dq_t (dq_t (dq_t (dq_t (dq_t (dq_t (dq_t (dq_t (dq_t (dq_t (dq_t (dq_t (dq_t (dq_t dzX11_drought_88))))))))))))))
theorem dX11_drought_118 : decode cX11_drought 118 = .ok (.iconst 1, 1) := dq_h (dq_t (dq_t (dq_t (dq_t (dq_t (dq_t (dq_t (dq_t (dq_t (dq_t (dq_t (dq_t (dq_t (dq_t (dq_t dzX11_drought_88)))))))))))))))
theorem dX11_drought_119 : decode cX11_drought 119 = .ok (.istore 7, 2) := dq_h (dq_t (dq_t (dq_t (dq_t (dq_t (dq_t (dq_t (dq_t (dq_t (dq_t (dq_t (dq_t (dq_t (dq_t (dq_t (dq_t dzX11_drought_88))))))))))))))))
theorem dX11_drought_121 : decode cX11_drought 121 = .ok (.iinc 8 1, 3) := dq_h (dq_t (dq_t (dq_t (dq_t (dq_t (dq_t (dq_t (dq_t (dq_t (dq_t (dq_t (dq_t (dq_t (dq_t (dq_t (dq_t (dq_t dzX11_drought_88)))))))))))))))))
theorem dX11_drought_124 : decode cX11_drought 124 = .ok (.goto (-64), 3) := dq_h (dq_t (dq_t (dq_t (dq_t (dq_t (dq_t (dq_t (dq_t (dq_t (dq_t (dq_t (dq_t (dq_t (dq_t (dq_t (dq_t (dq_t (dq_t dzX11_drought_88))))))))))))))))))
theorem dX11_drought_127 : decode cX11_drought 127 = .ok (.iload 7, 2) := dq_h (dq_t (dq_t (dq_t (dq_t (dq_t (dq_t (dq_t (dq_t (dq_t (dq_t (dq_t (dq_t (dq_t (dq_t (dq_t (dq_t (dq_t (dq_t (dq_t dzX11_drought_88)))))))))))))))))))
theorem dX11_drought_129 : decode cX11_drought 129 = .ok (.ifCond .eq 10, 3) := dq_h (dq_t (dq_t (dq_t (dq_t (dq_t (dq_t (dq_t (dq_t (dq_t (dq_t (dq_t (dq_t (dq_t (dq_t (dq_t (dq_t (dq_t (dq_t (dq_t (dq_t dzX11_drought_88))))))))))))))))))))
theorem dX11_drought_132 : decode cX11_drought 132 = .ok (.iload 4, 2) := dq_h (dq_t (dq_t (dq_t (dq_t (dq_t (dq_t (dq_t (dq_t (dq_t (dq_t (dq_t (dq_t (dq_t (dq_t (dq_t (dq_t (dq_t (dq_t (dq_t (dq_t (dq_t dzX11_drought_88)))))))))))))))))))))
theorem dX11_drought_134 : decode cX11_drought 134 = .ok (.iload 6, 2) := dq_h (dq_t (dq_t (dq_t (dq_t (dq_t (dq_t (dq_t (dq_t (dq_t (dq_t (dq_t (dq_t (dq_t (dq_t (dq_t (dq_t (dq_t (dq_t (dq_t (dq_t (dq_t (dq_t dzX11_drought_88))))))))))))))))))))))
theorem dX11_drought_136 : decode cX11_drought 136 = .ok (.iadd, 1) := dq_h (dq_t (dq_t (dq_t (dq_t (dq_t (dq_t (dq_t (dq_t (dq_t (dq_t (dq_t (dq_t (dq_t (dq_t (dq_t (dq_t (dq_t (dq_t (dq_t (dq_t (dq_t (dq_t (dq_t dzX11_drought_88)))))))))))))))))))))))
theorem dzX11_drought_137 : dq_F cX11_drought [(137, .istore 4, 2), (139, .iinc 5 1, 3), (142, .goto (-118), 3), (145, .iload 4, 2), (147, .ireturn, 1)] := dq_s 5 137 (by decide +kernel)
theorem dX11_drought_137 : decode cX11_drought 137 = .ok (.istore 4, 2) := dq_h dzX11_drought_137
theorem dX11_drought_139 : decode cX11_drought 139 = .ok (.iinc 5 1, 3) := dq_h (dq_t dzX11_drought_137)
theorem dX11_drought_142 : decode cX11_drought 142 = .ok (.goto (-118), 3) := dq_h (dq_t (dq_t dzX11_drought_137))
theorem dX11_drought_145 : decode cX11_drought 145 = .ok (.iload 4, 2) := dq_h (dq_t (dq_t (dq_t dzX11_drought_137)))
theorem dX11_drought_147 : decode cX11_drought 147 = .ok (.ireturn, 1) := dq_h (dq_t (dq_t (dq_t (dq_t dzX11_drought_137))))
theorem dzX11_game_0 : dq_F cX11_game [(0, .aload_n 0, 1), (1, .iload_n 1, 1), (2, .invokevirtual 191, 3), (5, .aload_n 0, 1), (6, .iload_n 2, 1), (7, .invokevirtual 191, 3), (10, .iload_n 3, 1), (11, .iconst 1, 1), (12, .invokestatic 236, 3), (15, .iload_n 1, 1), (16, .iload_n 2, 1), (17, .if_icmp .ne 14, 3), (20, .new 82, 3), (23, .dup, 1), (24, .ldc_w 344, 3), (27, .invokespecial 86, 3), (30, .athrow, 1), (31, .iconst 0, 1), (32, .istore 4, 2), (34, .iconst (-1), 1), (35, .istore 5, 2), (37, .iconst 0, 1), (38, .istore 6, 2), (40, .iload 6, 2)] := dq_s 24 0 (by decide +kernel)
theorem dX11_game_0 : decode cX11_game 0 = .ok (.aload_n 0, 1) := dq_h dzX11_game_0
theorem dX11_game_1 : decode cX11_game 1 = .ok (.iload_n 1, 1) := dq_h (dq_t dzX11_game_0)
theorem dX11_game_2 : decode cX11_game 2 = .ok (.invokevirtual 191, 3) := dq_h (dq_t (dq_t dzX11_game_0))
theorem dX11_game_5 : decode cX11_game 5 = .ok (.aload_n 0, 1) := dq_h (dq_t (dq_t (dq_t dzX11_game_0)))
theorem dX11_game_6 : decode cX11_game 6 = .ok (.iload_n 2, 1) := dq_h (dq_t (dq_t (dq_t (dq_t dzX11_game_0))))
theorem dX11_game_7 : decode cX11_game 7 = .ok (.invokevirtual 191, 3) := dq_h (dq_t (dq_t (dq_t (dq_t (dq_t dzX11_game_0)))))
theorem dX11_game_10 : decode cX11_game 10 = .ok (.iload_n 3, 1) := dq_h (dq_t (dq_t (dq_t (dq_t (dq_t (dq_t dzX11_game_0))))))
theorem dX11_game_11 : decode cX11_game 11 = .ok (.iconst 1, 1) := dq_h (dq_t (dq_t (dq_t (dq_t (dq_t (dq_t (dq_t dzX11_game_0)))))))
theorem dX11_game_12 : decode cX11_game 12 = .ok (.invokestatic 236, 3) := dq_h (dq_t (dq_t (dq_t (dq_t (dq_t (dq_t (dq_t (dq_t dzX11_game_0))))))))
theorem dX11_game_15 : decode cX11_game 15 = .ok (.iload_n 1, 1) := dq_h (dq_t (dq_t (dq_t (dq_t (dq_t (dq_t (dq_t (dq_t (dq_t dzX11_game_0)))))))))
theorem dX11_game_16 : decode cX11_game 16 = .ok (.iload_n 2, 1) := dq_h (dq_t (dq_t (dq_t (dq_t (dq_t (dq_t (dq_t (dq_t (dq_t (dq_t dzX11_game_0))))))))))
theorem dX11_game_17 : decode cX11_game 17 = .ok (.if_icmp .ne 14, 3) := dq_h (dq_t (dq_t (dq_t (dq_t (dq_t (dq_t (dq_t (dq_t (dq_t (dq_t (dq_t dzX11_game_0)))))))))))
theorem dX11_game_20 : decode cX11_game 20 = .ok (.new 82, 3) := dq_h (dq_t (dq_t (dq_t (dq_t (dq_t (dq_t (dq_t (dq_t (dq_t (dq_t (dq_t (dq_t dzX11_game_0))))))))))))
theorem dX11_game_23 : decode cX11_game 23 = .ok (.dup, 1) := dq_h (dq_t (dq_t (dq_t (dq_t (dq_t (dq_t (dq_t (dq_t (dq_t (dq_t (dq_t (dq_t (dq_t dzX11_game_0)))))))))))))
theorem dX11_game_24 : decode cX11_game 24 = .ok (.ldc_w 344, 3) := dq_h (dq_t (dq_t (dq_t (dq_t (dq_t (dq_t (dq_t (dq_t (dq_t (dq_t (dq_t (dq_t (dq_t (dq_t dzX11_game_0))))))))))))))
theorem dX11_game_27 : decode cX11_game 27 = .ok (.invokespecial 86, 3) := dq_h (dq_t (dq_t (dq_t (dq_t (dq_t (dq_t (dq_t (dq_t (dq_t (dq_t (dq_t (dq_t (dq_t (dq_t (dq_t dzX11_game_0)))))))))))))))
theorem dX11_game_30 : decode cX11_game 30 = .ok (.athrow, 1) := dq_h (dq_t (dq_t (dq_t (dq_t (dq_t (dq_t (dq_t (dq_t (dq_t (dq_t (dq_t (dq_t (dq_t (dq_t (dq_t (dq_t dzX11_game_0))))))))))))))))
theorem dX11_game_31 : decode cX11_game 31 = .ok (.iconst 0, 1) := dq_h (dq_t (dq_t (dq_t (dq_t (dq_t (dq_t (dq_t (dq_t (dq_t (dq_t (dq_t (dq_t (dq_t (dq_t (dq_t (dq_t (dq_t dzX11_game_0)))))))))))))))))
theorem dX11_game_32 : decode cX11_game 32 = .ok (.istore 4, 2) := dq_h (dq_t (dq_t (dq_t (dq_t (dq_t (dq_t (dq_t (dq_t (dq_t (dq_t (dq_t (dq_t (dq_t (dq_t (dq_t (dq_t (dq_t (dq_t dzX11_game_0))))))))))))))))))
theorem dX11_game_34 : decode cX11_game 34 = .ok (.iconst (-1), 1) := dq_h (dq_t (dq_t (dq_t (dq_t (dq_t (dq_t (dq_t (dq_t (dq_t (dq_t (dq_t (dq_t (dq_t (dq_t (dq_t (dq_t (dq_t (dq_t (dq_t dzX11_game_0)))))))))))))))))))
theorem dX11_game_35 : decode cX11_game 35 = .ok (.istore 5, 2) := dq_h (dq_t (dq_t (dq_t (dq_t (dq_t (dq_t (dq_t (dq_t (dq_t (dq_t (dq_t (dq_t (dq_t (dq_t (dq_t (dq_t (dq_t (dq_t (dq_t (dq_t dzX11_game_0))))))))))))))))))))
theorem dX11_game_37 : decode cX11_game 37 = .ok (.iconst 0, 1) := dq_h (dq_t (dq_t (dq_t (dq_t (dq_t (dq_t (dq_t (dq_t (dq_t (dq_t (dq_t (dq_t (dq_t (dq_t (dq_t (dq_t (dq_t (dq_t (dq_t (dq_t (dq_t dzX11_game_0)))))))))))))))))))))
theorem dX11_game_38 : decode cX11_game 38 = .ok (.istore 6, 2) := dq_h (dq_t (dq_t (dq_t (dq_t (dq_t (dq_t (dq_t (dq_t (dq_t (dq_t (dq_t (dq_t (dq_t (dq_t (dq_t (dq_t (dq_t (dq_t (dq_t (dq_t (dq_t (dq_t dzX11_game_0))))))))))))))))))))))
theorem dX11_game_40 : decode cX11_game 40 = .ok (.iload 6, 2) := dq_h (dq_t (dq_t (dq_t (dq_t (dq_t (dq_t (dq_t (dq_t (dq_t (dq_t (dq_t (dq_t (dq_t (dq_t (dq_t (dq_t (dq_t (dq_t (dq_t (dq_t (dq_t (dq_t (dq_t dzX11_game_0)))))))))))))))))))))))
theorem dzX11_game_42 : dq_F cX11_game [(42, .aload_n 0, 1), (43, .iload_n 1, 1), (44, .invokevirtual 346, 3), (47, .if_icmp .gt 78, 3), (50, .iconst 0, 1), (51, .istore 7, 2), (53, .iload 7, 2), (55, .aload_n 0, 1), (56, .iload_n 2, 1), (57, .invokevirtual 346, 3), (60, .if_icmp .gt 59, 3), (63, .aload_n 0, 1), (64, .iload_n 1, 1), (65, .iload 6, 2), (67, .iload_n 2, 1), (68, .iload 7, 2), (70, .invokevirtual 349, 3), (73, .ifCond .eq 40, 3), (76, .aload_n 0, 1), (77, .iload_n 2, 1), (78, .iload 7, 2), (80, .iload_n 1, 1), (81, .iload 6, 2), (83, .invokevirtual 349, 3)] := dq_s 24 42 (by decide +kernel)
theorem dX11_game_42 : decode cX11_game 42 = .ok (.aload_n 0, 1) := dq_h dzX11_game_42
theorem dX11_game_43 : decode cX11_game 43 = .ok (.iload_n 1, 1) := dq_h (dq_t dzX11_game_42)
theorem dX11_game_44 : decode cX11_game 44 = .ok (.invokevirtual 346, 3) := dq_h (dq_t (dq_t dzX11_game_42))
theorem dX11_game_47 : decode cX11_game 47 = .ok (.if_icmp .gt 78, 3) := dq_h (dq_t (dq_t (dq_t dzX11_game_42)))
theorem dX11_game_50 : decode cX11_game 50 = .ok (.iconst 0, 1) := dq_h (dq_t (dq_t (dq_t (dq_t dzX11_game_42))))
theorem dX11_game_51 : decode cX11_game 51 = .ok (.istore 7, 2) := dq_h (dq_t (dq_t (dq_t (dq_t (dq_t dzX11_game_42)))))
theorem dX11_game_53 : decode cX11_game 53 = .ok (.iload 7, 2) := dq_h (dq_t (dq_t (dq_t (dq_t (dq_t (dq_t dzX11_game_42))))))
theorem dX11_game_55 : decode cX11_game 55 = .ok (.aload_n 0, 1) := dq_h (dq_t (dq_t (dq_t (dq_t (dq_t (dq_t (dq_t dzX11_game_42)))))))
theorem dX11_game_56 : decode cX11_game 56 = .ok (.iload_n 2, 1) := dq_h (dq_t (dq_t (dq_t (dq_t (dq_t (dq_t (dq_t (dq_t dzX11_game_42))))))))
theorem dX11_game_57 : decode cX11_game 57 = .ok (.invokevirtual 346, 3) := dq_h (dq_t (dq_t (dq_t (dq_t (dq_t (dq_t (dq_t (dq_t (dq_t dzX11_game_42)))))))))
theorem dX11_game_60 : decode cX11_game 60 = .ok (.if_icmp .gt 59, 3) := dq_h (dq_t (dq_t (dq_t (dq_t (dq_t (dq_t (dq_t (dq_t (dq_t (dq_t dzX11_game_42))))))))))
theorem dX11_game_63 : decode cX11_game 63 = .ok (.aload_n 0, 1) := dq_h (dq_t (dq_t (dq_t (dq_t (dq_t (dq_t (dq_t (dq_t (dq_t (dq_t (dq_t dzX11_game_42)))))))))))
theorem dX11_game_64 : decode cX11_game 64 = .ok (.iload_n 1, 1) := dq_h (dq_t (dq_t (dq_t (dq_t (dq_t (dq_t (dq_t (dq_t (dq_t (dq_t (dq_t (dq_t dzX11_game_42))))))))))))
theorem dX11_game_65 : decode cX11_game 65 = .ok (.iload 6, 2) := dq_h (dq_t (dq_t (dq_t (dq_t (dq_t (dq_t (dq_t (dq_t (dq_t (dq_t (dq_t (dq_t (dq_t dzX11_game_42)))))))))))))
theorem dX11_game_67 : decode cX11_game 67 = .ok (.iload_n 2, 1) := dq_h (dq_t (dq_t (dq_t (dq_t (dq_t (dq_t (dq_t (dq_t (dq_t (dq_t (dq_t (dq_t (dq_t (dq_t dzX11_game_42))))))))))))))
theorem dX11_game_68 : decode cX11_game 68 = .ok (.iload 7, 2) := dq_h (dq_t (dq_t (dq_t (dq_t (dq_t (dq_t (dq_t (dq_t (dq_t (dq_t (dq_t (dq_t (dq_t (dq_t (dq_t dzX11_game_42)))))))))))))))
theorem dX11_game_70 : decode cX11_game 70 = .ok (.invokevirtual 349, 3) := dq_h (dq_t (dq_t (dq_t (dq_t (dq_t (dq_t (dq_t (dq_t (dq_t (dq_t (dq_t (dq_t (dq_t (dq_t (dq_t (dq_t dzX11_game_42))))))))))))))))
theorem dX11_game_73 : decode cX11_game 73 = .ok (.ifCond .eq 40, 3) := dq_h (dq_t (dq_t (dq_t (dq_t (dq_t (dq_t (dq_t (dq_t (dq_t (dq_t (dq_t (dq_t (dq_t (dq_t (dq_t (dq_t (dq_t dzX11_game_42)))))))))))))))))
theorem dX11_game_76 : decode cX11_game 76 = .ok (.aload_n 0, 1) := dq_h (dq_t (dq_t (dq_t (dq_t (dq_t (dq_t (dq_t (dq_t (dq_t (dq_t (dq_t (dq_t (dq_t (dq_t (dq_t (dq_t (dq_t (dq_t dzX11_game_42))))))))))))))))))
theorem dX11_game_77 : decode cX11_game 77 = .ok (.iload_n 2, 1) := dq_h (dq_t (dq_t (dq_t (dq_t (dq_t (dq_t (dq_t (dq_t (dq_t (dq_t (dq_t (dq_t (dq_t (dq_t (dq_t (dq_t (dq_t (dq_t (dq_t dzX11_game_42)))))))))))))))))))
theorem dX11_game_78 : decode cX11_game 78 = .ok (.iload 7, 2) := dq_h (dq_t (dq_t (dq_t (dq_t (dq_t (dq_t (dq_t (dq_t (dq_t (dq_t (dq_t (dq_t (dq_t (dq_t (dq_t (dq_t (dq_t (dq_t (dq_t (dq_t dzX11_game_42))))))))))))))))))))
theorem dX11_game_80 : decode cX11_game 80 = .ok (.iload_n 1, 1) := dq_h (dq_t (dq_t (dq_t (dq_t (dq_t (dq_t (dq_t (dq_t (dq_t (dq_t (dq_t (dq_t (dq_t (dq_t (dq_t (dq_t (dq_t (dq_t (dq_t (dq_t (dq_t dzX11_game_42)))))))))))))))))))))
theorem dX11_game_81 : decode cX11_game 81 = .ok (.iload 6, 2) := dq_h (dq_t (dq_t (dq_t (dq_t (dq_t (dq_t (dq_t (dq_t (dq_t (dq_t (dq_t (dq_t (dq_t (dq_t (dq_t (dq_t (dq_t (dq_t (dq_t (dq_t (dq_t (dq_t dzX11_game_42))))))))))))))))))))))
theorem dX11_game_83 : decode cX11_game 83 = .ok (.invokevirtual 349, 3) := dq_h (dq_t (dq_t (dq_t (dq_t (dq_t (dq_t (dq_t (dq_t (dq_t (dq_t (dq_t (dq_t (dq_t (dq_t (dq_t (dq_t (dq_t (dq_t (dq_t (dq_t (dq_t (dq_t (dq_t dzX11_game_42)))))))))))))))))))))))
theorem dzX11_game_86 : dq_F cX11_game [(86, .ifCond .eq 27, 3), (89, .iinc 4 1, 3), (92, .iload 5, 2), (94, .iconst (-1), 1), (95, .if_icmp .ne 14, 3), (98, .bipush 10, 2), (100, .iload 6, 2), (102, .imul, 1), (103, .iload 7, 2), (105, .iadd, 1), (106, .goto 5, 3), (109, .iload 5, 2), (111, .istore 5, 2), (113, .iinc 7 1, 3), (116, .goto (-63), 3), (119, .iinc 6 1, 3), (122, .goto (-82), 3), (125, .iload_n 3, 1), (126, .ifCond .ne 8, 3), (129, .iload 4, 2), (131, .goto 5, 3), (134, .iload 5, 2), (136, .ireturn, 1)] := dq_s 23 86 (by decide +kernel)
theorem dX11_game_86 : decode cX11_game 86 = .ok (.ifCond .eq 27, 3) := dq_h dzX11_game_86
theorem dX11_game_89 : decode cX11_game 89 = .ok (.iinc 4 1, 3) := dq_h (dq_t dzX11_game_86)
theorem dX11_game_92 : decode cX11_game 92 = .ok (.iload 5, 2) := dq_h (dq_t (dq_t dzX11_game_86))
theorem dX11_game_94 : decode cX11_game 94 = .ok (.iconst (-1), 1) := dq_h (dq_t (dq_t (dq_t dzX11_game_86)))
theorem dX11_game_95 : decode cX11_game 95 = .ok (.if_icmp .ne 14, 3) := dq_h (dq_t (dq_t (dq_t (dq_t dzX11_game_86))))
theorem dX11_game_98 : decode cX11_game 98 = .ok (.bipush 10, 2) := dq_h (dq_t (dq_t (dq_t (dq_t (dq_t dzX11_game_86)))))
theorem dX11_game_100 : decode cX11_game 100 = .ok (.iload 6, 2) := dq_h (dq_t (dq_t (dq_t (dq_t (dq_t (dq_t dzX11_game_86))))))
theorem dX11_game_102 : decode cX11_game 102 = .ok (.imul, 1) := dq_h (dq_t (dq_t (dq_t (dq_t (dq_t (dq_t (dq_t dzX11_game_86)))))))
theorem dX11_game_103 : decode cX11_game 103 = .ok (.iload 7, 2) := dq_h (dq_t (dq_t (dq_t (dq_t (dq_t (dq_t (dq_t (dq_t dzX11_game_86))))))))
theorem dX11_game_105 : decode cX11_game 105 = .ok (.iadd, 1) := dq_h (dq_t (dq_t (dq_t (dq_t (dq_t (dq_t (dq_t (dq_t (dq_t dzX11_game_86)))))))))
theorem dX11_game_106 : decode cX11_game 106 = .ok (.goto 5, 3) := dq_h (dq_t (dq_t (dq_t (dq_t (dq_t (dq_t (dq_t (dq_t (dq_t (dq_t dzX11_game_86))))))))))
theorem dX11_game_109 : decode cX11_game 109 = .ok (.iload 5, 2) := dq_h (dq_t (dq_t (dq_t (dq_t (dq_t (dq_t (dq_t (dq_t (dq_t (dq_t (dq_t dzX11_game_86)))))))))))
theorem dX11_game_111 : decode cX11_game 111 = .ok (.istore 5, 2) := dq_h (dq_t (dq_t (dq_t (dq_t (dq_t (dq_t (dq_t (dq_t (dq_t (dq_t (dq_t (dq_t dzX11_game_86))))))))))))
theorem dX11_game_113 : decode cX11_game 113 = .ok (.iinc 7 1, 3) := dq_h (dq_t (dq_t (dq_t (dq_t (dq_t (dq_t (dq_t (dq_t (dq_t (dq_t (dq_t (dq_t (dq_t dzX11_game_86)))))))))))))
theorem dX11_game_116 : decode cX11_game 116 = .ok (.goto (-63), 3) := dq_h (dq_t (dq_t (dq_t (dq_t (dq_t (dq_t (dq_t (dq_t (dq_t (dq_t (dq_t (dq_t (dq_t (dq_t dzX11_game_86))))))))))))))
theorem dX11_game_119 : decode cX11_game 119 = .ok (.iinc 6 1, 3) := dq_h (dq_t (dq_t (dq_t (dq_t (dq_t (dq_t (dq_t (dq_t (dq_t (dq_t (dq_t (dq_t (dq_t (dq_t (dq_t dzX11_game_86)))))))))))))))
theorem dX11_game_122 : decode cX11_game 122 = .ok (.goto (-82), 3) := dq_h (dq_t (dq_t (dq_t (dq_t (dq_t (dq_t (dq_t (dq_t (dq_t (dq_t (dq_t (dq_t (dq_t (dq_t (dq_t (dq_t dzX11_game_86))))))))))))))))
theorem dX11_game_125 : decode cX11_game 125 = .ok (.iload_n 3, 1) := dq_h (dq_t (dq_t (dq_t (dq_t (dq_t (dq_t (dq_t (dq_t (dq_t (dq_t (dq_t (dq_t (dq_t (dq_t (dq_t (dq_t (dq_t dzX11_game_86)))))))))))))))))
theorem dX11_game_126 : decode cX11_game 126 = .ok (.ifCond .ne 8, 3) := dq_h (dq_t (dq_t (dq_t (dq_t (dq_t (dq_t (dq_t (dq_t (dq_t (dq_t (dq_t (dq_t (dq_t (dq_t (dq_t (dq_t (dq_t (dq_t dzX11_game_86))))))))))))))))))
theorem dX11_game_129 : decode cX11_game 129 = .ok (.iload 4, 2) := dq_h (dq_t (dq_t (dq_t (dq_t (dq_t (dq_t (dq_t (dq_t (dq_t (dq_t (dq_t (dq_t (dq_t (dq_t (dq_t (dq_t (dq_t (dq_t (dq_t dzX11_game_86)))))))))))))))))))
theorem dX11_game_131 : decode cX11_game 131 = .ok (.goto 5, 3) := dq_h (dq_t (dq_t (dq_t (dq_t (dq_t (dq_t (dq_t (dq_t (dq_t (dq_t (dq_t (dq_t (dq_t (dq_t (dq_t (dq_t (dq_t (dq_t (dq_t (dq_t dzX11_game_86))))))))))))))))))))
theorem dX11_game_134 : decode cX11_game 134 = .ok (.iload 5, 2) := dq_h (dq_t (dq_t (dq_t (dq_t (dq_t (dq_t (dq_t (dq_t (dq_t (dq_t (dq_t (dq_t (dq_t (dq_t (dq_t (dq_t (dq_t (dq_t (dq_t (dq_t (dq_t dzX11_game_86)))))))))))))))))))))
theorem dX11_game_136 : decode cX11_game 136 = .ok (.ireturn, 1) := dq_h (dq_t (dq_t (dq_t (dq_t (dq_t (dq_t (dq_t (dq_t (dq_t (dq_t (dq_t (dq_t (dq_t (dq_t (dq_t (dq_t (dq_t (dq_t (dq_t (dq_t (dq_t (dq_t dzX11_game_86))))))))))))))))))))))
theorem dzX11_years_0 : dq_F cX11_years [(0, .iload_n 3, 1), (1, .iconst 2, 1), (2, .invokestatic 236, 3), (5, .iload_n 2, 1), (6, .iconst 0, 1), (7, .bipush 60, 2), (9, .invokestatic 239, 3), (12, .aload_n 0, 1), (13, .getfield 29, 3), (16, .aload_n 0, 1), (17, .getfield 19, 3), (20, .getfield 105, 3), (23, .invokevirtual 353, 3), (26, .aload_n 0, 1), (27, .iload_n 1, 1), (28, .putfield 65, 3), (31, .iconst 0, 1), (32, .istore 4, 2), (34, .iconst 0, 1), (35, .istore 5, 2), (37, .iload 5, 2), (39, .iload_n 2, 1), (40, .if_icmp .ge 37, 3), (43, .aload_n 0, 1)] := dq_s 24 0 (by decide +kernel)
theorem dX11_years_0 : decode cX11_years 0 = .ok (.iload_n 3, 1) := dq_h dzX11_years_0
theorem dX11_years_1 : decode cX11_years 1 = .ok (.iconst 2, 1) := dq_h (dq_t dzX11_years_0)
theorem dX11_years_2 : decode cX11_years 2 = .ok (.invokestatic 236, 3) := dq_h (dq_t (dq_t dzX11_years_0))
theorem dX11_years_5 : decode cX11_years 5 = .ok (.iload_n 2, 1) := dq_h (dq_t (dq_t (dq_t dzX11_years_0)))
theorem dX11_years_6 : decode cX11_years 6 = .ok (.iconst 0, 1) := dq_h (dq_t (dq_t (dq_t (dq_t dzX11_years_0))))
theorem dX11_years_7 : decode cX11_years 7 = .ok (.bipush 60, 2) := dq_h (dq_t (dq_t (dq_t (dq_t (dq_t dzX11_years_0)))))
theorem dX11_years_9 : decode cX11_years 9 = .ok (.invokestatic 239, 3) := dq_h (dq_t (dq_t (dq_t (dq_t (dq_t (dq_t dzX11_years_0))))))
theorem dX11_years_12 : decode cX11_years 12 = .ok (.aload_n 0, 1) := dq_h (dq_t (dq_t (dq_t (dq_t (dq_t (dq_t (dq_t dzX11_years_0)))))))
theorem dX11_years_13 : decode cX11_years 13 = .ok (.getfield 29, 3) := dq_h (dq_t (dq_t (dq_t (dq_t (dq_t (dq_t (dq_t (dq_t dzX11_years_0))))))))
theorem dX11_years_16 : decode cX11_years 16 = .ok (.aload_n 0, 1) := dq_h (dq_t (dq_t (dq_t (dq_t (dq_t (dq_t (dq_t (dq_t (dq_t dzX11_years_0)))))))))
theorem dX11_years_17 : decode cX11_years 17 = .ok (.getfield 19, 3) := dq_h (dq_t (dq_t (dq_t (dq_t (dq_t (dq_t (dq_t (dq_t (dq_t (dq_t dzX11_years_0))))))))))
theorem dX11_years_20 : decode cX11_years 20 = .ok (.getfield 105, 3) := dq_h (dq_t (dq_t (dq_t (dq_t (dq_t (dq_t (dq_t (dq_t (dq_t (dq_t (dq_t dzX11_years_0)))))))))))
theorem dX11_years_23 : decode cX11_years 23 = .ok (.invokevirtual 353, 3) := dq_h (dq_t (dq_t (dq_t (dq_t (dq_t (dq_t (dq_t (dq_t (dq_t (dq_t (dq_t (dq_t dzX11_years_0))))))))))))
theorem dX11_years_26 : decode cX11_years 26 = .ok (.aload_n 0, 1) := dq_h (dq_t (dq_t (dq_t (dq_t (dq_t (dq_t (dq_t (dq_t (dq_t (dq_t (dq_t (dq_t (dq_t dzX11_years_0)))))))))))))
theorem dX11_years_27 : decode cX11_years 27 = .ok (.iload_n 1, 1) := dq_h (dq_t (dq_t (dq_t (dq_t (dq_t (dq_t (dq_t (dq_t (dq_t (dq_t (dq_t (dq_t (dq_t (dq_t dzX11_years_0))))))))))))))
theorem dX11_years_28 : decode cX11_years 28 = .ok (.putfield 65, 3) := dq_h (dq_t (dq_t (dq_t (dq_t (dq_t (dq_t (dq_t (dq_t (dq_t (dq_t (dq_t (dq_t (dq_t (dq_t (dq_t dzX11_years_0)))))))))))))))
theorem dX11_years_31 : decode cX11_years 31 = .ok (.iconst 0, 1) := dq_h (dq_t (dq_t (dq_t (dq_t (dq_t (dq_t (dq_t (dq_t (dq_t (dq_t (dq_t (dq_t (dq_t (dq_t (dq_t (dq_t dzX11_years_0))))))))))))))))
theorem dX11_years_32 : decode cX11_years 32 = .ok (.istore 4, 2) := dq_h (dq_t (dq_t (dq_t (dq_t (dq_t (dq_t (dq_t (dq_t (dq_t (dq_t (dq_t (dq_t (dq_t (dq_t (dq_t (dq_t (dq_t dzX11_years_0)))))))))))))))))
theorem dX11_years_34 : decode cX11_years 34 = .ok (.iconst 0, 1) := dq_h (dq_t (dq_t (dq_t (dq_t (dq_t (dq_t (dq_t (dq_t (dq_t (dq_t (dq_t (dq_t (dq_t (dq_t (dq_t (dq_t (dq_t (dq_t dzX11_years_0))))))))))))))))))
theorem dX11_years_35 : decode cX11_years 35 = .ok (.istore 5, 2) := dq_h (dq_t (dq_t (dq_t (dq_t (dq_t (dq_t (dq_t (dq_t (dq_t (dq_t (dq_t (dq_t (dq_t (dq_t (dq_t (dq_t (dq_t (dq_t (dq_t dzX11_years_0)))))))))))))))))))
theorem dX11_years_37 : decode cX11_years 37 = .ok (.iload 5, 2) := dq_h (dq_t (dq_t (dq_t (dq_t (dq_t (dq_t (dq_t (dq_t (dq_t (dq_t (dq_t (dq_t (dq_t (dq_t (dq_t (dq_t (dq_t (dq_t (dq_t (dq_t dzX11_years_0))))))))))))))))))))
theorem dX11_years_39 : decode cX11_years 39 = .ok (.iload_n 2, 1) := dq_h (dq_t (dq_t (dq_t (dq_t (dq_t (dq_t (dq_t (dq_t (dq_t (dq_t (dq_t (dq_t (dq_t (dq_t (dq_t (dq_t (dq_t (dq_t (dq_t (dq_t (dq_t dzX11_years_0)))))))))))))))))))))
theorem dX11_years_40 : decode cX11_years 40 = .ok (.if_icmp .ge 37, 3) := dq_h (dq_t (dq_t (dq_t (dq_t (dq_t (dq_t (dq_t (dq_t (dq_t (dq_t (dq_t (dq_t (dq_t (dq_t (dq_t (dq_t (dq_t (dq_t (dq_t (dq_t (dq_t (dq_t dzX11_years_0))))))))))))))))))))))
theorem dX11_years_43 : decode cX11_years 43 = .ok (.aload_n 0, 1) := dq_h (dq_t (dq_t (dq_t (dq_t (dq_t (dq_t (dq_t (dq_t (dq_t (dq_t (dq_t (dq_t (dq_t (dq_t (dq_t (dq_t (dq_t (dq_t (dq_t (dq_t (dq_t (dq_t (dq_t dzX11_years_0)))))))))))))))))))))))
theorem dzX11_years_44 : dq_F cX11_years [(44, .aload_n 0, 1), (45, .bipush 7, 2), (47, .invokevirtual 357, 3), (50, .invokevirtual 360, 3), (53, .iload 4, 2), (55, .aload_n 0, 1), (56, .aload_n 0, 1), (57, .getfield 29, 3), (60, .aload_n 0, 1), (61, .iconst 4, 1), (62, .invokevirtual 357, 3), (65, .invokevirtual 221, 3), (68, .iadd, 1), (69, .istore 4, 2), (71, .iinc 5 1, 3), (74, .goto (-37), 3), (77, .iload_n 3, 1)] := dq_s 17 44 (by decide +kernel)
theorem dX11_years_44 : decode cX11_years 44 = .ok (.aload_n 0, 1) := dq_h dzX11_years_44
theorem dX11_years_45 : decode cX11_years 45 = .ok (.bipush 7, 2) := dq_h (dq_t dzX11_years_44)
theorem dX11_years_47 : decode cX11_years 47 = .ok (.invokevirtual 357, 3) := dq_h (dq_t (dq_t dzX11_years_44))
theorem dX11_years_50 : decode cX11_years 50 = .ok (.invokevirtual 360, 3) := dq_h (dq_t (dq_t (dq_t dzX11_years_44)))
theorem dX11_years_53 : decode cX11_years 53 = .ok (.iload 4, 2) := dq_h (dq_t (dq_t (dq_t (dq_t dzX11_years_44))))
theorem dX11_years_55 : decode cX11_years 55 = .ok (.aload_n 0, 1) := dq_h (dq_t (dq_t (dq_t (dq_t (dq_t dzX11_years_44)))))
theorem dX11_years_56 : decode cX11_years 56 = .ok (.aload_n 0, 1) := dq_h (dq_t (dq_t (dq_t (dq_t (dq_t (dq_t dzX11_years_44))))))
theorem dX11_years_57 : decode cX11_years 57 = .ok (.getfield 29, 3) := dq_h (dq_t (dq_t (dq_t (dq_t (dq_t (dq_t (dq_t dzX11_years_44)))))))
theorem dX11_years_60 : decode cX11_years 60 = .ok (.aload_n 0, 1) := dq_h (dq_t (dq_t (dq_t (dq_t (dq_t (dq_t (dq_t (dq_t dzX11_years_44))))))))
theorem dX11_years_61 : decode cX11_years 61 = .ok (.iconst 4, 1) := dq_h (dq_t (dq_t (dq_t (dq_t (dq_t (dq_t (dq_t (dq_t (dq_t dzX11_years_44)))))))))
theorem dX11_years_62 : decode cX11_years 62 = .ok (.invokevirtual 357, 3) := dq_h (dq_t (dq_t (dq_t (dq_t (dq_t (dq_t (dq_t (dq_t (dq_t (dq_t dzX11_years_44))))))))))
theorem dX11_years_65 : decode cX11_years 65 = .ok (.invokevirtual 221, 3) := dq_h (dq_t (dq_t (dq_t (dq_t (dq_t (dq_t (dq_t (dq_t (dq_t (dq_t (dq_t dzX11_years_44)))))))))))
theorem dX11_years_68 : decode cX11_years 68 = .ok (.iadd, 1) := dq_h (dq_t (dq_t (dq_t (dq_t (dq_t (dq_t (dq_t (dq_t (dq_t (dq_t (dq_t (dq_t dzX11_years_44))))))))))))
theorem dX11_years_69 : decode cX11_years 69 = .ok (.istore 4, 2) := dq_h (dq_t (dq_t (dq_t (dq_t (dq_t (dq_t (dq_t (dq_t (dq_t (dq_t (dq_t (dq_t (dq_t dzX11_years_44)))))))))))))
theorem dX11_years_71 : decode cX11_years 71 = .ok (.iinc 5 1, 3) := dq_h (dq_t (dq_t (dq_t (dq_t (dq_t (dq_t (dq_t (dq_t (dq_t (dq_t (dq_t (dq_t (dq_t (dq_t dzX11_years_44))))))))))))))
theorem dX11_years_74 : decode cX11_years 74 = .ok (.goto (-37), 3) := dq_h (dq_t (dq_t (dq_t (dq_t (dq_t (dq_t (dq_t (dq_t (dq_t (dq_t (dq_t (dq_t (dq_t (dq_t (dq_t dzX11_years_44)))))))))))))))
theorem dX11_years_77 : decode cX11_years 77 = .ok (.iload_n 3, 1) := dq_h (dq_t (dq_t (dq_t (dq_t (dq_t (dq_t (dq_t (dq_t (dq_t (dq_t (dq_t (dq_t (dq_t (dq_t (dq_t (dq_t dzX11_years_44))))))))))))))))
theorem dX11_years_78 : decode cX11_years 78 = .ok (.lookupswitch 41 #[(0, 26), (1, 29)], 26) := by decide +kernel
theorem dzX11_years_104 : dq_F cX11_years [(104, .iload 4, 2), (106, .ireturn, 1), (107, .aload_n 0, 1), (108, .getfield 29, 3), (111, .aload_n 0, 1), (112, .getfield 57, 3), (115, .invokevirtual 131, 3), (118, .ireturn, 1), (119, .aload_n 0, 1), (120, .getfield 29, 3), (123, .aload_n 0, 1), (124, .getfield 57, 3), (127, .invokevirtual 124, 3), (130, .invokestatic 271, 3), (133, .ireturn, 1)] := dq_s 15 104 (by decide +kernel)
theorem dX11_years_104 : decode cX11_years 104 = .ok (.iload 4, 2) := dq_h dzX11_years_104
theorem dX11_years_106 : decode cX11_years 106 = .ok (.ireturn, 1) := dq_h (dq_t dzX11_years_104)
theorem dX11_years_107 : decode cX11_years 107 = .ok (.aload_n 0, 1) := dq_h (dq_t (dq_t dzX11_years_104))
theorem dX11_years_108 : decode cX11_years 108 = .ok (.getfield 29, 3) := dq_h (dq_t (dq_t (dq_t dzX11_years_104)))
theorem dX11_years_111 : decode cX11_years 111 = .ok (.aload_n 0, 1) := dq_h (dq_t (dq_t (dq_t (dq_t dzX11_years_104))))
theorem dX11_years_112 : decode cX11_years 112 = .ok (.getfield 57, 3) := dq_h (dq_t (dq_t (dq_t (dq_t (dq_t dzX11_years_104)))))
theorem dX11_years_115 : decode cX11_years 115 = .ok (.invokevirtual 131, 3) := dq_h (dq_t (dq_t (dq_t (dq_t (dq_t (dq_t dzX11_years_104))))))
theorem dX11_years_118 : decode cX11_years 118 = .ok (.ireturn, 1) := dq_h (dq_t (dq_t (dq_t (dq_t (dq_t (dq_t (dq_t dzX11_years_104)))))))
theorem dX11_years_119 : decode cX11_years 119 = .ok (.aload_n 0, 1) := dq_h (dq_t (dq_t (dq_t (dq_t (dq_t (dq_t (dq_t (dq_t dzX11_years_104))))))))
theorem dX11_years_120 : decode cX11_years 120 = .ok (.getfield 29, 3) := dq_h (dq_t (dq_t (dq_t (dq_t (dq_t (dq_t (dq_t (dq_t (dq_t dzX11_years_104)))))))))
theorem dX11_years_123 : decode cX11_years 123 = .ok (.aload_n 0, 1) := dq_h (dq_t (dq_t (dq_t (dq_t (dq_t (dq_t (dq_t (dq_t (dq_t (dq_t dzX11_years_104))))))))))
theorem dX11_years_124 : decode cX11_years 124 = .ok (.getfield 57, 3) := dq_h (dq_t (dq_t (dq_t (dq_t (dq_t (dq_t (dq_t (dq_t (dq_t (dq_t (dq_t dzX11_years_104)))))))))))
theorem dX11_years_127 : decode cX11_years 127 = .ok (.invokevirtual 124, 3) := dq_h (dq_t (dq_t (dq_t (dq_t (dq_t (dq_t (dq_t (dq_t (dq_t (dq_t (dq_t (dq_t dzX11_years_104))))))))))))
theorem dX11_years_130 : decode cX11_years 130 = .ok (.invokestatic 271, 3) := dq_h (dq_t (dq_t (dq_t (dq_t (dq_t (dq_t (dq_t (dq_t (dq_t (dq_t (dq_t (dq_t (dq_t dzX11_years_104)))))))))))))
theorem dX11_years_133 : decode cX11_years 133 = .ok (.ireturn, 1) := dq_h (dq_t (dq_t (dq_t (dq_t (dq_t (dq_t (dq_t (dq_t (dq_t (dq_t (dq_t (dq_t (dq_t (dq_t dzX11_years_104))))))))))))))
theorem dzX11_image_0 : dq_F cX11_image [(0, .aload_n 0, 1), (1, .getfield 23, 3), (4, .aload_n 0, 1), (5, .getfield 19, 3), (8, .invokevirtual 363, 3), (11, .aload_n 0, 1), (12, .iconst 1, 1), (13, .putfield 61, 3), (16, .return_, 1)] := dq_s 9 0 (by decide +kernel)
theorem dX11_image_0 : decode cX11_image 0 = .ok (.aload_n 0, 1) := dq_h dzX11_image_0
theorem dX11_image_1 : decode cX11_image 1 = .ok (.getfield 23, 3) := dq_h (dq_t dzX11_image_0)
theorem dX11_image_4 : decode cX11_image 4 = .ok (.aload_n 0, 1) := dq_h (dq_t (dq_t dzX11_image_0))
theorem dX11_image_5 : decode cX11_image 5 = .ok (.getfield 19, 3) := dq_h (dq_t (dq_t (dq_t dzX11_image_0)))
theorem dX11_image_8 : decode cX11_image 8 = .ok (.invokevirtual 363, 3) := dq_h (dq_t (dq_t (dq_t (dq_t dzX11_image_0))))
theorem dX11_image_11 : decode cX11_image 11 = .ok (.aload_n 0, 1) := dq_h (dq_t (dq_t (dq_t (dq_t (dq_t dzX11_image_0)))))
theorem dX11_image_12 : decode cX11_image 12 = .ok (.iconst 1, 1) := dq_h (dq_t (dq_t (dq_t (dq_t (dq_t (dq_t dzX11_image_0))))))
theorem dX11_image_13 : decode cX11_image 13 = .ok (.putfield 61, 3) := dq_h (dq_t (dq_t (dq_t (dq_t (dq_t (dq_t (dq_t dzX11_image_0)))))))
theorem dX11_image_16 : decode cX11_image 16 = .ok (.return_, 1) := dq_h (dq_t (dq_t (dq_t (dq_t (dq_t (dq_t (dq_t (dq_t dzX11_image_0))))))))
theorem dzX11_restore_0 : dq_F cX11_restore [(0, .aload_n 0, 1), (1, .getfield 61, 3), (4, .ifCond .eq 14, 3), (7, .aload_n 0, 1), (8, .getfield 19, 3), (11, .aload_n 0, 1), (12, .getfield 23, 3), (15, .invokevirtual 363, 3), (18, .aload_n 0, 1), (19, .getfield 61, 3), (22, .ireturn, 1)] := dq_s 11 0 (by decide +kernel)
theorem dX11_restore_0 : decode cX11_restore 0 = .ok (.aload_n 0, 1) := dq_h dzX11_restore_0
theorem dX11_restore_1 : decode cX11_restore 1 = .ok (.getfield 61, 3) := dq_h (dq_t dzX11_restore_0)
theorem dX11_restore_4 : decode cX11_restore 4 = .ok (.ifCond .eq 14, 3) := dq_h (dq_t (dq_t dzX11_restore_0))
theorem dX11_restore_7 : decode cX11_restore 7 = .ok (.aload_n 0, 1) := dq_h (dq_t (dq_t (dq_t dzX11_restore_0)))
theorem dX11_restore_8 : decode cX11_restore 8 = .ok (.getfield 19, 3) := dq_h (dq_t (dq_t (dq_t (dq_t dzX11_restore_0))))
theorem dX11_restore_11 : decode cX11_restore 11 = .ok (.aload_n 0, 1) := dq_h (dq_t (dq_t (dq_t (dq_t (dq_t dzX11_restore_0)))))
theorem dX11_restore_12 : decode cX11_restore 12 = .ok (.getfield 23, 3) := dq_h (dq_t (dq_t (dq_t (dq_t (dq_t (dq_t dzX11_restore_0))))))
theorem dX11_restore_15 : decode cX11_restore 15 = .ok (.invokevirtual 363, 3) := dq_h (dq_t (dq_t (dq_t (dq_t (dq_t (dq_t (dq_t dzX11_restore_0)))))))
theorem dX11_restore_18 : decode cX11_restore 18 = .ok (.aload_n 0, 1) := dq_h (dq_t (dq_t (dq_t (dq_t (dq_t (dq_t (dq_t (dq_t dzX11_restore_0))))))))
theorem dX11_restore_19 : decode cX11_restore 19 = .ok (.getfield 61, 3) := dq_h (dq_t (dq_t (dq_t (dq_t (dq_t (dq_t (dq_t (dq_t (dq_t dzX11_restore_0)))))))))
theorem dX11_restore_22 : decode cX11_restore 22 = .ok (.ireturn, 1) := dq_h (dq_t (dq_t (dq_t (dq_t (dq_t (dq_t (dq_t (dq_t (dq_t (dq_t dzX11_restore_0))))))))))
theorem dzX11_needGrotto_0 : dq_F cX11_needGrotto [(0, .aload_n 0, 1), (1, .getfield 57, 3), (4, .iload_n 1, 1), (5, .invokevirtual 366, 3), (8, .ifCond .ne 14, 3), (11, .new 157, 3), (14, .dup, 1), (15, .ldc_w 369, 3), (18, .invokespecial 161, 3), (21, .athrow, 1), (22, .return_, 1)] := dq_s 11 0 (by decide +kernel)
theorem dX11_needGrotto_0 : decode cX11_needGrotto 0 = .ok (.aload_n 0, 1) := dq_h dzX11_needGrotto_0
theorem dX11_needGrotto_1 : decode cX11_needGrotto 1 = .ok (.getfield 57, 3) := dq_h (dq_t dzX11_needGrotto_0)
theorem dX11_needGrotto_4 : decode cX11_needGrotto 4 = .ok (.iload_n 1, 1) := dq_h (dq_t (dq_t dzX11_needGrotto_0))
theorem dX11_needGrotto_5 : decode cX11_needGrotto 5 = .ok (.invokevirtual 366, 3) := dq_h (dq_t (dq_t (dq_t dzX11_needGrotto_0)))
theorem dX11_needGrotto_8 : decode cX11_needGrotto 8 = .ok (.ifCond .ne 14, 3) := dq_h (dq_t (dq_t (dq_t (dq_t dzX11_needGrotto_0))))
theorem dX11_needGrotto_11 : decode cX11_needGrotto 11 = .ok (.new 157, 3) := dq_h (dq_t (dq_t (dq_t (dq_t (dq_t dzX11_needGrotto_0)))))
theorem dX11_needGrotto_14 : decode cX11_needGrotto 14 = .ok (.dup, 1) := dq_h (dq_t (dq_t (dq_t (dq_t (dq_t (dq_t dzX11_needGrotto_0))))))
theorem dX11_needGrotto_15 : decode cX11_needGrotto 15 = .ok (.ldc_w 369, 3) := dq_h (dq_t (dq_t (dq_t (dq_t (dq_t (dq_t (dq_t dzX11_needGrotto_0)))))))
theorem dX11_needGrotto_18 : decode cX11_needGrotto 18 = .ok (.invokespecial 161, 3) := dq_h (dq_t (dq_t (dq_t (dq_t (dq_t (dq_t (dq_t (dq_t dzX11_needGrotto_0))))))))
theorem dX11_needGrotto_21 : decode cX11_needGrotto 21 = .ok (.athrow, 1) := dq_h (dq_t (dq_t (dq_t (dq_t (dq_t (dq_t (dq_t (dq_t (dq_t dzX11_needGrotto_0)))))))))
theorem dX11_needGrotto_22 : decode cX11_needGrotto 22 = .ok (.return_, 1) := dq_h (dq_t (dq_t (dq_t (dq_t (dq_t (dq_t (dq_t (dq_t (dq_t (dq_t dzX11_needGrotto_0))))))))))
theorem dzX11_needGuild_0 : dq_F cX11_needGuild [(0, .aload_n 0, 1), (1, .getfield 57, 3), (4, .iload_n 1, 1), (5, .invokevirtual 371, 3), (8, .ifCond .ne 14, 3), (11, .new 157, 3), (14, .dup, 1), (15, .ldc_w 374, 3), (18, .invokespecial 161, 3), (21, .athrow, 1), (22, .return_, 1)] := dq_s 11 0 (by decide +kernel)
theorem dX11_needGuild_0 : decode cX11_needGuild 0 = .ok (.aload_n 0, 1) := dq_h dzX11_needGuild_0
theorem dX11_needGuild_1 : decode cX11_needGuild 1 = .ok (.getfield 57, 3) := dq_h (dq_t dzX11_needGuild_0)
theorem dX11_needGuild_4 : decode cX11_needGuild 4 = .ok (.iload_n 1, 1) := dq_h (dq_t (dq_t dzX11_needGuild_0))
theorem dX11_needGuild_5 : decode cX11_needGuild 5 = .ok (.invokevirtual 371, 3) := dq_h (dq_t (dq_t (dq_t dzX11_needGuild_0)))
theorem dX11_needGuild_8 : decode cX11_needGuild 8 = .ok (.ifCond .ne 14, 3) := dq_h (dq_t (dq_t (dq_t (dq_t dzX11_needGuild_0))))
theorem dX11_needGuild_11 : decode cX11_needGuild 11 = .ok (.new 157, 3) := dq_h (dq_t (dq_t (dq_t (dq_t (dq_t dzX11_needGuild_0)))))
theorem dX11_needGuild_14 : decode cX11_needGuild 14 = .ok (.dup, 1) := dq_h (dq_t (dq_t (dq_t (dq_t (dq_t (dq_t dzX11_needGuild_0))))))
theorem dX11_needGuild_15 : decode cX11_needGuild 15 = .ok (.ldc_w 374, 3) := dq_h (dq_t (dq_t (dq_t (dq_t (dq_t (dq_t (dq_t dzX11_needGuild_0)))))))
theorem dX11_needGuild_18 : decode cX11_needGuild 18 = .ok (.invokespecial 161, 3) := dq_h (dq_t (dq_t (dq_t (dq_t (dq_t (dq_t (dq_t (dq_t dzX11_needGuild_0))))))))
theorem dX11_needGuild_21 : decode cX11_needGuild 21 = .ok (.athrow, 1) := dq_h (dq_t (dq_t (dq_t (dq_t (dq_t (dq_t (dq_t (dq_t (dq_t dzX11_needGuild_0)))))))))
theorem dX11_needGuild_22 : decode cX11_needGuild 22 = .ok (.return_, 1) := dq_h (dq_t (dq_t (dq_t (dq_t (dq_t (dq_t (dq_t (dq_t (dq_t (dq_t dzX11_needGuild_0))))))))))
theorem dzX11_needWhat_0 : dq_F cX11_needWhat [(0, .iload_n 0, 1), (1, .iconst 0, 1), (2, .iload_n 1, 1), (3, .invokestatic 214, 3), (6, .ifCond .ne 14, 3), (9, .new 157, 3), (12, .dup, 1), (13, .ldc_w 376, 3), (16, .invokespecial 161, 3), (19, .athrow, 1), (20, .return_, 1)] := dq_s 11 0 (by decide +kernel)
theorem dX11_needWhat_0 : decode cX11_needWhat 0 = .ok (.iload_n 0, 1) := dq_h dzX11_needWhat_0
theorem dX11_needWhat_1 : decode cX11_needWhat 1 = .ok (.iconst 0, 1) := dq_h (dq_t dzX11_needWhat_0)
theorem dX11_needWhat_2 : decode cX11_needWhat 2 = .ok (.iload_n 1, 1) := dq_h (dq_t (dq_t dzX11_needWhat_0))
theorem dX11_needWhat_3 : decode cX11_needWhat 3 = .ok (.invokestatic 214, 3) := dq_h (dq_t (dq_t (dq_t dzX11_needWhat_0)))
theorem dX11_needWhat_6 : decode cX11_needWhat 6 = .ok (.ifCond .ne 14, 3) := dq_h (dq_t (dq_t (dq_t (dq_t dzX11_needWhat_0))))
theorem dX11_needWhat_9 : decode cX11_needWhat 9 = .ok (.new 157, 3) := dq_h (dq_t (dq_t (dq_t (dq_t (dq_t dzX11_needWhat_0)))))
theorem dX11_needWhat_12 : decode cX11_needWhat 12 = .ok (.dup, 1) := dq_h (dq_t (dq_t (dq_t (dq_t (dq_t (dq_t dzX11_needWhat_0))))))
theorem dX11_needWhat_13 : decode cX11_needWhat 13 = .ok (.ldc_w 376, 3) := dq_h (dq_t (dq_t (dq_t (dq_t (dq_t (dq_t (dq_t dzX11_needWhat_0)))))))
theorem dX11_needWhat_16 : decode cX11_needWhat 16 = .ok (.invokespecial 161, 3) := dq_h (dq_t (dq_t (dq_t (dq_t (dq_t (dq_t (dq_t (dq_t dzX11_needWhat_0))))))))
theorem dX11_needWhat_19 : decode cX11_needWhat 19 = .ok (.athrow, 1) := dq_h (dq_t (dq_t (dq_t (dq_t (dq_t (dq_t (dq_t (dq_t (dq_t dzX11_needWhat_0)))))))))
theorem dX11_needWhat_20 : decode cX11_needWhat 20 = .ok (.return_, 1) := dq_h (dq_t (dq_t (dq_t (dq_t (dq_t (dq_t (dq_t (dq_t (dq_t (dq_t dzX11_needWhat_0))))))))))
theorem dzX11_needWithin_0 : dq_F cX11_needWithin [(0, .iload_n 0, 1), (1, .iload_n 1, 1), (2, .iload_n 2, 1), (3, .invokestatic 214, 3), (6, .ifCond .ne 14, 3), (9, .new 82, 3), (12, .dup, 1), (13, .ldc_w 378, 3), (16, .invokespecial 86, 3), (19, .athrow, 1), (20, .return_, 1)] := dq_s 11 0 (by decide +kernel)
theorem dX11_needWithin_0 : decode cX11_needWithin 0 = .ok (.iload_n 0, 1) := dq_h dzX11_needWithin_0
theorem dX11_needWithin_1 : decode cX11_needWithin 1 = .ok (.iload_n 1, 1) := dq_h (dq_t dzX11_needWithin_0)
theorem dX11_needWithin_2 : decode cX11_needWithin 2 = .ok (.iload_n 2, 1) := dq_h (dq_t (dq_t dzX11_needWithin_0))
theorem dX11_needWithin_3 : decode cX11_needWithin 3 = .ok (.invokestatic 214, 3) := dq_h (dq_t (dq_t (dq_t dzX11_needWithin_0)))
theorem dX11_needWithin_6 : decode cX11_needWithin 6 = .ok (.ifCond .ne 14, 3) := dq_h (dq_t (dq_t (dq_t (dq_t dzX11_needWithin_0))))
theorem dX11_needWithin_9 : decode cX11_needWithin 9 = .ok (.new 82, 3) := dq_h (dq_t (dq_t (dq_t (dq_t (dq_t dzX11_needWithin_0)))))
theorem dX11_needWithin_12 : decode cX11_needWithin 12 = .ok (.dup, 1) := dq_h (dq_t (dq_t (dq_t (dq_t (dq_t (dq_t dzX11_needWithin_0))))))
theorem dX11_needWithin_13 : decode cX11_needWithin 13 = .ok (.ldc_w 378, 3) := dq_h (dq_t (dq_t (dq_t (dq_t (dq_t (dq_t (dq_t dzX11_needWithin_0)))))))
theorem dX11_needWithin_16 : decode cX11_needWithin 16 = .ok (.invokespecial 86, 3) := dq_h (dq_t (dq_t (dq_t (dq_t (dq_t (dq_t (dq_t (dq_t dzX11_needWithin_0))))))))
theorem dX11_needWithin_19 : decode cX11_needWithin 19 = .ok (.athrow, 1) := dq_h (dq_t (dq_t (dq_t (dq_t (dq_t (dq_t (dq_t (dq_t (dq_t dzX11_needWithin_0)))))))))
theorem dX11_needWithin_20 : decode cX11_needWithin 20 = .ok (.return_, 1) := dq_h (dq_t (dq_t (dq_t (dq_t (dq_t (dq_t (dq_t (dq_t (dq_t (dq_t dzX11_needWithin_0))))))))))
theorem dzX11_needGrottoes_0 : dq_F cX11_needGrottoes [(0, .iload_n 1, 1), (1, .ifCond .lt 16, 3), (4, .iload_n 1, 1), (5, .iconst 1, 1), (6, .aload_n 0, 1), (7, .getfield 57, 3), (10, .getfield 108, 3), (13, .ishl, 1), (14, .if_icmp .lt 14, 3), (17, .new 82, 3), (20, .dup, 1), (21, .ldc_w 380, 3), (24, .invokespecial 86, 3), (27, .athrow, 1), (28, .return_, 1)] := dq_s 15 0 (by decide +kernel)
theorem dX11_needGrottoes_0 : decode cX11_needGrottoes 0 = .ok (.iload_n 1, 1) := dq_h dzX11_needGrottoes_0
theorem dX11_needGrottoes_1 : decode cX11_needGrottoes 1 = .ok (.ifCond .lt 16, 3) := dq_h (dq_t dzX11_needGrottoes_0)
theorem dX11_needGrottoes_4 : decode cX11_needGrottoes 4 = .ok (.iload_n 1, 1) := dq_h (dq_t (dq_t dzX11_needGrottoes_0))
theorem dX11_needGrottoes_5 : decode cX11_needGrottoes 5 = .ok (.iconst 1, 1) := dq_h (dq_t (dq_t (dq_t dzX11_needGrottoes_0)))
theorem dX11_needGrottoes_6 : decode cX11_needGrottoes 6 = .ok (.aload_n 0, 1) := dq_h (dq_t (dq_t (dq_t (dq_t dzX11_needGrottoes_0))))
theorem dX11_needGrottoes_7 : decode cX11_needGrottoes 7 = .ok (.getfield 57, 3) := dq_h (dq_t (dq_t (dq_t (dq_t (dq_t dzX11_needGrottoes_0)))))
theorem dX11_needGrottoes_10 : decode cX11_needGrottoes 10 = .ok (.getfield 108, 3) := dq_h (dq_t (dq_t (dq_t (dq_t (dq_t (dq_t dzX11_needGrottoes_0))))))
theorem dX11_needGrottoes_13 : decode cX11_needGrottoes 13 = .ok (.ishl, 1) := dq_h (dq_t (dq_t (dq_t (dq_t (dq_t (dq_t (dq_t dzX11_needGrottoes_0)))))))
theorem dX11_needGrottoes_14 : decode cX11_needGrottoes 14 = .ok (.if_icmp .lt 14, 3) := dq_h (dq_t (dq_t (dq_t (dq_t (dq_t (dq_t (dq_t (dq_t dzX11_needGrottoes_0))))))))
theorem dX11_needGrottoes_17 : decode cX11_needGrottoes 17 = .ok (.new 82, 3) := dq_h (dq_t (dq_t (dq_t (dq_t (dq_t (dq_t (dq_t (dq_t (dq_t dzX11_needGrottoes_0)))))))))
theorem dX11_needGrottoes_20 : decode cX11_needGrottoes 20 = .ok (.dup, 1) := dq_h (dq_t (dq_t (dq_t (dq_t (dq_t (dq_t (dq_t (dq_t (dq_t (dq_t dzX11_needGrottoes_0))))))))))
theorem dX11_needGrottoes_21 : decode cX11_needGrottoes 21 = .ok (.ldc_w 380, 3) := dq_h (dq_t (dq_t (dq_t (dq_t (dq_t (dq_t (dq_t (dq_t (dq_t (dq_t (dq_t dzX11_needGrottoes_0)))))))))))
theorem dX11_needGrottoes_24 : decode cX11_needGrottoes 24 = .ok (.invokespecial 86, 3) := dq_h (dq_t (dq_t (dq_t (dq_t (dq_t (dq_t (dq_t (dq_t (dq_t (dq_t (dq_t (dq_t dzX11_needGrottoes_0))))))))))))
theorem dX11_needGrottoes_27 : decode cX11_needGrottoes 27 = .ok (.athrow, 1) := dq_h (dq_t (dq_t (dq_t (dq_t (dq_t (dq_t (dq_t (dq_t (dq_t (dq_t (dq_t (dq_t (dq_t dzX11_needGrottoes_0)))))))))))))
theorem dX11_needGrottoes_28 : decode cX11_needGrottoes 28 = .ok (.return_, 1) := dq_h (dq_t (dq_t (dq_t (dq_t (dq_t (dq_t (dq_t (dq_t (dq_t (dq_t (dq_t (dq_t (dq_t (dq_t dzX11_needGrottoes_0))))))))))))))
theorem dzX11_isWithin_0 : dq_F cX11_isWithin [(0, .iload_n 0, 1), (1, .iload_n 1, 1), (2, .if_icmp .lt 12, 3), (5, .iload_n 0, 1), (6, .iload_n 2, 1), (7, .if_icmp .gt 7, 3), (10, .iconst 1, 1), (11, .goto 4, 3), (14, .iconst 0, 1), (15, .ireturn, 1)] := dq_s 10 0 (by decide +kernel)
theorem dX11_isWithin_0 : decode cX11_isWithin 0 = .ok (.iload_n 0, 1) := dq_h dzX11_isWithin_0
theorem dX11_isWithin_1 : decode cX11_isWithin 1 = .ok (.iload_n 1, 1) := dq_h (dq_t dzX11_isWithin_0)
theorem dX11_isWithin_2 : decode cX11_isWithin 2 = .ok (.if_icmp .lt 12, 3) := dq_h (dq_t (dq_t dzX11_isWithin_0))
theorem dX11_isWithin_5 : decode cX11_isWithin 5 = .ok (.iload_n 0, 1) := dq_h (dq_t (dq_t (dq_t dzX11_isWithin_0)))
theorem dX11_isWithin_6 : decode cX11_isWithin 6 = .ok (.iload_n 2, 1) := dq_h (dq_t (dq_t (dq_t (dq_t dzX11_isWithin_0))))
theorem dX11_isWithin_7 : decode cX11_isWithin 7 = .ok (.if_icmp .gt 7, 3) := dq_h (dq_t (dq_t (dq_t (dq_t (dq_t dzX11_isWithin_0)))))
theorem dX11_isWithin_10 : decode cX11_isWithin 10 = .ok (.iconst 1, 1) := dq_h (dq_t (dq_t (dq_t (dq_t (dq_t (dq_t dzX11_isWithin_0))))))
theorem dX11_isWithin_11 : decode cX11_isWithin 11 = .ok (.goto 4, 3) := dq_h (dq_t (dq_t (dq_t (dq_t (dq_t (dq_t (dq_t dzX11_isWithin_0)))))))
theorem dX11_isWithin_14 : decode cX11_isWithin 14 = .ok (.iconst 0, 1) := dq_h (dq_t (dq_t (dq_t (dq_t (dq_t (dq_t (dq_t (dq_t dzX11_isWithin_0))))))))
theorem dX11_isWithin_15 : decode cX11_isWithin 15 = .ok (.ireturn, 1) := dq_h (dq_t (dq_t (dq_t (dq_t (dq_t (dq_t (dq_t (dq_t (dq_t dzX11_isWithin_0)))))))))
theorem dzX11_isOneOf_0 : dq_F cX11_isOneOf [(0, .iload_n 0, 1), (1, .iload_n 1, 1), (2, .ishr, 1), (3, .iconst 1, 1), (4, .iand, 1), (5, .ifCond .eq 7, 3), (8, .iconst 1, 1), (9, .goto 4, 3), (12, .iconst 0, 1), (13, .ireturn, 1)] := dq_s 10 0 (by decide +kernel)
theorem dX11_isOneOf_0 : decode cX11_isOneOf 0 = .ok (.iload_n 0, 1) := dq_h dzX11_isOneOf_0
theorem dX11_isOneOf_1 : decode cX11_isOneOf 1 = .ok (.iload_n 1, 1) := dq_h (dq_t dzX11_isOneOf_0)
theorem dX11_isOneOf_2 : decode cX11_isOneOf 2 = .ok (.ishr, 1) := dq_h (dq_t (dq_t dzX11_isOneOf_0))
theorem dX11_isOneOf_3 : decode cX11_isOneOf 3 = .ok (.iconst 1, 1) := dq_h (dq_t (dq_t (dq_t dzX11_isOneOf_0)))
theorem dX11_isOneOf_4 : decode cX11_isOneOf 4 = .ok (.iand, 1) := dq_h (dq_t (dq_t (dq_t (dq_t dzX11_isOneOf_0))))
theorem dX11_isOneOf_5 : decode cX11_isOneOf 5 = .ok (.ifCond .eq 7, 3) := dq_h (dq_t (dq_t (dq_t (dq_t (dq_t dzX11_isOneOf_0)))))
theorem dX11_isOneOf_8 : decode cX11_isOneOf 8 = .ok (.iconst 1, 1) := dq_h (dq_t (dq_t (dq_t (dq_t (dq_t (dq_t dzX11_isOneOf_0))))))
theorem dX11_isOneOf_9 : decode cX11_isOneOf 9 = .ok (.goto 4, 3) := dq_h (dq_t (dq_t (dq_t (dq_t (dq_t (dq_t (dq_t dzX11_isOneOf_0)))))))
theorem dX11_isOneOf_12 : decode cX11_isOneOf 12 = .ok (.iconst 0, 1) := dq_h (dq_t (dq_t (dq_t (dq_t (dq_t (dq_t (dq_t (dq_t dzX11_isOneOf_0))))))))
theorem dX11_isOneOf_13 : decode cX11_isOneOf 13 = .ok (.ireturn, 1) := dq_h (dq_t (dq_t (dq_t (dq_t (dq_t (dq_t (dq_t (dq_t (dq_t dzX11_isOneOf_0)))))))))
theorem dzX11_dripsAhead_0 : dq_F cX11_dripsAhead [(0, .aload_n 0, 1), (1, .getfield 19, 3), (4, .getfield 105, 3), (7, .getfield 114, 3), (10, .iload_n 2, 1), (11, .iadd, 1), (12, .iconst 1, 1), (13, .isub, 1), (14, .istore_n 3, 1), (15, .aload_n 0, 1), (16, .getfield 57, 3), (19, .iload_n 1, 1), (20, .iload_n 3, 1), (21, .aload_n 0, 1), (22, .getfield 57, 3), (25, .iload_n 3, 1), (26, .invokevirtual 117, 3), (29, .aload_n 0, 1), (30, .getfield 19, 3), (33, .getfield 105, 3), (36, .getfield 128, 3), (39, .invokevirtual 382, 3), (42, .ireturn, 1)] := dq_s 23 0 (by decide +kernel)
theorem dX11_dripsAhead_0 : decode cX11_dripsAhead 0 = .ok (.aload_n 0, 1) := dq_h dzX11_dripsAhead_0
theorem dX11_dripsAhead_1 : decode cX11_dripsAhead 1 = .ok (.getfield 19, 3) := dq_h (dq_t dzX11_dripsAhead_0)
theorem dX11_dripsAhead_4 : decode cX11_dripsAhead 4 = .ok (.getfield 105, 3) := dq_h (dq_t (dq_t dzX11_dripsAhead_0))
theorem dX11_dripsAhead_7 : decode cX11_dripsAhead 7 = .ok (.getfield 114, 3) := dq_h (dq_t (dq_t (dq_t dzX11_dripsAhead_0)))
theorem dX11_dripsAhead_10 : decode cX11_dripsAhead 10 = .ok (.iload_n 2, 1) := dq_h (dq_t (dq_t (dq_t (dq_t dzX11_dripsAhead_0))))
theorem dX11_dripsAhead_11 : decode cX11_dripsAhead 11 = .ok (.iadd, 1) := dq_h (dq_t (dq_t (dq_t (dq_t (dq_t dzX11_dripsAhead_0)))))
theorem dX11_dripsAhead_12 : decode cX11_dripsAhead 12 = .ok (.iconst 1, 1) := dq_h (dq_t (dq_t (dq_t (dq_t (dq_t (dq_t dzX11_dripsAhead_0))))))
theorem dX11_dripsAhead_13 : decode cX11_dripsAhead 13 = .ok (.isub, 1) := dq_h (dq_t (dq_t (dq_t (dq_t (dq_t (dq_t (dq_t dzX11_dripsAhead_0)))))))
theorem dX11_dripsAhead_14 : decode cX11_dripsAhead 14 = .ok (.istore_n 3, 1) := dq_h (dq_t (dq_t (dq_t (dq_t (dq_t (dq_t (dq_t (dq_t dzX11_dripsAhead_0))))))))
theorem dX11_dripsAhead_15 : decode cX11_dripsAhead 15 = .ok (.aload_n 0, 1) := dq_h (dq_t (dq_t (dq_t (dq_t (dq_t (dq_t (dq_t (dq_t (dq_t dzX11_dripsAhead_0)))))))))
theorem dX11_dripsAhead_16 : decode cX11_dripsAhead 16 = .ok (.getfield 57, 3) := dq_h (dq_t (dq_t (dq_t (dq_t (dq_t (dq_t (dq_t (dq_t (dq_t (dq_t dzX11_dripsAhead_0))))))))))
theorem dX11_dripsAhead_19 : decode cX11_dripsAhead 19 = .ok (.iload_n 1, 1) := dq_h (dq_t (dq_t (dq_t (dq_t (dq_t (dq_t (dq_t (dq_t (dq_t (dq_t (dq_t dzX11_dripsAhead_0)))))))))))
theorem dX11_dripsAhead_20 : decode cX11_dripsAhead 20 = .ok (.iload_n 3, 1) := dq_h (dq_t (dq_t (dq_t (dq_t (dq_t (dq_t (dq_t (dq_t (dq_t (dq_t (dq_t (dq_t dzX11_dripsAhead_0))))))))))))
theorem dX11_dripsAhead_21 : decode cX11_dripsAhead 21 = .ok (.aload_n 0, 1) := dq_h (dq_t (dq_t (dq_t (dq_t (dq_t (dq_t (dq_t (dq_t (dq_t (dq_t (dq_t (dq_t (dq_t dzX11_dripsAhead_0)))))))))))))
theorem dX11_dripsAhead_22 : decode cX11_dripsAhead 22 = .ok (.getfield 57, 3) := dq_h (dq_t (dq_t (dq_t (dq_t (dq_t (dq_t (dq_t (dq_t (dq_t (dq_t (dq_t (dq_t (dq_t (dq_t dzX11_dripsAhead_0))))))))))))))
theorem dX11_dripsAhead_25 : decode cX11_dripsAhead 25 = .ok (.iload_n 3, 1) := dq_h (dq_t (dq_t (dq_t (dq_t (dq_t (dq_t (dq_t (dq_t (dq_t (dq_t (dq_t (dq_t (dq_t (dq_t (dq_t dzX11_dripsAhead_0)))))))))))))))
theorem dX11_dripsAhead_26 : decode cX11_dripsAhead 26 = .ok (.invokevirtual 117, 3) := dq_h (dq_t (dq_t (dq_t (dq_t (dq_t (dq_t (dq_t (dq_t (dq_t (dq_t (dq_t (dq_t (dq_t (dq_t (dq_t (dq_t dzX11_dripsAhead_0))))))))))))))))
theorem dX11_dripsAhead_29 : decode cX11_dripsAhead 29 = .ok (.aload_n 0, 1) := dq_h (dq_t (dq_t (dq_t (dq_t (dq_t (dq_t (dq_t (dq_t (dq_t (dq_t (dq_t (dq_t (dq_t (dq_t (dq_t (dq_t (dq_t dzX11_dripsAhead_0)))))))))))))))))
theorem dX11_dripsAhead_30 : decode cX11_dripsAhead 30 = .ok (.getfield 19, 3) := dq_h (dq_t (dq_t (dq_t (dq_t (dq_t (dq_t (dq_t (dq_t (dq_t (dq_t (dq_t (dq_t (dq_t (dq_t (dq_t (dq_t (dq_t (dq_t dzX11_dripsAhead_0))))))))))))))))))
theorem dX11_dripsAhead_33 : decode cX11_dripsAhead 33 = .ok (.getfield 105, 3) := dq_h (dq_t (dq_t (dq_t (dq_t (dq_t (dq_t (dq_t (dq_t (dq_t (dq_t (dq_t (dq_t (dq_t (dq_t (dq_t (dq_t (dq_t (dq_t (dq_t dzX11_dripsAhead_0)))))))))))))))))))
theorem dX11_dripsAhead_36 : decode cX11_dripsAhead 36 = .ok (.getfield 128, 3) := dq_h (dq_t (dq_t (dq_t (dq_t (dq_t (dq_t (dq_t (dq_t (dq_t (dq_t (dq_t (dq_t (dq_t (dq_t (dq_t (dq_t (dq_t (dq_t (dq_t (dq_t dzX11_dripsAhead_0))))))))))))))))))))
theorem dX11_dripsAhead_39 : decode cX11_dripsAhead 39 = .ok (.invokevirtual 382, 3) := dq_h (dq_t (dq_t (dq_t (dq_t (dq_t (dq_t (dq_t (dq_t (dq_t (dq_t (dq_t (dq_t (dq_t (dq_t (dq_t (dq_t (dq_t (dq_t (dq_t (dq_t (dq_t dzX11_dripsAhead_0)))))))))))))))))))))
theorem dX11_dripsAhead_42 : decode cX11_dripsAhead 42 = .ok (.ireturn, 1) := dq_h (dq_t (dq_t (dq_t (dq_t (dq_t (dq_t (dq_t (dq_t (dq_t (dq_t (dq_t (dq_t (dq_t (dq_t (dq_t (dq_t (dq_t (dq_t (dq_t (dq_t (dq_t (dq_t dzX11_dripsAhead_0))))))))))))))))))))))
theorem dzX11_dripBits_0 : dq_F cX11_dripBits [(0, .iconst 0, 1), (1, .istore_n 2, 1), (2, .iconst 0, 1), (3, .istore_n 3, 1), (4, .iload_n 3, 1), (5, .aload_n 0, 1), (6, .getfield 57, 3), (9, .getfield 108, 3), (12, .if_icmp .ge 24, 3), (15, .aload_n 0, 1), (16, .iload_n 3, 1), (17, .iload_n 1, 1), (18, .invokevirtual 290, 3), (21, .ifCond .eq 9, 3), (24, .iload_n 2, 1), (25, .iconst 1, 1), (26, .iload_n 3, 1), (27, .ishl, 1), (28, .ior, 1), (29, .istore_n 2, 1), (30, .iinc 3 1, 3), (33, .goto (-29), 3), (36, .iload_n 2, 1), (37, .ireturn, 1)] := dq_s 24 0 (by decide +kernel)
theorem dX11_dripBits_0 : decode cX11_dripBits 0 = .ok (.iconst 0, 1) := dq_h dzX11_dripBits_0
theorem dX11_dripBits_1 : decode cX11_dripBits 1 = .ok (.istore_n 2, 1) := dq_h (dq_t dzX11_dripBits_0)
theorem dX11_dripBits_2 : decode cX11_dripBits 2 = .ok (.iconst 0, 1) := dq_h (dq_t (dq_t dzX11_dripBits_0))
theorem dX11_dripBits_3 : decode cX11_dripBits 3 = .ok (.istore_n 3, 1) := dq_h (dq_t (dq_t (dq_t dzX11_dripBits_0)))
theorem dX11_dripBits_4 : decode cX11_dripBits 4 = .ok (.iload_n 3, 1) := dq_h (dq_t (dq_t (dq_t (dq_t dzX11_dripBits_0))))
theorem dX11_dripBits_5 : decode cX11_dripBits 5 = .ok (.aload_n 0, 1) := dq_h (dq_t (dq_t (dq_t (dq_t (dq_t dzX11_dripBits_0)))))
theorem dX11_dripBits_6 : decode cX11_dripBits 6 = .ok (.getfield 57, 3) := dq_h (dq_t (dq_t (dq_t (dq_t (dq_t (dq_t dzX11_dripBits_0))))))
theorem dX11_dripBits_9 : decode cX11_dripBits 9 = .ok (.getfield 108, 3) := dq_h (dq_t (dq_t (dq_t (dq_t (dq_t (dq_t (dq_t dzX11_dripBits_0)))))))
theorem dX11_dripBits_12 : decode cX11_dripBits 12 = .ok (.if_icmp .ge 24, 3) := dq_h (dq_t (dq_t (dq_t (dq_t (dq_t (dq_t (dq_t (dq_t dzX11_dripBits_0))))))))
theorem dX11_dripBits_15 : decode cX11_dripBits 15 = .ok (.aload_n 0, 1) := dq_h (dq_t (dq_t (dq_t (dq_t (dq_t (dq_t (dq_t (dq_t (dq_t dzX11_dripBits_0)))))))))
theorem dX11_dripBits_16 : decode cX11_dripBits 16 = .ok (.iload_n 3, 1) := dq_h (dq_t (dq_t (dq_t (dq_t (dq_t (dq_t (dq_t (dq_t (dq_t (dq_t dzX11_dripBits_0))))))))))
theorem dX11_dripBits_17 : decode cX11_dripBits 17 = .ok (.iload_n 1, 1) := dq_h (dq_t (dq_t (dq_t (dq_t (dq_t (dq_t (dq_t (dq_t (dq_t (dq_t (dq_t dzX11_dripBits_0)))))))))))
theorem dX11_dripBits_18 : decode cX11_dripBits 18 = .ok (.invokevirtual 290, 3) := dq_h (dq_t (dq_t (dq_t (dq_t (dq_t (dq_t (dq_t (dq_t (dq_t (dq_t (dq_t (dq_t dzX11_dripBits_0))))))))))))
theorem dX11_dripBits_21 : decode cX11_dripBits 21 = .ok (.ifCond .eq 9, 3) := dq_h (dq_t (dq_t (dq_t (dq_t (dq_t (dq_t (dq_t (dq_t (dq_t (dq_t (dq_t (dq_t (dq_t dzX11_dripBits_0)))))))))))))
theorem dX11_dripBits_24 : decode cX11_dripBits 24 = .ok (.iload_n 2, 1) := dq_h (dq_t (dq_t (dq_t (dq_t (dq_t (dq_t (dq_t (dq_t (dq_t (dq_t (dq_t (dq_t (dq_t (dq_t dzX11_dripBits_0))))))))))))))
theorem dX11_dripBits_25 : decode cX11_dripBits 25 = .ok (.iconst 1, 1) := dq_h (dq_t (dq_t (dq_t (dq_t (dq_t (dq_t (dq_t (dq_t (dq_t (dq_t (dq_t (dq_t (dq_t (dq_t (dq_t dzX11_dripBits_0)))))))))))))))
theorem dX11_dripBits_26 : decode cX11_dripBits 26 = .ok (.iload_n 3, 1) := dq_h (dq_t (dq_t (dq_t (dq_t (dq_t (dq_t (dq_t (dq_t (dq_t (dq_t (dq_t (dq_t (dq_t (dq_t (dq_t (dq_t dzX11_dripBits_0))))))))))))))))
theorem dX11_dripBits_27 : decode cX11_dripBits 27 = .ok (.ishl, 1) := dq_h (dq_t (dq_t (dq_t (dq_t (dq_t (dq_t (dq_t (dq_t (dq_t (dq_t (dq_t (dq_t (dq_t (dq_t (dq_t (dq_t (dq_t dzX11_dripBits_0)))))))))))))))))
theorem dX11_dripBits_28 : decode cX11_dripBits 28 = .ok (.ior, 1) := dq_h (dq_t (dq_t (dq_t (dq_t (dq_t (dq_t (dq_t (dq_t (dq_t (dq_t (dq_t (dq_t (dq_t (dq_t (dq_t (dq_t (dq_t (dq_t dzX11_dripBits_0))))))))))))))))))
theorem dX11_dripBits_29 : decode cX11_dripBits 29 = .ok (.istore_n 2, 1) := dq_h (dq_t (dq_t (dq_t (dq_t (dq_t (dq_t (dq_t (dq_t (dq_t (dq_t (dq_t (dq_t (dq_t (dq_t (dq_t (dq_t (dq_t (dq_t (dq_t dzX11_dripBits_0)))))))))))))))))))
theorem dX11_dripBits_30 : decode cX11_dripBits 30 = .ok (.iinc 3 1, 3) := dq_h (dq_t (dq_t (dq_t (dq_t (dq_t (dq_t (dq_t (dq_t (dq_t (dq_t (dq_t (dq_t (dq_t (dq_t (dq_t (dq_t (dq_t (dq_t (dq_t (dq_t dzX11_dripBits_0))))))))))))))))))))
theorem dX11_dripBits_33 : decode cX11_dripBits 33 = .ok (.goto (-29), 3) := dq_h (dq_t (dq_t (dq_t (dq_t (dq_t (dq_t (dq_t (dq_t (dq_t (dq_t (dq_t (dq_t (dq_t (dq_t (dq_t (dq_t (dq_t (dq_t (dq_t (dq_t (dq_t dzX11_dripBits_0)))))))))))))))))))))
theorem dX11_dripBits_36 : decode cX11_dripBits 36 = .ok (.iload_n 2, 1) := dq_h (dq_t (dq_t (dq_t (dq_t (dq_t (dq_t (dq_t (dq_t (dq_t (dq_t (dq_t (dq_t (dq_t (dq_t (dq_t (dq_t (dq_t (dq_t (dq_t (dq_t (dq_t (dq_t dzX11_dripBits_0))))))))))))))))))))))
theorem dX11_dripBits_37 : decode cX11_dripBits 37 = .ok (.ireturn, 1) := dq_h (dq_t (dq_t (dq_t (dq_t (dq_t (dq_t (dq_t (dq_t (dq_t (dq_t (dq_t (dq_t (dq_t (dq_t (dq_t (dq_t (dq_t (dq_t (dq_t (dq_t (dq_t (dq_t (dq_t dzX11_dripBits_0)))))))))))))))))))))))
theorem dzX11_nextDrip_0 : dq_F cX11_nextDrip [(0, .iconst 1, 1), (1, .istore_n 2, 1), (2, .iload_n 2, 1), (3, .bipush 60, 2), (5, .if_icmp .gt 20, 3), (8, .aload_n 0, 1), (9, .iload_n 1, 1), (10, .iload_n 2, 1), (11, .invokevirtual 290, 3), (14, .ifCond .eq 5, 3), (17, .iload_n 2, 1), (18, .ireturn, 1), (19, .iinc 2 1, 3), (22, .goto (-20), 3), (25, .iconst (-1), 1), (26, .ireturn, 1)] := dq_s 16 0 (by decide +kernel)
theorem dX11_nextDrip_0 : decode cX11_nextDrip 0 = .ok (.iconst 1, 1) := dq_h dzX11_nextDrip_0
theorem dX11_nextDrip_1 : decode cX11_nextDrip 1 = .ok (.istore_n 2, 1) := dq_h (dq_t dzX11_nextDrip_0)
theorem dX11_nextDrip_2 : decode cX11_nextDrip 2 = .ok (.iload_n 2, 1) := dq_h (dq_t (dq_t dzX11_nextDrip_0))
theorem dX11_nextDrip_3 : decode cX11_nextDrip 3 = .ok (.bipush 60, 2) := dq_h (dq_t (dq_t (dq_t dzX11_nextDrip_0)))
theorem dX11_nextDrip_5 : decode cX11_nextDrip 5 = .ok (.if_icmp .gt 20, 3) := dq_h (dq_t (dq_t (dq_t (dq_t dzX11_nextDrip_0))))
theorem dX11_nextDrip_8 : decode cX11_nextDrip 8 = .ok (.aload_n 0, 1) := dq_h (dq_t (dq_t (dq_t (dq_t (dq_t dzX11_nextDrip_0)))))
theorem dX11_nextDrip_9 : decode cX11_nextDrip 9 = .ok (.iload_n 1, 1) := dq_h (dq_t (dq_t (dq_t (dq_t (dq_t (dq_t dzX11_nextDrip_0))))))
theorem dX11_nextDrip_10 : decode cX11_nextDrip 10 = .ok (.iload_n 2, 1) := dq_h (dq_t (dq_t (dq_t (dq_t (dq_t (dq_t (dq_t dzX11_nextDrip_0)))))))
theorem dX11_nextDrip_11 : decode cX11_nextDrip 11 = .ok (.invokevirtual 290, 3) := dq_h (dq_t (dq_t (dq_t (dq_t (dq_t (dq_t (dq_t (dq_t dzX11_nextDrip_0))))))))
theorem dX11_nextDrip_14 : decode cX11_nextDrip 14 = .ok (.ifCond .eq 5, 3) := dq_h (dq_t (dq_t (dq_t (dq_t (dq_t (dq_t (dq_t (dq_t (dq_t dzX11_nextDrip_0)))))))))
theorem dX11_nextDrip_17 : decode cX11_nextDrip 17 = .ok (.iload_n 2, 1) := dq_h (dq_t (dq_t (dq_t (dq_t (dq_t (dq_t (dq_t (dq_t (dq_t (dq_t dzX11_nextDrip_0))))))))))
theorem dX11_nextDrip_18 : decode cX11_nextDrip 18 = .ok (.ireturn, 1) := dq_h (dq_t (dq_t (dq_t (dq_t (dq_t (dq_t (dq_t (dq_t (dq_t (dq_t (dq_t dzX11_nextDrip_0)))))))))))
theorem dX11_nextDrip_19 : decode cX11_nextDrip 19 = .ok (.iinc 2 1, 3) := dq_h (dq_t (dq_t (dq_t (dq_t (dq_t (dq_t (dq_t (dq_t (dq_t (dq_t (dq_t (dq_t dzX11_nextDrip_0))))))))))))
theorem dX11_nextDrip_22 : decode cX11_nextDrip 22 = .ok (.goto (-20), 3) := dq_h (dq_t (dq_t (dq_t (dq_t (dq_t (dq_t (dq_t (dq_t (dq_t (dq_t (dq_t (dq_t (dq_t dzX11_nextDrip_0)))))))))))))
theorem dX11_nextDrip_25 : decode cX11_nextDrip 25 = .ok (.iconst (-1), 1) := dq_h (dq_t (dq_t (dq_t (dq_t (dq_t (dq_t (dq_t (dq_t (dq_t (dq_t (dq_t (dq_t (dq_t (dq_t dzX11_nextDrip_0))))))))))))))
theorem dX11_nextDrip_26 : decode cX11_nextDrip 26 = .ok (.ireturn, 1) := dq_h (dq_t (dq_t (dq_t (dq_t (dq_t (dq_t (dq_t (dq_t (dq_t (dq_t (dq_t (dq_t (dq_t (dq_t (dq_t dzX11_nextDrip_0)))))))))))))))
theorem dzX11_costNow_0 : dq_F cX11_costNow [(0, .aload_n 0, 1), (1, .getfield 36, 3), (4, .aload_n 0, 1), (5, .getfield 57, 3), (8, .aload_n 0, 1), (9, .getfield 19, 3), (12, .getfield 105, 3), (15, .iload_n 1, 1), (16, .invokevirtual 243, 3), (19, .aload_n 0, 1), (20, .getfield 36, 3), (23, .aload_n 0, 1), (24, .getfield 57, 3), (27, .invokevirtual 385, 3), (30, .ireturn, 1)] := dq_s 15 0 (by decide +kernel)
theorem dX11_costNow_0 : decode cX11_costNow 0 = .ok (.aload_n 0, 1) := dq_h dzX11_costNow_0
theorem dX11_costNow_1 : decode cX11_costNow 1 = .ok (.getfield 36, 3) := dq_h (dq_t dzX11_costNow_0)
theorem dX11_costNow_4 : decode cX11_costNow 4 = .ok (.aload_n 0, 1) := dq_h (dq_t (dq_t dzX11_costNow_0))
theorem dX11_costNow_5 : decode cX11_costNow 5 = .ok (.getfield 57, 3) := dq_h (dq_t (dq_t (dq_t dzX11_costNow_0)))
theorem dX11_costNow_8 : decode cX11_costNow 8 = .ok (.aload_n 0, 1) := dq_h (dq_t (dq_t (dq_t (dq_t dzX11_costNow_0))))
theorem dX11_costNow_9 : decode cX11_costNow 9 = .ok (.getfield 19, 3) := dq_h (dq_t (dq_t (dq_t (dq_t (dq_t dzX11_costNow_0)))))
theorem dX11_costNow_12 : decode cX11_costNow 12 = .ok (.getfield 105, 3) := dq_h (dq_t (dq_t (dq_t (dq_t (dq_t (dq_t dzX11_costNow_0))))))
theorem dX11_costNow_15 : decode cX11_costNow 15 = .ok (.iload_n 1, 1) := dq_h (dq_t (dq_t (dq_t (dq_t (dq_t (dq_t (dq_t dzX11_costNow_0)))))))
theorem dX11_costNow_16 : decode cX11_costNow 16 = .ok (.invokevirtual 243, 3) := dq_h (dq_t (dq_t (dq_t (dq_t (dq_t (dq_t (dq_t (dq_t dzX11_costNow_0))))))))
theorem dX11_costNow_19 : decode cX11_costNow 19 = .ok (.aload_n 0, 1) := dq_h (dq_t (dq_t (dq_t (dq_t (dq_t (dq_t (dq_t (dq_t (dq_t dzX11_costNow_0)))))))))
theorem dX11_costNow_20 : decode cX11_costNow 20 = .ok (.getfield 36, 3) := dq_h (dq_t (dq_t (dq_t (dq_t (dq_t (dq_t (dq_t (dq_t (dq_t (dq_t dzX11_costNow_0))))))))))
theorem dX11_costNow_23 : decode cX11_costNow 23 = .ok (.aload_n 0, 1) := dq_h (dq_t (dq_t (dq_t (dq_t (dq_t (dq_t (dq_t (dq_t (dq_t (dq_t (dq_t dzX11_costNow_0)))))))))))
theorem dX11_costNow_24 : decode cX11_costNow 24 = .ok (.getfield 57, 3) := dq_h (dq_t (dq_t (dq_t (dq_t (dq_t (dq_t (dq_t (dq_t (dq_t (dq_t (dq_t (dq_t dzX11_costNow_0))))))))))))
theorem dX11_costNow_27 : decode cX11_costNow 27 = .ok (.invokevirtual 385, 3) := dq_h (dq_t (dq_t (dq_t (dq_t (dq_t (dq_t (dq_t (dq_t (dq_t (dq_t (dq_t (dq_t (dq_t dzX11_costNow_0)))))))))))))
theorem dX11_costNow_30 : decode cX11_costNow 30 = .ok (.ireturn, 1) := dq_h (dq_t (dq_t (dq_t (dq_t (dq_t (dq_t (dq_t (dq_t (dq_t (dq_t (dq_t (dq_t (dq_t (dq_t dzX11_costNow_0))))))))))))))
theorem dzX11_passHour_0 : dq_F cX11_passHour [(0, .iconst 0, 1), (1, .istore_n 3, 1), (2, .iconst 0, 1), (3, .istore 4, 2), (5, .iload 4, 2), (7, .aload_n 0, 1), (8, .getfield 57, 3), (11, .getfield 111, 3), (14, .if_icmp .ge 51, 3), (17, .aload_n 0, 1), (18, .getfield 36, 3), (21, .aload_n 0, 1), (22, .getfield 57, 3), (25, .aload_n 1, 1), (26, .iload 4, 2), (28, .invokevirtual 243, 3), (31, .aload_n 0, 1), (32, .getfield 36, 3), (35, .aload_n 0, 1), (36, .getfield 57, 3), (39, .iload_n 2, 1), (40, .invokevirtual 262, 3), (43, .ifCond .eq 6, 3), (46, .iinc 3 1, 3)] := dq_s 24 0 (by decide +kernel)
theorem dX11_passHour_0 : decode cX11_passHour 0 = .ok (.iconst 0, 1) := dq_h dzX11_passHour_0
theorem dX11_passHour_1 : decode cX11_passHour 1 = .ok (.istore_n 3, 1) := dq_h (dq_t dzX11_passHour_0)
theorem dX11_passHour_2 : decode cX11_passHour 2 = .ok (.iconst 0, 1) := dq_h (dq_t (dq_t dzX11_passHour_0))
theorem dX11_passHour_3 : decode cX11_passHour 3 = .ok (.istore 4, 2) := dq_h (dq_t (dq_t (dq_t dzX11_passHour_0)))
theorem dX11_passHour_5 : decode cX11_passHour 5 = .ok (.iload 4, 2) := dq_h (dq_t (dq_t (dq_t (dq_t dzX11_passHour_0))))
theorem dX11_passHour_7 : decode cX11_passHour 7 = .ok (.aload_n 0, 1) := dq_h (dq_t (dq_t (dq_t (dq_t (dq_t dzX11_passHour_0)))))
theorem dX11_passHour_8 : decode cX11_passHour 8 = .ok (.getfield 57, 3) := dq_h (dq_t (dq_t (dq_t (dq_t (dq_t (dq_t dzX11_passHour_0))))))
theorem dX11_passHour_11 : decode cX11_passHour 11 = .ok (.getfield 111, 3) := dq_h (dq_t (dq_t (dq_t (dq_t (dq_t (dq_t (dq_t dzX11_passHour_0)))))))
theorem dX11_passHour_14 : decode cX11_passHour 14 = .ok (.if_icmp .ge 51, 3) := dq_h (dq_t (dq_t (dq_t (dq_t (dq_t (dq_t (dq_t (dq_t dzX11_passHour_0))))))))
theorem dX11_passHour_17 : decode cX11_passHour 17 = .ok (.aload_n 0, 1) := dq_h (dq_t (dq_t (dq_t (dq_t (dq_t (dq_t (dq_t (dq_t (dq_t dzX11_passHour_0)))))))))
theorem dX11_passHour_18 : decode cX11_passHour 18 = .ok (.getfield 36, 3) := dq_h (dq_t (dq_t (dq_t (dq_t (dq_t (dq_t (dq_t (dq_t (dq_t (dq_t dzX11_passHour_0))))))))))
theorem dX11_passHour_21 : decode cX11_passHour 21 = .ok (.aload_n 0, 1) := dq_h (dq_t (dq_t (dq_t (dq_t (dq_t (dq_t (dq_t (dq_t (dq_t (dq_t (dq_t dzX11_passHour_0)))))))))))
theorem dX11_passHour_22 : decode cX11_passHour 22 = .ok (.getfield 57, 3) := dq_h (dq_t (dq_t (dq_t (dq_t (dq_t (dq_t (dq_t (dq_t (dq_t (dq_t (dq_t (dq_t dzX11_passHour_0))))))))))))
theorem dX11_passHour_25 : decode cX11_passHour 25 = .ok (.aload_n 1, 1) := dq_h (dq_t (dq_t (dq_t (dq_t (dq_t (dq_t (dq_t (dq_t (dq_t (dq_t (dq_t (dq_t (dq_t dzX11_passHour_0)))))))))))))
theorem dX11_passHour_26 : decode cX11_passHour 26 = .ok (.iload 4, 2) := dq_h (dq_t (dq_t (dq_t (dq_t (dq_t (dq_t (dq_t (dq_t (dq_t (dq_t (dq_t (dq_t (dq_t (dq_t dzX11_passHour_0))))))))))))))
theorem dX11_passHour_28 : decode cX11_passHour 28 = .ok (.invokevirtual 243, 3) := dq_h (dq_t (dq_t (dq_t (dq_t (dq_t (dq_t (dq_t (dq_t (dq_t (dq_t (dq_t (dq_t (dq_t (dq_t (dq_t dzX11_passHour_0)))))))))))))))
theorem dX11_passHour_31 : decode cX11_passHour 31 = .ok (.aload_n 0, 1) := dq_h (dq_t (dq_t (dq_t (dq_t (dq_t (dq_t (dq_t (dq_t (dq_t (dq_t (dq_t (dq_t (dq_t (dq_t (dq_t (dq_t dzX11_passHour_0))))))))))))))))
theorem dX11_passHour_32 : decode cX11_passHour 32 = .ok (.getfield 36, 3) := dq_h (dq_t (dq_t (dq_t (dq_t (dq_t (dq_t (dq_t (dq_t (dq_t (dq_t (dq_t (dq_t (dq_t (dq_t (dq_t (dq_t (dq_t dzX11_passHour_0)))))))))))))))))
theorem dX11_passHour_35 : decode cX11_passHour 35 = .ok (.aload_n 0, 1) := dq_h (dq_t (dq_t (dq_t (dq_t (dq_t (dq_t (dq_t (dq_t (dq_t (dq_t (dq_t (dq_t (dq_t (dq_t (dq_t (dq_t (dq_t (dq_t dzX11_passHour_0))))))))))))))))))
theorem dX11_passHour_36 : decode cX11_passHour 36 = .ok (.getfield 57, 3) := dq_h (dq_t (dq_t (dq_t (dq_t (dq_t (dq_t (dq_t (dq_t (dq_t (dq_t (dq_t (dq_t (dq_t (dq_t (dq_t (dq_t (dq_t (dq_t (dq_t dzX11_passHour_0)))))))))))))))))))
theorem dX11_passHour_39 : decode cX11_passHour 39 = .ok (.iload_n 2, 1) := dq_h (dq_t (dq_t (dq_t (dq_t (dq_t (dq_t (dq_t (dq_t (dq_t (dq_t (dq_t (dq_t (dq_t (dq_t (dq_t (dq_t (dq_t (dq_t (dq_t (dq_t dzX11_passHour_0))))))))))))))))))))
theorem dX11_passHour_40 : decode cX11_passHour 40 = .ok (.invokevirtual 262, 3) := dq_h (dq_t (dq_t (dq_t (dq_t (dq_t (dq_t (dq_t (dq_t (dq_t (dq_t (dq_t (dq_t (dq_t (dq_t (dq_t (dq_t (dq_t (dq_t (dq_t (dq_t (dq_t dzX11_passHour_0)))))))))))))))))))))
theorem dX11_passHour_43 : decode cX11_passHour 43 = .ok (.ifCond .eq 6, 3) := dq_h (dq_t (dq_t (dq_t (dq_t (dq_t (dq_t (dq_t (dq_t (dq_t (dq_t (dq_t (dq_t (dq_t (dq_t (dq_t (dq_t (dq_t (dq_t (dq_t (dq_t (dq_t (dq_t dzX11_passHour_0))))))))))))))))))))))
theorem dX11_passHour_46 : decode cX11_passHour 46 = .ok (.iinc 3 1, 3) := dq_h (dq_t (dq_t (dq_t (dq_t (dq_t (dq_t (dq_t (dq_t (dq_t (dq_t (dq_t (dq_t (dq_t (dq_t (dq_t (dq_t (dq_t (dq_t (dq_t (dq_t (dq_t (dq_t (dq_t dzX11_passHour_0)))))))))))))))))))))))
theorem dzX11_passHour_49 : dq_F cX11_passHour [(49, .aload_n 0, 1), (50, .getfield 36, 3), (53, .aload_n 1, 1), (54, .iload 4, 2), (56, .invokevirtual 388, 3), (59, .iinc 4 1, 3), (62, .goto (-57), 3), (65, .aload_n 1, 1), (66, .dup, 1), (67, .getfield 114, 3), (70, .iconst 1, 1), (71, .iadd, 1), (72, .putfield 114, 3), (75, .iload_n 3, 1), (76, .ireturn, 1)] := dq_s 15 49 (by decide +kernel)
theorem dX11_passHour_49 : decode cX11_passHour 49 = .ok (.aload_n 0, 1) := dq_h dzX11_passHour_49
theorem dX11_passHour_50 : decode cX11_passHour 50 = .ok (.getfield 36, 3) := dq_h (dq_t dzX11_passHour_49)
theorem dX11_passHour_53 : decode cX11_passHour 53 = .ok (.aload_n 1, 1) := dq_h (dq_t (dq_t dzX11_passHour_49))
theorem dX11_passHour_54 : decode cX11_passHour 54 = .ok (.iload 4, 2) := dq_h (dq_t (dq_t (dq_t dzX11_passHour_49)))
theorem dX11_passHour_56 : decode cX11_passHour 56 = .ok (.invokevirtual 388, 3) := dq_h (dq_t (dq_t (dq_t (dq_t dzX11_passHour_49))))
theorem dX11_passHour_59 : decode cX11_passHour 59 = .ok (.iinc 4 1, 3) := dq_h (dq_t (dq_t (dq_t (dq_t (dq_t dzX11_passHour_49)))))
theorem dX11_passHour_62 : decode cX11_passHour 62 = .ok (.goto (-57), 3) := dq_h (dq_t (dq_t (dq_t (dq_t (dq_t (dq_t dzX11_passHour_49))))))
theorem dX11_passHour_65 : decode cX11_passHour 65 = .ok (.aload_n 1, 1) := dq_h (dq_t (dq_t (dq_t (dq_t (dq_t (dq_t (dq_t dzX11_passHour_49)))))))
theorem dX11_passHour_66 : decode cX11_passHour 66 = .ok (.dup, 1) := dq_h (dq_t (dq_t (dq_t (dq_t (dq_t (dq_t (dq_t (dq_t dzX11_passHour_49))))))))
theorem dX11_passHour_67 : decode cX11_passHour 67 = .ok (.getfield 114, 3) := dq_h (dq_t (dq_t (dq_t (dq_t (dq_t (dq_t (dq_t (dq_t (dq_t dzX11_passHour_49)))))))))
theorem dX11_passHour_70 : decode cX11_passHour 70 = .ok (.iconst 1, 1) := dq_h (dq_t (dq_t (dq_t (dq_t (dq_t (dq_t (dq_t (dq_t (dq_t (dq_t dzX11_passHour_49))))))))))
theorem dX11_passHour_71 : decode cX11_passHour 71 = .ok (.iadd, 1) := dq_h (dq_t (dq_t (dq_t (dq_t (dq_t (dq_t (dq_t (dq_t (dq_t (dq_t (dq_t dzX11_passHour_49)))))))))))
theorem dX11_passHour_72 : decode cX11_passHour 72 = .ok (.putfield 114, 3) := dq_h (dq_t (dq_t (dq_t (dq_t (dq_t (dq_t (dq_t (dq_t (dq_t (dq_t (dq_t (dq_t dzX11_passHour_49))))))))))))
theorem dX11_passHour_75 : decode cX11_passHour 75 = .ok (.iload_n 3, 1) := dq_h (dq_t (dq_t (dq_t (dq_t (dq_t (dq_t (dq_t (dq_t (dq_t (dq_t (dq_t (dq_t (dq_t dzX11_passHour_49)))))))))))))
theorem dX11_passHour_76 : decode cX11_passHour 76 = .ok (.ireturn, 1) := dq_h (dq_t (dq_t (dq_t (dq_t (dq_t (dq_t (dq_t (dq_t (dq_t (dq_t (dq_t (dq_t (dq_t (dq_t dzX11_passHour_49))))))))))))))
theorem dzX11_nextOf_0 : dq_F cX11_nextOf [(0, .iconst 0, 1), (1, .istore 4, 2), (3, .iload 4, 2), (5, .aload_n 0, 1), (6, .getfield 57, 3), (9, .getfield 165, 3), (12, .iload_n 1, 1), (13, .iaload, 1), (14, .if_icmp .ge 46, 3), (17, .iload_n 2, 1), (18, .iload 4, 2), (20, .iload_n 3, 1), (21, .imul, 1), (22, .iadd, 1), (23, .istore 5, 2), (25, .aload_n 0, 1), (26, .getfield 57, 3), (29, .iload_n 1, 1), (30, .aload_n 0, 1), (31, .getfield 19, 3), (34, .getfield 105, 3), (37, .getfield 114, 3), (40, .iload 5, 2), (42, .iadd, 1)] := dq_s 24 0 (by decide +kernel)
theorem dX11_nextOf_0 : decode cX11_nextOf 0 = .ok (.iconst 0, 1) := dq_h dzX11_nextOf_0
theorem dX11_nextOf_1 : decode cX11_nextOf 1 = .ok (.istore 4, 2) := dq_h (dq_t dzX11_nextOf_0)
theorem dX11_nextOf_3 : decode cX11_nextOf 3 = .ok (.iload 4, 2) := dq_h (dq_t (dq_t dzX11_nextOf_0))
theorem dX11_nextOf_5 : decode cX11_nextOf 5 = .ok (.aload_n 0, 1) := dq_h (dq_t (dq_t (dq_t dzX11_nextOf_0)))
theorem dX11_nextOf_6 : decode cX11_nextOf 6 = .ok (.getfield 57, 3) := dq_h (dq_t (dq_t (dq_t (dq_t dzX11_nextOf_0))))
theorem dX11_nextOf_9 : decode cX11_nextOf 9 = .ok (.getfield 165, 3) := dq_h (dq_t (dq_t (dq_t (dq_t (dq_t dzX11_nextOf_0)))))
theorem dX11_nextOf_12 : decode cX11_nextOf 12 = .ok (.iload_n 1, 1) := dq_h (dq_t (dq_t (dq_t (dq_t (dq_t (dq_t dzX11_nextOf_0))))))
theorem dX11_nextOf_13 : decode cX11_nextOf 13 = .ok (.iaload, 1) := dq_h (dq_t (dq_t (dq_t (dq_t (dq_t (dq_t (dq_t dzX11_nextOf_0)))))))
theorem dX11_nextOf_14 : decode cX11_nextOf 14 = .ok (.if_icmp .ge 46, 3) := dq_h (dq_t (dq_t (dq_t (dq_t (dq_t (dq_t (dq_t (dq_t dzX11_nextOf_0))))))))
theorem dX11_nextOf_17 : decode cX11_nextOf 17 = .ok (.iload_n 2, 1) := dq_h (dq_t (dq_t (dq_t (dq_t (dq_t (dq_t (dq_t (dq_t (dq_t dzX11_nextOf_0)))))))))
theorem dX11_nextOf_18 : decode cX11_nextOf 18 = .ok (.iload 4, 2) := dq_h (dq_t (dq_t (dq_t (dq_t (dq_t (dq_t (dq_t (dq_t (dq_t (dq_t dzX11_nextOf_0))))))))))
theorem dX11_nextOf_20 : decode cX11_nextOf 20 = .ok (.iload_n 3, 1) := dq_h (dq_t (dq_t (dq_t (dq_t (dq_t (dq_t (dq_t (dq_t (dq_t (dq_t (dq_t dzX11_nextOf_0)))))))))))
theorem dX11_nextOf_21 : decode cX11_nextOf 21 = .ok (.imul, 1) := dq_h (dq_t (dq_t (dq_t (dq_t (dq_t (dq_t (dq_t (dq_t (dq_t (dq_t (dq_t (dq_t dzX11_nextOf_0))))))))))))
theorem dX11_nextOf_22 : decode cX11_nextOf 22 = .ok (.iadd, 1) := dq_h (dq_t (dq_t (dq_t (dq_t (dq_t (dq_t (dq_t (dq_t (dq_t (dq_t (dq_t (dq_t (dq_t dzX11_nextOf_0)))))))))))))
theorem dX11_nextOf_23 : decode cX11_nextOf 23 = .ok (.istore 5, 2) := dq_h (dq_t (dq_t (dq_t (dq_t (dq_t (dq_t (dq_t (dq_t (dq_t (dq_t (dq_t (dq_t (dq_t (dq_t dzX11_nextOf_0))))))))))))))
theorem dX11_nextOf_25 : decode cX11_nextOf 25 = .ok (.aload_n 0, 1) := dq_h (dq_t (dq_t (dq_t (dq_t (dq_t (dq_t (dq_t (dq_t (dq_t (dq_t (dq_t (dq_t (dq_t (dq_t (dq_t dzX11_nextOf_0)))))))))))))))
theorem dX11_nextOf_26 : decode cX11_nextOf 26 = .ok (.getfield 57, 3) := dq_h (dq_t (dq_t (dq_t (dq_t (dq_t (dq_t (dq_t (dq_t (dq_t (dq_t (dq_t (dq_t (dq_t (dq_t (dq_t (dq_t dzX11_nextOf_0))))))))))))))))
theorem dX11_nextOf_29 : decode cX11_nextOf 29 = .ok (.iload_n 1, 1) := dq_h (dq_t (dq_t (dq_t (dq_t (dq_t (dq_t (dq_t (dq_t (dq_t (dq_t (dq_t (dq_t (dq_t (dq_t (dq_t (dq_t (dq_t dzX11_nextOf_0)))))))))))))))))
theorem dX11_nextOf_30 : decode cX11_nextOf 30 = .ok (.aload_n 0, 1) := dq_h (dq_t (dq_t (dq_t (dq_t (dq_t (dq_t (dq_t (dq_t (dq_t (dq_t (dq_t (dq_t (dq_t (dq_t (dq_t (dq_t (dq_t (dq_t dzX11_nextOf_0))))))))))))))))))
theorem dX11_nextOf_31 : decode cX11_nextOf 31 = .ok (.getfield 19, 3) := dq_h (dq_t (dq_t (dq_t (dq_t (dq_t (dq_t (dq_t (dq_t (dq_t (dq_t (dq_t (dq_t (dq_t (dq_t (dq_t (dq_t (dq_t (dq_t (dq_t dzX11_nextOf_0)))))))))))))))))))
theorem dX11_nextOf_34 : decode cX11_nextOf 34 = .ok (.getfield 105, 3) := dq_h (dq_t (dq_t (dq_t (dq_t (dq_t (dq_t (dq_t (dq_t (dq_t (dq_t (dq_t (dq_t (dq_t (dq_t (dq_t (dq_t (dq_t (dq_t (dq_t (dq_t dzX11_nextOf_0))))))))))))))))))))
theorem dX11_nextOf_37 : decode cX11_nextOf 37 = .ok (.getfield 114, 3) := dq_h (dq_t (dq_t (dq_t (dq_t (dq_t (dq_t (dq_t (dq_t (dq_t (dq_t (dq_t (dq_t (dq_t (dq_t (dq_t (dq_t (dq_t (dq_t (dq_t (dq_t (dq_t dzX11_nextOf_0)))))))))))))))))))))
theorem dX11_nextOf_40 : decode cX11_nextOf 40 = .ok (.iload 5, 2) := dq_h (dq_t (dq_t (dq_t (dq_t (dq_t (dq_t (dq_t (dq_t (dq_t (dq_t (dq_t (dq_t (dq_t (dq_t (dq_t (dq_t (dq_t (dq_t (dq_t (dq_t (dq_t (dq_t dzX11_nextOf_0))))))))))))))))))))))
theorem dX11_nextOf_42 : decode cX11_nextOf 42 = .ok (.iadd, 1) := dq_h (dq_t (dq_t (dq_t (dq_t (dq_t (dq_t (dq_t (dq_t (dq_t (dq_t (dq_t (dq_t (dq_t (dq_t (dq_t (dq_t (dq_t (dq_t (dq_t (dq_t (dq_t (dq_t (dq_t dzX11_nextOf_0)))))))))))))))))))))))
theorem dzX11_nextOf_43 : dq_F cX11_nextOf [(43, .iconst 1, 1), (44, .isub, 1), (45, .invokevirtual 392, 3), (48, .ifCond .eq 6, 3), (51, .iload 5, 2), (53, .ireturn, 1), (54, .iinc 4 1, 3), (57, .goto (-54), 3), (60, .iconst (-1), 1), (61, .ireturn, 1)] := dq_s 10 43 (by decide +kernel)
theorem dX11_nextOf_43 : decode cX11_nextOf 43 = .ok (.iconst 1, 1) := dq_h dzX11_nextOf_43
theorem dX11_nextOf_44 : decode cX11_nextOf 44 = .ok (.isub, 1) := dq_h (dq_t dzX11_nextOf_43)
theorem dX11_nextOf_45 : decode cX11_nextOf 45 = .ok (.invokevirtual 392, 3) := dq_h (dq_t (dq_t dzX11_nextOf_43))
theorem dX11_nextOf_48 : decode cX11_nextOf 48 = .ok (.ifCond .eq 6, 3) := dq_h (dq_t (dq_t (dq_t dzX11_nextOf_43)))
theorem dX11_nextOf_51 : decode cX11_nextOf 51 = .ok (.iload 5, 2) := dq_h (dq_t (dq_t (dq_t (dq_t dzX11_nextOf_43))))
theorem dX11_nextOf_53 : decode cX11_nextOf 53 = .ok (.ireturn, 1) := dq_h (dq_t (dq_t (dq_t (dq_t (dq_t dzX11_nextOf_43)))))
theorem dX11_nextOf_54 : decode cX11_nextOf 54 = .ok (.iinc 4 1, 3) := dq_h (dq_t (dq_t (dq_t (dq_t (dq_t (dq_t dzX11_nextOf_43))))))
theorem dX11_nextOf_57 : decode cX11_nextOf 57 = .ok (.goto (-54), 3) := dq_h (dq_t (dq_t (dq_t (dq_t (dq_t (dq_t (dq_t dzX11_nextOf_43)))))))
theorem dX11_nextOf_60 : decode cX11_nextOf 60 = .ok (.iconst (-1), 1) := dq_h (dq_t (dq_t (dq_t (dq_t (dq_t (dq_t (dq_t (dq_t dzX11_nextOf_43))))))))
theorem dX11_nextOf_61 : decode cX11_nextOf 61 = .ok (.ireturn, 1) := dq_h (dq_t (dq_t (dq_t (dq_t (dq_t (dq_t (dq_t (dq_t (dq_t dzX11_nextOf_43)))))))))
theorem dzX11_leastCommon_0 : dq_F cX11_leastCommon [(0, .iload_n 0, 1), (1, .istore_n 2, 1), (2, .iconst 1, 1), (3, .istore_n 3, 1), (4, .iload_n 3, 1), (5, .iload_n 1, 1), (6, .if_icmp .ge 19, 3), (9, .iload_n 2, 1), (10, .iload_n 1, 1), (11, .irem, 1), (12, .ifCond .eq 13, 3), (15, .iload_n 2, 1), (16, .iload_n 0, 1), (17, .iadd, 1), (18, .istore_n 2, 1), (19, .iinc 3 1, 3), (22, .goto (-18), 3), (25, .iload_n 2, 1), (26, .ireturn, 1)] := dq_s 19 0 (by decide +kernel)
theorem dX11_leastCommon_0 : decode cX11_leastCommon 0 = .ok (.iload_n 0, 1) := dq_h dzX11_leastCommon_0
theorem dX11_leastCommon_1 : decode cX11_leastCommon 1 = .ok (.istore_n 2, 1) := dq_h (dq_t dzX11_leastCommon_0)
theorem dX11_leastCommon_2 : decode cX11_leastCommon 2 = .ok (.iconst 1, 1) := dq_h (dq_t (dq_t dzX11_leastCommon_0))
theorem dX11_leastCommon_3 : decode cX11_leastCommon 3 = .ok (.istore_n 3, 1) := dq_h (dq_t (dq_t (dq_t dzX11_leastCommon_0)))
theorem dX11_leastCommon_4 : decode cX11_leastCommon 4 = .ok (.iload_n 3, 1) := dq_h (dq_t (dq_t (dq_t (dq_t dzX11_leastCommon_0))))
theorem dX11_leastCommon_5 : decode cX11_leastCommon 5 = .ok (.iload_n 1, 1) := dq_h (dq_t (dq_t (dq_t (dq_t (dq_t dzX11_leastCommon_0)))))
theorem dX11_leastCommon_6 : decode cX11_leastCommon 6 = .ok (.if_icmp .ge 19, 3) := dq_h (dq_t (dq_t (dq_t (dq_t (dq_t (dq_t dzX11_leastCommon_0))))))
theorem dX11_leastCommon_9 : decode cX11_leastCommon 9 = .ok (.iload_n 2, 1) := dq_h (dq_t (dq_t (dq_t (dq_t (dq_t (dq_t (dq_t dzX11_leastCommon_0)))))))
theorem dX11_leastCommon_10 : decode cX11_leastCommon 10 = .ok (.iload_n 1, 1) := dq_h (dq_t (dq_t (dq_t (dq_t (dq_t (dq_t (dq_t (dq_t dzX11_leastCommon_0))))))))
theorem dX11_leastCommon_11 : decode cX11_leastCommon 11 = .ok (.irem, 1) := dq_h (dq_t (dq_t (dq_t (dq_t (dq_t (dq_t (dq_t (dq_t (dq_t dzX11_leastCommon_0)))))))))
theorem dX11_leastCommon_12 : decode cX11_leastCommon 12 = .ok (.ifCond .eq 13, 3) := dq_h (dq_t (dq_t (dq_t (dq_t (dq_t (dq_t (dq_t (dq_t (dq_t (dq_t dzX11_leastCommon_0))))))))))
theorem dX11_leastCommon_15 : decode cX11_leastCommon 15 = .ok (.iload_n 2, 1) := dq_h (dq_t (dq_t (dq_t (dq_t (dq_t (dq_t (dq_t (dq_t (dq_t (dq_t (dq_t dzX11_leastCommon_0)))))))))))
theorem dX11_leastCommon_16 : decode cX11_leastCommon 16 = .ok (.iload_n 0, 1) := dq_h (dq_t (dq_t (dq_t (dq_t (dq_t (dq_t (dq_t (dq_t (dq_t (dq_t (dq_t (dq_t dzX11_leastCommon_0))))))))))))
theorem dX11_leastCommon_17 : decode cX11_leastCommon 17 = .ok (.iadd, 1) := dq_h (dq_t (dq_t (dq_t (dq_t (dq_t (dq_t (dq_t (dq_t (dq_t (dq_t (dq_t (dq_t (dq_t dzX11_leastCommon_0)))))))))))))
theorem dX11_leastCommon_18 : decode cX11_leastCommon 18 = .ok (.istore_n 2, 1) := dq_h (dq_t (dq_t (dq_t (dq_t (dq_t (dq_t (dq_t (dq_t (dq_t (dq_t (dq_t (dq_t (dq_t (dq_t dzX11_leastCommon_0))))))))))))))
theorem dX11_leastCommon_19 : decode cX11_leastCommon 19 = .ok (.iinc 3 1, 3) := dq_h (dq_t (dq_t (dq_t (dq_t (dq_t (dq_t (dq_t (dq_t (dq_t (dq_t (dq_t (dq_t (dq_t (dq_t (dq_t dzX11_leastCommon_0)))))))))))))))
theorem dX11_leastCommon_22 : decode cX11_leastCommon 22 = .ok (.goto (-18), 3) := dq_h (dq_t (dq_t (dq_t (dq_t (dq_t (dq_t (dq_t (dq_t (dq_t (dq_t (dq_t (dq_t (dq_t (dq_t (dq_t (dq_t dzX11_leastCommon_0))))))))))))))))
theorem dX11_leastCommon_25 : decode cX11_leastCommon 25 = .ok (.iload_n 2, 1) := dq_h (dq_t (dq_t (dq_t (dq_t (dq_t (dq_t (dq_t (dq_t (dq_t (dq_t (dq_t (dq_t (dq_t (dq_t (dq_t (dq_t (dq_t dzX11_leastCommon_0)))))))))))))))))
theorem dX11_leastCommon_26 : decode cX11_leastCommon 26 = .ok (.ireturn, 1) := dq_h (dq_t (dq_t (dq_t (dq_t (dq_t (dq_t (dq_t (dq_t (dq_t (dq_t (dq_t (dq_t (dq_t (dq_t (dq_t (dq_t (dq_t (dq_t dzX11_leastCommon_0))))))))))))))))))
theorem dzX11_keeps_0 : dq_F cX11_keeps [(0, .aload_n 0, 1), (1, .getfield 36, 3), (4, .aload_n 0, 1), (5, .getfield 57, 3), (8, .aload_n 0, 1), (9, .getfield 19, 3), (12, .getfield 105, 3), (15, .iload_n 1, 1), (16, .invokevirtual 243, 3), (19, .aload_n 0, 1), (20, .getfield 36, 3), (23, .iload_n 3, 1), (24, .putfield 252, 3), (27, .iconst 0, 1), (28, .istore 4, 2), (30, .iload 4, 2), (32, .iload_n 2, 1), (33, .if_icmp .ge 46, 3), (36, .aload_n 0, 1), (37, .getfield 36, 3), (40, .getfield 256, 3), (43, .iconst (-1), 1), (44, .if_icmp .eq 35, 3), (47, .aload_n 0, 1)] := dq_s 24 0 (by decide +kernel)
theorem dX11_keeps_0 : decode cX11_keeps 0 = .ok (.aload_n 0, 1) := dq_h dzX11_keeps_0
theorem dX11_keeps_1 : decode cX11_keeps 1 = .ok (.getfield 36, 3) := dq_h (dq_t dzX11_keeps_0)
theorem dX11_keeps_4 : decode cX11_keeps 4 = .ok (.aload_n 0, 1) := dq_h (dq_t (dq_t dzX11_keeps_0))
theorem dX11_keeps_5 : decode cX11_keeps 5 = .ok (.getfield 57, 3) := dq_h (dq_t (dq_t (dq_t dzX11_keeps_0)))
theorem dX11_keeps_8 : decode cX11_keeps 8 = .ok (.aload_n 0, 1) := dq_h (dq_t (dq_t (dq_t (dq_t dzX11_keeps_0))))
theorem dX11_keeps_9 : decode cX11_keeps 9 = .ok (.getfield 19, 3) := dq_h (dq_t (dq_t (dq_t (dq_t (dq_t dzX11_keeps_0)))))
theorem dX11_keeps_12 : decode cX11_keeps 12 = .ok (.getfield 105, 3) := dq_h (dq_t (dq_t (dq_t (dq_t (dq_t (dq_t dzX11_keeps_0))))))
theorem dX11_keeps_15 : decode cX11_keeps 15 = .ok (.iload_n 1, 1) := dq_h (dq_t (dq_t (dq_t (dq_t (dq_t (dq_t (dq_t dzX11_keeps_0)))))))
theorem dX11_keeps_16 : decode cX11_keeps 16 = .ok (.invokevirtual 243, 3) := dq_h (dq_t (dq_t (dq_t (dq_t (dq_t (dq_t (dq_t (dq_t dzX11_keeps_0))))))))
theorem dX11_keeps_19 : decode cX11_keeps 19 = .ok (.aload_n 0, 1) := dq_h (dq_t (dq_t (dq_t (dq_t (dq_t (dq_t (dq_t (dq_t (dq_t dzX11_keeps_0)))))))))
theorem dX11_keeps_20 : decode cX11_keeps 20 = .ok (.getfield 36, 3) := dq_h (dq_t (dq_t (dq_t (dq_t (dq_t (dq_t (dq_t (dq_t (dq_t (dq_t dzX11_keeps_0))))))))))
theorem dX11_keeps_23 : decode cX11_keeps 23 = .ok (.iload_n 3, 1) := dq_h (dq_t (dq_t (dq_t (dq_t (dq_t (dq_t (dq_t (dq_t (dq_t (dq_t (dq_t dzX11_keeps_0)))))))))))
theorem dX11_keeps_24 : decode cX11_keeps 24 = .ok (.putfield 252, 3) := dq_h (dq_t (dq_t (dq_t (dq_t (dq_t (dq_t (dq_t (dq_t (dq_t (dq_t (dq_t (dq_t dzX11_keeps_0))))))))))))
theorem dX11_keeps_27 : decode cX11_keeps 27 = .ok (.iconst 0, 1) := dq_h (dq_t (dq_t (dq_t (dq_t (dq_t (dq_t (dq_t (dq_t (dq_t (dq_t (dq_t (dq_t (dq_t dzX11_keeps_0)))))))))))))
theorem dX11_keeps_28 : decode cX11_keeps 28 = .ok (.istore 4, 2) := dq_h (dq_t (dq_t (dq_t (dq_t (dq_t (dq_t (dq_t (dq_t (dq_t (dq_t (dq_t (dq_t (dq_t (dq_t dzX11_keeps_0))))))))))))))
theorem dX11_keeps_30 : decode cX11_keeps 30 = .ok (.iload 4, 2) := dq_h (dq_t (dq_t (dq_t (dq_t (dq_t (dq_t (dq_t (dq_t (dq_t (dq_t (dq_t (dq_t (dq_t (dq_t (dq_t dzX11_keeps_0)))))))))))))))
theorem dX11_keeps_32 : decode cX11_keeps 32 = .ok (.iload_n 2, 1) := dq_h (dq_t (dq_t (dq_t (dq_t (dq_t (dq_t (dq_t (dq_t (dq_t (dq_t (dq_t (dq_t (dq_t (dq_t (dq_t (dq_t dzX11_keeps_0))))))))))))))))
theorem dX11_keeps_33 : decode cX11_keeps 33 = .ok (.if_icmp .ge 46, 3) := dq_h (dq_t (dq_t (dq_t (dq_t (dq_t (dq_t (dq_t (dq_t (dq_t (dq_t (dq_t (dq_t (dq_t (dq_t (dq_t (dq_t (dq_t dzX11_keeps_0)))))))))))))))))
theorem dX11_keeps_36 : decode cX11_keeps 36 = .ok (.aload_n 0, 1) := dq_h (dq_t (dq_t (dq_t (dq_t (dq_t (dq_t (dq_t (dq_t (dq_t (dq_t (dq_t (dq_t (dq_t (dq_t (dq_t (dq_t (dq_t (dq_t dzX11_keeps_0))))))))))))))))))
theorem dX11_keeps_37 : decode cX11_keeps 37 = .ok (.getfield 36, 3) := dq_h (dq_t (dq_t (dq_t (dq_t (dq_t (dq_t (dq_t (dq_t (dq_t (dq_t (dq_t (dq_t (dq_t (dq_t (dq_t (dq_t (dq_t (dq_t (dq_t dzX11_keeps_0)))))))))))))))))))
theorem dX11_keeps_40 : decode cX11_keeps 40 = .ok (.getfield 256, 3) := dq_h (dq_t (dq_t (dq_t (dq_t (dq_t (dq_t (dq_t (dq_t (dq_t (dq_t (dq_t (dq_t (dq_t (dq_t (dq_t (dq_t (dq_t (dq_t (dq_t (dq_t dzX11_keeps_0))))))))))))))))))))
theorem dX11_keeps_43 : decode cX11_keeps 43 = .ok (.iconst (-1), 1) := dq_h (dq_t (dq_t (dq_t (dq_t (dq_t (dq_t (dq_t (dq_t (dq_t (dq_t (dq_t (dq_t (dq_t (dq_t (dq_t (dq_t (dq_t (dq_t (dq_t (dq_t (dq_t dzX11_keeps_0)))))))))))))))))))))
theorem dX11_keeps_44 : decode cX11_keeps 44 = .ok (.if_icmp .eq 35, 3) := dq_h (dq_t (dq_t (dq_t (dq_t (dq_t (dq_t (dq_t (dq_t (dq_t (dq_t (dq_t (dq_t (dq_t (dq_t (dq_t (dq_t (dq_t (dq_t (dq_t (dq_t (dq_t (dq_t dzX11_keeps_0))))))))))))))))))))))
theorem dX11_keeps_47 : decode cX11_keeps 47 = .ok (.aload_n 0, 1) := dq_h (dq_t (dq_t (dq_t (dq_t (dq_t (dq_t (dq_t (dq_t (dq_t (dq_t (dq_t (dq_t (dq_t (dq_t (dq_t (dq_t (dq_t (dq_t (dq_t (dq_t (dq_t (dq_t (dq_t dzX11_keeps_0)))))))))))))))))))))))
theorem dzX11_keeps_48 : dq_F cX11_keeps [(48, .getfield 36, 3), (51, .aload_n 0, 1), (52, .getfield 57, 3), (55, .aload_n 0, 1), (56, .getfield 57, 3), (59, .aload_n 0, 1), (60, .getfield 36, 3), (63, .getfield 261, 3), (66, .invokevirtual 117, 3), (69, .invokevirtual 262, 3), (72, .pop, 1), (73, .iinc 4 1, 3), (76, .goto (-46), 3), (79, .aload_n 0, 1), (80, .getfield 36, 3), (83, .getfield 256, 3), (86, .iconst (-1), 1), (87, .if_icmp .eq 7, 3), (90, .iconst 1, 1), (91, .goto 4, 3), (94, .iconst 0, 1), (95, .ireturn, 1)] := dq_s 22 48 (by decide +kernel)
theorem dX11_keeps_48 : decode cX11_keeps 48 = .ok (.getfield 36, 3) := dq_h dzX11_keeps_48
theorem dX11_keeps_51 : decode cX11_keeps 51 = .ok (.aload_n 0, 1) := dq_h (dq_t dzX11_keeps_48)
theorem dX11_keeps_52 : decode cX11_keeps 52 = .ok (.getfield 57, 3) := dq_h (dq_t (dq_t dzX11_keeps_48))
theorem dX11_keeps_55 : decode cX11_keeps 55 = .ok (.aload_n 0, 1) := dq_h (dq_t (dq_t (dq_t dzX11_keeps_48)))
theorem dX11_keeps_56 : decode cX11_keeps 56 = .ok (.getfield 57, 3) := dq_h (dq_t (dq_t (dq_t (dq_t dzX11_keeps_48))))
theorem dX11_keeps_59 : decode cX11_keeps 59 = .ok (.aload_n 0, 1) := dq_h (dq_t (dq_t (dq_t (dq_t (dq_t dzX11_keeps_48)))))
theorem dX11_keeps_60 : decode cX11_keeps 60 = .ok (.getfield 36, 3) := dq_h (dq_t (dq_t (dq_t (dq_t (dq_t (dq_t dzX11_keeps_48))))))
theorem dX11_keeps_63 : decode cX11_keeps 63 = .ok (.getfield 261, 3) := dq_h (dq_t (dq_t (dq_t (dq_t (dq_t (dq_t (dq_t dzX11_keeps_48)))))))
theorem dX11_keeps_66 : decode cX11_keeps 66 = .ok (.invokevirtual 117, 3) := dq_h (dq_t (dq_t (dq_t (dq_t (dq_t (dq_t (dq_t (dq_t dzX11_keeps_48))))))))
theorem dX11_keeps_69 : decode cX11_keeps 69 = .ok (.invokevirtual 262, 3) := dq_h (dq_t (dq_t (dq_t (dq_t (dq_t (dq_t (dq_t (dq_t (dq_t dzX11_keeps_48)))))))))
theorem dX11_keeps_72 : decode cX11_keeps 72 = .ok (.pop, 1) := dq_h (dq_t (dq_t (dq_t (dq_t (dq_t (dq_t (dq_t (dq_t (dq_t (dq_t dzX11_keeps_48))))))))))
theorem dX11_keeps_73 : decode cX11_keeps 73 = .ok (.iinc 4 1, 3) := dq_h (dq_t (dq_t (dq_t (dq_t (dq_t (dq_t (dq_t (dq_t (dq_t (dq_t (dq_t dzX11_keeps_48)))))))))))
theorem dX11_keeps_76 : decode cX11_keeps 76 = .ok (.goto (-46), 3) := dq_h (dq_t (dq_t (dq_t (dq_t (dq_t (dq_t (dq_t (dq_t (dq_t (dq_t (dq_t (dq_t dzX11_keeps_48))))))))))))
theorem dX11_keeps_79 : decode cX11_keeps 79 = .ok (.aload_n 0, 1) := dq_h (dq_t (dq_t (dq_t (dq_t (dq_t (dq_t (dq_t (dq_t (dq_t (dq_t (dq_t (dq_t (dq_t dzX11_keeps_48)))))))))))))
theorem dX11_keeps_80 : decode cX11_keeps 80 = .ok (.getfield 36, 3) := dq_h (dq_t (dq_t (dq_t (dq_t (dq_t (dq_t (dq_t (dq_t (dq_t (dq_t (dq_t (dq_t (dq_t (dq_t dzX11_keeps_48))))))))))))))
theorem dX11_keeps_83 : decode cX11_keeps 83 = .ok (.getfield 256, 3) := dq_h (dq_t (dq_t (dq_t (dq_t (dq_t (dq_t (dq_t (dq_t (dq_t (dq_t (dq_t (dq_t (dq_t (dq_t (dq_t dzX11_keeps_48)))))))))))))))
theorem dX11_keeps_86 : decode cX11_keeps 86 = .ok (.iconst (-1), 1) := dq_h (dq_t (dq_t (dq_t (dq_t (dq_t (dq_t (dq_t (dq_t (dq_t (dq_t (dq_t (dq_t (dq_t (dq_t (dq_t (dq_t dzX11_keeps_48))))))))))))))))
theorem dX11_keeps_87 : decode cX11_keeps 87 = .ok (.if_icmp .eq 7, 3) := dq_h (dq_t (dq_t (dq_t (dq_t (dq_t (dq_t (dq_t (dq_t (dq_t (dq_t (dq_t (dq_t (dq_t (dq_t (dq_t (dq_t (dq_t dzX11_keeps_48)))))))))))))))))
theorem dX11_keeps_90 : decode cX11_keeps 90 = .ok (.iconst 1, 1) := dq_h (dq_t (dq_t (dq_t (dq_t (dq_t (dq_t (dq_t (dq_t (dq_t (dq_t (dq_t (dq_t (dq_t (dq_t (dq_t (dq_t (dq_t (dq_t dzX11_keeps_48))))))))))))))))))
theorem dX11_keeps_91 : decode cX11_keeps 91 = .ok (.goto 4, 3) := dq_h (dq_t (dq_t (dq_t (dq_t (dq_t (dq_t (dq_t (dq_t (dq_t (dq_t (dq_t (dq_t (dq_t (dq_t (dq_t (dq_t (dq_t (dq_t (dq_t dzX11_keeps_48)))))))))))))))))))
theorem dX11_keeps_94 : decode cX11_keeps 94 = .ok (.iconst 0, 1) := dq_h (dq_t (dq_t (dq_t (dq_t (dq_t (dq_t (dq_t (dq_t (dq_t (dq_t (dq_t (dq_t (dq_t (dq_t (dq_t (dq_t (dq_t (dq_t (dq_t (dq_t dzX11_keeps_48))))))))))))))))))))
theorem dX11_keeps_95 : decode cX11_keeps 95 = .ok (.ireturn, 1) := dq_h (dq_t (dq_t (dq_t (dq_t (dq_t (dq_t (dq_t (dq_t (dq_t (dq_t (dq_t (dq_t (dq_t (dq_t (dq_t (dq_t (dq_t (dq_t (dq_t (dq_t (dq_t dzX11_keeps_48)))))))))))))))))))))
theorem dzX11_leastOfAllPurses_0 : dq_F cX11_leastOfAllPurses [(0, .iconst 0, 1), (1, .istore_n 3, 1), (2, .iload_n 3, 1), (3, .sipush 999, 3), (6, .if_icmp .gt 21, 3), (9, .aload_n 0, 1), (10, .iload_n 1, 1), (11, .iload_n 2, 1), (12, .iload_n 3, 1), (13, .invokevirtual 395, 3), (16, .ifCond .eq 5, 3), (19, .iload_n 3, 1), (20, .ireturn, 1), (21, .iinc 3 1, 3), (24, .goto (-22), 3), (27, .iconst (-1), 1), (28, .ireturn, 1)] := dq_s 17 0 (by decide +kernel)
theorem dX11_leastOfAllPurses_0 : decode cX11_leastOfAllPurses 0 = .ok (.iconst 0, 1) := dq_h dzX11_leastOfAllPurses_0
theorem dX11_leastOfAllPurses_1 : decode cX11_leastOfAllPurses 1 = .ok (.istore_n 3, 1) := dq_h (dq_t dzX11_leastOfAllPurses_0)
theorem dX11_leastOfAllPurses_2 : decode cX11_leastOfAllPurses 2 = .ok (.iload_n 3, 1) := dq_h (dq_t (dq_t dzX11_leastOfAllPurses_0))
theorem dX11_leastOfAllPurses_3 : decode cX11_leastOfAllPurses 3 = .ok (.sipush 999, 3) := dq_h (dq_t (dq_t (dq_t dzX11_leastOfAllPurses_0)))
theorem dX11_leastOfAllPurses_6 : decode cX11_leastOfAllPurses 6 = .ok (.if_icmp .gt 21, 3) := dq_h (dq_t (dq_t (dq_t (dq_t dzX11_leastOfAllPurses_0))))
theorem dX11_leastOfAllPurses_9 : decode cX11_leastOfAllPurses 9 = .ok (.aload_n 0, 1) := dq_h (dq_t (dq_t (dq_t (dq_t (dq_t dzX11_leastOfAllPurses_0)))))
theorem dX11_leastOfAllPurses_10 : decode cX11_leastOfAllPurses 10 = .ok (.iload_n 1, 1) := dq_h (dq_t (dq_t (dq_t (dq_t (dq_t (dq_t dzX11_leastOfAllPurses_0))))))
theorem dX11_leastOfAllPurses_11 : decode cX11_leastOfAllPurses 11 = .ok (.iload_n 2, 1) := dq_h (dq_t (dq_t (dq_t (dq_t (dq_t (dq_t (dq_t dzX11_leastOfAllPurses_0)))))))
theorem dX11_leastOfAllPurses_12 : decode cX11_leastOfAllPurses 12 = .ok (.iload_n 3, 1) := dq_h (dq_t (dq_t (dq_t (dq_t (dq_t (dq_t (dq_t (dq_t dzX11_leastOfAllPurses_0))))))))
theorem dX11_leastOfAllPurses_13 : decode cX11_leastOfAllPurses 13 = .ok (.invokevirtual 395, 3) := dq_h (dq_t (dq_t (dq_t (dq_t (dq_t (dq_t (dq_t (dq_t (dq_t dzX11_leastOfAllPurses_0)))))))))
theorem dX11_leastOfAllPurses_16 : decode cX11_leastOfAllPurses 16 = .ok (.ifCond .eq 5, 3) := dq_h (dq_t (dq_t (dq_t (dq_t (dq_t (dq_t (dq_t (dq_t (dq_t (dq_t dzX11_leastOfAllPurses_0))))))))))
theorem dX11_leastOfAllPurses_19 : decode cX11_leastOfAllPurses 19 = .ok (.iload_n 3, 1) := dq_h (dq_t (dq_t (dq_t (dq_t (dq_t (dq_t (dq_t (dq_t (dq_t (dq_t (dq_t dzX11_leastOfAllPurses_0)))))))))))
theorem dX11_leastOfAllPurses_20 : decode cX11_leastOfAllPurses 20 = .ok (.ireturn, 1) := dq_h (dq_t (dq_t (dq_t (dq_t (dq_t (dq_t (dq_t (dq_t (dq_t (dq_t (dq_t (dq_t dzX11_leastOfAllPurses_0))))))))))))
theorem dX11_leastOfAllPurses_21 : decode cX11_leastOfAllPurses 21 = .ok (.iinc 3 1, 3) := dq_h (dq_t (dq_t (dq_t (dq_t (dq_t (dq_t (dq_t (dq_t (dq_t (dq_t (dq_t (dq_t (dq_t dzX11_leastOfAllPurses_0)))))))))))))
theorem dX11_leastOfAllPurses_24 : decode cX11_leastOfAllPurses 24 = .ok (.goto (-22), 3) := dq_h (dq_t (dq_t (dq_t (dq_t (dq_t (dq_t (dq_t (dq_t (dq_t (dq_t (dq_t (dq_t (dq_t (dq_t dzX11_leastOfAllPurses_0))))))))))))))
theorem dX11_leastOfAllPurses_27 : decode cX11_leastOfAllPurses 27 = .ok (.iconst (-1), 1) := dq_h (dq_t (dq_t (dq_t (dq_t (dq_t (dq_t (dq_t (dq_t (dq_t (dq_t (dq_t (dq_t (dq_t (dq_t (dq_t dzX11_leastOfAllPurses_0)))))))))))))))
theorem dX11_leastOfAllPurses_28 : decode cX11_leastOfAllPurses 28 = .ok (.ireturn, 1) := dq_h (dq_t (dq_t (dq_t (dq_t (dq_t (dq_t (dq_t (dq_t (dq_t (dq_t (dq_t (dq_t (dq_t (dq_t (dq_t (dq_t dzX11_leastOfAllPurses_0))))))))))))))))
theorem dzX11_leastByHalves_0 : dq_F cX11_leastByHalves [(0, .iconst 0, 1), (1, .istore_n 3, 1), (2, .sipush 1000, 3), (5, .istore 4, 2), (7, .iconst 0, 1), (8, .istore 5, 2), (10, .iload 5, 2), (12, .sipush 999, 3), (15, .if_icmp .gt 54, 3), (18, .iload_n 3, 1), (19, .iload 4, 2), (21, .if_icmp .ge 48, 3), (24, .iload_n 3, 1), (25, .iload 4, 2), (27, .iadd, 1), (28, .iconst 2, 1), (29, .idiv, 1), (30, .istore 6, 2), (32, .iload 6, 2), (34, .sipush 999, 3), (37, .if_icmp .gt 14, 3), (40, .aload_n 0, 1), (41, .iload_n 1, 1), (42, .iload_n 2, 1)] := dq_s 24 0 (by decide +kernel)
theorem dX11_leastByHalves_0 : decode cX11_leastByHalves 0 = .ok (.iconst 0, 1) := dq_h dzX11_leastByHalves_0
theorem dX11_leastByHalves_1 : decode cX11_leastByHalves 1 = .ok (.istore_n 3, 1) := dq_h (dq_t dzX11_leastByHalves_0)
theorem dX11_leastByHalves_2 : decode cX11_leastByHalves 2 = .ok (.sipush 1000, 3) := dq_h (dq_t (dq_t dzX11_leastByHalves_0))
theorem dX11_leastByHalves_5 : decode cX11_leastByHalves 5 = .ok (.istore 4, 2) := dq_h (dq_t (dq_t (dq_t dzX11_leastByHalves_0)))
theorem dX11_leastByHalves_7 : decode cX11_leastByHalves 7 = .ok (.iconst 0, 1) := dq_h (dq_t (dq_t (dq_t (dq_t dzX11_leastByHalves_0))))
theorem dX11_leastByHalves_8 : decode cX11_leastByHalves 8 = .ok (.istore 5, 2) := dq_h (dq_t (dq_t (dq_t (dq_t (dq_t dzX11_leastByHalves_0)))))
theorem dX11_leastByHalves_10 : decode cX11_leastByHalves 10 = .ok (.iload 5, 2) := dq_h (dq_t (dq_t (dq_t (dq_t (dq_t (dq_t dzX11_leastByHalves_0))))))
theorem dX11_leastByHalves_12 : decode cX11_leastByHalves 12 = .ok (.sipush 999, 3) := dq_h (dq_t (dq_t (dq_t (dq_t (dq_t (dq_t (dq_t dzX11_leastByHalves_0)))))))
theorem dX11_leastByHalves_15 : decode cX11_leastByHalves 15 = .ok (.if_icmp .gt 54, 3) := dq_h (dq_t (dq_t (dq_t (dq_t (dq_t (dq_t (dq_t (dq_t dzX11_leastByHalves_0))))))))
theorem dX11_leastByHalves_18 : decode cX11_leastByHalves 18 = .ok (.iload_n 3, 1) := dq_h (dq_t (dq_t (dq_t (dq_t (dq_t (dq_t (dq_t (dq_t (dq_t dzX11_leastByHalves_0)))))))))
theorem dX11_leastByHalves_19 : decode cX11_leastByHalves 19 = .ok (.iload 4, 2) := dq_h (dq_t (dq_t (dq_t (dq_t (dq_t (dq_t (dq_t (dq_t (dq_t (dq_t dzX11_leastByHalves_0))))))))))
theorem dX11_leastByHalves_21 : decode cX11_leastByHalves 21 = .ok (.if_icmp .ge 48, 3) := dq_h (dq_t (dq_t (dq_t (dq_t (dq_t (dq_t (dq_t (dq_t (dq_t (dq_t (dq_t dzX11_leastByHalves_0)))))))))))
theorem dX11_leastByHalves_24 : decode cX11_leastByHalves 24 = .ok (.iload_n 3, 1) := dq_h (dq_t (dq_t (dq_t (dq_t (dq_t (dq_t (dq_t (dq_t (dq_t (dq_t (dq_t (dq_t dzX11_leastByHalves_0))))))))))))
theorem dX11_leastByHalves_25 : decode cX11_leastByHalves 25 = .ok (.iload 4, 2) := dq_h (dq_t (dq_t (dq_t (dq_t (dq_t (dq_t (dq_t (dq_t (dq_t (dq_t (dq_t (dq_t (dq_t dzX11_leastByHalves_0)))))))))))))
theorem dX11_leastByHalves_27 : decode cX11_leastByHalves 27 = .ok (.iadd, 1) := dq_h (dq_t (dq_t (dq_t (dq_t (dq_t (dq_t (dq_t (dq_t (dq_t (dq_t (dq_t (dq_t (dq_t (dq_t dzX11_leastByHalves_0))))))))))))))
theorem dX11_leastByHalves_28 : decode cX11_leastByHalves 28 = .ok (.iconst 2, 1) := dq_h (dq_t (dq_t (dq_t (dq_t (dq_t (dq_t (dq_t (dq_t (dq_t (dq_t (dq_t (dq_t (dq_t (dq_t (dq_t dzX11_leastByHalves_0)))))))))))))))
theorem dX11_leastByHalves_29 : decode cX11_leastByHalves 29 = .ok (.idiv, 1) := dq_h (dq_t (dq_t (dq_t (dq_t (dq_t (dq_t (dq_t (dq_t (dq_t (dq_t (dq_t (dq_t (dq_t (dq_t (dq_t (dq_t dzX11_leastByHalves_0))))))))))))))))
theorem dX11_leastByHalves_30 : decode cX11_leastByHalves 30 = .ok (.istore 6, 2) := dq_h (dq_t (dq_t (dq_t (dq_t (dq_t (dq_t (dq_t (dq_t (dq_t (dq_t (dq_t (dq_t (dq_t (dq_t (dq_t (dq_t (dq_t dzX11_leastByHalves_0)))))))))))))))))
theorem dX11_leastByHalves_32 : decode cX11_leastByHalves 32 = .ok (.iload 6, 2) := dq_h (dq_t (dq_t (dq_t (dq_t (dq_t (dq_t (dq_t (dq_t (dq_t (dq_t (dq_t (dq_t (dq_t (dq_t (dq_t (dq_t (dq_t (dq_t dzX11_leastByHalves_0))))))))))))))))))
theorem dX11_leastByHalves_34 : decode cX11_leastByHalves 34 = .ok (.sipush 999, 3) := dq_h (dq_t (dq_t (dq_t (dq_t (dq_t (dq_t (dq_t (dq_t (dq_t (dq_t (dq_t (dq_t (dq_t (dq_t (dq_t (dq_t (dq_t (dq_t (dq_t dzX11_leastByHalves_0)))))))))))))))))))
theorem dX11_leastByHalves_37 : decode cX11_leastByHalves 37 = .ok (.if_icmp .gt 14, 3) := dq_h (dq_t (dq_t (dq_t (dq_t (dq_t (dq_t (dq_t (dq_t (dq_t (dq_t (dq_t (dq_t (dq_t (dq_t (dq_t (dq_t (dq_t (dq_t (dq_t (dq_t dzX11_leastByHalves_0))))))))))))))))))))
theorem dX11_leastByHalves_40 : decode cX11_leastByHalves 40 = .ok (.aload_n 0, 1) := dq_h (dq_t (dq_t (dq_t (dq_t (dq_t (dq_t (dq_t (dq_t (dq_t (dq_t (dq_t (dq_t (dq_t (dq_t (dq_t (dq_t (dq_t (dq_t (dq_t (dq_t (dq_t dzX11_leastByHalves_0)))))))))))))))))))))
theorem dX11_leastByHalves_41 : decode cX11_leastByHalves 41 = .ok (.iload_n 1, 1) := dq_h (dq_t (dq_t (dq_t (dq_t (dq_t (dq_t (dq_t (dq_t (dq_t (dq_t (dq_t (dq_t (dq_t (dq_t (dq_t (dq_t (dq_t (dq_t (dq_t (dq_t (dq_t (dq_t dzX11_leastByHalves_0))))))))))))))))))))))
theorem dX11_leastByHalves_42 : decode cX11_leastByHalves 42 = .ok (.iload_n 2, 1) := dq_h (dq_t (dq_t (dq_t (dq_t (dq_t (dq_t (dq_t (dq_t (dq_t (dq_t (dq_t (dq_t (dq_t (dq_t (dq_t (dq_t (dq_t (dq_t (dq_t (dq_t (dq_t (dq_t (dq_t dzX11_leastByHalves_0)))))))))))))))))))))))
theorem dzX11_leastByHalves_43 : dq_F cX11_leastByHalves [(43, .iload 6, 2), (45, .invokevirtual 395, 3), (48, .ifCond .eq 10, 3), (51, .iload 6, 2), (53, .istore 4, 2), (55, .goto 8, 3), (58, .iload 6, 2), (60, .iconst 1, 1), (61, .iadd, 1), (62, .istore_n 3, 1), (63, .iinc 5 1, 3), (66, .goto (-56), 3), (69, .iload_n 3, 1), (70, .sipush 999, 3), (73, .if_icmp .le 7, 3), (76, .iconst (-1), 1), (77, .goto 4, 3), (80, .iload_n 3, 1), (81, .ireturn, 1)] := dq_s 19 43 (by decide +kernel)
theorem dX11_leastByHalves_43 : decode cX11_leastByHalves 43 = .ok (.iload 6, 2) := dq_h dzX11_leastByHalves_43
theorem dX11_leastByHalves_45 : decode cX11_leastByHalves 45 = .ok (.invokevirtual 395, 3) := dq_h (dq_t dzX11_leastByHalves_43)
theorem dX11_leastByHalves_48 : decode cX11_leastByHalves 48 = .ok (.ifCond .eq 10, 3) := dq_h (dq_t (dq_t dzX11_leastByHalves_43))
theorem dX11_leastByHalves_51 : decode cX11_leastByHalves 51 = .ok (.iload 6, 2) := dq_h (dq_t (dq_t (dq_t dzX11_leastByHalves_43)))
theorem dX11_leastByHalves_53 : decode cX11_leastByHalves 53 = .ok (.istore 4, 2) := dq_h (dq_t (dq_t (dq_t (dq_t dzX11_leastByHalves_43))))
theorem dX11_leastByHalves_55 : decode cX11_leastByHalves 55 = .ok (.goto 8, 3) := dq_h (dq_t (dq_t (dq_t (dq_t (dq_t dzX11_leastByHalves_43)))))
theorem dX11_leastByHalves_58 : decode cX11_leastByHalves 58 = .ok (.iload 6, 2) := dq_h (dq_t (dq_t (dq_t (dq_t (dq_t (dq_t dzX11_leastByHalves_43))))))
theorem dX11_leastByHalves_60 : decode cX11_leastByHalves 60 = .ok (.iconst 1, 1) := dq_h (dq_t (dq_t (dq_t (dq_t (dq_t (dq_t (dq_t dzX11_leastByHalves_43)))))))
theorem dX11_leastByHalves_61 : decode cX11_leastByHalves 61 = .ok (.iadd, 1) := dq_h (dq_t (dq_t (dq_t (dq_t (dq_t (dq_t (dq_t (dq_t dzX11_leastByHalves_43))))))))
theorem dX11_leastByHalves_62 : decode cX11_leastByHalves 62 = .ok (.istore_n 3, 1) := dq_h (dq_t (dq_t (dq_t (dq_t (dq_t (dq_t (dq_t (dq_t (dq_t dzX11_leastByHalves_43)))))))))
theorem dX11_leastByHalves_63 : decode cX11_leastByHalves 63 = .ok (.iinc 5 1, 3) := dq_h (dq_t (dq_t (dq_t (dq_t (dq_t (dq_t (dq_t (dq_t (dq_t (dq_t dzX11_leastByHalves_43))))))))))
theorem dX11_leastByHalves_66 : decode cX11_leastByHalves 66 = .ok (.goto (-56), 3) := dq_h (dq_t (dq_t (dq_t (dq_t (dq_t (dq_t (dq_t (dq_t (dq_t (dq_t (dq_t dzX11_leastByHalves_43)))))))))))
theorem dX11_leastByHalves_69 : decode cX11_leastByHalves 69 = .ok (.iload_n 3, 1) := dq_h (dq_t (dq_t (dq_t (dq_t (dq_t (dq_t (dq_t (dq_t (dq_t (dq_t (dq_t (dq_t dzX11_leastByHalves_43))))))))))))
theorem dX11_leastByHalves_70 : decode cX11_leastByHalves 70 = .ok (.sipush 999, 3) := dq_h (dq_t (dq_t (dq_t (dq_t (dq_t (dq_t (dq_t (dq_t (dq_t (dq_t (dq_t (dq_t (dq_t dzX11_leastByHalves_43)))))))))))))
theorem dX11_leastByHalves_73 : decode cX11_leastByHalves 73 = .ok (.if_icmp .le 7, 3) := dq_h (dq_t (dq_t (dq_t (dq_t (dq_t (dq_t (dq_t (dq_t (dq_t (dq_t (dq_t (dq_t (dq_t (dq_t dzX11_leastByHalves_43))))))))))))))
theorem dX11_leastByHalves_76 : decode cX11_leastByHalves 76 = .ok (.iconst (-1), 1) := dq_h (dq_t (dq_t (dq_t (dq_t (dq_t (dq_t (dq_t (dq_t (dq_t (dq_t (dq_t (dq_t (dq_t (dq_t (dq_t dzX11_leastByHalves_43)))))))))))))))
theorem dX11_leastByHalves_77 : decode cX11_leastByHalves 77 = .ok (.goto 4, 3) := dq_h (dq_t (dq_t (dq_t (dq_t (dq_t (dq_t (dq_t (dq_t (dq_t (dq_t (dq_t (dq_t (dq_t (dq_t (dq_t (dq_t dzX11_leastByHalves_43))))))))))))))))
theorem dX11_leastByHalves_80 : decode cX11_leastByHalves 80 = .ok (.iload_n 3, 1) := dq_h (dq_t (dq_t (dq_t (dq_t (dq_t (dq_t (dq_t (dq_t (dq_t (dq_t (dq_t (dq_t (dq_t (dq_t (dq_t (dq_t (dq_t dzX11_leastByHalves_43)))))))))))))))))
theorem dX11_leastByHalves_81 : decode cX11_leastByHalves 81 = .ok (.ireturn, 1) := dq_h (dq_t (dq_t (dq_t (dq_t (dq_t (dq_t (dq_t (dq_t (dq_t (dq_t (dq_t (dq_t (dq_t (dq_t (dq_t (dq_t (dq_t (dq_t dzX11_leastByHalves_43))))))))))))))))))
theorem dzX11_mostChoice_0 : dq_F cX11_mostChoice [(0, .aload_n 0, 1), (1, .getfield 19, 3), (4, .getfield 105, 3), (7, .getfield 200, 3), (10, .iload_n 1, 1), (11, .iaload, 1), (12, .bipush 50, 2), (14, .if_icmp .ge 7, 3), (17, .iconst 0, 1), (18, .goto 4, 3), (21, .iconst 1, 1), (22, .ireturn, 1)] := dq_s 12 0 (by decide +kernel)
theorem dX11_mostChoice_0 : decode cX11_mostChoice 0 = .ok (.aload_n 0, 1) := dq_h dzX11_mostChoice_0
theorem dX11_mostChoice_1 : decode cX11_mostChoice 1 = .ok (.getfield 19, 3) := dq_h (dq_t dzX11_mostChoice_0)
theorem dX11_mostChoice_4 : decode cX11_mostChoice 4 = .ok (.getfield 105, 3) := dq_h (dq_t (dq_t dzX11_mostChoice_0))
theorem dX11_mostChoice_7 : decode cX11_mostChoice 7 = .ok (.getfield 200, 3) := dq_h (dq_t (dq_t (dq_t dzX11_mostChoice_0)))
theorem dX11_mostChoice_10 : decode cX11_mostChoice 10 = .ok (.iload_n 1, 1) := dq_h (dq_t (dq_t (dq_t (dq_t dzX11_mostChoice_0))))
theorem dX11_mostChoice_11 : decode cX11_mostChoice 11 = .ok (.iaload, 1) := dq_h (dq_t (dq_t (dq_t (dq_t (dq_t dzX11_mostChoice_0)))))
theorem dX11_mostChoice_12 : decode cX11_mostChoice 12 = .ok (.bipush 50, 2) := dq_h (dq_t (dq_t (dq_t (dq_t (dq_t (dq_t dzX11_mostChoice_0))))))
theorem dX11_mostChoice_14 : decode cX11_mostChoice 14 = .ok (.if_icmp .ge 7, 3) := dq_h (dq_t (dq_t (dq_t (dq_t (dq_t (dq_t (dq_t dzX11_mostChoice_0)))))))
theorem dX11_mostChoice_17 : decode cX11_mostChoice 17 = .ok (.iconst 0, 1) := dq_h (dq_t (dq_t (dq_t (dq_t (dq_t (dq_t (dq_t (dq_t dzX11_mostChoice_0))))))))
theorem dX11_mostChoice_18 : decode cX11_mostChoice 18 = .ok (.goto 4, 3) := dq_h (dq_t (dq_t (dq_t (dq_t (dq_t (dq_t (dq_t (dq_t (dq_t dzX11_mostChoice_0)))))))))
theorem dX11_mostChoice_21 : decode cX11_mostChoice 21 = .ok (.iconst 1, 1) := dq_h (dq_t (dq_t (dq_t (dq_t (dq_t (dq_t (dq_t (dq_t (dq_t (dq_t dzX11_mostChoice_0))))))))))
theorem dX11_mostChoice_22 : decode cX11_mostChoice 22 = .ok (.ireturn, 1) := dq_h (dq_t (dq_t (dq_t (dq_t (dq_t (dq_t (dq_t (dq_t (dq_t (dq_t (dq_t dzX11_mostChoice_0)))))))))))
theorem dzX11_isContent_0 : dq_F cX11_isContent [(0, .iconst 1, 1), (1, .iload_n 2, 1), (2, .isub, 1), (3, .istore 5, 2), (5, .iload 5, 2), (7, .aload_n 0, 1), (8, .iload_n 1, 1), (9, .invokevirtual 346, 3), (12, .if_icmp .gt 25, 3), (15, .aload_n 0, 1), (16, .iload_n 1, 1), (17, .iload 5, 2), (19, .iload_n 3, 1), (20, .iload 4, 2), (22, .invokevirtual 398, 3), (25, .aload_n 0, 1), (26, .iload_n 1, 1), (27, .iload_n 2, 1), (28, .iload_n 3, 1), (29, .iload 4, 2), (31, .invokevirtual 398, 3), (34, .if_icmp .gt 7, 3), (37, .iconst 1, 1), (38, .goto 4, 3)] := dq_s 24 0 (by decide +kernel)
theorem dX11_isContent_0 : decode cX11_isContent 0 = .ok (.iconst 1, 1) := dq_h dzX11_isContent_0
theorem dX11_isContent_1 : decode cX11_isContent 1 = .ok (.iload_n 2, 1) := dq_h (dq_t dzX11_isContent_0)
theorem dX11_isContent_2 : decode cX11_isContent 2 = .ok (.isub, 1) := dq_h (dq_t (dq_t dzX11_isContent_0))
theorem dX11_isContent_3 : decode cX11_isContent 3 = .ok (.istore 5, 2) := dq_h (dq_t (dq_t (dq_t dzX11_isContent_0)))
theorem dX11_isContent_5 : decode cX11_isContent 5 = .ok (.iload 5, 2) := dq_h (dq_t (dq_t (dq_t (dq_t dzX11_isContent_0))))
theorem dX11_isContent_7 : decode cX11_isContent 7 = .ok (.aload_n 0, 1) := dq_h (dq_t (dq_t (dq_t (dq_t (dq_t dzX11_isContent_0)))))
theorem dX11_isContent_8 : decode cX11_isContent 8 = .ok (.iload_n 1, 1) := dq_h (dq_t (dq_t (dq_t (dq_t (dq_t (dq_t dzX11_isContent_0))))))
theorem dX11_isContent_9 : decode cX11_isContent 9 = .ok (.invokevirtual 346, 3) := dq_h (dq_t (dq_t (dq_t (dq_t (dq_t (dq_t (dq_t dzX11_isContent_0)))))))
theorem dX11_isContent_12 : decode cX11_isContent 12 = .ok (.if_icmp .gt 25, 3) := dq_h (dq_t (dq_t (dq_t (dq_t (dq_t (dq_t (dq_t (dq_t dzX11_isContent_0))))))))
theorem dX11_isContent_15 : decode cX11_isContent 15 = .ok (.aload_n 0, 1) := dq_h (dq_t (dq_t (dq_t (dq_t (dq_t (dq_t (dq_t (dq_t (dq_t dzX11_isContent_0)))))))))
theorem dX11_isContent_16 : decode cX11_isContent 16 = .ok (.iload_n 1, 1) := dq_h (dq_t (dq_t (dq_t (dq_t (dq_t (dq_t (dq_t (dq_t (dq_t (dq_t dzX11_isContent_0))))))))))
theorem dX11_isContent_17 : decode cX11_isContent 17 = .ok (.iload 5, 2) := dq_h (dq_t (dq_t (dq_t (dq_t (dq_t (dq_t (dq_t (dq_t (dq_t (dq_t (dq_t dzX11_isContent_0)))))))))))
theorem dX11_isContent_19 : decode cX11_isContent 19 = .ok (.iload_n 3, 1) := dq_h (dq_t (dq_t (dq_t (dq_t (dq_t (dq_t (dq_t (dq_t (dq_t (dq_t (dq_t (dq_t dzX11_isContent_0))))))))))))
theorem dX11_isContent_20 : decode cX11_isContent 20 = .ok (.iload 4, 2) := dq_h (dq_t (dq_t (dq_t (dq_t (dq_t (dq_t (dq_t (dq_t (dq_t (dq_t (dq_t (dq_t (dq_t dzX11_isContent_0)))))))))))))
theorem dX11_isContent_22 : decode cX11_isContent 22 = .ok (.invokevirtual 398, 3) := dq_h (dq_t (dq_t (dq_t (dq_t (dq_t (dq_t (dq_t (dq_t (dq_t (dq_t (dq_t (dq_t (dq_t (dq_t dzX11_isContent_0))))))))))))))
theorem dX11_isContent_25 : decode cX11_isContent 25 = .ok (.aload_n 0, 1) := dq_h (dq_t (dq_t (dq_t (dq_t (dq_t (dq_t (dq_t (dq_t (dq_t (dq_t (dq_t (dq_t (dq_t (dq_t (dq_t dzX11_isContent_0)))))))))))))))
theorem dX11_isContent_26 : decode cX11_isContent 26 = .ok (.iload_n 1, 1) := dq_h (dq_t (dq_t (dq_t (dq_t (dq_t (dq_t (dq_t (dq_t (dq_t (dq_t (dq_t (dq_t (dq_t (dq_t (dq_t (dq_t dzX11_isContent_0))))))))))))))))
theorem dX11_isContent_27 : decode cX11_isContent 27 = .ok (.iload_n 2, 1) := dq_h (dq_t (dq_t (dq_t (dq_t (dq_t (dq_t (dq_t (dq_t (dq_t (dq_t (dq_t (dq_t (dq_t (dq_t (dq_t (dq_t (dq_t dzX11_isContent_0)))))))))))))))))
theorem dX11_isContent_28 : decode cX11_isContent 28 = .ok (.iload_n 3, 1) := dq_h (dq_t (dq_t (dq_t (dq_t (dq_t (dq_t (dq_t (dq_t (dq_t (dq_t (dq_t (dq_t (dq_t (dq_t (dq_t (dq_t (dq_t (dq_t dzX11_isContent_0))))))))))))))))))
theorem dX11_isContent_29 : decode cX11_isContent 29 = .ok (.iload 4, 2) := dq_h (dq_t (dq_t (dq_t (dq_t (dq_t (dq_t (dq_t (dq_t (dq_t (dq_t (dq_t (dq_t (dq_t (dq_t (dq_t (dq_t (dq_t (dq_t (dq_t dzX11_isContent_0)))))))))))))))))))
theorem dX11_isContent_31 : decode cX11_isContent 31 = .ok (.invokevirtual 398, 3) := dq_h (dq_t (dq_t (dq_t (dq_t (dq_t (dq_t (dq_t (dq_t (dq_t (dq_t (dq_t (dq_t (dq_t (dq_t (dq_t (dq_t (dq_t (dq_t (dq_t (dq_t dzX11_isContent_0))))))))))))))))))))
theorem dX11_isContent_34 : decode cX11_isContent 34 = .ok (.if_icmp .gt 7, 3) := dq_h (dq_t (dq_t (dq_t (dq_t (dq_t (dq_t (dq_t (dq_t (dq_t (dq_t (dq_t (dq_t (dq_t (dq_t (dq_t (dq_t (dq_t (dq_t (dq_t (dq_t (dq_t dzX11_isContent_0)))))))))))))))))))))
theorem dX11_isContent_37 : decode cX11_isContent 37 = .ok (.iconst 1, 1) := dq_h (dq_t (dq_t (dq_t (dq_t (dq_t (dq_t (dq_t (dq_t (dq_t (dq_t (dq_t (dq_t (dq_t (dq_t (dq_t (dq_t (dq_t (dq_t (dq_t (dq_t (dq_t (dq_t dzX11_isContent_0))))))))))))))))))))))
theorem dX11_isContent_38 : decode cX11_isContent 38 = .ok (.goto 4, 3) := dq_h (dq_t (dq_t (dq_t (dq_t (dq_t (dq_t (dq_t (dq_t (dq_t (dq_t (dq_t (dq_t (dq_t (dq_t (dq_t (dq_t (dq_t (dq_t (dq_t (dq_t (dq_t (dq_t (dq_t dzX11_isContent_0)))))))))))))))))))))))
theorem dzX11_isContent_41 : dq_F cX11_isContent [(41, .iconst 0, 1), (42, .ireturn, 1)] := dq_s 2 41 (by decide +kernel)
theorem dX11_isContent_41 : decode cX11_isContent 41 = .ok (.iconst 0, 1) := dq_h dzX11_isContent_41
theorem dX11_isContent_42 : decode cX11_isContent 42 = .ok (.ireturn, 1) := dq_h (dq_t dzX11_isContent_41)
theorem dzX11_gain_0 : dq_F cX11_gain [(0, .iconst 5, 1), (1, .aload_n 0, 1), (2, .iload_n 1, 1), (3, .iload_n 2, 1), (4, .invokevirtual 402, 3), (7, .imul, 1), (8, .bipush 6, 2), (10, .iload_n 2, 1), (11, .imul, 1), (12, .isub, 1), (13, .iconst 3, 1), (14, .aload_n 0, 1), (15, .iload_n 3, 1), (16, .iload 4, 2), (18, .invokevirtual 402, 3), (21, .imul, 1), (22, .isub, 1), (23, .ireturn, 1)] := dq_s 18 0 (by decide +kernel)
theorem dX11_gain_0 : decode cX11_gain 0 = .ok (.iconst 5, 1) := dq_h dzX11_gain_0
theorem dX11_gain_1 : decode cX11_gain 1 = .ok (.aload_n 0, 1) := dq_h (dq_t dzX11_gain_0)
theorem dX11_gain_2 : decode cX11_gain 2 = .ok (.iload_n 1, 1) := dq_h (dq_t (dq_t dzX11_gain_0))
theorem dX11_gain_3 : decode cX11_gain 3 = .ok (.iload_n 2, 1) := dq_h (dq_t (dq_t (dq_t dzX11_gain_0)))
theorem dX11_gain_4 : decode cX11_gain 4 = .ok (.invokevirtual 402, 3) := dq_h (dq_t (dq_t (dq_t (dq_t dzX11_gain_0))))
theorem dX11_gain_7 : decode cX11_gain 7 = .ok (.imul, 1) := dq_h (dq_t (dq_t (dq_t (dq_t (dq_t dzX11_gain_0)))))
theorem dX11_gain_8 : decode cX11_gain 8 = .ok (.bipush 6, 2) := dq_h (dq_t (dq_t (dq_t (dq_t (dq_t (dq_t dzX11_gain_0))))))
theorem dX11_gain_10 : decode cX11_gain 10 = .ok (.iload_n 2, 1) := dq_h (dq_t (dq_t (dq_t (dq_t (dq_t (dq_t (dq_t dzX11_gain_0)))))))
theorem dX11_gain_11 : decode cX11_gain 11 = .ok (.imul, 1) := dq_h (dq_t (dq_t (dq_t (dq_t (dq_t (dq_t (dq_t (dq_t dzX11_gain_0))))))))
theorem dX11_gain_12 : decode cX11_gain 12 = .ok (.isub, 1) := dq_h (dq_t (dq_t (dq_t (dq_t (dq_t (dq_t (dq_t (dq_t (dq_t dzX11_gain_0)))))))))
theorem dX11_gain_13 : decode cX11_gain 13 = .ok (.iconst 3, 1) := dq_h (dq_t (dq_t (dq_t (dq_t (dq_t (dq_t (dq_t (dq_t (dq_t (dq_t dzX11_gain_0))))))))))
theorem dX11_gain_14 : decode cX11_gain 14 = .ok (.aload_n 0, 1) := dq_h (dq_t (dq_t (dq_t (dq_t (dq_t (dq_t (dq_t (dq_t (dq_t (dq_t (dq_t dzX11_gain_0)))))))))))
theorem dX11_gain_15 : decode cX11_gain 15 = .ok (.iload_n 3, 1) := dq_h (dq_t (dq_t (dq_t (dq_t (dq_t (dq_t (dq_t (dq_t (dq_t (dq_t (dq_t (dq_t dzX11_gain_0))))))))))))
theorem dX11_gain_16 : decode cX11_gain 16 = .ok (.iload 4, 2) := dq_h (dq_t (dq_t (dq_t (dq_t (dq_t (dq_t (dq_t (dq_t (dq_t (dq_t (dq_t (dq_t (dq_t dzX11_gain_0)))))))))))))
theorem dX11_gain_18 : decode cX11_gain 18 = .ok (.invokevirtual 402, 3) := dq_h (dq_t (dq_t (dq_t (dq_t (dq_t (dq_t (dq_t (dq_t (dq_t (dq_t (dq_t (dq_t (dq_t (dq_t dzX11_gain_0))))))))))))))
theorem dX11_gain_21 : decode cX11_gain 21 = .ok (.imul, 1) := dq_h (dq_t (dq_t (dq_t (dq_t (dq_t (dq_t (dq_t (dq_t (dq_t (dq_t (dq_t (dq_t (dq_t (dq_t (dq_t dzX11_gain_0)))))))))))))))
theorem dX11_gain_22 : decode cX11_gain 22 = .ok (.isub, 1) := dq_h (dq_t (dq_t (dq_t (dq_t (dq_t (dq_t (dq_t (dq_t (dq_t (dq_t (dq_t (dq_t (dq_t (dq_t (dq_t (dq_t dzX11_gain_0))))))))))))))))
theorem dX11_gain_23 : decode cX11_gain 23 = .ok (.ireturn, 1) := dq_h (dq_t (dq_t (dq_t (dq_t (dq_t (dq_t (dq_t (dq_t (dq_t (dq_t (dq_t (dq_t (dq_t (dq_t (dq_t (dq_t (dq_t dzX11_gain_0)))))))))))))))))
theorem dzX11_quietHours_0 : dq_F cX11_quietHours [(0, .aload_n 0, 1), (1, .getfield 36, 3), (4, .aload_n 0, 1), (5, .getfield 57, 3), (8, .aload_n 0, 1), (9, .getfield 19, 3), (12, .getfield 105, 3), (15, .iload_n 1, 1), (16, .invokevirtual 243, 3), (19, .iload_n 2, 1), (20, .iconst 1, 1), (21, .if_icmp .ne 10, 3), (24, .aload_n 0, 1), (25, .getfield 36, 3), (28, .invokevirtual 322, 3), (31, .iconst 0, 1), (32, .istore_n 3, 1), (33, .iconst 0, 1), (34, .istore 4, 2), (36, .iload 4, 2), (38, .bipush 8, 2), (40, .if_icmp .ge 40, 3), (43, .aload_n 0, 1), (44, .getfield 36, 3)] := dq_s 24 0 (by decide +kernel)
theorem dX11_quietHours_0 : decode cX11_quietHours 0 = .ok (.aload_n 0, 1) := dq_h dzX11_quietHours_0
theorem dX11_quietHours_1 : decode cX11_quietHours 1 = .ok (.getfield 36, 3) := dq_h (dq_t dzX11_quietHours_0)
theorem dX11_quietHours_4 : decode cX11_quietHours 4 = .ok (.aload_n 0, 1) := dq_h (dq_t (dq_t dzX11_quietHours_0))
theorem dX11_quietHours_5 : decode cX11_quietHours 5 = .ok (.getfield 57, 3) := dq_h (dq_t (dq_t (dq_t dzX11_quietHours_0)))
theorem dX11_quietHours_8 : decode cX11_quietHours 8 = .ok (.aload_n 0, 1) := dq_h (dq_t (dq_t (dq_t (dq_t dzX11_quietHours_0))))
theorem dX11_quietHours_9 : decode cX11_quietHours 9 = .ok (.getfield 19, 3) := dq_h (dq_t (dq_t (dq_t (dq_t (dq_t dzX11_quietHours_0)))))
theorem dX11_quietHours_12 : decode cX11_quietHours 12 = .ok (.getfield 105, 3) := dq_h (dq_t (dq_t (dq_t (dq_t (dq_t (dq_t dzX11_quietHours_0))))))
theorem dX11_quietHours_15 : decode cX11_quietHours 15 = .ok (.iload_n 1, 1) := dq_h (dq_t (dq_t (dq_t (dq_t (dq_t (dq_t (dq_t dzX11_quietHours_0)))))))
theorem dX11_quietHours_16 : decode cX11_quietHours 16 = .ok (.invokevirtual 243, 3) := dq_h (dq_t (dq_t (dq_t (dq_t (dq_t (dq_t (dq_t (dq_t dzX11_quietHours_0))))))))
theorem dX11_quietHours_19 : decode cX11_quietHours 19 = .ok (.iload_n 2, 1) := dq_h (dq_t (dq_t (dq_t (dq_t (dq_t (dq_t (dq_t (dq_t (dq_t dzX11_quietHours_0)))))))))
theorem dX11_quietHours_20 : decode cX11_quietHours 20 = .ok (.iconst 1, 1) := dq_h (dq_t (dq_t (dq_t (dq_t (dq_t (dq_t (dq_t (dq_t (dq_t (dq_t dzX11_quietHours_0))))))))))
theorem dX11_quietHours_21 : decode cX11_quietHours 21 = .ok (.if_icmp .ne 10, 3) := dq_h (dq_t (dq_t (dq_t (dq_t (dq_t (dq_t (dq_t (dq_t (dq_t (dq_t (dq_t dzX11_quietHours_0)))))))))))
theorem dX11_quietHours_24 : decode cX11_quietHours 24 = .ok (.aload_n 0, 1) := dq_h (dq_t (dq_t (dq_t (dq_t (dq_t (dq_t (dq_t (dq_t (dq_t (dq_t (dq_t (dq_t dzX11_quietHours_0))))))))))))
theorem dX11_quietHours_25 : decode cX11_quietHours 25 = .ok (.getfield 36, 3) := dq_h (dq_t (dq_t (dq_t (dq_t (dq_t (dq_t (dq_t (dq_t (dq_t (dq_t (dq_t (dq_t (dq_t dzX11_quietHours_0)))))))))))))
theorem dX11_quietHours_28 : decode cX11_quietHours 28 = .ok (.invokevirtual 322, 3) := dq_h (dq_t (dq_t (dq_t (dq_t (dq_t (dq_t (dq_t (dq_t (dq_t (dq_t (dq_t (dq_t (dq_t (dq_t dzX11_quietHours_0))))))))))))))
theorem dX11_quietHours_31 : decode cX11_quietHours 31 = .ok (.iconst 0, 1) := dq_h (dq_t (dq_t (dq_t (dq_t (dq_t (dq_t (dq_t (dq_t (dq_t (dq_t (dq_t (dq_t (dq_t (dq_t (dq_t dzX11_quietHours_0)))))))))))))))
theorem dX11_quietHours_32 : decode cX11_quietHours 32 = .ok (.istore_n 3, 1) := dq_h (dq_t (dq_t (dq_t (dq_t (dq_t (dq_t (dq_t (dq_t (dq_t (dq_t (dq_t (dq_t (dq_t (dq_t (dq_t (dq_t dzX11_quietHours_0))))))))))))))))
theorem dX11_quietHours_33 : decode cX11_quietHours 33 = .ok (.iconst 0, 1) := dq_h (dq_t (dq_t (dq_t (dq_t (dq_t (dq_t (dq_t (dq_t (dq_t (dq_t (dq_t (dq_t (dq_t (dq_t (dq_t (dq_t (dq_t dzX11_quietHours_0)))))))))))))))))
theorem dX11_quietHours_34 : decode cX11_quietHours 34 = .ok (.istore 4, 2) := dq_h (dq_t (dq_t (dq_t (dq_t (dq_t (dq_t (dq_t (dq_t (dq_t (dq_t (dq_t (dq_t (dq_t (dq_t (dq_t (dq_t (dq_t (dq_t dzX11_quietHours_0))))))))))))))))))
theorem dX11_quietHours_36 : decode cX11_quietHours 36 = .ok (.iload 4, 2) := dq_h (dq_t (dq_t (dq_t (dq_t (dq_t (dq_t (dq_t (dq_t (dq_t (dq_t (dq_t (dq_t (dq_t (dq_t (dq_t (dq_t (dq_t (dq_t (dq_t dzX11_quietHours_0)))))))))))))))))))
theorem dX11_quietHours_38 : decode cX11_quietHours 38 = .ok (.bipush 8, 2) := dq_h (dq_t (dq_t (dq_t (dq_t (dq_t (dq_t (dq_t (dq_t (dq_t (dq_t (dq_t (dq_t (dq_t (dq_t (dq_t (dq_t (dq_t (dq_t (dq_t (dq_t dzX11_quietHours_0))))))))))))))))))))
theorem dX11_quietHours_40 : decode cX11_quietHours 40 = .ok (.if_icmp .ge 40, 3) := dq_h (dq_t (dq_t (dq_t (dq_t (dq_t (dq_t (dq_t (dq_t (dq_t (dq_t (dq_t (dq_t (dq_t (dq_t (dq_t (dq_t (dq_t (dq_t (dq_t (dq_t (dq_t dzX11_quietHours_0)))))))))))))))))))))
theorem dX11_quietHours_43 : decode cX11_quietHours 43 = .ok (.aload_n 0, 1) := dq_h (dq_t (dq_t (dq_t (dq_t (dq_t (dq_t (dq_t (dq_t (dq_t (dq_t (dq_t (dq_t (dq_t (dq_t (dq_t (dq_t (dq_t (dq_t (dq_t (dq_t (dq_t (dq_t dzX11_quietHours_0))))))))))))))))))))))
theorem dX11_quietHours_44 : decode cX11_quietHours 44 = .ok (.getfield 36, 3) := dq_h (dq_t (dq_t (dq_t (dq_t (dq_t (dq_t (dq_t (dq_t (dq_t (dq_t (dq_t (dq_t (dq_t (dq_t (dq_t (dq_t (dq_t (dq_t (dq_t (dq_t (dq_t (dq_t (dq_t dzX11_quietHours_0)))))))))))))))))))))))
theorem dzX11_quietHours_47 : dq_F cX11_quietHours [(47, .aload_n 0, 1), (48, .getfield 57, 3), (51, .aload_n 0, 1), (52, .getfield 57, 3), (55, .aload_n 0, 1), (56, .getfield 36, 3), (59, .getfield 261, 3), (62, .invokevirtual 117, 3), (65, .invokevirtual 262, 3), (68, .ifCond .ne 6, 3), (71, .iinc 3 1, 3), (74, .iinc 4 1, 3), (77, .goto (-41), 3), (80, .iload_n 3, 1), (81, .ireturn, 1)] := dq_s 15 47 (by decide +kernel)
theorem dX11_quietHours_47 : decode cX11_quietHours 47 = .ok (.aload_n 0, 1) := dq_h dzX11_quietHours_47
theorem dX11_quietHours_48 : decode cX11_quietHours 48 = .ok (.getfield 57, 3) := dq_h (dq_t dzX11_quietHours_47)
theorem dX11_quietHours_51 : decode cX11_quietHours 51 = .ok (.aload_n 0, 1) := dq_h (dq_t (dq_t dzX11_quietHours_47))
theorem dX11_quietHours_52 : decode cX11_quietHours 52 = .ok (.getfield 57, 3) := dq_h (dq_t (dq_t (dq_t dzX11_quietHours_47)))
theorem dX11_quietHours_55 : decode cX11_quietHours 55 = .ok (.aload_n 0, 1) := dq_h (dq_t (dq_t (dq_t (dq_t dzX11_quietHours_47))))
theorem dX11_quietHours_56 : decode cX11_quietHours 56 = .ok (.getfield 36, 3) := dq_h (dq_t (dq_t (dq_t (dq_t (dq_t dzX11_quietHours_47)))))
theorem dX11_quietHours_59 : decode cX11_quietHours 59 = .ok (.getfield 261, 3) := dq_h (dq_t (dq_t (dq_t (dq_t (dq_t (dq_t dzX11_quietHours_47))))))
theorem dX11_quietHours_62 : decode cX11_quietHours 62 = .ok (.invokevirtual 117, 3) := dq_h (dq_t (dq_t (dq_t (dq_t (dq_t (dq_t (dq_t dzX11_quietHours_47)))))))
theorem dX11_quietHours_65 : decode cX11_quietHours 65 = .ok (.invokevirtual 262, 3) := dq_h (dq_t (dq_t (dq_t (dq_t (dq_t (dq_t (dq_t (dq_t dzX11_quietHours_47))))))))
theorem dX11_quietHours_68 : decode cX11_quietHours 68 = .ok (.ifCond .ne 6, 3) := dq_h (dq_t (dq_t (dq_t (dq_t (dq_t (dq_t (dq_t (dq_t (dq_t dzX11_quietHours_47)))))))))
theorem dX11_quietHours_71 : decode cX11_quietHours 71 = .ok (.iinc 3 1, 3) := dq_h (dq_t (dq_t (dq_t (dq_t (dq_t (dq_t (dq_t (dq_t (dq_t (dq_t dzX11_quietHours_47))))))))))
theorem dX11_quietHours_74 : decode cX11_quietHours 74 = .ok (.iinc 4 1, 3) := dq_h (dq_t (dq_t (dq_t (dq_t (dq_t (dq_t (dq_t (dq_t (dq_t (dq_t (dq_t dzX11_quietHours_47)))))))))))
theorem dX11_quietHours_77 : decode cX11_quietHours 77 = .ok (.goto (-41), 3) := dq_h (dq_t (dq_t (dq_t (dq_t (dq_t (dq_t (dq_t (dq_t (dq_t (dq_t (dq_t (dq_t dzX11_quietHours_47))))))))))))
theorem dX11_quietHours_80 : decode cX11_quietHours 80 = .ok (.iload_n 3, 1) := dq_h (dq_t (dq_t (dq_t (dq_t (dq_t (dq_t (dq_t (dq_t (dq_t (dq_t (dq_t (dq_t (dq_t dzX11_quietHours_47)))))))))))))
theorem dX11_quietHours_81 : decode cX11_quietHours 81 = .ok (.ireturn, 1) := dq_h (dq_t (dq_t (dq_t (dq_t (dq_t (dq_t (dq_t (dq_t (dq_t (dq_t (dq_t (dq_t (dq_t (dq_t dzX11_quietHours_47))))))))))))))
theorem dzX11_draw_0 : dq_F cX11_draw [(0, .aload_n 0, 1), (1, .aload_n 0, 1), (2, .getfield 65, 3), (5, .ldc_w 405, 3), (8, .imul, 1), (9, .sipush 12345, 3), (12, .iadd, 1), (13, .putfield 65, 3), (16, .iload_n 1, 1), (17, .iconst 1, 1), (18, .if_icmp .ge 7, 3), (21, .iconst 0, 1), (22, .goto 16, 3), (25, .aload_n 0, 1), (26, .getfield 65, 3), (29, .bipush 16, 2), (31, .iushr, 1), (32, .sipush 32767, 3), (35, .iand, 1), (36, .iload_n 1, 1), (37, .irem, 1), (38, .ireturn, 1)] := dq_s 22 0 (by decide +kernel)
theorem dX11_draw_0 : decode cX11_draw 0 = .ok (.aload_n 0, 1) := dq_h dzX11_draw_0
theorem dX11_draw_1 : decode cX11_draw 1 = .ok (.aload_n 0, 1) := dq_h (dq_t dzX11_draw_0)
theorem dX11_draw_2 : decode cX11_draw 2 = .ok (.getfield 65, 3) := dq_h (dq_t (dq_t dzX11_draw_0))
theorem dX11_draw_5 : decode cX11_draw 5 = .ok (.ldc_w 405, 3) := dq_h (dq_t (dq_t (dq_t dzX11_draw_0)))
theorem dX11_draw_8 : decode cX11_draw 8 = .ok (.imul, 1) := dq_h (dq_t (dq_t (dq_t (dq_t dzX11_draw_0))))
theorem dX11_draw_9 : decode cX11_draw 9 = .ok (.sipush 12345, 3) := dq_h (dq_t (dq_t (dq_t (dq_t (dq_t dzX11_draw_0)))))
theorem dX11_draw_12 : decode cX11_draw 12 = .ok (.iadd, 1) := dq_h (dq_t (dq_t (dq_t (dq_t (dq_t (dq_t dzX11_draw_0))))))
theorem dX11_draw_13 : decode cX11_draw 13 = .ok (.putfield 65, 3) := dq_h (dq_t (dq_t (dq_t (dq_t (dq_t (dq_t (dq_t dzX11_draw_0)))))))
theorem dX11_draw_16 : decode cX11_draw 16 = .ok (.iload_n 1, 1) := dq_h (dq_t (dq_t (dq_t (dq_t (dq_t (dq_t (dq_t (dq_t dzX11_draw_0))))))))
theorem dX11_draw_17 : decode cX11_draw 17 = .ok (.iconst 1, 1) := dq_h (dq_t (dq_t (dq_t (dq_t (dq_t (dq_t (dq_t (dq_t (dq_t dzX11_draw_0)))))))))
theorem dX11_draw_18 : decode cX11_draw 18 = .ok (.if_icmp .ge 7, 3) := dq_h (dq_t (dq_t (dq_t (dq_t (dq_t (dq_t (dq_t (dq_t (dq_t (dq_t dzX11_draw_0))))))))))
theorem dX11_draw_21 : decode cX11_draw 21 = .ok (.iconst 0, 1) := dq_h (dq_t (dq_t (dq_t (dq_t (dq_t (dq_t (dq_t (dq_t (dq_t (dq_t (dq_t dzX11_draw_0)))))))))))
theorem dX11_draw_22 : decode cX11_draw 22 = .ok (.goto 16, 3) := dq_h (dq_t (dq_t (dq_t (dq_t (dq_t (dq_t (dq_t (dq_t (dq_t (dq_t (dq_t (dq_t dzX11_draw_0))))))))))))
theorem dX11_draw_25 : decode cX11_draw 25 = .ok (.aload_n 0, 1) := dq_h (dq_t (dq_t (dq_t (dq_t (dq_t (dq_t (dq_t (dq_t (dq_t (dq_t (dq_t (dq_t (dq_t dzX11_draw_0)))))))))))))
theorem dX11_draw_26 : decode cX11_draw 26 = .ok (.getfield 65, 3) := dq_h (dq_t (dq_t (dq_t (dq_t (dq_t (dq_t (dq_t (dq_t (dq_t (dq_t (dq_t (dq_t (dq_t (dq_t dzX11_draw_0))))))))))))))
theorem dX11_draw_29 : decode cX11_draw 29 = .ok (.bipush 16, 2) := dq_h (dq_t (dq_t (dq_t (dq_t (dq_t (dq_t (dq_t (dq_t (dq_t (dq_t (dq_t (dq_t (dq_t (dq_t (dq_t dzX11_draw_0)))))))))))))))
theorem dX11_draw_31 : decode cX11_draw 31 = .ok (.iushr, 1) := dq_h (dq_t (dq_t (dq_t (dq_t (dq_t (dq_t (dq_t (dq_t (dq_t (dq_t (dq_t (dq_t (dq_t (dq_t (dq_t (dq_t dzX11_draw_0))))))))))))))))
theorem dX11_draw_32 : decode cX11_draw 32 = .ok (.sipush 32767, 3) := dq_h (dq_t (dq_t (dq_t (dq_t (dq_t (dq_t (dq_t (dq_t (dq_t (dq_t (dq_t (dq_t (dq_t (dq_t (dq_t (dq_t (dq_t dzX11_draw_0)))))))))))))))))
theorem dX11_draw_35 : decode cX11_draw 35 = .ok (.iand, 1) := dq_h (dq_t (dq_t (dq_t (dq_t (dq_t (dq_t (dq_t (dq_t (dq_t (dq_t (dq_t (dq_t (dq_t (dq_t (dq_t (dq_t (dq_t (dq_t dzX11_draw_0))))))))))))))))))
theorem dX11_draw_36 : decode cX11_draw 36 = .ok (.iload_n 1, 1) := dq_h (dq_t (dq_t (dq_t (dq_t (dq_t (dq_t (dq_t (dq_t (dq_t (dq_t (dq_t (dq_t (dq_t (dq_t (dq_t (dq_t (dq_t (dq_t (dq_t dzX11_draw_0)))))))))))))))))))
theorem dX11_draw_37 : decode cX11_draw 37 = .ok (.irem, 1) := dq_h (dq_t (dq_t (dq_t (dq_t (dq_t (dq_t (dq_t (dq_t (dq_t (dq_t (dq_t (dq_t (dq_t (dq_t (dq_t (dq_t (dq_t (dq_t (dq_t (dq_t dzX11_draw_0))))))))))))))))))))
theorem dX11_draw_38 : decode cX11_draw 38 = .ok (.ireturn, 1) := dq_h (dq_t (dq_t (dq_t (dq_t (dq_t (dq_t (dq_t (dq_t (dq_t (dq_t (dq_t (dq_t (dq_t (dq_t (dq_t (dq_t (dq_t (dq_t (dq_t (dq_t (dq_t dzX11_draw_0)))))))))))))))))))))
theorem dzX11_chance_0 : dq_F cX11_chance [(0, .aload_n 0, 1), (1, .getfield 57, 3), (4, .getfield 111, 3), (7, .ifCond .eq 13, 3), (10, .aload_n 0, 1), (11, .getfield 57, 3), (14, .getfield 108, 3), (17, .ifCond .ne 4, 3), (20, .return_, 1), (21, .iload_n 1, 1), (22, .ifCond .ne 56, 3), (25, .aload_n 0, 1), (26, .aload_n 0, 1), (27, .getfield 57, 3), (30, .getfield 111, 3), (33, .invokevirtual 357, 3), (36, .istore_n 2, 1), (37, .aload_n 0, 1), (38, .aload_n 0, 1), (39, .getfield 57, 3), (42, .getfield 108, 3), (45, .invokevirtual 357, 3), (48, .istore_n 3, 1), (49, .aload_n 0, 1)] := dq_s 24 0 (by decide +kernel)
theorem dX11_chance_0 : decode cX11_chance 0 = .ok (.aload_n 0, 1) := dq_h dzX11_chance_0
theorem dX11_chance_1 : decode cX11_chance 1 = .ok (.getfield 57, 3) := dq_h (dq_t dzX11_chance_0)
theorem dX11_chance_4 : decode cX11_chance 4 = .ok (.getfield 111, 3) := dq_h (dq_t (dq_t dzX11_chance_0))
theorem dX11_chance_7 : decode cX11_chance 7 = .ok (.ifCond .eq 13, 3) := dq_h (dq_t (dq_t (dq_t dzX11_chance_0)))
theorem dX11_chance_10 : decode cX11_chance 10 = .ok (.aload_n 0, 1) := dq_h (dq_t (dq_t (dq_t (dq_t dzX11_chance_0))))
theorem dX11_chance_11 : decode cX11_chance 11 = .ok (.getfield 57, 3) := dq_h (dq_t (dq_t (dq_t (dq_t (dq_t dzX11_chance_0)))))
theorem dX11_chance_14 : decode cX11_chance 14 = .ok (.getfield 108, 3) := dq_h (dq_t (dq_t (dq_t (dq_t (dq_t (dq_t dzX11_chance_0))))))
theorem dX11_chance_17 : decode cX11_chance 17 = .ok (.ifCond .ne 4, 3) := dq_h (dq_t (dq_t (dq_t (dq_t (dq_t (dq_t (dq_t dzX11_chance_0)))))))
theorem dX11_chance_20 : decode cX11_chance 20 = .ok (.return_, 1) := dq_h (dq_t (dq_t (dq_t (dq_t (dq_t (dq_t (dq_t (dq_t dzX11_chance_0))))))))
theorem dX11_chance_21 : decode cX11_chance 21 = .ok (.iload_n 1, 1) := dq_h (dq_t (dq_t (dq_t (dq_t (dq_t (dq_t (dq_t (dq_t (dq_t dzX11_chance_0)))))))))
theorem dX11_chance_22 : decode cX11_chance 22 = .ok (.ifCond .ne 56, 3) := dq_h (dq_t (dq_t (dq_t (dq_t (dq_t (dq_t (dq_t (dq_t (dq_t (dq_t dzX11_chance_0))))))))))
theorem dX11_chance_25 : decode cX11_chance 25 = .ok (.aload_n 0, 1) := dq_h (dq_t (dq_t (dq_t (dq_t (dq_t (dq_t (dq_t (dq_t (dq_t (dq_t (dq_t dzX11_chance_0)))))))))))
theorem dX11_chance_26 : decode cX11_chance 26 = .ok (.aload_n 0, 1) := dq_h (dq_t (dq_t (dq_t (dq_t (dq_t (dq_t (dq_t (dq_t (dq_t (dq_t (dq_t (dq_t dzX11_chance_0))))))))))))
theorem dX11_chance_27 : decode cX11_chance 27 = .ok (.getfield 57, 3) := dq_h (dq_t (dq_t (dq_t (dq_t (dq_t (dq_t (dq_t (dq_t (dq_t (dq_t (dq_t (dq_t (dq_t dzX11_chance_0)))))))))))))
theorem dX11_chance_30 : decode cX11_chance 30 = .ok (.getfield 111, 3) := dq_h (dq_t (dq_t (dq_t (dq_t (dq_t (dq_t (dq_t (dq_t (dq_t (dq_t (dq_t (dq_t (dq_t (dq_t dzX11_chance_0))))))))))))))
theorem dX11_chance_33 : decode cX11_chance 33 = .ok (.invokevirtual 357, 3) := dq_h (dq_t (dq_t (dq_t (dq_t (dq_t (dq_t (dq_t (dq_t (dq_t (dq_t (dq_t (dq_t (dq_t (dq_t (dq_t dzX11_chance_0)))))))))))))))
theorem dX11_chance_36 : decode cX11_chance 36 = .ok (.istore_n 2, 1) := dq_h (dq_t (dq_t (dq_t (dq_t (dq_t (dq_t (dq_t (dq_t (dq_t (dq_t (dq_t (dq_t (dq_t (dq_t (dq_t (dq_t dzX11_chance_0))))))))))))))))
theorem dX11_chance_37 : decode cX11_chance 37 = .ok (.aload_n 0, 1) := dq_h (dq_t (dq_t (dq_t (dq_t (dq_t (dq_t (dq_t (dq_t (dq_t (dq_t (dq_t (dq_t (dq_t (dq_t (dq_t (dq_t (dq_t dzX11_chance_0)))))))))))))))))
theorem dX11_chance_38 : decode cX11_chance 38 = .ok (.aload_n 0, 1) := dq_h (dq_t (dq_t (dq_t (dq_t (dq_t (dq_t (dq_t (dq_t (dq_t (dq_t (dq_t (dq_t (dq_t (dq_t (dq_t (dq_t (dq_t (dq_t dzX11_chance_0))))))))))))))))))
theorem dX11_chance_39 : decode cX11_chance 39 = .ok (.getfield 57, 3) := dq_h (dq_t (dq_t (dq_t (dq_t (dq_t (dq_t (dq_t (dq_t (dq_t (dq_t (dq_t (dq_t (dq_t (dq_t (dq_t (dq_t (dq_t (dq_t (dq_t dzX11_chance_0)))))))))))))))))))
theorem dX11_chance_42 : decode cX11_chance 42 = .ok (.getfield 108, 3) := dq_h (dq_t (dq_t (dq_t (dq_t (dq_t (dq_t (dq_t (dq_t (dq_t (dq_t (dq_t (dq_t (dq_t (dq_t (dq_t (dq_t (dq_t (dq_t (dq_t (dq_t dzX11_chance_0))))))))))))))))))))
theorem dX11_chance_45 : decode cX11_chance 45 = .ok (.invokevirtual 357, 3) := dq_h (dq_t (dq_t (dq_t (dq_t (dq_t (dq_t (dq_t (dq_t (dq_t (dq_t (dq_t (dq_t (dq_t (dq_t (dq_t (dq_t (dq_t (dq_t (dq_t (dq_t (dq_t dzX11_chance_0)))))))))))))))))))))
theorem dX11_chance_48 : decode cX11_chance 48 = .ok (.istore_n 3, 1) := dq_h (dq_t (dq_t (dq_t (dq_t (dq_t (dq_t (dq_t (dq_t (dq_t (dq_t (dq_t (dq_t (dq_t (dq_t (dq_t (dq_t (dq_t (dq_t (dq_t (dq_t (dq_t (dq_t dzX11_chance_0))))))))))))))))))))))
theorem dX11_chance_49 : decode cX11_chance 49 = .ok (.aload_n 0, 1) := dq_h (dq_t (dq_t (dq_t (dq_t (dq_t (dq_t (dq_t (dq_t (dq_t (dq_t (dq_t (dq_t (dq_t (dq_t (dq_t (dq_t (dq_t (dq_t (dq_t (dq_t (dq_t (dq_t (dq_t dzX11_chance_0)))))))))))))))))))))))
theorem dzX11_chance_50 : dq_F cX11_chance [(50, .getfield 29, 3), (53, .aload_n 0, 1), (54, .getfield 57, 3), (57, .iload_n 3, 1), (58, .invokevirtual 182, 3), (61, .iconst (-1), 1), (62, .if_icmp .ne 13, 3), (65, .aload_n 0, 1), (66, .getfield 29, 3), (69, .getfield 206, 3), (72, .iload_n 2, 1), (73, .iload_n 3, 1), (74, .iastore, 1), (75, .goto 54, 3), (78, .iload_n 1, 1), (79, .iconst 1, 1), (80, .if_icmp .ne 24, 3), (83, .aload_n 0, 1), (84, .getfield 29, 3), (87, .aload_n 0, 1), (88, .aload_n 0, 1), (89, .getfield 57, 3), (92, .getfield 108, 3), (95, .invokevirtual 357, 3)] := dq_s 24 50 (by decide +kernel)
theorem dX11_chance_50 : decode cX11_chance 50 = .ok (.getfield 29, 3) := dq_h dzX11_chance_50
theorem dX11_chance_53 : decode cX11_chance 53 = .ok (.aload_n 0, 1) := dq_h (dq_t dzX11_chance_50)
theorem dX11_chance_54 : decode cX11_chance 54 = .ok (.getfield 57, 3) := dq_h (dq_t (dq_t dzX11_chance_50))
theorem dX11_chance_57 : decode cX11_chance 57 = .ok (.iload_n 3, 1) := dq_h (dq_t (dq_t (dq_t dzX11_chance_50)))
theorem dX11_chance_58 : decode cX11_chance 58 = .ok (.invokevirtual 182, 3) := dq_h (dq_t (dq_t (dq_t (dq_t dzX11_chance_50))))
theorem dX11_chance_61 : decode cX11_chance 61 = .ok (.iconst (-1), 1) := dq_h (dq_t (dq_t (dq_t (dq_t (dq_t dzX11_chance_50)))))
theorem dX11_chance_62 : decode cX11_chance 62 = .ok (.if_icmp .ne 13, 3) := dq_h (dq_t (dq_t (dq_t (dq_t (dq_t (dq_t dzX11_chance_50))))))
theorem dX11_chance_65 : decode cX11_chance 65 = .ok (.aload_n 0, 1) := dq_h (dq_t (dq_t (dq_t (dq_t (dq_t (dq_t (dq_t dzX11_chance_50)))))))
theorem dX11_chance_66 : decode cX11_chance 66 = .ok (.getfield 29, 3) := dq_h (dq_t (dq_t (dq_t (dq_t (dq_t (dq_t (dq_t (dq_t dzX11_chance_50))))))))
theorem dX11_chance_69 : decode cX11_chance 69 = .ok (.getfield 206, 3) := dq_h (dq_t (dq_t (dq_t (dq_t (dq_t (dq_t (dq_t (dq_t (dq_t dzX11_chance_50)))))))))
theorem dX11_chance_72 : decode cX11_chance 72 = .ok (.iload_n 2, 1) := dq_h (dq_t (dq_t (dq_t (dq_t (dq_t (dq_t (dq_t (dq_t (dq_t (dq_t dzX11_chance_50))))))))))
theorem dX11_chance_73 : decode cX11_chance 73 = .ok (.iload_n 3, 1) := dq_h (dq_t (dq_t (dq_t (dq_t (dq_t (dq_t (dq_t (dq_t (dq_t (dq_t (dq_t dzX11_chance_50)))))))))))
theorem dX11_chance_74 : decode cX11_chance 74 = .ok (.iastore, 1) := dq_h (dq_t (dq_t (dq_t (dq_t (dq_t (dq_t (dq_t (dq_t (dq_t (dq_t (dq_t (dq_t dzX11_chance_50))))))))))))
theorem dX11_chance_75 : decode cX11_chance 75 = .ok (.goto 54, 3) := dq_h (dq_t (dq_t (dq_t (dq_t (dq_t (dq_t (dq_t (dq_t (dq_t (dq_t (dq_t (dq_t (dq_t dzX11_chance_50)))))))))))))
theorem dX11_chance_78 : decode cX11_chance 78 = .ok (.iload_n 1, 1) := dq_h (dq_t (dq_t (dq_t (dq_t (dq_t (dq_t (dq_t (dq_t (dq_t (dq_t (dq_t (dq_t (dq_t (dq_t dzX11_chance_50))))))))))))))
theorem dX11_chance_79 : decode cX11_chance 79 = .ok (.iconst 1, 1) := dq_h (dq_t (dq_t (dq_t (dq_t (dq_t (dq_t (dq_t (dq_t (dq_t (dq_t (dq_t (dq_t (dq_t (dq_t (dq_t dzX11_chance_50)))))))))))))))
theorem dX11_chance_80 : decode cX11_chance 80 = .ok (.if_icmp .ne 24, 3) := dq_h (dq_t (dq_t (dq_t (dq_t (dq_t (dq_t (dq_t (dq_t (dq_t (dq_t (dq_t (dq_t (dq_t (dq_t (dq_t (dq_t dzX11_chance_50))))))))))))))))
theorem dX11_chance_83 : decode cX11_chance 83 = .ok (.aload_n 0, 1) := dq_h (dq_t (dq_t (dq_t (dq_t (dq_t (dq_t (dq_t (dq_t (dq_t (dq_t (dq_t (dq_t (dq_t (dq_t (dq_t (dq_t (dq_t dzX11_chance_50)))))))))))))))))
theorem dX11_chance_84 : decode cX11_chance 84 = .ok (.getfield 29, 3) := dq_h (dq_t (dq_t (dq_t (dq_t (dq_t (dq_t (dq_t (dq_t (dq_t (dq_t (dq_t (dq_t (dq_t (dq_t (dq_t (dq_t (dq_t (dq_t dzX11_chance_50))))))))))))))))))
theorem dX11_chance_87 : decode cX11_chance 87 = .ok (.aload_n 0, 1) := dq_h (dq_t (dq_t (dq_t (dq_t (dq_t (dq_t (dq_t (dq_t (dq_t (dq_t (dq_t (dq_t (dq_t (dq_t (dq_t (dq_t (dq_t (dq_t (dq_t dzX11_chance_50)))))))))))))))))))
theorem dX11_chance_88 : decode cX11_chance 88 = .ok (.aload_n 0, 1) := dq_h (dq_t (dq_t (dq_t (dq_t (dq_t (dq_t (dq_t (dq_t (dq_t (dq_t (dq_t (dq_t (dq_t (dq_t (dq_t (dq_t (dq_t (dq_t (dq_t (dq_t dzX11_chance_50))))))))))))))))))))
theorem dX11_chance_89 : decode cX11_chance 89 = .ok (.getfield 57, 3) := dq_h (dq_t (dq_t (dq_t (dq_t (dq_t (dq_t (dq_t (dq_t (dq_t (dq_t (dq_t (dq_t (dq_t (dq_t (dq_t (dq_t (dq_t (dq_t (dq_t (dq_t (dq_t dzX11_chance_50)))))))))))))))))))))
theorem dX11_chance_92 : decode cX11_chance 92 = .ok (.getfield 108, 3) := dq_h (dq_t (dq_t (dq_t (dq_t (dq_t (dq_t (dq_t (dq_t (dq_t (dq_t (dq_t (dq_t (dq_t (dq_t (dq_t (dq_t (dq_t (dq_t (dq_t (dq_t (dq_t (dq_t dzX11_chance_50))))))))))))))))))))))
theorem dX11_chance_95 : decode cX11_chance 95 = .ok (.invokevirtual 357, 3) := dq_h (dq_t (dq_t (dq_t (dq_t (dq_t (dq_t (dq_t (dq_t (dq_t (dq_t (dq_t (dq_t (dq_t (dq_t (dq_t (dq_t (dq_t (dq_t (dq_t (dq_t (dq_t (dq_t (dq_t dzX11_chance_50)))))))))))))))))))))))
theorem dzX11_chance_98 : dq_F cX11_chance [(98, .invokevirtual 225, 3), (101, .goto 28, 3), (104, .iload_n 1, 1), (105, .iconst 2, 1), (106, .if_icmp .ne 23, 3), (109, .aload_n 0, 1), (110, .getfield 29, 3), (113, .aload_n 0, 1), (114, .aload_n 0, 1), (115, .getfield 57, 3), (118, .getfield 111, 3), (121, .invokevirtual 357, 3), (124, .bipush 20, 2), (126, .invokevirtual 228, 3), (129, .return_, 1)] := dq_s 15 98 (by decide +kernel)
theorem dX11_chance_98 : decode cX11_chance 98 = .ok (.invokevirtual 225, 3) := dq_h dzX11_chance_98
theorem dX11_chance_101 : decode cX11_chance 101 = .ok (.goto 28, 3) := dq_h (dq_t dzX11_chance_98)
theorem dX11_chance_104 : decode cX11_chance 104 = .ok (.iload_n 1, 1) := dq_h (dq_t (dq_t dzX11_chance_98))
theorem dX11_chance_105 : decode cX11_chance 105 = .ok (.iconst 2, 1) := dq_h (dq_t (dq_t (dq_t dzX11_chance_98)))
theorem dX11_chance_106 : decode cX11_chance 106 = .ok (.if_icmp .ne 23, 3) := dq_h (dq_t (dq_t (dq_t (dq_t dzX11_chance_98))))
theorem dX11_chance_109 : decode cX11_chance 109 = .ok (.aload_n 0, 1) := dq_h (dq_t (dq_t (dq_t (dq_t (dq_t dzX11_chance_98)))))
theorem dX11_chance_110 : decode cX11_chance 110 = .ok (.getfield 29, 3) := dq_h (dq_t (dq_t (dq_t (dq_t (dq_t (dq_t dzX11_chance_98))))))
theorem dX11_chance_113 : decode cX11_chance 113 = .ok (.aload_n 0, 1) := dq_h (dq_t (dq_t (dq_t (dq_t (dq_t (dq_t (dq_t dzX11_chance_98)))))))
theorem dX11_chance_114 : decode cX11_chance 114 = .ok (.aload_n 0, 1) := dq_h (dq_t (dq_t (dq_t (dq_t (dq_t (dq_t (dq_t (dq_t dzX11_chance_98))))))))
theorem dX11_chance_115 : decode cX11_chance 115 = .ok (.getfield 57, 3) := dq_h (dq_t (dq_t (dq_t (dq_t (dq_t (dq_t (dq_t (dq_t (dq_t dzX11_chance_98)))))))))
theorem dX11_chance_118 : decode cX11_chance 118 = .ok (.getfield 111, 3) := dq_h (dq_t (dq_t (dq_t (dq_t (dq_t (dq_t (dq_t (dq_t (dq_t (dq_t dzX11_chance_98))))))))))
theorem dX11_chance_121 : decode cX11_chance 121 = .ok (.invokevirtual 357, 3) := dq_h (dq_t (dq_t (dq_t (dq_t (dq_t (dq_t (dq_t (dq_t (dq_t (dq_t (dq_t dzX11_chance_98)))))))))))
theorem dX11_chance_124 : decode cX11_chance 124 = .ok (.bipush 20, 2) := dq_h (dq_t (dq_t (dq_t (dq_t (dq_t (dq_t (dq_t (dq_t (dq_t (dq_t (dq_t (dq_t dzX11_chance_98))))))))))))
theorem dX11_chance_126 : decode cX11_chance 126 = .ok (.invokevirtual 228, 3) := dq_h (dq_t (dq_t (dq_t (dq_t (dq_t (dq_t (dq_t (dq_t (dq_t (dq_t (dq_t (dq_t (dq_t dzX11_chance_98)))))))))))))
theorem dX11_chance_129 : decode cX11_chance 129 = .ok (.return_, 1) := dq_h (dq_t (dq_t (dq_t (dq_t (dq_t (dq_t (dq_t (dq_t (dq_t (dq_t (dq_t (dq_t (dq_t (dq_t dzX11_chance_98))))))))))))))
theorem dzJ11_isValidCodePoint_9a6ad_0 : dq_F cJ11_isValidCodePoint_9a6ad [(0, .iload_n 0, 1), (1, .bipush 16, 2), (3, .iushr, 1), (4, .istore_n 1, 1), (5, .iload_n 1, 1), (6, .bipush 17, 2), (8, .if_icmp .ge 7, 3), (11, .iconst 1, 1), (12, .goto 4, 3), (15, .iconst 0, 1), (16, .ireturn, 1)] := dq_s 11 0 (by decide +kernel)
theorem dJ11_isValidCodePoint_9a6ad_0 : decode cJ11_isValidCodePoint_9a6ad 0 = .ok (.iload_n 0, 1) := dq_h dzJ11_isValidCodePoint_9a6ad_0
theorem dJ11_isValidCodePoint_9a6ad_1 : decode cJ11_isValidCodePoint_9a6ad 1 = .ok (.bipush 16, 2) := dq_h (dq_t dzJ11_isValidCodePoint_9a6ad_0)
theorem dJ11_isValidCodePoint_9a6ad_3 : decode cJ11_isValidCodePoint_9a6ad 3 = .ok (.iushr, 1) := dq_h (dq_t (dq_t dzJ11_isValidCodePoint_9a6ad_0))
theorem dJ11_isValidCodePoint_9a6ad_4 : decode cJ11_isValidCodePoint_9a6ad 4 = .ok (.istore_n 1, 1) := dq_h (dq_t (dq_t (dq_t dzJ11_isValidCodePoint_9a6ad_0)))
theorem dJ11_isValidCodePoint_9a6ad_5 : decode cJ11_isValidCodePoint_9a6ad 5 = .ok (.iload_n 1, 1) := dq_h (dq_t (dq_t (dq_t (dq_t dzJ11_isValidCodePoint_9a6ad_0))))
theorem dJ11_isValidCodePoint_9a6ad_6 : decode cJ11_isValidCodePoint_9a6ad 6 = .ok (.bipush 17, 2) := dq_h (dq_t (dq_t (dq_t (dq_t (dq_t dzJ11_isValidCodePoint_9a6ad_0)))))
theorem dJ11_isValidCodePoint_9a6ad_8 : decode cJ11_isValidCodePoint_9a6ad 8 = .ok (.if_icmp .ge 7, 3) := dq_h (dq_t (dq_t (dq_t (dq_t (dq_t (dq_t dzJ11_isValidCodePoint_9a6ad_0))))))
theorem dJ11_isValidCodePoint_9a6ad_11 : decode cJ11_isValidCodePoint_9a6ad 11 = .ok (.iconst 1, 1) := dq_h (dq_t (dq_t (dq_t (dq_t (dq_t (dq_t (dq_t dzJ11_isValidCodePoint_9a6ad_0)))))))
theorem dJ11_isValidCodePoint_9a6ad_12 : decode cJ11_isValidCodePoint_9a6ad 12 = .ok (.goto 4, 3) := dq_h (dq_t (dq_t (dq_t (dq_t (dq_t (dq_t (dq_t (dq_t dzJ11_isValidCodePoint_9a6ad_0))))))))
theorem dJ11_isValidCodePoint_9a6ad_15 : decode cJ11_isValidCodePoint_9a6ad 15 = .ok (.iconst 0, 1) := dq_h (dq_t (dq_t (dq_t (dq_t (dq_t (dq_t (dq_t (dq_t (dq_t dzJ11_isValidCodePoint_9a6ad_0)))))))))
theorem dJ11_isValidCodePoint_9a6ad_16 : decode cJ11_isValidCodePoint_9a6ad 16 = .ok (.ireturn, 1) := dq_h (dq_t (dq_t (dq_t (dq_t (dq_t (dq_t (dq_t (dq_t (dq_t (dq_t dzJ11_isValidCodePoint_9a6ad_0))))))))))
theorem dzJ11_highSurrogate_5068e_0 : dq_F cJ11_highSurrogate_5068e [(0, .iload_n 0, 1), (1, .bipush 10, 2), (3, .iushr, 1), (4, .ldc 110, 2), (6, .iadd, 1), (7, .i2c, 1), (8, .ireturn, 1)] := dq_s 7 0 (by decide +kernel)
theorem dJ11_highSurrogate_5068e_0 : decode cJ11_highSurrogate_5068e 0 = .ok (.iload_n 0, 1) := dq_h dzJ11_highSurrogate_5068e_0
theorem dJ11_highSurrogate_5068e_1 : decode cJ11_highSurrogate_5068e 1 = .ok (.bipush 10, 2) := dq_h (dq_t dzJ11_highSurrogate_5068e_0)
theorem dJ11_highSurrogate_5068e_3 : decode cJ11_highSurrogate_5068e 3 = .ok (.iushr, 1) := dq_h (dq_t (dq_t dzJ11_highSurrogate_5068e_0))
theorem dJ11_highSurrogate_5068e_4 : decode cJ11_highSurrogate_5068e 4 = .ok (.ldc 110, 2) := dq_h (dq_t (dq_t (dq_t dzJ11_highSurrogate_5068e_0)))
theorem dJ11_highSurrogate_5068e_6 : decode cJ11_highSurrogate_5068e 6 = .ok (.iadd, 1) := dq_h (dq_t (dq_t (dq_t (dq_t dzJ11_highSurrogate_5068e_0))))
theorem dJ11_highSurrogate_5068e_7 : decode cJ11_highSurrogate_5068e 7 = .ok (.i2c, 1) := dq_h (dq_t (dq_t (dq_t (dq_t (dq_t dzJ11_highSurrogate_5068e_0)))))
theorem dJ11_highSurrogate_5068e_8 : decode cJ11_highSurrogate_5068e 8 = .ok (.ireturn, 1) := dq_h (dq_t (dq_t (dq_t (dq_t (dq_t (dq_t dzJ11_highSurrogate_5068e_0))))))
theorem dzJ11_lowSurrogate_5068e_0 : dq_F cJ11_lowSurrogate_5068e [(0, .iload_n 0, 1), (1, .sipush 1023, 3), (4, .iand, 1), (5, .ldc 76, 2), (7, .iadd, 1), (8, .i2c, 1), (9, .ireturn, 1)] := dq_s 7 0 (by decide +kernel)
theorem dJ11_lowSurrogate_5068e_0 : decode cJ11_lowSurrogate_5068e 0 = .ok (.iload_n 0, 1) := dq_h dzJ11_lowSurrogate_5068e_0
theorem dJ11_lowSurrogate_5068e_1 : decode cJ11_lowSurrogate_5068e 1 = .ok (.sipush 1023, 3) := dq_h (dq_t dzJ11_lowSurrogate_5068e_0)
theorem dJ11_lowSurrogate_5068e_4 : decode cJ11_lowSurrogate_5068e 4 = .ok (.iand, 1) := dq_h (dq_t (dq_t dzJ11_lowSurrogate_5068e_0))
theorem dJ11_lowSurrogate_5068e_5 : decode cJ11_lowSurrogate_5068e 5 = .ok (.ldc 76, 2) := dq_h (dq_t (dq_t (dq_t dzJ11_lowSurrogate_5068e_0)))
theorem dJ11_lowSurrogate_5068e_7 : decode cJ11_lowSurrogate_5068e 7 = .ok (.iadd, 1) := dq_h (dq_t (dq_t (dq_t (dq_t dzJ11_lowSurrogate_5068e_0))))
theorem dJ11_lowSurrogate_5068e_8 : decode cJ11_lowSurrogate_5068e 8 = .ok (.i2c, 1) := dq_h (dq_t (dq_t (dq_t (dq_t (dq_t dzJ11_lowSurrogate_5068e_0)))))
theorem dJ11_lowSurrogate_5068e_9 : decode cJ11_lowSurrogate_5068e 9 = .ok (.ireturn, 1) := dq_h (dq_t (dq_t (dq_t (dq_t (dq_t (dq_t dzJ11_lowSurrogate_5068e_0))))))
theorem dzJ6_bitCount_0f7a4_0 : dq_F cJ6_bitCount_0f7a4 [(0, .iload_n 0, 1), (1, .iload_n 0, 1), (2, .iconst 1, 1), (3, .iushr, 1), (4, .ldc_w 265, 3), (7, .iand, 1), (8, .isub, 1), (9, .istore_n 0, 1), (10, .iload_n 0, 1), (11, .ldc_w 266, 3), (14, .iand, 1), (15, .iload_n 0, 1), (16, .iconst 2, 1), (17, .iushr, 1), (18, .ldc_w 266, 3), (21, .iand, 1), (22, .iadd, 1), (23, .istore_n 0, 1), (24, .iload_n 0, 1), (25, .iload_n 0, 1), (26, .iconst 4, 1), (27, .iushr, 1), (28, .iadd, 1), (29, .ldc_w 267, 3)] := dq_s 24 0 (by decide +kernel)
theorem dJ6_bitCount_0f7a4_0 : decode cJ6_bitCount_0f7a4 0 = .ok (.iload_n 0, 1) := dq_h dzJ6_bitCount_0f7a4_0
theorem dJ6_bitCount_0f7a4_1 : decode cJ6_bitCount_0f7a4 1 = .ok (.iload_n 0, 1) := dq_h (dq_t dzJ6_bitCount_0f7a4_0)
theorem dJ6_bitCount_0f7a4_2 : decode cJ6_bitCount_0f7a4 2 = .ok (.iconst 1, 1) := dq_h (dq_t (dq_t dzJ6_bitCount_0f7a4_0))
theorem dJ6_bitCount_0f7a4_3 : decode cJ6_bitCount_0f7a4 3 = .ok (.iushr, 1) := dq_h (dq_t (dq_t (dq_t dzJ6_bitCount_0f7a4_0)))
theorem dJ6_bitCount_0f7a4_4 : decode cJ6_bitCount_0f7a4 4 = .ok (.ldc_w 265, 3) := dq_h (dq_t (dq_t (dq_t (dq_t dzJ6_bitCount_0f7a4_0))))
theorem dJ6_bitCount_0f7a4_7 : decode cJ6_bitCount_0f7a4 7 = .ok (.iand, 1) := dq_h (dq_t (dq_t (dq_t (dq_t (dq_t dzJ6_bitCount_0f7a4_0)))))
theorem dJ6_bitCount_0f7a4_8 : decode cJ6_bitCount_0f7a4 8 = .ok (.isub, 1) := dq_h (dq_t (dq_t (dq_t (dq_t (dq_t (dq_t dzJ6_bitCount_0f7a4_0))))))
theorem dJ6_bitCount_0f7a4_9 : decode cJ6_bitCount_0f7a4 9 = .ok (.istore_n 0, 1) := dq_h (dq_t (dq_t (dq_t (dq_t (dq_t (dq_t (dq_t dzJ6_bitCount_0f7a4_0)))))))
theorem dJ6_bitCount_0f7a4_10 : decode cJ6_bitCount_0f7a4 10 = .ok (.iload_n 0, 1) := dq_h (dq_t (dq_t (dq_t (dq_t (dq_t (dq_t (dq_t (dq_t dzJ6_bitCount_0f7a4_0))))))))
theorem dJ6_bitCount_0f7a4_11 : decode cJ6_bitCount_0f7a4 11 = .ok (.ldc_w 266, 3) := dq_h (dq_t (dq_t (dq_t (dq_t (dq_t (dq_t (dq_t (dq_t (dq_t dzJ6_bitCount_0f7a4_0)))))))))
theorem dJ6_bitCount_0f7a4_14 : decode cJ6_bitCount_0f7a4 14 = .ok (.iand, 1) := dq_h (dq_t (dq_t (dq_t (dq_t (dq_t (dq_t (dq_t (dq_t (dq_t (dq_t dzJ6_bitCount_0f7a4_0))))))))))
theorem dJ6_bitCount_0f7a4_15 : decode cJ6_bitCount_0f7a4 15 = .ok (.iload_n 0, 1) := dq_h (dq_t (dq_t (dq_t (dq_t (dq_t (dq_t (dq_t (dq_t (dq_t (dq_t (dq_t dzJ6_bitCount_0f7a4_0)))))))))))
theorem dJ6_bitCount_0f7a4_16 : decode cJ6_bitCount_0f7a4 16 = .ok (.iconst 2, 1) := dq_h (dq_t (dq_t (dq_t (dq_t (dq_t (dq_t (dq_t (dq_t (dq_t (dq_t (dq_t (dq_t dzJ6_bitCount_0f7a4_0))))))))))))
theorem dJ6_bitCount_0f7a4_17 : decode cJ6_bitCount_0f7a4 17 = .ok (.iushr, 1) := dq_h (dq_t (dq_t (dq_t (dq_t (dq_t (dq_t (dq_t (dq_t (dq_t (dq_t (dq_t (dq_t (dq_t dzJ6_bitCount_0f7a4_0)))))))))))))
theorem dJ6_bitCount_0f7a4_18 : decode cJ6_bitCount_0f7a4 18 = .ok (.ldc_w 266, 3) := dq_h (dq_t (dq_t (dq_t (dq_t (dq_t (dq_t (dq_t (dq_t (dq_t (dq_t (dq_t (dq_t (dq_t (dq_t dzJ6_bitCount_0f7a4_0))))))))))))))
theorem dJ6_bitCount_0f7a4_21 : decode cJ6_bitCount_0f7a4 21 = .ok (.iand, 1) := dq_h (dq_t (dq_t (dq_t (dq_t (dq_t (dq_t (dq_t (dq_t (dq_t (dq_t (dq_t (dq_t (dq_t (dq_t (dq_t dzJ6_bitCount_0f7a4_0)))))))))))))))
theorem dJ6_bitCount_0f7a4_22 : decode cJ6_bitCount_0f7a4 22 = .ok (.iadd, 1) := dq_h (dq_t (dq_t (dq_t (dq_t (dq_t (dq_t (dq_t (dq_t (dq_t (dq_t (dq_t (dq_t (dq_t (dq_t (dq_t (dq_t dzJ6_bitCount_0f7a4_0))))))))))))))))
theorem dJ6_bitCount_0f7a4_23 : decode cJ6_bitCount_0f7a4 23 = .ok (.istore_n 0, 1) := dq_h (dq_t (dq_t (dq_t (dq_t (dq_t (dq_t (dq_t (dq_t (dq_t (dq_t (dq_t (dq_t (dq_t (dq_t (dq_t (dq_t (dq_t dzJ6_bitCount_0f7a4_0)))))))))))))))))
theorem dJ6_bitCount_0f7a4_24 : decode cJ6_bitCount_0f7a4 24 = .ok (.iload_n 0, 1) := dq_h (dq_t (dq_t (dq_t (dq_t (dq_t (dq_t (dq_t (dq_t (dq_t (dq_t (dq_t (dq_t (dq_t (dq_t (dq_t (dq_t (dq_t (dq_t dzJ6_bitCount_0f7a4_0))))))))))))))))))
theorem dJ6_bitCount_0f7a4_25 : decode cJ6_bitCount_0f7a4 25 = .ok (.iload_n 0, 1) := dq_h (dq_t (dq_t (dq_t (dq_t (dq_t (dq_t (dq_t (dq_t (dq_t (dq_t (dq_t (dq_t (dq_t (dq_t (dq_t (dq_t (dq_t (dq_t (dq_t dzJ6_bitCount_0f7a4_0)))))))))))))))))))
theorem dJ6_bitCount_0f7a4_26 : decode cJ6_bitCount_0f7a4 26 = .ok (.iconst 4, 1) := dq_h (dq_t (dq_t (dq_t (dq_t (dq_t (dq_t (dq_t (dq_t (dq_t (dq_t (dq_t (dq_t (dq_t (dq_t (dq_t (dq_t (dq_t (dq_t (dq_t (dq_t dzJ6_bitCount_0f7a4_0))))))))))))))))))))
theorem dJ6_bitCount_0f7a4_27 : decode cJ6_bitCount_0f7a4 27 = .ok (.iushr, 1) := dq_h (dq_t (dq_t (dq_t (dq_t (dq_t (dq_t (dq_t (dq_t (dq_t (dq_t (dq_t (dq_t (dq_t (dq_t (dq_t (dq_t (dq_t (dq_t (dq_t (dq_t (dq_t dzJ6_bitCount_0f7a4_0)))))))))))))))))))))
theorem dJ6_bitCount_0f7a4_28 : decode cJ6_bitCount_0f7a4 28 = .ok (.iadd, 1) := dq_h (dq_t (dq_t (dq_t (dq_t (dq_t (dq_t (dq_t (dq_t (dq_t (dq_t (dq_t (dq_t (dq_t (dq_t (dq_t (dq_t (dq_t (dq_t (dq_t (dq_t (dq_t (dq_t dzJ6_bitCount_0f7a4_0))))))))))))))))))))))
theorem dJ6_bitCount_0f7a4_29 : decode cJ6_bitCount_0f7a4 29 = .ok (.ldc_w 267, 3) := dq_h (dq_t (dq_t (dq_t (dq_t (dq_t (dq_t (dq_t (dq_t (dq_t (dq_t (dq_t (dq_t (dq_t (dq_t (dq_t (dq_t (dq_t (dq_t (dq_t (dq_t (dq_t (dq_t (dq_t dzJ6_bitCount_0f7a4_0)))))))))))))))))))))))
theorem dzJ6_bitCount_0f7a4_32 : dq_F cJ6_bitCount_0f7a4 [(32, .iand, 1), (33, .istore_n 0, 1), (34, .iload_n 0, 1), (35, .iload_n 0, 1), (36, .bipush 8, 2), (38, .iushr, 1), (39, .iadd, 1), (40, .istore_n 0, 1), (41, .iload_n 0, 1), (42, .iload_n 0, 1), (43, .bipush 16, 2), (45, .iushr, 1), (46, .iadd, 1), (47, .istore_n 0, 1), (48, .iload_n 0, 1), (49, .bipush 63, 2), (51, .iand, 1), (52, .ireturn, 1)] := dq_s 18 32 (by decide +kernel)
theorem dJ6_bitCount_0f7a4_32 : decode cJ6_bitCount_0f7a4 32 = .ok (.iand, 1) := dq_h dzJ6_bitCount_0f7a4_32
theorem dJ6_bitCount_0f7a4_33 : decode cJ6_bitCount_0f7a4 33 = .ok (.istore_n 0, 1) := dq_h (dq_t dzJ6_bitCount_0f7a4_32)
theorem dJ6_bitCount_0f7a4_34 : decode cJ6_bitCount_0f7a4 34 = .ok (.iload_n 0, 1) := dq_h (dq_t (dq_t dzJ6_bitCount_0f7a4_32))
theorem dJ6_bitCount_0f7a4_35 : decode cJ6_bitCount_0f7a4 35 = .ok (.iload_n 0, 1) := dq_h (dq_t (dq_t (dq_t dzJ6_bitCount_0f7a4_32)))
theorem dJ6_bitCount_0f7a4_36 : decode cJ6_bitCount_0f7a4 36 = .ok (.bipush 8, 2) := dq_h (dq_t (dq_t (dq_t (dq_t dzJ6_bitCount_0f7a4_32))))
theorem dJ6_bitCount_0f7a4_38 : decode cJ6_bitCount_0f7a4 38 = .ok (.iushr, 1) := dq_h (dq_t (dq_t (dq_t (dq_t (dq_t dzJ6_bitCount_0f7a4_32)))))
theorem dJ6_bitCount_0f7a4_39 : decode cJ6_bitCount_0f7a4 39 = .ok (.iadd, 1) := dq_h (dq_t (dq_t (dq_t (dq_t (dq_t (dq_t dzJ6_bitCount_0f7a4_32))))))
theorem dJ6_bitCount_0f7a4_40 : decode cJ6_bitCount_0f7a4 40 = .ok (.istore_n 0, 1) := dq_h (dq_t (dq_t (dq_t (dq_t (dq_t (dq_t (dq_t dzJ6_bitCount_0f7a4_32)))))))
theorem dJ6_bitCount_0f7a4_41 : decode cJ6_bitCount_0f7a4 41 = .ok (.iload_n 0, 1) := dq_h (dq_t (dq_t (dq_t (dq_t (dq_t (dq_t (dq_t (dq_t dzJ6_bitCount_0f7a4_32))))))))
theorem dJ6_bitCount_0f7a4_42 : decode cJ6_bitCount_0f7a4 42 = .ok (.iload_n 0, 1) := dq_h (dq_t (dq_t (dq_t (dq_t (dq_t (dq_t (dq_t (dq_t (dq_t dzJ6_bitCount_0f7a4_32)))))))))
theorem dJ6_bitCount_0f7a4_43 : decode cJ6_bitCount_0f7a4 43 = .ok (.bipush 16, 2) := dq_h (dq_t (dq_t (dq_t (dq_t (dq_t (dq_t (dq_t (dq_t (dq_t (dq_t dzJ6_bitCount_0f7a4_32))))))))))
theorem dJ6_bitCount_0f7a4_45 : decode cJ6_bitCount_0f7a4 45 = .ok (.iushr, 1) := dq_h (dq_t (dq_t (dq_t (dq_t (dq_t (dq_t (dq_t (dq_t (dq_t (dq_t (dq_t dzJ6_bitCount_0f7a4_32)))))))))))
theorem dJ6_bitCount_0f7a4_46 : decode cJ6_bitCount_0f7a4 46 = .ok (.iadd, 1) := dq_h (dq_t (dq_t (dq_t (dq_t (dq_t (dq_t (dq_t (dq_t (dq_t (dq_t (dq_t (dq_t dzJ6_bitCount_0f7a4_32))))))))))))
theorem dJ6_bitCount_0f7a4_47 : decode cJ6_bitCount_0f7a4 47 = .ok (.istore_n 0, 1) := dq_h (dq_t (dq_t (dq_t (dq_t (dq_t (dq_t (dq_t (dq_t (dq_t (dq_t (dq_t (dq_t (dq_t dzJ6_bitCount_0f7a4_32)))))))))))))
theorem dJ6_bitCount_0f7a4_48 : decode cJ6_bitCount_0f7a4 48 = .ok (.iload_n 0, 1) := dq_h (dq_t (dq_t (dq_t (dq_t (dq_t (dq_t (dq_t (dq_t (dq_t (dq_t (dq_t (dq_t (dq_t (dq_t dzJ6_bitCount_0f7a4_32))))))))))))))
theorem dJ6_bitCount_0f7a4_49 : decode cJ6_bitCount_0f7a4 49 = .ok (.bipush 63, 2) := dq_h (dq_t (dq_t (dq_t (dq_t (dq_t (dq_t (dq_t (dq_t (dq_t (dq_t (dq_t (dq_t (dq_t (dq_t (dq_t dzJ6_bitCount_0f7a4_32)))))))))))))))
theorem dJ6_bitCount_0f7a4_51 : decode cJ6_bitCount_0f7a4 51 = .ok (.iand, 1) := dq_h (dq_t (dq_t (dq_t (dq_t (dq_t (dq_t (dq_t (dq_t (dq_t (dq_t (dq_t (dq_t (dq_t (dq_t (dq_t (dq_t dzJ6_bitCount_0f7a4_32))))))))))))))))
theorem dJ6_bitCount_0f7a4_52 : decode cJ6_bitCount_0f7a4 52 = .ok (.ireturn, 1) := dq_h (dq_t (dq_t (dq_t (dq_t (dq_t (dq_t (dq_t (dq_t (dq_t (dq_t (dq_t (dq_t (dq_t (dq_t (dq_t (dq_t (dq_t dzJ6_bitCount_0f7a4_32)))))))))))))))))
theorem dzJ9_max_7cf53_0 : dq_F cJ9_max_7cf53 [(0, .iload_n 0, 1), (1, .iload_n 1, 1), (2, .if_icmp .lt 7, 3), (5, .iload_n 0, 1), (6, .goto 4, 3), (9, .iload_n 1, 1), (10, .ireturn, 1)] := dq_s 7 0 (by decide +kernel)
theorem dJ9_max_7cf53_0 : decode cJ9_max_7cf53 0 = .ok (.iload_n 0, 1) := dq_h dzJ9_max_7cf53_0
theorem dJ9_max_7cf53_1 : decode cJ9_max_7cf53 1 = .ok (.iload_n 1, 1) := dq_h (dq_t dzJ9_max_7cf53_0)
theorem dJ9_max_7cf53_2 : decode cJ9_max_7cf53 2 = .ok (.if_icmp .lt 7, 3) := dq_h (dq_t (dq_t dzJ9_max_7cf53_0))
theorem dJ9_max_7cf53_5 : decode cJ9_max_7cf53 5 = .ok (.iload_n 0, 1) := dq_h (dq_t (dq_t (dq_t dzJ9_max_7cf53_0)))
theorem dJ9_max_7cf53_6 : decode cJ9_max_7cf53 6 = .ok (.goto 4, 3) := dq_h (dq_t (dq_t (dq_t (dq_t dzJ9_max_7cf53_0))))
theorem dJ9_max_7cf53_9 : decode cJ9_max_7cf53 9 = .ok (.iload_n 1, 1) := dq_h (dq_t (dq_t (dq_t (dq_t (dq_t dzJ9_max_7cf53_0)))))
theorem dJ9_max_7cf53_10 : decode cJ9_max_7cf53 10 = .ok (.ireturn, 1) := dq_h (dq_t (dq_t (dq_t (dq_t (dq_t (dq_t dzJ9_max_7cf53_0))))))
theorem dzJ9_min_7cf53_0 : dq_F cJ9_min_7cf53 [(0, .iload_n 0, 1), (1, .iload_n 1, 1), (2, .if_icmp .gt 7, 3), (5, .iload_n 0, 1), (6, .goto 4, 3), (9, .iload_n 1, 1), (10, .ireturn, 1)] := dq_s 7 0 (by decide +kernel)
theorem dJ9_min_7cf53_0 : decode cJ9_min_7cf53 0 = .ok (.iload_n 0, 1) := dq_h dzJ9_min_7cf53_0
theorem dJ9_min_7cf53_1 : decode cJ9_min_7cf53 1 = .ok (.iload_n 1, 1) := dq_h (dq_t dzJ9_min_7cf53_0)
theorem dJ9_min_7cf53_2 : decode cJ9_min_7cf53 2 = .ok (.if_icmp .gt 7, 3) := dq_h (dq_t (dq_t dzJ9_min_7cf53_0))
theorem dJ9_min_7cf53_5 : decode cJ9_min_7cf53 5 = .ok (.iload_n 0, 1) := dq_h (dq_t (dq_t (dq_t dzJ9_min_7cf53_0)))
theorem dJ9_min_7cf53_6 : decode cJ9_min_7cf53 6 = .ok (.goto 4, 3) := dq_h (dq_t (dq_t (dq_t (dq_t dzJ9_min_7cf53_0))))
theorem dJ9_min_7cf53_9 : decode cJ9_min_7cf53 9 = .ok (.iload_n 1, 1) := dq_h (dq_t (dq_t (dq_t (dq_t (dq_t dzJ9_min_7cf53_0)))))
theorem dJ9_min_7cf53_10 : decode cJ9_min_7cf53 10 = .ok (.ireturn, 1) := dq_h (dq_t (dq_t (dq_t (dq_t (dq_t (dq_t dzJ9_min_7cf53_0))))))
theorem dzJ0_length_8abf5_0 : dq_F cJ0_length_8abf5 [(0, .aload_n 0, 1), (1, .getfield 9, 3), (4, .arraylength, 1), (5, .aload_n 0, 1), (6, .invokevirtual 335, 3), (9, .ishr, 1), (10, .ireturn, 1)] := dq_s 7 0 (by decide +kernel)
theorem dJ0_length_8abf5_0 : decode cJ0_length_8abf5 0 = .ok (.aload_n 0, 1) := dq_h dzJ0_length_8abf5_0
theorem dJ0_length_8abf5_1 : decode cJ0_length_8abf5 1 = .ok (.getfield 9, 3) := dq_h (dq_t dzJ0_length_8abf5_0)
theorem dJ0_length_8abf5_4 : decode cJ0_length_8abf5 4 = .ok (.arraylength, 1) := dq_h (dq_t (dq_t dzJ0_length_8abf5_0))
theorem dJ0_length_8abf5_5 : decode cJ0_length_8abf5 5 = .ok (.aload_n 0, 1) := dq_h (dq_t (dq_t (dq_t dzJ0_length_8abf5_0)))
theorem dJ0_length_8abf5_6 : decode cJ0_length_8abf5 6 = .ok (.invokevirtual 335, 3) := dq_h (dq_t (dq_t (dq_t (dq_t dzJ0_length_8abf5_0))))
theorem dJ0_length_8abf5_9 : decode cJ0_length_8abf5 9 = .ok (.ishr, 1) := dq_h (dq_t (dq_t (dq_t (dq_t (dq_t dzJ0_length_8abf5_0)))))
theorem dJ0_length_8abf5_10 : decode cJ0_length_8abf5 10 = .ok (.ireturn, 1) := dq_h (dq_t (dq_t (dq_t (dq_t (dq_t (dq_t dzJ0_length_8abf5_0))))))
theorem dzJ0_charAt_5068e_0 : dq_F cJ0_charAt_5068e [(0, .aload_n 0, 1), (1, .invokevirtual 492, 3), (4, .ifCond .eq 12, 3), (7, .aload_n 0, 1), (8, .getfield 9, 3), (11, .iload_n 1, 1), (12, .invokestatic 495, 3), (15, .ireturn, 1), (16, .aload_n 0, 1), (17, .getfield 9, 3), (20, .iload_n 1, 1), (21, .invokestatic 498, 3), (24, .ireturn, 1)] := dq_s 13 0 (by decide +kernel)
theorem dJ0_charAt_5068e_0 : decode cJ0_charAt_5068e 0 = .ok (.aload_n 0, 1) := dq_h dzJ0_charAt_5068e_0
theorem dJ0_charAt_5068e_1 : decode cJ0_charAt_5068e 1 = .ok (.invokevirtual 492, 3) := dq_h (dq_t dzJ0_charAt_5068e_0)
theorem dJ0_charAt_5068e_4 : decode cJ0_charAt_5068e 4 = .ok (.ifCond .eq 12, 3) := dq_h (dq_t (dq_t dzJ0_charAt_5068e_0))
theorem dJ0_charAt_5068e_7 : decode cJ0_charAt_5068e 7 = .ok (.aload_n 0, 1) := dq_h (dq_t (dq_t (dq_t dzJ0_charAt_5068e_0)))
theorem dJ0_charAt_5068e_8 : decode cJ0_charAt_5068e 8 = .ok (.getfield 9, 3) := dq_h (dq_t (dq_t (dq_t (dq_t dzJ0_charAt_5068e_0))))
theorem dJ0_charAt_5068e_11 : decode cJ0_charAt_5068e 11 = .ok (.iload_n 1, 1) := dq_h (dq_t (dq_t (dq_t (dq_t (dq_t dzJ0_charAt_5068e_0)))))
theorem dJ0_charAt_5068e_12 : decode cJ0_charAt_5068e 12 = .ok (.invokestatic 495, 3) := dq_h (dq_t (dq_t (dq_t (dq_t (dq_t (dq_t dzJ0_charAt_5068e_0))))))
theorem dJ0_charAt_5068e_15 : decode cJ0_charAt_5068e 15 = .ok (.ireturn, 1) := dq_h (dq_t (dq_t (dq_t (dq_t (dq_t (dq_t (dq_t dzJ0_charAt_5068e_0)))))))
theorem dJ0_charAt_5068e_16 : decode cJ0_charAt_5068e 16 = .ok (.aload_n 0, 1) := dq_h (dq_t (dq_t (dq_t (dq_t (dq_t (dq_t (dq_t (dq_t dzJ0_charAt_5068e_0))))))))
theorem dJ0_charAt_5068e_17 : decode cJ0_charAt_5068e 17 = .ok (.getfield 9, 3) := dq_h (dq_t (dq_t (dq_t (dq_t (dq_t (dq_t (dq_t (dq_t (dq_t dzJ0_charAt_5068e_0)))))))))
theorem dJ0_charAt_5068e_20 : decode cJ0_charAt_5068e 20 = .ok (.iload_n 1, 1) := dq_h (dq_t (dq_t (dq_t (dq_t (dq_t (dq_t (dq_t (dq_t (dq_t (dq_t dzJ0_charAt_5068e_0))))))))))
theorem dJ0_charAt_5068e_21 : decode cJ0_charAt_5068e 21 = .ok (.invokestatic 498, 3) := dq_h (dq_t (dq_t (dq_t (dq_t (dq_t (dq_t (dq_t (dq_t (dq_t (dq_t (dq_t dzJ0_charAt_5068e_0)))))))))))
theorem dJ0_charAt_5068e_24 : decode cJ0_charAt_5068e 24 = .ok (.ireturn, 1) := dq_h (dq_t (dq_t (dq_t (dq_t (dq_t (dq_t (dq_t (dq_t (dq_t (dq_t (dq_t (dq_t dzJ0_charAt_5068e_0))))))))))))
theorem dzJ0_indexOf_0f7a4_0 : dq_F cJ0_indexOf_0f7a4 [(0, .aload_n 0, 1), (1, .iload_n 1, 1), (2, .iconst 0, 1), (3, .invokevirtual 633, 3), (6, .ireturn, 1)] := dq_s 5 0 (by decide +kernel)
theorem dJ0_indexOf_0f7a4_0 : decode cJ0_indexOf_0f7a4 0 = .ok (.aload_n 0, 1) := dq_h dzJ0_indexOf_0f7a4_0
theorem dJ0_indexOf_0f7a4_1 : decode cJ0_indexOf_0f7a4 1 = .ok (.iload_n 1, 1) := dq_h (dq_t dzJ0_indexOf_0f7a4_0)
theorem dJ0_indexOf_0f7a4_2 : decode cJ0_indexOf_0f7a4 2 = .ok (.iconst 0, 1) := dq_h (dq_t (dq_t dzJ0_indexOf_0f7a4_0))
theorem dJ0_indexOf_0f7a4_3 : decode cJ0_indexOf_0f7a4 3 = .ok (.invokevirtual 633, 3) := dq_h (dq_t (dq_t (dq_t dzJ0_indexOf_0f7a4_0)))
theorem dJ0_indexOf_0f7a4_6 : decode cJ0_indexOf_0f7a4 6 = .ok (.ireturn, 1) := dq_h (dq_t (dq_t (dq_t (dq_t dzJ0_indexOf_0f7a4_0))))
theorem dzJ0_indexOf_7cf53_0 : dq_F cJ0_indexOf_7cf53 [(0, .aload_n 0, 1), (1, .invokevirtual 492, 3), (4, .ifCond .eq 19, 3), (7, .aload_n 0, 1), (8, .getfield 9, 3), (11, .iload_n 1, 1), (12, .iload_n 2, 1), (13, .aload_n 0, 1), (14, .invokevirtual 505, 3), (17, .invokestatic 637, 3), (20, .goto 16, 3), (23, .aload_n 0, 1), (24, .getfield 9, 3), (27, .iload_n 1, 1), (28, .iload_n 2, 1), (29, .aload_n 0, 1), (30, .invokevirtual 505, 3), (33, .invokestatic 640, 3), (36, .ireturn, 1)] := dq_s 19 0 (by decide +kernel)
theorem dJ0_indexOf_7cf53_0 : decode cJ0_indexOf_7cf53 0 = .ok (.aload_n 0, 1) := dq_h dzJ0_indexOf_7cf53_0
theorem dJ0_indexOf_7cf53_1 : decode cJ0_indexOf_7cf53 1 = .ok (.invokevirtual 492, 3) := dq_h (dq_t dzJ0_indexOf_7cf53_0)
theorem dJ0_indexOf_7cf53_4 : decode cJ0_indexOf_7cf53 4 = .ok (.ifCond .eq 19, 3) := dq_h (dq_t (dq_t dzJ0_indexOf_7cf53_0))
theorem dJ0_indexOf_7cf53_7 : decode cJ0_indexOf_7cf53 7 = .ok (.aload_n 0, 1) := dq_h (dq_t (dq_t (dq_t dzJ0_indexOf_7cf53_0)))
theorem dJ0_indexOf_7cf53_8 : decode cJ0_indexOf_7cf53 8 = .ok (.getfield 9, 3) := dq_h (dq_t (dq_t (dq_t (dq_t dzJ0_indexOf_7cf53_0))))
theorem dJ0_indexOf_7cf53_11 : decode cJ0_indexOf_7cf53 11 = .ok (.iload_n 1, 1) := dq_h (dq_t (dq_t (dq_t (dq_t (dq_t dzJ0_indexOf_7cf53_0)))))
theorem dJ0_indexOf_7cf53_12 : decode cJ0_indexOf_7cf53 12 = .ok (.iload_n 2, 1) := dq_h (dq_t (dq_t (dq_t (dq_t (dq_t (dq_t dzJ0_indexOf_7cf53_0))))))
theorem dJ0_indexOf_7cf53_13 : decode cJ0_indexOf_7cf53 13 = .ok (.aload_n 0, 1) := dq_h (dq_t (dq_t (dq_t (dq_t (dq_t (dq_t (dq_t dzJ0_indexOf_7cf53_0)))))))
theorem dJ0_indexOf_7cf53_14 : decode cJ0_indexOf_7cf53 14 = .ok (.invokevirtual 505, 3) := dq_h (dq_t (dq_t (dq_t (dq_t (dq_t (dq_t (dq_t (dq_t dzJ0_indexOf_7cf53_0))))))))
theorem dJ0_indexOf_7cf53_17 : decode cJ0_indexOf_7cf53 17 = .ok (.invokestatic 637, 3) := dq_h (dq_t (dq_t (dq_t (dq_t (dq_t (dq_t (dq_t (dq_t (dq_t dzJ0_indexOf_7cf53_0)))))))))
theorem dJ0_indexOf_7cf53_20 : decode cJ0_indexOf_7cf53 20 = .ok (.goto 16, 3) := dq_h (dq_t (dq_t (dq_t (dq_t (dq_t (dq_t (dq_t (dq_t (dq_t (dq_t dzJ0_indexOf_7cf53_0))))))))))
theorem dJ0_indexOf_7cf53_23 : decode cJ0_indexOf_7cf53 23 = .ok (.aload_n 0, 1) := dq_h (dq_t (dq_t (dq_t (dq_t (dq_t (dq_t (dq_t (dq_t (dq_t (dq_t (dq_t dzJ0_indexOf_7cf53_0)))))))))))
theorem dJ0_indexOf_7cf53_24 : decode cJ0_indexOf_7cf53 24 = .ok (.getfield 9, 3) := dq_h (dq_t (dq_t (dq_t (dq_t (dq_t (dq_t (dq_t (dq_t (dq_t (dq_t (dq_t (dq_t dzJ0_indexOf_7cf53_0))))))))))))
theorem dJ0_indexOf_7cf53_27 : decode cJ0_indexOf_7cf53 27 = .ok (.iload_n 1, 1) := dq_h (dq_t (dq_t (dq_t (dq_t (dq_t (dq_t (dq_t (dq_t (dq_t (dq_t (dq_t (dq_t (dq_t dzJ0_indexOf_7cf53_0)))))))))))))
theorem dJ0_indexOf_7cf53_28 : decode cJ0_indexOf_7cf53 28 = .ok (.iload_n 2, 1) := dq_h (dq_t (dq_t (dq_t (dq_t (dq_t (dq_t (dq_t (dq_t (dq_t (dq_t (dq_t (dq_t (dq_t (dq_t dzJ0_indexOf_7cf53_0))))))))))))))
theorem dJ0_indexOf_7cf53_29 : decode cJ0_indexOf_7cf53 29 = .ok (.aload_n 0, 1) := dq_h (dq_t (dq_t (dq_t (dq_t (dq_t (dq_t (dq_t (dq_t (dq_t (dq_t (dq_t (dq_t (dq_t (dq_t (dq_t dzJ0_indexOf_7cf53_0)))))))))))))))
theorem dJ0_indexOf_7cf53_30 : decode cJ0_indexOf_7cf53 30 = .ok (.invokevirtual 505, 3) := dq_h (dq_t (dq_t (dq_t (dq_t (dq_t (dq_t (dq_t (dq_t (dq_t (dq_t (dq_t (dq_t (dq_t (dq_t (dq_t (dq_t dzJ0_indexOf_7cf53_0))))))))))))))))
theorem dJ0_indexOf_7cf53_33 : decode cJ0_indexOf_7cf53 33 = .ok (.invokestatic 640, 3) := dq_h (dq_t (dq_t (dq_t (dq_t (dq_t (dq_t (dq_t (dq_t (dq_t (dq_t (dq_t (dq_t (dq_t (dq_t (dq_t (dq_t (dq_t dzJ0_indexOf_7cf53_0)))))))))))))))))
theorem dJ0_indexOf_7cf53_36 : decode cJ0_indexOf_7cf53 36 = .ok (.ireturn, 1) := dq_h (dq_t (dq_t (dq_t (dq_t (dq_t (dq_t (dq_t (dq_t (dq_t (dq_t (dq_t (dq_t (dq_t (dq_t (dq_t (dq_t (dq_t (dq_t dzJ0_indexOf_7cf53_0))))))))))))))))))
theorem dzJ0_coder_7d493_0 : dq_F cJ0_coder_7d493 [(0, .getstatic 38, 3), (3, .ifCond .eq 10, 3), (6, .aload_n 0, 1), (7, .getfield 15, 3), (10, .goto 4, 3), (13, .iconst 1, 1), (14, .ireturn, 1)] := dq_s 7 0 (by decide +kernel)
theorem dJ0_coder_7d493_0 : decode cJ0_coder_7d493 0 = .ok (.getstatic 38, 3) := dq_h dzJ0_coder_7d493_0
theorem dJ0_coder_7d493_3 : decode cJ0_coder_7d493 3 = .ok (.ifCond .eq 10, 3) := dq_h (dq_t dzJ0_coder_7d493_0)
theorem dJ0_coder_7d493_6 : decode cJ0_coder_7d493 6 = .ok (.aload_n 0, 1) := dq_h (dq_t (dq_t dzJ0_coder_7d493_0))
theorem dJ0_coder_7d493_7 : decode cJ0_coder_7d493 7 = .ok (.getfield 15, 3) := dq_h (dq_t (dq_t (dq_t dzJ0_coder_7d493_0)))
theorem dJ0_coder_7d493_10 : decode cJ0_coder_7d493 10 = .ok (.goto 4, 3) := dq_h (dq_t (dq_t (dq_t (dq_t dzJ0_coder_7d493_0))))
theorem dJ0_coder_7d493_13 : decode cJ0_coder_7d493 13 = .ok (.iconst 1, 1) := dq_h (dq_t (dq_t (dq_t (dq_t (dq_t dzJ0_coder_7d493_0)))))
theorem dJ0_coder_7d493_14 : decode cJ0_coder_7d493 14 = .ok (.ireturn, 1) := dq_h (dq_t (dq_t (dq_t (dq_t (dq_t (dq_t dzJ0_coder_7d493_0))))))
theorem dzJ0_isLatin1_aae02_0 : dq_F cJ0_isLatin1_aae02 [(0, .getstatic 38, 3), (3, .ifCond .eq 14, 3), (6, .aload_n 0, 1), (7, .getfield 15, 3), (10, .ifCond .ne 7, 3), (13, .iconst 1, 1), (14, .goto 4, 3), (17, .iconst 0, 1), (18, .ireturn, 1)] := dq_s 9 0 (by decide +kernel)
theorem dJ0_isLatin1_aae02_0 : decode cJ0_isLatin1_aae02 0 = .ok (.getstatic 38, 3) := dq_h dzJ0_isLatin1_aae02_0
theorem dJ0_isLatin1_aae02_3 : decode cJ0_isLatin1_aae02 3 = .ok (.ifCond .eq 14, 3) := dq_h (dq_t dzJ0_isLatin1_aae02_0)
theorem dJ0_isLatin1_aae02_6 : decode cJ0_isLatin1_aae02 6 = .ok (.aload_n 0, 1) := dq_h (dq_t (dq_t dzJ0_isLatin1_aae02_0))
theorem dJ0_isLatin1_aae02_7 : decode cJ0_isLatin1_aae02 7 = .ok (.getfield 15, 3) := dq_h (dq_t (dq_t (dq_t dzJ0_isLatin1_aae02_0)))
theorem dJ0_isLatin1_aae02_10 : decode cJ0_isLatin1_aae02 10 = .ok (.ifCond .ne 7, 3) := dq_h (dq_t (dq_t (dq_t (dq_t dzJ0_isLatin1_aae02_0))))
theorem dJ0_isLatin1_aae02_13 : decode cJ0_isLatin1_aae02 13 = .ok (.iconst 1, 1) := dq_h (dq_t (dq_t (dq_t (dq_t (dq_t dzJ0_isLatin1_aae02_0)))))
theorem dJ0_isLatin1_aae02_14 : decode cJ0_isLatin1_aae02 14 = .ok (.goto 4, 3) := dq_h (dq_t (dq_t (dq_t (dq_t (dq_t (dq_t dzJ0_isLatin1_aae02_0))))))
theorem dJ0_isLatin1_aae02_17 : decode cJ0_isLatin1_aae02 17 = .ok (.iconst 0, 1) := dq_h (dq_t (dq_t (dq_t (dq_t (dq_t (dq_t (dq_t dzJ0_isLatin1_aae02_0)))))))
theorem dJ0_isLatin1_aae02_18 : decode cJ0_isLatin1_aae02 18 = .ok (.ireturn, 1) := dq_h (dq_t (dq_t (dq_t (dq_t (dq_t (dq_t (dq_t (dq_t dzJ0_isLatin1_aae02_0))))))))
theorem dzJ0_checkIndex_df160_0 : dq_F cJ0_checkIndex_df160 [(0, .iload_n 0, 1), (1, .iload_n 1, 1), (2, .getstatic 1053, 3), (5, .invokestatic 1059, 3), (8, .pop, 1), (9, .return_, 1)] := dq_s 6 0 (by decide +kernel)
theorem dJ0_checkIndex_df160_0 : decode cJ0_checkIndex_df160 0 = .ok (.iload_n 0, 1) := dq_h dzJ0_checkIndex_df160_0
theorem dJ0_checkIndex_df160_1 : decode cJ0_checkIndex_df160 1 = .ok (.iload_n 1, 1) := dq_h (dq_t dzJ0_checkIndex_df160_0)
theorem dJ0_checkIndex_df160_2 : decode cJ0_checkIndex_df160 2 = .ok (.getstatic 1053, 3) := dq_h (dq_t (dq_t dzJ0_checkIndex_df160_0))
theorem dJ0_checkIndex_df160_5 : decode cJ0_checkIndex_df160 5 = .ok (.invokestatic 1059, 3) := dq_h (dq_t (dq_t (dq_t dzJ0_checkIndex_df160_0)))
theorem dJ0_checkIndex_df160_8 : decode cJ0_checkIndex_df160 8 = .ok (.pop, 1) := dq_h (dq_t (dq_t (dq_t (dq_t dzJ0_checkIndex_df160_0))))
theorem dJ0_checkIndex_df160_9 : decode cJ0_checkIndex_df160 9 = .ok (.return_, 1) := dq_h (dq_t (dq_t (dq_t (dq_t (dq_t dzJ0_checkIndex_df160_0)))))
theorem dzJ0_checkBoundsBeginEnd_23922_0 : dq_F cJ0_checkBoundsBeginEnd_23922 [(0, .iload_n 0, 1), (1, .iload_n 1, 1), (2, .iload_n 2, 1), (3, .getstatic 1053, 3), (6, .invokestatic 1062, 3), (9, .pop, 1), (10, .return_, 1)] := dq_s 7 0 (by decide +kernel)
theorem dJ0_checkBoundsBeginEnd_23922_0 : decode cJ0_checkBoundsBeginEnd_23922 0 = .ok (.iload_n 0, 1) := dq_h dzJ0_checkBoundsBeginEnd_23922_0
theorem dJ0_checkBoundsBeginEnd_23922_1 : decode cJ0_checkBoundsBeginEnd_23922 1 = .ok (.iload_n 1, 1) := dq_h (dq_t dzJ0_checkBoundsBeginEnd_23922_0)
theorem dJ0_checkBoundsBeginEnd_23922_2 : decode cJ0_checkBoundsBeginEnd_23922 2 = .ok (.iload_n 2, 1) := dq_h (dq_t (dq_t dzJ0_checkBoundsBeginEnd_23922_0))
theorem dJ0_checkBoundsBeginEnd_23922_3 : decode cJ0_checkBoundsBeginEnd_23922 3 = .ok (.getstatic 1053, 3) := dq_h (dq_t (dq_t (dq_t dzJ0_checkBoundsBeginEnd_23922_0)))
theorem dJ0_checkBoundsBeginEnd_23922_6 : decode cJ0_checkBoundsBeginEnd_23922 6 = .ok (.invokestatic 1062, 3) := dq_h (dq_t (dq_t (dq_t (dq_t dzJ0_checkBoundsBeginEnd_23922_0))))
theorem dJ0_checkBoundsBeginEnd_23922_9 : decode cJ0_checkBoundsBeginEnd_23922 9 = .ok (.pop, 1) := dq_h (dq_t (dq_t (dq_t (dq_t (dq_t dzJ0_checkBoundsBeginEnd_23922_0)))))
theorem dJ0_checkBoundsBeginEnd_23922_10 : decode cJ0_checkBoundsBeginEnd_23922 10 = .ok (.return_, 1) := dq_h (dq_t (dq_t (dq_t (dq_t (dq_t (dq_t dzJ0_checkBoundsBeginEnd_23922_0))))))
theorem dzJ1_charAt_3b067_0 : dq_F cJ1_charAt_3b067 [(0, .iload_n 1, 1), (1, .aload_n 0, 1), (2, .arraylength, 1), (3, .invokestatic 9, 3), (6, .aload_n 0, 1), (7, .iload_n 1, 1), (8, .baload, 1), (9, .sipush 255, 3), (12, .iand, 1), (13, .i2c, 1), (14, .ireturn, 1)] := dq_s 11 0 (by decide +kernel)
theorem dJ1_charAt_3b067_0 : decode cJ1_charAt_3b067 0 = .ok (.iload_n 1, 1) := dq_h dzJ1_charAt_3b067_0
theorem dJ1_charAt_3b067_1 : decode cJ1_charAt_3b067 1 = .ok (.aload_n 0, 1) := dq_h (dq_t dzJ1_charAt_3b067_0)
theorem dJ1_charAt_3b067_2 : decode cJ1_charAt_3b067 2 = .ok (.arraylength, 1) := dq_h (dq_t (dq_t dzJ1_charAt_3b067_0))
theorem dJ1_charAt_3b067_3 : decode cJ1_charAt_3b067 3 = .ok (.invokestatic 9, 3) := dq_h (dq_t (dq_t (dq_t dzJ1_charAt_3b067_0)))
theorem dJ1_charAt_3b067_6 : decode cJ1_charAt_3b067 6 = .ok (.aload_n 0, 1) := dq_h (dq_t (dq_t (dq_t (dq_t dzJ1_charAt_3b067_0))))
theorem dJ1_charAt_3b067_7 : decode cJ1_charAt_3b067 7 = .ok (.iload_n 1, 1) := dq_h (dq_t (dq_t (dq_t (dq_t (dq_t dzJ1_charAt_3b067_0)))))
theorem dJ1_charAt_3b067_8 : decode cJ1_charAt_3b067 8 = .ok (.baload, 1) := dq_h (dq_t (dq_t (dq_t (dq_t (dq_t (dq_t dzJ1_charAt_3b067_0))))))
theorem dJ1_charAt_3b067_9 : decode cJ1_charAt_3b067 9 = .ok (.sipush 255, 3) := dq_h (dq_t (dq_t (dq_t (dq_t (dq_t (dq_t (dq_t dzJ1_charAt_3b067_0)))))))
theorem dJ1_charAt_3b067_12 : decode cJ1_charAt_3b067 12 = .ok (.iand, 1) := dq_h (dq_t (dq_t (dq_t (dq_t (dq_t (dq_t (dq_t (dq_t dzJ1_charAt_3b067_0))))))))
theorem dJ1_charAt_3b067_13 : decode cJ1_charAt_3b067 13 = .ok (.i2c, 1) := dq_h (dq_t (dq_t (dq_t (dq_t (dq_t (dq_t (dq_t (dq_t (dq_t dzJ1_charAt_3b067_0)))))))))
theorem dJ1_charAt_3b067_14 : decode cJ1_charAt_3b067 14 = .ok (.ireturn, 1) := dq_h (dq_t (dq_t (dq_t (dq_t (dq_t (dq_t (dq_t (dq_t (dq_t (dq_t dzJ1_charAt_3b067_0))))))))))
theorem dzJ1_canEncode_9a6ad_0 : dq_F cJ1_canEncode_9a6ad [(0, .iload_n 0, 1), (1, .ifCond .lt 14, 3), (4, .iload_n 0, 1), (5, .sipush 255, 3), (8, .if_icmp .gt 7, 3), (11, .iconst 1, 1), (12, .goto 4, 3), (15, .iconst 0, 1), (16, .ireturn, 1)] := dq_s 9 0 (by decide +kernel)
theorem dJ1_canEncode_9a6ad_0 : decode cJ1_canEncode_9a6ad 0 = .ok (.iload_n 0, 1) := dq_h dzJ1_canEncode_9a6ad_0
theorem dJ1_canEncode_9a6ad_1 : decode cJ1_canEncode_9a6ad 1 = .ok (.ifCond .lt 14, 3) := dq_h (dq_t dzJ1_canEncode_9a6ad_0)
theorem dJ1_canEncode_9a6ad_4 : decode cJ1_canEncode_9a6ad 4 = .ok (.iload_n 0, 1) := dq_h (dq_t (dq_t dzJ1_canEncode_9a6ad_0))
theorem dJ1_canEncode_9a6ad_5 : decode cJ1_canEncode_9a6ad 5 = .ok (.sipush 255, 3) := dq_h (dq_t (dq_t (dq_t dzJ1_canEncode_9a6ad_0)))
theorem dJ1_canEncode_9a6ad_8 : decode cJ1_canEncode_9a6ad 8 = .ok (.if_icmp .gt 7, 3) := dq_h (dq_t (dq_t (dq_t (dq_t dzJ1_canEncode_9a6ad_0))))
theorem dJ1_canEncode_9a6ad_11 : decode cJ1_canEncode_9a6ad 11 = .ok (.iconst 1, 1) := dq_h (dq_t (dq_t (dq_t (dq_t (dq_t dzJ1_canEncode_9a6ad_0)))))
theorem dJ1_canEncode_9a6ad_12 : decode cJ1_canEncode_9a6ad 12 = .ok (.goto 4, 3) := dq_h (dq_t (dq_t (dq_t (dq_t (dq_t (dq_t dzJ1_canEncode_9a6ad_0))))))
theorem dJ1_canEncode_9a6ad_15 : decode cJ1_canEncode_9a6ad 15 = .ok (.iconst 0, 1) := dq_h (dq_t (dq_t (dq_t (dq_t (dq_t (dq_t (dq_t dzJ1_canEncode_9a6ad_0)))))))
theorem dJ1_canEncode_9a6ad_16 : decode cJ1_canEncode_9a6ad 16 = .ok (.ireturn, 1) := dq_h (dq_t (dq_t (dq_t (dq_t (dq_t (dq_t (dq_t (dq_t dzJ1_canEncode_9a6ad_0))))))))
theorem dzJ1_indexOf_4cfef_0 : dq_F cJ1_indexOf_4cfef [(0, .iload_n 1, 1), (1, .invokestatic 88, 3), (4, .ifCond .ne 5, 3), (7, .iconst (-1), 1), (8, .ireturn, 1), (9, .iload_n 2, 1), (10, .iconst 0, 1), (11, .invokestatic 92, 3), (14, .istore_n 2, 1), (15, .iload_n 3, 1), (16, .aload_n 0, 1), (17, .arraylength, 1), (18, .invokestatic 38, 3), (21, .istore_n 3, 1), (22, .iload_n 2, 1), (23, .iload_n 3, 1), (24, .if_icmp .lt 5, 3), (27, .iconst (-1), 1), (28, .ireturn, 1), (29, .aload_n 0, 1), (30, .iload_n 1, 1), (31, .iload_n 2, 1), (32, .iload_n 3, 1), (33, .invokestatic 95, 3)] := dq_s 24 0 (by decide +kernel)
theorem dJ1_indexOf_4cfef_0 : decode cJ1_indexOf_4cfef 0 = .ok (.iload_n 1, 1) := dq_h dzJ1_indexOf_4cfef_0
theorem dJ1_indexOf_4cfef_1 : decode cJ1_indexOf_4cfef 1 = .ok (.invokestatic 88, 3) := dq_h (dq_t dzJ1_indexOf_4cfef_0)
theorem dJ1_indexOf_4cfef_4 : decode cJ1_indexOf_4cfef 4 = .ok (.ifCond .ne 5, 3) := dq_h (dq_t (dq_t dzJ1_indexOf_4cfef_0))
theorem dJ1_indexOf_4cfef_7 : decode cJ1_indexOf_4cfef 7 = .ok (.iconst (-1), 1) := dq_h (dq_t (dq_t (dq_t dzJ1_indexOf_4cfef_0)))
theorem dJ1_indexOf_4cfef_8 : decode cJ1_indexOf_4cfef 8 = .ok (.ireturn, 1) := dq_h (dq_t (dq_t (dq_t (dq_t dzJ1_indexOf_4cfef_0))))
theorem dJ1_indexOf_4cfef_9 : decode cJ1_indexOf_4cfef 9 = .ok (.iload_n 2, 1) := dq_h (dq_t (dq_t (dq_t (dq_t (dq_t dzJ1_indexOf_4cfef_0)))))
theorem dJ1_indexOf_4cfef_10 : decode cJ1_indexOf_4cfef 10 = .ok (.iconst 0, 1) := dq_h (dq_t (dq_t (dq_t (dq_t (dq_t (dq_t dzJ1_indexOf_4cfef_0))))))
theorem dJ1_indexOf_4cfef_11 : decode cJ1_indexOf_4cfef 11 = .ok (.invokestatic 92, 3) := dq_h (dq_t (dq_t (dq_t (dq_t (dq_t (dq_t (dq_t dzJ1_indexOf_4cfef_0)))))))
theorem dJ1_indexOf_4cfef_14 : decode cJ1_indexOf_4cfef 14 = .ok (.istore_n 2, 1) := dq_h (dq_t (dq_t (dq_t (dq_t (dq_t (dq_t (dq_t (dq_t dzJ1_indexOf_4cfef_0))))))))
theorem dJ1_indexOf_4cfef_15 : decode cJ1_indexOf_4cfef 15 = .ok (.iload_n 3, 1) := dq_h (dq_t (dq_t (dq_t (dq_t (dq_t (dq_t (dq_t (dq_t (dq_t dzJ1_indexOf_4cfef_0)))))))))
theorem dJ1_indexOf_4cfef_16 : decode cJ1_indexOf_4cfef 16 = .ok (.aload_n 0, 1) := dq_h (dq_t (dq_t (dq_t (dq_t (dq_t (dq_t (dq_t (dq_t (dq_t (dq_t dzJ1_indexOf_4cfef_0))))))))))
theorem dJ1_indexOf_4cfef_17 : decode cJ1_indexOf_4cfef 17 = .ok (.arraylength, 1) := dq_h (dq_t (dq_t (dq_t (dq_t (dq_t (dq_t (dq_t (dq_t (dq_t (dq_t (dq_t dzJ1_indexOf_4cfef_0)))))))))))
theorem dJ1_indexOf_4cfef_18 : decode cJ1_indexOf_4cfef 18 = .ok (.invokestatic 38, 3) := dq_h (dq_t (dq_t (dq_t (dq_t (dq_t (dq_t (dq_t (dq_t (dq_t (dq_t (dq_t (dq_t dzJ1_indexOf_4cfef_0))))))))))))
theorem dJ1_indexOf_4cfef_21 : decode cJ1_indexOf_4cfef 21 = .ok (.istore_n 3, 1) := dq_h (dq_t (dq_t (dq_t (dq_t (dq_t (dq_t (dq_t (dq_t (dq_t (dq_t (dq_t (dq_t (dq_t dzJ1_indexOf_4cfef_0)))))))))))))
theorem dJ1_indexOf_4cfef_22 : decode cJ1_indexOf_4cfef 22 = .ok (.iload_n 2, 1) := dq_h (dq_t (dq_t (dq_t (dq_t (dq_t (dq_t (dq_t (dq_t (dq_t (dq_t (dq_t (dq_t (dq_t (dq_t dzJ1_indexOf_4cfef_0))))))))))))))
theorem dJ1_indexOf_4cfef_23 : decode cJ1_indexOf_4cfef 23 = .ok (.iload_n 3, 1) := dq_h (dq_t (dq_t (dq_t (dq_t (dq_t (dq_t (dq_t (dq_t (dq_t (dq_t (dq_t (dq_t (dq_t (dq_t (dq_t dzJ1_indexOf_4cfef_0)))))))))))))))
theorem dJ1_indexOf_4cfef_24 : decode cJ1_indexOf_4cfef 24 = .ok (.if_icmp .lt 5, 3) := dq_h (dq_t (dq_t (dq_t (dq_t (dq_t (dq_t (dq_t (dq_t (dq_t (dq_t (dq_t (dq_t (dq_t (dq_t (dq_t (dq_t dzJ1_indexOf_4cfef_0))))))))))))))))
theorem dJ1_indexOf_4cfef_27 : decode cJ1_indexOf_4cfef 27 = .ok (.iconst (-1), 1) := dq_h (dq_t (dq_t (dq_t (dq_t (dq_t (dq_t (dq_t (dq_t (dq_t (dq_t (dq_t (dq_t (dq_t (dq_t (dq_t (dq_t (dq_t dzJ1_indexOf_4cfef_0)))))))))))))))))
theorem dJ1_indexOf_4cfef_28 : decode cJ1_indexOf_4cfef 28 = .ok (.ireturn, 1) := dq_h (dq_t (dq_t (dq_t (dq_t (dq_t (dq_t (dq_t (dq_t (dq_t (dq_t (dq_t (dq_t (dq_t (dq_t (dq_t (dq_t (dq_t (dq_t dzJ1_indexOf_4cfef_0))))))))))))))))))
theorem dJ1_indexOf_4cfef_29 : decode cJ1_indexOf_4cfef 29 = .ok (.aload_n 0, 1) := dq_h (dq_t (dq_t (dq_t (dq_t (dq_t (dq_t (dq_t (dq_t (dq_t (dq_t (dq_t (dq_t (dq_t (dq_t (dq_t (dq_t (dq_t (dq_t (dq_t dzJ1_indexOf_4cfef_0)))))))))))))))))))
theorem dJ1_indexOf_4cfef_30 : decode cJ1_indexOf_4cfef 30 = .ok (.iload_n 1, 1) := dq_h (dq_t (dq_t (dq_t (dq_t (dq_t (dq_t (dq_t (dq_t (dq_t (dq_t (dq_t (dq_t (dq_t (dq_t (dq_t (dq_t (dq_t (dq_t (dq_t (dq_t dzJ1_indexOf_4cfef_0))))))))))))))))))))
theorem dJ1_indexOf_4cfef_31 : decode cJ1_indexOf_4cfef 31 = .ok (.iload_n 2, 1) := dq_h (dq_t (dq_t (dq_t (dq_t (dq_t (dq_t (dq_t (dq_t (dq_t (dq_t (dq_t (dq_t (dq_t (dq_t (dq_t (dq_t (dq_t (dq_t (dq_t (dq_t (dq_t dzJ1_indexOf_4cfef_0)))))))))))))))))))))
theorem dJ1_indexOf_4cfef_32 : decode cJ1_indexOf_4cfef 32 = .ok (.iload_n 3, 1) := dq_h (dq_t (dq_t (dq_t (dq_t (dq_t (dq_t (dq_t (dq_t (dq_t (dq_t (dq_t (dq_t (dq_t (dq_t (dq_t (dq_t (dq_t (dq_t (dq_t (dq_t (dq_t (dq_t dzJ1_indexOf_4cfef_0))))))))))))))))))))))
theorem dJ1_indexOf_4cfef_33 : decode cJ1_indexOf_4cfef 33 = .ok (.invokestatic 95, 3) := dq_h (dq_t (dq_t (dq_t (dq_t (dq_t (dq_t (dq_t (dq_t (dq_t (dq_t (dq_t (dq_t (dq_t (dq_t (dq_t (dq_t (dq_t (dq_t (dq_t (dq_t (dq_t (dq_t (dq_t dzJ1_indexOf_4cfef_0)))))))))))))))))))))))
theorem dJ1_indexOf_4cfef_36 : decode cJ1_indexOf_4cfef 36 = .ok (.ireturn, 1) := by decide +kernel
theorem dzJ1_indexOfChar_4cfef_0 : dq_F cJ1_indexOfChar_4cfef [(0, .iload_n 1, 1), (1, .i2b, 1), (2, .istore 4, 2), (4, .iload_n 2, 1), (5, .istore 5, 2), (7, .iload 5, 2), (9, .iload_n 3, 1), (10, .if_icmp .ge 21, 3), (13, .aload_n 0, 1), (14, .iload 5, 2), (16, .baload, 1), (17, .iload 4, 2), (19, .if_icmp .ne 6, 3), (22, .iload 5, 2), (24, .ireturn, 1), (25, .iinc 5 1, 3), (28, .goto (-21), 3), (31, .iconst (-1), 1), (32, .ireturn, 1)] := dq_s 19 0 (by decide +kernel)
theorem dJ1_indexOfChar_4cfef_0 : decode cJ1_indexOfChar_4cfef 0 = .ok (.iload_n 1, 1) := dq_h dzJ1_indexOfChar_4cfef_0
theorem dJ1_indexOfChar_4cfef_1 : decode cJ1_indexOfChar_4cfef 1 = .ok (.i2b, 1) := dq_h (dq_t dzJ1_indexOfChar_4cfef_0)
theorem dJ1_indexOfChar_4cfef_2 : decode cJ1_indexOfChar_4cfef 2 = .ok (.istore 4, 2) := dq_h (dq_t (dq_t dzJ1_indexOfChar_4cfef_0))
theorem dJ1_indexOfChar_4cfef_4 : decode cJ1_indexOfChar_4cfef 4 = .ok (.iload_n 2, 1) := dq_h (dq_t (dq_t (dq_t dzJ1_indexOfChar_4cfef_0)))
theorem dJ1_indexOfChar_4cfef_5 : decode cJ1_indexOfChar_4cfef 5 = .ok (.istore 5, 2) := dq_h (dq_t (dq_t (dq_t (dq_t dzJ1_indexOfChar_4cfef_0))))
theorem dJ1_indexOfChar_4cfef_7 : decode cJ1_indexOfChar_4cfef 7 = .ok (.iload 5, 2) := dq_h (dq_t (dq_t (dq_t (dq_t (dq_t dzJ1_indexOfChar_4cfef_0)))))
theorem dJ1_indexOfChar_4cfef_9 : decode cJ1_indexOfChar_4cfef 9 = .ok (.iload_n 3, 1) := dq_h (dq_t (dq_t (dq_t (dq_t (dq_t (dq_t dzJ1_indexOfChar_4cfef_0))))))
theorem dJ1_indexOfChar_4cfef_10 : decode cJ1_indexOfChar_4cfef 10 = .ok (.if_icmp .ge 21, 3) := dq_h (dq_t (dq_t (dq_t (dq_t (dq_t (dq_t (dq_t dzJ1_indexOfChar_4cfef_0)))))))
theorem dJ1_indexOfChar_4cfef_13 : decode cJ1_indexOfChar_4cfef 13 = .ok (.aload_n 0, 1) := dq_h (dq_t (dq_t (dq_t (dq_t (dq_t (dq_t (dq_t (dq_t dzJ1_indexOfChar_4cfef_0))))))))
theorem dJ1_indexOfChar_4cfef_14 : decode cJ1_indexOfChar_4cfef 14 = .ok (.iload 5, 2) := dq_h (dq_t (dq_t (dq_t (dq_t (dq_t (dq_t (dq_t (dq_t (dq_t dzJ1_indexOfChar_4cfef_0)))))))))
theorem dJ1_indexOfChar_4cfef_16 : decode cJ1_indexOfChar_4cfef 16 = .ok (.baload, 1) := dq_h (dq_t (dq_t (dq_t (dq_t (dq_t (dq_t (dq_t (dq_t (dq_t (dq_t dzJ1_indexOfChar_4cfef_0))))))))))
theorem dJ1_indexOfChar_4cfef_17 : decode cJ1_indexOfChar_4cfef 17 = .ok (.iload 4, 2) := dq_h (dq_t (dq_t (dq_t (dq_t (dq_t (dq_t (dq_t (dq_t (dq_t (dq_t (dq_t dzJ1_indexOfChar_4cfef_0)))))))))))
theorem dJ1_indexOfChar_4cfef_19 : decode cJ1_indexOfChar_4cfef 19 = .ok (.if_icmp .ne 6, 3) := dq_h (dq_t (dq_t (dq_t (dq_t (dq_t (dq_t (dq_t (dq_t (dq_t (dq_t (dq_t (dq_t dzJ1_indexOfChar_4cfef_0))))))))))))
theorem dJ1_indexOfChar_4cfef_22 : decode cJ1_indexOfChar_4cfef 22 = .ok (.iload 5, 2) := dq_h (dq_t (dq_t (dq_t (dq_t (dq_t (dq_t (dq_t (dq_t (dq_t (dq_t (dq_t (dq_t (dq_t dzJ1_indexOfChar_4cfef_0)))))))))))))
theorem dJ1_indexOfChar_4cfef_24 : decode cJ1_indexOfChar_4cfef 24 = .ok (.ireturn, 1) := dq_h (dq_t (dq_t (dq_t (dq_t (dq_t (dq_t (dq_t (dq_t (dq_t (dq_t (dq_t (dq_t (dq_t (dq_t dzJ1_indexOfChar_4cfef_0))))))))))))))
theorem dJ1_indexOfChar_4cfef_25 : decode cJ1_indexOfChar_4cfef 25 = .ok (.iinc 5 1, 3) := dq_h (dq_t (dq_t (dq_t (dq_t (dq_t (dq_t (dq_t (dq_t (dq_t (dq_t (dq_t (dq_t (dq_t (dq_t (dq_t dzJ1_indexOfChar_4cfef_0)))))))))))))))
theorem dJ1_indexOfChar_4cfef_28 : decode cJ1_indexOfChar_4cfef 28 = .ok (.goto (-21), 3) := dq_h (dq_t (dq_t (dq_t (dq_t (dq_t (dq_t (dq_t (dq_t (dq_t (dq_t (dq_t (dq_t (dq_t (dq_t (dq_t (dq_t dzJ1_indexOfChar_4cfef_0))))))))))))))))
theorem dJ1_indexOfChar_4cfef_31 : decode cJ1_indexOfChar_4cfef 31 = .ok (.iconst (-1), 1) := dq_h (dq_t (dq_t (dq_t (dq_t (dq_t (dq_t (dq_t (dq_t (dq_t (dq_t (dq_t (dq_t (dq_t (dq_t (dq_t (dq_t (dq_t dzJ1_indexOfChar_4cfef_0)))))))))))))))))
theorem dJ1_indexOfChar_4cfef_32 : decode cJ1_indexOfChar_4cfef 32 = .ok (.ireturn, 1) := dq_h (dq_t (dq_t (dq_t (dq_t (dq_t (dq_t (dq_t (dq_t (dq_t (dq_t (dq_t (dq_t (dq_t (dq_t (dq_t (dq_t (dq_t (dq_t dzJ1_indexOfChar_4cfef_0))))))))))))))))))
theorem dzJ2_getChar_3b067_0 : dq_F cJ2_getChar_3b067 [(0, .getstatic 44, 3), (3, .ifCond .ne 25, 3), (6, .iload_n 1, 1), (7, .ifCond .lt 11, 3), (10, .iload_n 1, 1), (11, .aload_n 0, 1), (12, .invokestatic 48, 3), (15, .if_icmp .lt 13, 3), (18, .new 52, 3), (21, .dup, 1), (22, .ldc 54, 2), (24, .invokespecial 56, 3), (27, .athrow, 1), (28, .iload_n 1, 1), (29, .iconst 1, 1), (30, .ishl, 1), (31, .istore_n 1, 1), (32, .aload_n 0, 1), (33, .iload_n 1, 1), (34, .iinc 1 1, 3), (37, .baload, 1), (38, .sipush 255, 3), (41, .iand, 1), (42, .getstatic 59, 3)] := dq_s 24 0 (by decide +kernel)
theorem dJ2_getChar_3b067_0 : decode cJ2_getChar_3b067 0 = .ok (.getstatic 44, 3) := dq_h dzJ2_getChar_3b067_0
theorem dJ2_getChar_3b067_3 : decode cJ2_getChar_3b067 3 = .ok (.ifCond .ne 25, 3) := dq_h (dq_t dzJ2_getChar_3b067_0)
theorem dJ2_getChar_3b067_6 : decode cJ2_getChar_3b067 6 = .ok (.iload_n 1, 1) := dq_h (dq_t (dq_t dzJ2_getChar_3b067_0))
theorem dJ2_getChar_3b067_7 : decode cJ2_getChar_3b067 7 = .ok (.ifCond .lt 11, 3) := dq_h (dq_t (dq_t (dq_t dzJ2_getChar_3b067_0)))
theorem dJ2_getChar_3b067_10 : decode cJ2_getChar_3b067 10 = .ok (.iload_n 1, 1) := dq_h (dq_t (dq_t (dq_t (dq_t dzJ2_getChar_3b067_0))))
theorem dJ2_getChar_3b067_11 : decode cJ2_getChar_3b067 11 = .ok (.aload_n 0, 1) := dq_h (dq_t (dq_t (dq_t (dq_t (dq_t dzJ2_getChar_3b067_0)))))
theorem dJ2_getChar_3b067_12 : decode cJ2_getChar_3b067 12 = .ok (.invokestatic 48, 3) := dq_h (dq_t (dq_t (dq_t (dq_t (dq_t (dq_t dzJ2_getChar_3b067_0))))))
theorem dJ2_getChar_3b067_15 : decode cJ2_getChar_3b067 15 = .ok (.if_icmp .lt 13, 3) := dq_h (dq_t (dq_t (dq_t (dq_t (dq_t (dq_t (dq_t dzJ2_getChar_3b067_0)))))))
theorem dJ2_getChar_3b067_18 : decode cJ2_getChar_3b067 18 = .ok (.new 52, 3) := dq_h (dq_t (dq_t (dq_t (dq_t (dq_t (dq_t (dq_t (dq_t dzJ2_getChar_3b067_0))))))))
theorem dJ2_getChar_3b067_21 : decode cJ2_getChar_3b067 21 = .ok (.dup, 1) := dq_h (dq_t (dq_t (dq_t (dq_t (dq_t (dq_t (dq_t (dq_t (dq_t dzJ2_getChar_3b067_0)))))))))
theorem dJ2_getChar_3b067_22 : decode cJ2_getChar_3b067 22 = .ok (.ldc 54, 2) := dq_h (dq_t (dq_t (dq_t (dq_t (dq_t (dq_t (dq_t (dq_t (dq_t (dq_t dzJ2_getChar_3b067_0))))))))))
theorem dJ2_getChar_3b067_24 : decode cJ2_getChar_3b067 24 = .ok (.invokespecial 56, 3) := dq_h (dq_t (dq_t (dq_t (dq_t (dq_t (dq_t (dq_t (dq_t (dq_t (dq_t (dq_t dzJ2_getChar_3b067_0)))))))))))
theorem dJ2_getChar_3b067_27 : decode cJ2_getChar_3b067 27 = .ok (.athrow, 1) := dq_h (dq_t (dq_t (dq_t (dq_t (dq_t (dq_t (dq_t (dq_t (dq_t (dq_t (dq_t (dq_t dzJ2_getChar_3b067_0))))))))))))
theorem dJ2_getChar_3b067_28 : decode cJ2_getChar_3b067 28 = .ok (.iload_n 1, 1) := dq_h (dq_t (dq_t (dq_t (dq_t (dq_t (dq_t (dq_t (dq_t (dq_t (dq_t (dq_t (dq_t (dq_t dzJ2_getChar_3b067_0)))))))))))))
theorem dJ2_getChar_3b067_29 : decode cJ2_getChar_3b067 29 = .ok (.iconst 1, 1) := dq_h (dq_t (dq_t (dq_t (dq_t (dq_t (dq_t (dq_t (dq_t (dq_t (dq_t (dq_t (dq_t (dq_t (dq_t dzJ2_getChar_3b067_0))))))))))))))
theorem dJ2_getChar_3b067_30 : decode cJ2_getChar_3b067 30 = .ok (.ishl, 1) := dq_h (dq_t (dq_t (dq_t (dq_t (dq_t (dq_t (dq_t (dq_t (dq_t (dq_t (dq_t (dq_t (dq_t (dq_t (dq_t dzJ2_getChar_3b067_0)))))))))))))))
theorem dJ2_getChar_3b067_31 : decode cJ2_getChar_3b067 31 = .ok (.istore_n 1, 1) := dq_h (dq_t (dq_t (dq_t (dq_t (dq_t (dq_t (dq_t (dq_t (dq_t (dq_t (dq_t (dq_t (dq_t (dq_t (dq_t (dq_t dzJ2_getChar_3b067_0))))))))))))))))
theorem dJ2_getChar_3b067_32 : decode cJ2_getChar_3b067 32 = .ok (.aload_n 0, 1) := dq_h (dq_t (dq_t (dq_t (dq_t (dq_t (dq_t (dq_t (dq_t (dq_t (dq_t (dq_t (dq_t (dq_t (dq_t (dq_t (dq_t (dq_t dzJ2_getChar_3b067_0)))))))))))))))))
theorem dJ2_getChar_3b067_33 : decode cJ2_getChar_3b067 33 = .ok (.iload_n 1, 1) := dq_h (dq_t (dq_t (dq_t (dq_t (dq_t (dq_t (dq_t (dq_t (dq_t (dq_t (dq_t (dq_t (dq_t (dq_t (dq_t (dq_t (dq_t (dq_t dzJ2_getChar_3b067_0))))))))))))))))))
theorem dJ2_getChar_3b067_34 : decode cJ2_getChar_3b067 34 = .ok (.iinc 1 1, 3) := dq_h (dq_t (dq_t (dq_t (dq_t (dq_t (dq_t (dq_t (dq_t (dq_t (dq_t (dq_t (dq_t (dq_t (dq_t (dq_t (dq_t (dq_t (dq_t (dq_t dzJ2_getChar_3b067_0)))))))))))))))))))
theorem dJ2_getChar_3b067_37 : decode cJ2_getChar_3b067 37 = .ok (.baload, 1) := dq_h (dq_t (dq_t (dq_t (dq_t (dq_t (dq_t (dq_t (dq_t (dq_t (dq_t (dq_t (dq_t (dq_t (dq_t (dq_t (dq_t (dq_t (dq_t (dq_t (dq_t dzJ2_getChar_3b067_0))))))))))))))))))))
theorem dJ2_getChar_3b067_38 : decode cJ2_getChar_3b067 38 = .ok (.sipush 255, 3) := dq_h (dq_t (dq_t (dq_t (dq_t (dq_t (dq_t (dq_t (dq_t (dq_t (dq_t (dq_t (dq_t (dq_t (dq_t (dq_t (dq_t (dq_t (dq_t (dq_t (dq_t (dq_t dzJ2_getChar_3b067_0)))))))))))))))))))))
theorem dJ2_getChar_3b067_41 : decode cJ2_getChar_3b067 41 = .ok (.iand, 1) := dq_h (dq_t (dq_t (dq_t (dq_t (dq_t (dq_t (dq_t (dq_t (dq_t (dq_t (dq_t (dq_t (dq_t (dq_t (dq_t (dq_t (dq_t (dq_t (dq_t (dq_t (dq_t (dq_t dzJ2_getChar_3b067_0))))))))))))))))))))))
theorem dJ2_getChar_3b067_42 : decode cJ2_getChar_3b067 42 = .ok (.getstatic 59, 3) := dq_h (dq_t (dq_t (dq_t (dq_t (dq_t (dq_t (dq_t (dq_t (dq_t (dq_t (dq_t (dq_t (dq_t (dq_t (dq_t (dq_t (dq_t (dq_t (dq_t (dq_t (dq_t (dq_t (dq_t dzJ2_getChar_3b067_0)))))))))))))))))))))))
theorem dzJ2_getChar_3b067_45 : dq_F cJ2_getChar_3b067 [(45, .ishl, 1), (46, .aload_n 0, 1), (47, .iload_n 1, 1), (48, .baload, 1), (49, .sipush 255, 3), (52, .iand, 1), (53, .getstatic 63, 3), (56, .ishl, 1), (57, .ior, 1), (58, .i2c, 1), (59, .ireturn, 1)] := dq_s 11 45 (by decide +kernel)
theorem dJ2_getChar_3b067_45 : decode cJ2_getChar_3b067 45 = .ok (.ishl, 1) := dq_h dzJ2_getChar_3b067_45
theorem dJ2_getChar_3b067_46 : decode cJ2_getChar_3b067 46 = .ok (.aload_n 0, 1) := dq_h (dq_t dzJ2_getChar_3b067_45)
theorem dJ2_getChar_3b067_47 : decode cJ2_getChar_3b067 47 = .ok (.iload_n 1, 1) := dq_h (dq_t (dq_t dzJ2_getChar_3b067_45))
theorem dJ2_getChar_3b067_48 : decode cJ2_getChar_3b067 48 = .ok (.baload, 1) := dq_h (dq_t (dq_t (dq_t dzJ2_getChar_3b067_45)))
theorem dJ2_getChar_3b067_49 : decode cJ2_getChar_3b067 49 = .ok (.sipush 255, 3) := dq_h (dq_t (dq_t (dq_t (dq_t dzJ2_getChar_3b067_45))))
theorem dJ2_getChar_3b067_52 : decode cJ2_getChar_3b067 52 = .ok (.iand, 1) := dq_h (dq_t (dq_t (dq_t (dq_t (dq_t dzJ2_getChar_3b067_45)))))
theorem dJ2_getChar_3b067_53 : decode cJ2_getChar_3b067 53 = .ok (.getstatic 63, 3) := dq_h (dq_t (dq_t (dq_t (dq_t (dq_t (dq_t dzJ2_getChar_3b067_45))))))
theorem dJ2_getChar_3b067_56 : decode cJ2_getChar_3b067 56 = .ok (.ishl, 1) := dq_h (dq_t (dq_t (dq_t (dq_t (dq_t (dq_t (dq_t dzJ2_getChar_3b067_45)))))))
theorem dJ2_getChar_3b067_57 : decode cJ2_getChar_3b067 57 = .ok (.ior, 1) := dq_h (dq_t (dq_t (dq_t (dq_t (dq_t (dq_t (dq_t (dq_t dzJ2_getChar_3b067_45))))))))
theorem dJ2_getChar_3b067_58 : decode cJ2_getChar_3b067 58 = .ok (.i2c, 1) := dq_h (dq_t (dq_t (dq_t (dq_t (dq_t (dq_t (dq_t (dq_t (dq_t dzJ2_getChar_3b067_45)))))))))
theorem dJ2_getChar_3b067_59 : decode cJ2_getChar_3b067 59 = .ok (.ireturn, 1) := dq_h (dq_t (dq_t (dq_t (dq_t (dq_t (dq_t (dq_t (dq_t (dq_t (dq_t dzJ2_getChar_3b067_45))))))))))
theorem dzJ2_length_9d52b_0 : dq_F cJ2_length_9d52b [(0, .aload_n 0, 1), (1, .arraylength, 1), (2, .iconst 1, 1), (3, .ishr, 1), (4, .ireturn, 1)] := dq_s 5 0 (by decide +kernel)
theorem dJ2_length_9d52b_0 : decode cJ2_length_9d52b 0 = .ok (.aload_n 0, 1) := dq_h dzJ2_length_9d52b_0
theorem dJ2_length_9d52b_1 : decode cJ2_length_9d52b 1 = .ok (.arraylength, 1) := dq_h (dq_t dzJ2_length_9d52b_0)
theorem dJ2_length_9d52b_2 : decode cJ2_length_9d52b 2 = .ok (.iconst 1, 1) := dq_h (dq_t (dq_t dzJ2_length_9d52b_0))
theorem dJ2_length_9d52b_3 : decode cJ2_length_9d52b 3 = .ok (.ishr, 1) := dq_h (dq_t (dq_t (dq_t dzJ2_length_9d52b_0)))
theorem dJ2_length_9d52b_4 : decode cJ2_length_9d52b 4 = .ok (.ireturn, 1) := dq_h (dq_t (dq_t (dq_t (dq_t dzJ2_length_9d52b_0))))
theorem dzJ2_indexOf_4cfef_0 : dq_F cJ2_indexOf_4cfef [(0, .iload_n 2, 1), (1, .iconst 0, 1), (2, .invokestatic 224, 3), (5, .istore_n 2, 1), (6, .iload_n 3, 1), (7, .aload_n 0, 1), (8, .arraylength, 1), (9, .iconst 1, 1), (10, .ishr, 1), (11, .invokestatic 183, 3), (14, .istore_n 3, 1), (15, .iload_n 2, 1), (16, .iload_n 3, 1), (17, .if_icmp .lt 5, 3), (20, .iconst (-1), 1), (21, .ireturn, 1), (22, .iload_n 1, 1), (23, .ldc 227, 2), (25, .if_icmp .ge 11, 3), (28, .aload_n 0, 1), (29, .iload_n 1, 1), (30, .iload_n 2, 1), (31, .iload_n 3, 1), (32, .invokestatic 228, 3)] := dq_s 24 0 (by decide +kernel)
theorem dJ2_indexOf_4cfef_0 : decode cJ2_indexOf_4cfef 0 = .ok (.iload_n 2, 1) := dq_h dzJ2_indexOf_4cfef_0
theorem dJ2_indexOf_4cfef_1 : decode cJ2_indexOf_4cfef 1 = .ok (.iconst 0, 1) := dq_h (dq_t dzJ2_indexOf_4cfef_0)
theorem dJ2_indexOf_4cfef_2 : decode cJ2_indexOf_4cfef 2 = .ok (.invokestatic 224, 3) := dq_h (dq_t (dq_t dzJ2_indexOf_4cfef_0))
theorem dJ2_indexOf_4cfef_5 : decode cJ2_indexOf_4cfef 5 = .ok (.istore_n 2, 1) := dq_h (dq_t (dq_t (dq_t dzJ2_indexOf_4cfef_0)))
theorem dJ2_indexOf_4cfef_6 : decode cJ2_indexOf_4cfef 6 = .ok (.iload_n 3, 1) := dq_h (dq_t (dq_t (dq_t (dq_t dzJ2_indexOf_4cfef_0))))
theorem dJ2_indexOf_4cfef_7 : decode cJ2_indexOf_4cfef 7 = .ok (.aload_n 0, 1) := dq_h (dq_t (dq_t (dq_t (dq_t (dq_t dzJ2_indexOf_4cfef_0)))))
theorem dJ2_indexOf_4cfef_8 : decode cJ2_indexOf_4cfef 8 = .ok (.arraylength, 1) := dq_h (dq_t (dq_t (dq_t (dq_t (dq_t (dq_t dzJ2_indexOf_4cfef_0))))))
theorem dJ2_indexOf_4cfef_9 : decode cJ2_indexOf_4cfef 9 = .ok (.iconst 1, 1) := dq_h (dq_t (dq_t (dq_t (dq_t (dq_t (dq_t (dq_t dzJ2_indexOf_4cfef_0)))))))
theorem dJ2_indexOf_4cfef_10 : decode cJ2_indexOf_4cfef 10 = .ok (.ishr, 1) := dq_h (dq_t (dq_t (dq_t (dq_t (dq_t (dq_t (dq_t (dq_t dzJ2_indexOf_4cfef_0))))))))
theorem dJ2_indexOf_4cfef_11 : decode cJ2_indexOf_4cfef 11 = .ok (.invokestatic 183, 3) := dq_h (dq_t (dq_t (dq_t (dq_t (dq_t (dq_t (dq_t (dq_t (dq_t dzJ2_indexOf_4cfef_0)))))))))
theorem dJ2_indexOf_4cfef_14 : decode cJ2_indexOf_4cfef 14 = .ok (.istore_n 3, 1) := dq_h (dq_t (dq_t (dq_t (dq_t (dq_t (dq_t (dq_t (dq_t (dq_t (dq_t dzJ2_indexOf_4cfef_0))))))))))
theorem dJ2_indexOf_4cfef_15 : decode cJ2_indexOf_4cfef 15 = .ok (.iload_n 2, 1) := dq_h (dq_t (dq_t (dq_t (dq_t (dq_t (dq_t (dq_t (dq_t (dq_t (dq_t (dq_t dzJ2_indexOf_4cfef_0)))))))))))
theorem dJ2_indexOf_4cfef_16 : decode cJ2_indexOf_4cfef 16 = .ok (.iload_n 3, 1) := dq_h (dq_t (dq_t (dq_t (dq_t (dq_t (dq_t (dq_t (dq_t (dq_t (dq_t (dq_t (dq_t dzJ2_indexOf_4cfef_0))))))))))))
theorem dJ2_indexOf_4cfef_17 : decode cJ2_indexOf_4cfef 17 = .ok (.if_icmp .lt 5, 3) := dq_h (dq_t (dq_t (dq_t (dq_t (dq_t (dq_t (dq_t (dq_t (dq_t (dq_t (dq_t (dq_t (dq_t dzJ2_indexOf_4cfef_0)))))))))))))
theorem dJ2_indexOf_4cfef_20 : decode cJ2_indexOf_4cfef 20 = .ok (.iconst (-1), 1) := dq_h (dq_t (dq_t (dq_t (dq_t (dq_t (dq_t (dq_t (dq_t (dq_t (dq_t (dq_t (dq_t (dq_t (dq_t dzJ2_indexOf_4cfef_0))))))))))))))
theorem dJ2_indexOf_4cfef_21 : decode cJ2_indexOf_4cfef 21 = .ok (.ireturn, 1) := dq_h (dq_t (dq_t (dq_t (dq_t (dq_t (dq_t (dq_t (dq_t (dq_t (dq_t (dq_t (dq_t (dq_t (dq_t (dq_t dzJ2_indexOf_4cfef_0)))))))))))))))
theorem dJ2_indexOf_4cfef_22 : decode cJ2_indexOf_4cfef 22 = .ok (.iload_n 1, 1) := dq_h (dq_t (dq_t (dq_t (dq_t (dq_t (dq_t (dq_t (dq_t (dq_t (dq_t (dq_t (dq_t (dq_t (dq_t (dq_t (dq_t dzJ2_indexOf_4cfef_0))))))))))))))))
theorem dJ2_indexOf_4cfef_23 : decode cJ2_indexOf_4cfef 23 = .ok (.ldc 227, 2) := dq_h (dq_t (dq_t (dq_t (dq_t (dq_t (dq_t (dq_t (dq_t (dq_t (dq_t (dq_t (dq_t (dq_t (dq_t (dq_t (dq_t (dq_t dzJ2_indexOf_4cfef_0)))))))))))))))))
theorem dJ2_indexOf_4cfef_25 : decode cJ2_indexOf_4cfef 25 = .ok (.if_icmp .ge 11, 3) := dq_h (dq_t (dq_t (dq_t (dq_t (dq_t (dq_t (dq_t (dq_t (dq_t (dq_t (dq_t (dq_t (dq_t (dq_t (dq_t (dq_t (dq_t (dq_t dzJ2_indexOf_4cfef_0))))))))))))))))))
theorem dJ2_indexOf_4cfef_28 : decode cJ2_indexOf_4cfef 28 = .ok (.aload_n 0, 1) := dq_h (dq_t (dq_t (dq_t (dq_t (dq_t (dq_t (dq_t (dq_t (dq_t (dq_t (dq_t (dq_t (dq_t (dq_t (dq_t (dq_t (dq_t (dq_t (dq_t dzJ2_indexOf_4cfef_0)))))))))))))))))))
theorem dJ2_indexOf_4cfef_29 : decode cJ2_indexOf_4cfef 29 = .ok (.iload_n 1, 1) := dq_h (dq_t (dq_t (dq_t (dq_t (dq_t (dq_t (dq_t (dq_t (dq_t (dq_t (dq_t (dq_t (dq_t (dq_t (dq_t (dq_t (dq_t (dq_t (dq_t (dq_t dzJ2_indexOf_4cfef_0))))))))))))))))))))
theorem dJ2_indexOf_4cfef_30 : decode cJ2_indexOf_4cfef 30 = .ok (.iload_n 2, 1) := dq_h (dq_t (dq_t (dq_t (dq_t (dq_t (dq_t (dq_t (dq_t (dq_t (dq_t (dq_t (dq_t (dq_t (dq_t (dq_t (dq_t (dq_t (dq_t (dq_t (dq_t (dq_t dzJ2_indexOf_4cfef_0)))))))))))))))))))))
theorem dJ2_indexOf_4cfef_31 : decode cJ2_indexOf_4cfef 31 = .ok (.iload_n 3, 1) := dq_h (dq_t (dq_t (dq_t (dq_t (dq_t (dq_t (dq_t (dq_t (dq_t (dq_t (dq_t (dq_t (dq_t (dq_t (dq_t (dq_t (dq_t (dq_t (dq_t (dq_t (dq_t (dq_t dzJ2_indexOf_4cfef_0))))))))))))))))))))))
theorem dJ2_indexOf_4cfef_32 : decode cJ2_indexOf_4cfef 32 = .ok (.invokestatic 228, 3) := dq_h (dq_t (dq_t (dq_t (dq_t (dq_t (dq_t (dq_t (dq_t (dq_t (dq_t (dq_t (dq_t (dq_t (dq_t (dq_t (dq_t (dq_t (dq_t (dq_t (dq_t (dq_t (dq_t (dq_t dzJ2_indexOf_4cfef_0)))))))))))))))))))))))
theorem dzJ2_indexOf_4cfef_35 : dq_F cJ2_indexOf_4cfef [(35, .ireturn, 1), (36, .aload_n 0, 1), (37, .iload_n 1, 1), (38, .iload_n 2, 1), (39, .iload_n 3, 1), (40, .invokestatic 232, 3), (43, .ireturn, 1)] := dq_s 7 35 (by decide +kernel)
theorem dJ2_indexOf_4cfef_35 : decode cJ2_indexOf_4cfef 35 = .ok (.ireturn, 1) := dq_h dzJ2_indexOf_4cfef_35
theorem dJ2_indexOf_4cfef_36 : decode cJ2_indexOf_4cfef 36 = .ok (.aload_n 0, 1) := dq_h (dq_t dzJ2_indexOf_4cfef_35)
theorem dJ2_indexOf_4cfef_37 : decode cJ2_indexOf_4cfef 37 = .ok (.iload_n 1, 1) := dq_h (dq_t (dq_t dzJ2_indexOf_4cfef_35))
theorem dJ2_indexOf_4cfef_38 : decode cJ2_indexOf_4cfef 38 = .ok (.iload_n 2, 1) := dq_h (dq_t (dq_t (dq_t dzJ2_indexOf_4cfef_35)))
theorem dJ2_indexOf_4cfef_39 : decode cJ2_indexOf_4cfef 39 = .ok (.iload_n 3, 1) := dq_h (dq_t (dq_t (dq_t (dq_t dzJ2_indexOf_4cfef_35))))
theorem dJ2_indexOf_4cfef_40 : decode cJ2_indexOf_4cfef 40 = .ok (.invokestatic 232, 3) := dq_h (dq_t (dq_t (dq_t (dq_t (dq_t dzJ2_indexOf_4cfef_35)))))
theorem dJ2_indexOf_4cfef_43 : decode cJ2_indexOf_4cfef 43 = .ok (.ireturn, 1) := dq_h (dq_t (dq_t (dq_t (dq_t (dq_t (dq_t dzJ2_indexOf_4cfef_35))))))
theorem dzJ2_indexOfChar_4cfef_0 : dq_F cJ2_indexOfChar_4cfef [(0, .iload_n 2, 1), (1, .iload_n 3, 1), (2, .aload_n 0, 1), (3, .invokestatic 96, 3), (6, .aload_n 0, 1), (7, .iload_n 1, 1), (8, .iload_n 2, 1), (9, .iload_n 3, 1), (10, .invokestatic 244, 3), (13, .ireturn, 1)] := dq_s 10 0 (by decide +kernel)
theorem dJ2_indexOfChar_4cfef_0 : decode cJ2_indexOfChar_4cfef 0 = .ok (.iload_n 2, 1) := dq_h dzJ2_indexOfChar_4cfef_0
theorem dJ2_indexOfChar_4cfef_1 : decode cJ2_indexOfChar_4cfef 1 = .ok (.iload_n 3, 1) := dq_h (dq_t dzJ2_indexOfChar_4cfef_0)
theorem dJ2_indexOfChar_4cfef_2 : decode cJ2_indexOfChar_4cfef 2 = .ok (.aload_n 0, 1) := dq_h (dq_t (dq_t dzJ2_indexOfChar_4cfef_0))
theorem dJ2_indexOfChar_4cfef_3 : decode cJ2_indexOfChar_4cfef 3 = .ok (.invokestatic 96, 3) := dq_h (dq_t (dq_t (dq_t dzJ2_indexOfChar_4cfef_0)))
theorem dJ2_indexOfChar_4cfef_6 : decode cJ2_indexOfChar_4cfef 6 = .ok (.aload_n 0, 1) := dq_h (dq_t (dq_t (dq_t (dq_t dzJ2_indexOfChar_4cfef_0))))
theorem dJ2_indexOfChar_4cfef_7 : decode cJ2_indexOfChar_4cfef 7 = .ok (.iload_n 1, 1) := dq_h (dq_t (dq_t (dq_t (dq_t (dq_t dzJ2_indexOfChar_4cfef_0)))))
theorem dJ2_indexOfChar_4cfef_8 : decode cJ2_indexOfChar_4cfef 8 = .ok (.iload_n 2, 1) := dq_h (dq_t (dq_t (dq_t (dq_t (dq_t (dq_t dzJ2_indexOfChar_4cfef_0))))))
theorem dJ2_indexOfChar_4cfef_9 : decode cJ2_indexOfChar_4cfef 9 = .ok (.iload_n 3, 1) := dq_h (dq_t (dq_t (dq_t (dq_t (dq_t (dq_t (dq_t dzJ2_indexOfChar_4cfef_0)))))))
theorem dJ2_indexOfChar_4cfef_10 : decode cJ2_indexOfChar_4cfef 10 = .ok (.invokestatic 244, 3) := dq_h (dq_t (dq_t (dq_t (dq_t (dq_t (dq_t (dq_t (dq_t dzJ2_indexOfChar_4cfef_0))))))))
theorem dJ2_indexOfChar_4cfef_13 : decode cJ2_indexOfChar_4cfef 13 = .ok (.ireturn, 1) := dq_h (dq_t (dq_t (dq_t (dq_t (dq_t (dq_t (dq_t (dq_t (dq_t dzJ2_indexOfChar_4cfef_0)))))))))
theorem dzJ2_indexOfCharUnsafe_4cfef_0 : dq_F cJ2_indexOfCharUnsafe_4cfef [(0, .iload_n 2, 1), (1, .istore 4, 2), (3, .iload 4, 2), (5, .iload_n 3, 1), (6, .if_icmp .ge 22, 3), (9, .aload_n 0, 1), (10, .iload 4, 2), (12, .invokestatic 71, 3), (15, .iload_n 1, 1), (16, .if_icmp .ne 6, 3), (19, .iload 4, 2), (21, .ireturn, 1), (22, .iinc 4 1, 3), (25, .goto (-22), 3), (28, .iconst (-1), 1), (29, .ireturn, 1)] := dq_s 16 0 (by decide +kernel)
theorem dJ2_indexOfCharUnsafe_4cfef_0 : decode cJ2_indexOfCharUnsafe_4cfef 0 = .ok (.iload_n 2, 1) := dq_h dzJ2_indexOfCharUnsafe_4cfef_0
theorem dJ2_indexOfCharUnsafe_4cfef_1 : decode cJ2_indexOfCharUnsafe_4cfef 1 = .ok (.istore 4, 2) := dq_h (dq_t dzJ2_indexOfCharUnsafe_4cfef_0)
theorem dJ2_indexOfCharUnsafe_4cfef_3 : decode cJ2_indexOfCharUnsafe_4cfef 3 = .ok (.iload 4, 2) := dq_h (dq_t (dq_t dzJ2_indexOfCharUnsafe_4cfef_0))
theorem dJ2_indexOfCharUnsafe_4cfef_5 : decode cJ2_indexOfCharUnsafe_4cfef 5 = .ok (.iload_n 3, 1) := dq_h (dq_t (dq_t (dq_t dzJ2_indexOfCharUnsafe_4cfef_0)))
theorem dJ2_indexOfCharUnsafe_4cfef_6 : decode cJ2_indexOfCharUnsafe_4cfef 6 = .ok (.if_icmp .ge 22, 3) := dq_h (dq_t (dq_t (dq_t (dq_t dzJ2_indexOfCharUnsafe_4cfef_0))))
theorem dJ2_indexOfCharUnsafe_4cfef_9 : decode cJ2_indexOfCharUnsafe_4cfef 9 = .ok (.aload_n 0, 1) := dq_h (dq_t (dq_t (dq_t (dq_t (dq_t dzJ2_indexOfCharUnsafe_4cfef_0)))))
theorem dJ2_indexOfCharUnsafe_4cfef_10 : decode cJ2_indexOfCharUnsafe_4cfef 10 = .ok (.iload 4, 2) := dq_h (dq_t (dq_t (dq_t (dq_t (dq_t (dq_t dzJ2_indexOfCharUnsafe_4cfef_0))))))
theorem dJ2_indexOfCharUnsafe_4cfef_12 : decode cJ2_indexOfCharUnsafe_4cfef 12 = .ok (.invokestatic 71, 3) := dq_h (dq_t (dq_t (dq_t (dq_t (dq_t (dq_t (dq_t dzJ2_indexOfCharUnsafe_4cfef_0)))))))
theorem dJ2_indexOfCharUnsafe_4cfef_15 : decode cJ2_indexOfCharUnsafe_4cfef 15 = .ok (.iload_n 1, 1) := dq_h (dq_t (dq_t (dq_t (dq_t (dq_t (dq_t (dq_t (dq_t dzJ2_indexOfCharUnsafe_4cfef_0))))))))
theorem dJ2_indexOfCharUnsafe_4cfef_16 : decode cJ2_indexOfCharUnsafe_4cfef 16 = .ok (.if_icmp .ne 6, 3) := dq_h (dq_t (dq_t (dq_t (dq_t (dq_t (dq_t (dq_t (dq_t (dq_t dzJ2_indexOfCharUnsafe_4cfef_0)))))))))
theorem dJ2_indexOfCharUnsafe_4cfef_19 : decode cJ2_indexOfCharUnsafe_4cfef 19 = .ok (.iload 4, 2) := dq_h (dq_t (dq_t (dq_t (dq_t (dq_t (dq_t (dq_t (dq_t (dq_t (dq_t dzJ2_indexOfCharUnsafe_4cfef_0))))))))))
theorem dJ2_indexOfCharUnsafe_4cfef_21 : decode cJ2_indexOfCharUnsafe_4cfef 21 = .ok (.ireturn, 1) := dq_h (dq_t (dq_t (dq_t (dq_t (dq_t (dq_t (dq_t (dq_t (dq_t (dq_t (dq_t dzJ2_indexOfCharUnsafe_4cfef_0)))))))))))
theorem dJ2_indexOfCharUnsafe_4cfef_22 : decode cJ2_indexOfCharUnsafe_4cfef 22 = .ok (.iinc 4 1, 3) := dq_h (dq_t (dq_t (dq_t (dq_t (dq_t (dq_t (dq_t (dq_t (dq_t (dq_t (dq_t (dq_t dzJ2_indexOfCharUnsafe_4cfef_0))))))))))))
theorem dJ2_indexOfCharUnsafe_4cfef_25 : decode cJ2_indexOfCharUnsafe_4cfef 25 = .ok (.goto (-22), 3) := dq_h (dq_t (dq_t (dq_t (dq_t (dq_t (dq_t (dq_t (dq_t (dq_t (dq_t (dq_t (dq_t (dq_t dzJ2_indexOfCharUnsafe_4cfef_0)))))))))))))
theorem dJ2_indexOfCharUnsafe_4cfef_28 : decode cJ2_indexOfCharUnsafe_4cfef 28 = .ok (.iconst (-1), 1) := dq_h (dq_t (dq_t (dq_t (dq_t (dq_t (dq_t (dq_t (dq_t (dq_t (dq_t (dq_t (dq_t (dq_t (dq_t dzJ2_indexOfCharUnsafe_4cfef_0))))))))))))))
theorem dJ2_indexOfCharUnsafe_4cfef_29 : decode cJ2_indexOfCharUnsafe_4cfef 29 = .ok (.ireturn, 1) := dq_h (dq_t (dq_t (dq_t (dq_t (dq_t (dq_t (dq_t (dq_t (dq_t (dq_t (dq_t (dq_t (dq_t (dq_t (dq_t dzJ2_indexOfCharUnsafe_4cfef_0)))))))))))))))
theorem dzJ2_indexOfSupplementary_4cfef_0 : dq_F cJ2_indexOfSupplementary_4cfef [(0, .iload_n 1, 1), (1, .invokestatic 164, 3), (4, .ifCond .eq 65, 3), (7, .iload_n 1, 1), (8, .invokestatic 157, 3), (11, .istore 4, 2), (13, .iload_n 1, 1), (14, .invokestatic 161, 3), (17, .istore 5, 2), (19, .iload_n 2, 1), (20, .iload_n 3, 1), (21, .aload_n 0, 1), (22, .invokestatic 96, 3), (25, .iload_n 2, 1), (26, .istore 6, 2), (28, .iload 6, 2), (30, .iload_n 3, 1), (31, .iconst 1, 1), (32, .isub, 1), (33, .if_icmp .ge 36, 3), (36, .aload_n 0, 1), (37, .iload 6, 2), (39, .invokestatic 71, 3), (42, .iload 4, 2)] := dq_s 24 0 (by decide +kernel)
theorem dJ2_indexOfSupplementary_4cfef_0 : decode cJ2_indexOfSupplementary_4cfef 0 = .ok (.iload_n 1, 1) := dq_h dzJ2_indexOfSupplementary_4cfef_0
theorem dJ2_indexOfSupplementary_4cfef_1 : decode cJ2_indexOfSupplementary_4cfef 1 = .ok (.invokestatic 164, 3) := dq_h (dq_t dzJ2_indexOfSupplementary_4cfef_0)
theorem dJ2_indexOfSupplementary_4cfef_4 : decode cJ2_indexOfSupplementary_4cfef 4 = .ok (.ifCond .eq 65, 3) := dq_h (dq_t (dq_t dzJ2_indexOfSupplementary_4cfef_0))
theorem dJ2_indexOfSupplementary_4cfef_7 : decode cJ2_indexOfSupplementary_4cfef 7 = .ok (.iload_n 1, 1) := dq_h (dq_t (dq_t (dq_t dzJ2_indexOfSupplementary_4cfef_0)))
theorem dJ2_indexOfSupplementary_4cfef_8 : decode cJ2_indexOfSupplementary_4cfef 8 = .ok (.invokestatic 157, 3) := dq_h (dq_t (dq_t (dq_t (dq_t dzJ2_indexOfSupplementary_4cfef_0))))
theorem dJ2_indexOfSupplementary_4cfef_11 : decode cJ2_indexOfSupplementary_4cfef 11 = .ok (.istore 4, 2) := dq_h (dq_t (dq_t (dq_t (dq_t (dq_t dzJ2_indexOfSupplementary_4cfef_0)))))
theorem dJ2_indexOfSupplementary_4cfef_13 : decode cJ2_indexOfSupplementary_4cfef 13 = .ok (.iload_n 1, 1) := dq_h (dq_t (dq_t (dq_t (dq_t (dq_t (dq_t dzJ2_indexOfSupplementary_4cfef_0))))))
theorem dJ2_indexOfSupplementary_4cfef_14 : decode cJ2_indexOfSupplementary_4cfef 14 = .ok (.invokestatic 161, 3) := dq_h (dq_t (dq_t (dq_t (dq_t (dq_t (dq_t (dq_t dzJ2_indexOfSupplementary_4cfef_0)))))))
theorem dJ2_indexOfSupplementary_4cfef_17 : decode cJ2_indexOfSupplementary_4cfef 17 = .ok (.istore 5, 2) := dq_h (dq_t (dq_t (dq_t (dq_t (dq_t (dq_t (dq_t (dq_t dzJ2_indexOfSupplementary_4cfef_0))))))))
theorem dJ2_indexOfSupplementary_4cfef_19 : decode cJ2_indexOfSupplementary_4cfef 19 = .ok (.iload_n 2, 1) := dq_h (dq_t (dq_t (dq_t (dq_t (dq_t (dq_t (dq_t (dq_t (dq_t dzJ2_indexOfSupplementary_4cfef_0)))))))))
theorem dJ2_indexOfSupplementary_4cfef_20 : decode cJ2_indexOfSupplementary_4cfef 20 = .ok (.iload_n 3, 1) := dq_h (dq_t (dq_t (dq_t (dq_t (dq_t (dq_t (dq_t (dq_t (dq_t (dq_t dzJ2_indexOfSupplementary_4cfef_0))))))))))
theorem dJ2_indexOfSupplementary_4cfef_21 : decode cJ2_indexOfSupplementary_4cfef 21 = .ok (.aload_n 0, 1) := dq_h (dq_t (dq_t (dq_t (dq_t (dq_t (dq_t (dq_t (dq_t (dq_t (dq_t (dq_t dzJ2_indexOfSupplementary_4cfef_0)))))))))))
theorem dJ2_indexOfSupplementary_4cfef_22 : decode cJ2_indexOfSupplementary_4cfef 22 = .ok (.invokestatic 96, 3) := dq_h (dq_t (dq_t (dq_t (dq_t (dq_t (dq_t (dq_t (dq_t (dq_t (dq_t (dq_t (dq_t dzJ2_indexOfSupplementary_4cfef_0))))))))))))
theorem dJ2_indexOfSupplementary_4cfef_25 : decode cJ2_indexOfSupplementary_4cfef 25 = .ok (.iload_n 2, 1) := dq_h (dq_t (dq_t (dq_t (dq_t (dq_t (dq_t (dq_t (dq_t (dq_t (dq_t (dq_t (dq_t (dq_t dzJ2_indexOfSupplementary_4cfef_0)))))))))))))
theorem dJ2_indexOfSupplementary_4cfef_26 : decode cJ2_indexOfSupplementary_4cfef 26 = .ok (.istore 6, 2) := dq_h (dq_t (dq_t (dq_t (dq_t (dq_t (dq_t (dq_t (dq_t (dq_t (dq_t (dq_t (dq_t (dq_t (dq_t dzJ2_indexOfSupplementary_4cfef_0))))))))))))))
theorem dJ2_indexOfSupplementary_4cfef_28 : decode cJ2_indexOfSupplementary_4cfef 28 = .ok (.iload 6, 2) := dq_h (dq_t (dq_t (dq_t (dq_t (dq_t (dq_t (dq_t (dq_t (dq_t (dq_t (dq_t (dq_t (dq_t (dq_t (dq_t dzJ2_indexOfSupplementary_4cfef_0)))))))))))))))
theorem dJ2_indexOfSupplementary_4cfef_30 : decode cJ2_indexOfSupplementary_4cfef 30 = .ok (.iload_n 3, 1) := dq_h (dq_t (dq_t (dq_t (dq_t (dq_t (dq_t (dq_t (dq_t (dq_t (dq_t (dq_t (dq_t (dq_t (dq_t (dq_t (dq_t dzJ2_indexOfSupplementary_4cfef_0))))))))))))))))
theorem dJ2_indexOfSupplementary_4cfef_31 : decode cJ2_indexOfSupplementary_4cfef 31 = .ok (.iconst 1, 1) := dq_h (dq_t (dq_t (dq_t (dq_t (dq_t (dq_t (dq_t (dq_t (dq_t (dq_t (dq_t (dq_t (dq_t (dq_t (dq_t (dq_t (dq_t dzJ2_indexOfSupplementary_4cfef_0)))))))))))))))))
theorem dJ2_indexOfSupplementary_4cfef_32 : decode cJ2_indexOfSupplementary_4cfef 32 = .ok (.isub, 1) := dq_h (dq_t (dq_t (dq_t (dq_t (dq_t (dq_t (dq_t (dq_t (dq_t (dq_t (dq_t (dq_t (dq_t (dq_t (dq_t (dq_t (dq_t (dq_t dzJ2_indexOfSupplementary_4cfef_0))))))))))))))))))
theorem dJ2_indexOfSupplementary_4cfef_33 : decode cJ2_indexOfSupplementary_4cfef 33 = .ok (.if_icmp .ge 36, 3) := dq_h (dq_t (dq_t (dq_t (dq_t (dq_t (dq_t (dq_t (dq_t (dq_t (dq_t (dq_t (dq_t (dq_t (dq_t (dq_t (dq_t (dq_t (dq_t (dq_t dzJ2_indexOfSupplementary_4cfef_0)))))))))))))))))))
theorem dJ2_indexOfSupplementary_4cfef_36 : decode cJ2_indexOfSupplementary_4cfef 36 = .ok (.aload_n 0, 1) := dq_h (dq_t (dq_t (dq_t (dq_t (dq_t (dq_t (dq_t (dq_t (dq_t (dq_t (dq_t (dq_t (dq_t (dq_t (dq_t (dq_t (dq_t (dq_t (dq_t (dq_t dzJ2_indexOfSupplementary_4cfef_0))))))))))))))))))))
theorem dJ2_indexOfSupplementary_4cfef_37 : decode cJ2_indexOfSupplementary_4cfef 37 = .ok (.iload 6, 2) := dq_h (dq_t (dq_t (dq_t (dq_t (dq_t (dq_t (dq_t (dq_t (dq_t (dq_t (dq_t (dq_t (dq_t (dq_t (dq_t (dq_t (dq_t (dq_t (dq_t (dq_t (dq_t dzJ2_indexOfSupplementary_4cfef_0)))))))))))))))))))))
theorem dJ2_indexOfSupplementary_4cfef_39 : decode cJ2_indexOfSupplementary_4cfef 39 = .ok (.invokestatic 71, 3) := dq_h (dq_t (dq_t (dq_t (dq_t (dq_t (dq_t (dq_t (dq_t (dq_t (dq_t (dq_t (dq_t (dq_t (dq_t (dq_t (dq_t (dq_t (dq_t (dq_t (dq_t (dq_t (dq_t dzJ2_indexOfSupplementary_4cfef_0))))))))))))))))))))))
theorem dJ2_indexOfSupplementary_4cfef_42 : decode cJ2_indexOfSupplementary_4cfef 42 = .ok (.iload 4, 2) := dq_h (dq_t (dq_t (dq_t (dq_t (dq_t (dq_t (dq_t (dq_t (dq_t (dq_t (dq_t (dq_t (dq_t (dq_t (dq_t (dq_t (dq_t (dq_t (dq_t (dq_t (dq_t (dq_t (dq_t dzJ2_indexOfSupplementary_4cfef_0)))))))))))))))))))))))
theorem dzJ2_indexOfSupplementary_4cfef_44 : dq_F cJ2_indexOfSupplementary_4cfef [(44, .if_icmp .ne 19, 3), (47, .aload_n 0, 1), (48, .iload 6, 2), (50, .iconst 1, 1), (51, .iadd, 1), (52, .invokestatic 71, 3), (55, .iload 5, 2), (57, .if_icmp .ne 6, 3), (60, .iload 6, 2), (62, .ireturn, 1), (63, .iinc 6 1, 3), (66, .goto (-38), 3), (69, .iconst (-1), 1), (70, .ireturn, 1)] := dq_s 14 44 (by decide +kernel)
theorem dJ2_indexOfSupplementary_4cfef_44 : decode cJ2_indexOfSupplementary_4cfef 44 = .ok (.if_icmp .ne 19, 3) := dq_h dzJ2_indexOfSupplementary_4cfef_44
theorem dJ2_indexOfSupplementary_4cfef_47 : decode cJ2_indexOfSupplementary_4cfef 47 = .ok (.aload_n 0, 1) := dq_h (dq_t dzJ2_indexOfSupplementary_4cfef_44)
theorem dJ2_indexOfSupplementary_4cfef_48 : decode cJ2_indexOfSupplementary_4cfef 48 = .ok (.iload 6, 2) := dq_h (dq_t (dq_t dzJ2_indexOfSupplementary_4cfef_44))
theorem dJ2_indexOfSupplementary_4cfef_50 : decode cJ2_indexOfSupplementary_4cfef 50 = .ok (.iconst 1, 1) := dq_h (dq_t (dq_t (dq_t dzJ2_indexOfSupplementary_4cfef_44)))
theorem dJ2_indexOfSupplementary_4cfef_51 : decode cJ2_indexOfSupplementary_4cfef 51 = .ok (.iadd, 1) := dq_h (dq_t (dq_t (dq_t (dq_t dzJ2_indexOfSupplementary_4cfef_44))))
theorem dJ2_indexOfSupplementary_4cfef_52 : decode cJ2_indexOfSupplementary_4cfef 52 = .ok (.invokestatic 71, 3) := dq_h (dq_t (dq_t (dq_t (dq_t (dq_t dzJ2_indexOfSupplementary_4cfef_44)))))
theorem dJ2_indexOfSupplementary_4cfef_55 : decode cJ2_indexOfSupplementary_4cfef 55 = .ok (.iload 5, 2) := dq_h (dq_t (dq_t (dq_t (dq_t (dq_t (dq_t dzJ2_indexOfSupplementary_4cfef_44))))))
theorem dJ2_indexOfSupplementary_4cfef_57 : decode cJ2_indexOfSupplementary_4cfef 57 = .ok (.if_icmp .ne 6, 3) := dq_h (dq_t (dq_t (dq_t (dq_t (dq_t (dq_t (dq_t dzJ2_indexOfSupplementary_4cfef_44)))))))
theorem dJ2_indexOfSupplementary_4cfef_60 : decode cJ2_indexOfSupplementary_4cfef 60 = .ok (.iload 6, 2) := dq_h (dq_t (dq_t (dq_t (dq_t (dq_t (dq_t (dq_t (dq_t dzJ2_indexOfSupplementary_4cfef_44))))))))
theorem dJ2_indexOfSupplementary_4cfef_62 : decode cJ2_indexOfSupplementary_4cfef 62 = .ok (.ireturn, 1) := dq_h (dq_t (dq_t (dq_t (dq_t (dq_t (dq_t (dq_t (dq_t (dq_t dzJ2_indexOfSupplementary_4cfef_44)))))))))
theorem dJ2_indexOfSupplementary_4cfef_63 : decode cJ2_indexOfSupplementary_4cfef 63 = .ok (.iinc 6 1, 3) := dq_h (dq_t (dq_t (dq_t (dq_t (dq_t (dq_t (dq_t (dq_t (dq_t (dq_t dzJ2_indexOfSupplementary_4cfef_44))))))))))
theorem dJ2_indexOfSupplementary_4cfef_66 : decode cJ2_indexOfSupplementary_4cfef 66 = .ok (.goto (-38), 3) := dq_h (dq_t (dq_t (dq_t (dq_t (dq_t (dq_t (dq_t (dq_t (dq_t (dq_t (dq_t dzJ2_indexOfSupplementary_4cfef_44)))))))))))
theorem dJ2_indexOfSupplementary_4cfef_69 : decode cJ2_indexOfSupplementary_4cfef 69 = .ok (.iconst (-1), 1) := dq_h (dq_t (dq_t (dq_t (dq_t (dq_t (dq_t (dq_t (dq_t (dq_t (dq_t (dq_t (dq_t dzJ2_indexOfSupplementary_4cfef_44))))))))))))
theorem dJ2_indexOfSupplementary_4cfef_70 : decode cJ2_indexOfSupplementary_4cfef 70 = .ok (.ireturn, 1) := dq_h (dq_t (dq_t (dq_t (dq_t (dq_t (dq_t (dq_t (dq_t (dq_t (dq_t (dq_t (dq_t (dq_t dzJ2_indexOfSupplementary_4cfef_44)))))))))))))
theorem dzJ2_charAt_3b067_0 : dq_F cJ2_charAt_3b067 [(0, .iload_n 1, 1), (1, .aload_n 0, 1), (2, .invokestatic 67, 3), (5, .aload_n 0, 1), (6, .iload_n 1, 1), (7, .invokestatic 71, 3), (10, .ireturn, 1)] := dq_s 7 0 (by decide +kernel)
theorem dJ2_charAt_3b067_0 : decode cJ2_charAt_3b067 0 = .ok (.iload_n 1, 1) := dq_h dzJ2_charAt_3b067_0
theorem dJ2_charAt_3b067_1 : decode cJ2_charAt_3b067 1 = .ok (.aload_n 0, 1) := dq_h (dq_t dzJ2_charAt_3b067_0)
theorem dJ2_charAt_3b067_2 : decode cJ2_charAt_3b067 2 = .ok (.invokestatic 67, 3) := dq_h (dq_t (dq_t dzJ2_charAt_3b067_0))
theorem dJ2_charAt_3b067_5 : decode cJ2_charAt_3b067 5 = .ok (.aload_n 0, 1) := dq_h (dq_t (dq_t (dq_t dzJ2_charAt_3b067_0)))
theorem dJ2_charAt_3b067_6 : decode cJ2_charAt_3b067 6 = .ok (.iload_n 1, 1) := dq_h (dq_t (dq_t (dq_t (dq_t dzJ2_charAt_3b067_0))))
theorem dJ2_charAt_3b067_7 : decode cJ2_charAt_3b067 7 = .ok (.invokestatic 71, 3) := dq_h (dq_t (dq_t (dq_t (dq_t (dq_t dzJ2_charAt_3b067_0)))))
theorem dJ2_charAt_3b067_10 : decode cJ2_charAt_3b067 10 = .ok (.ireturn, 1) := dq_h (dq_t (dq_t (dq_t (dq_t (dq_t (dq_t dzJ2_charAt_3b067_0))))))
theorem dzJ2_checkIndex_2214a_0 : dq_F cJ2_checkIndex_2214a [(0, .iload_n 0, 1), (1, .aload_n 1, 1), (2, .invokestatic 48, 3), (5, .invokestatic 414, 3), (8, .return_, 1)] := dq_s 5 0 (by decide +kernel)
theorem dJ2_checkIndex_2214a_0 : decode cJ2_checkIndex_2214a 0 = .ok (.iload_n 0, 1) := dq_h dzJ2_checkIndex_2214a_0
theorem dJ2_checkIndex_2214a_1 : decode cJ2_checkIndex_2214a 1 = .ok (.aload_n 1, 1) := dq_h (dq_t dzJ2_checkIndex_2214a_0)
theorem dJ2_checkIndex_2214a_2 : decode cJ2_checkIndex_2214a 2 = .ok (.invokestatic 48, 3) := dq_h (dq_t (dq_t dzJ2_checkIndex_2214a_0))
theorem dJ2_checkIndex_2214a_5 : decode cJ2_checkIndex_2214a 5 = .ok (.invokestatic 414, 3) := dq_h (dq_t (dq_t (dq_t dzJ2_checkIndex_2214a_0)))
theorem dJ2_checkIndex_2214a_8 : decode cJ2_checkIndex_2214a 8 = .ok (.return_, 1) := dq_h (dq_t (dq_t (dq_t (dq_t dzJ2_checkIndex_2214a_0))))
theorem dzJ2_checkBoundsBeginEnd_d044e_0 : dq_F cJ2_checkBoundsBeginEnd_d044e [(0, .iload_n 0, 1), (1, .iload_n 1, 1), (2, .aload_n 2, 1), (3, .invokestatic 48, 3), (6, .invokestatic 241, 3), (9, .return_, 1)] := dq_s 6 0 (by decide +kernel)
theorem dJ2_checkBoundsBeginEnd_d044e_0 : decode cJ2_checkBoundsBeginEnd_d044e 0 = .ok (.iload_n 0, 1) := dq_h dzJ2_checkBoundsBeginEnd_d044e_0
theorem dJ2_checkBoundsBeginEnd_d044e_1 : decode cJ2_checkBoundsBeginEnd_d044e 1 = .ok (.iload_n 1, 1) := dq_h (dq_t dzJ2_checkBoundsBeginEnd_d044e_0)
theorem dJ2_checkBoundsBeginEnd_d044e_2 : decode cJ2_checkBoundsBeginEnd_d044e 2 = .ok (.aload_n 2, 1) := dq_h (dq_t (dq_t dzJ2_checkBoundsBeginEnd_d044e_0))
theorem dJ2_checkBoundsBeginEnd_d044e_3 : decode cJ2_checkBoundsBeginEnd_d044e 3 = .ok (.invokestatic 48, 3) := dq_h (dq_t (dq_t (dq_t dzJ2_checkBoundsBeginEnd_d044e_0)))
theorem dJ2_checkBoundsBeginEnd_d044e_6 : decode cJ2_checkBoundsBeginEnd_d044e 6 = .ok (.invokestatic 241, 3) := dq_h (dq_t (dq_t (dq_t (dq_t dzJ2_checkBoundsBeginEnd_d044e_0))))
theorem dJ2_checkBoundsBeginEnd_d044e_9 : decode cJ2_checkBoundsBeginEnd_d044e 9 = .ok (.return_, 1) := dq_h (dq_t (dq_t (dq_t (dq_t (dq_t dzJ2_checkBoundsBeginEnd_d044e_0)))))
theorem dzJ3_checkIndex_8e157_0 : dq_F cJ3_checkIndex_8e157 [(0, .iload_n 0, 1), (1, .ifCond .lt 8, 3), (4, .iload_n 0, 1), (5, .iload_n 1, 1), (6, .if_icmp .lt 10, 3), (9, .aload_n 2, 1), (10, .iload_n 0, 1), (11, .iload_n 1, 1), (12, .invokestatic 95, 3), (15, .athrow, 1), (16, .iload_n 0, 1), (17, .ireturn, 1)] := dq_s 12 0 (by decide +kernel)
theorem dJ3_checkIndex_8e157_0 : decode cJ3_checkIndex_8e157 0 = .ok (.iload_n 0, 1) := dq_h dzJ3_checkIndex_8e157_0
theorem dJ3_checkIndex_8e157_1 : decode cJ3_checkIndex_8e157 1 = .ok (.ifCond .lt 8, 3) := dq_h (dq_t dzJ3_checkIndex_8e157_0)
theorem dJ3_checkIndex_8e157_4 : decode cJ3_checkIndex_8e157 4 = .ok (.iload_n 0, 1) := dq_h (dq_t (dq_t dzJ3_checkIndex_8e157_0))
theorem dJ3_checkIndex_8e157_5 : decode cJ3_checkIndex_8e157 5 = .ok (.iload_n 1, 1) := dq_h (dq_t (dq_t (dq_t dzJ3_checkIndex_8e157_0)))
theorem dJ3_checkIndex_8e157_6 : decode cJ3_checkIndex_8e157 6 = .ok (.if_icmp .lt 10, 3) := dq_h (dq_t (dq_t (dq_t (dq_t dzJ3_checkIndex_8e157_0))))
theorem dJ3_checkIndex_8e157_9 : decode cJ3_checkIndex_8e157 9 = .ok (.aload_n 2, 1) := dq_h (dq_t (dq_t (dq_t (dq_t (dq_t dzJ3_checkIndex_8e157_0)))))
theorem dJ3_checkIndex_8e157_10 : decode cJ3_checkIndex_8e157 10 = .ok (.iload_n 0, 1) := dq_h (dq_t (dq_t (dq_t (dq_t (dq_t (dq_t dzJ3_checkIndex_8e157_0))))))
theorem dJ3_checkIndex_8e157_11 : decode cJ3_checkIndex_8e157 11 = .ok (.iload_n 1, 1) := dq_h (dq_t (dq_t (dq_t (dq_t (dq_t (dq_t (dq_t dzJ3_checkIndex_8e157_0)))))))
theorem dJ3_checkIndex_8e157_12 : decode cJ3_checkIndex_8e157 12 = .ok (.invokestatic 95, 3) := dq_h (dq_t (dq_t (dq_t (dq_t (dq_t (dq_t (dq_t (dq_t dzJ3_checkIndex_8e157_0))))))))
theorem dJ3_checkIndex_8e157_15 : decode cJ3_checkIndex_8e157 15 = .ok (.athrow, 1) := dq_h (dq_t (dq_t (dq_t (dq_t (dq_t (dq_t (dq_t (dq_t (dq_t dzJ3_checkIndex_8e157_0)))))))))
theorem dJ3_checkIndex_8e157_16 : decode cJ3_checkIndex_8e157 16 = .ok (.iload_n 0, 1) := dq_h (dq_t (dq_t (dq_t (dq_t (dq_t (dq_t (dq_t (dq_t (dq_t (dq_t dzJ3_checkIndex_8e157_0))))))))))
theorem dJ3_checkIndex_8e157_17 : decode cJ3_checkIndex_8e157 17 = .ok (.ireturn, 1) := dq_h (dq_t (dq_t (dq_t (dq_t (dq_t (dq_t (dq_t (dq_t (dq_t (dq_t (dq_t dzJ3_checkIndex_8e157_0)))))))))))
theorem dzJ3_checkFromToIndex_8c36e_0 : dq_F cJ3_checkFromToIndex_8c36e [(0, .iload_n 0, 1), (1, .ifCond .lt 13, 3), (4, .iload_n 0, 1), (5, .iload_n 1, 1), (6, .if_icmp .gt 8, 3), (9, .iload_n 1, 1), (10, .iload_n 2, 1), (11, .if_icmp .le 11, 3), (14, .aload_n 3, 1), (15, .iload_n 0, 1), (16, .iload_n 1, 1), (17, .iload_n 2, 1), (18, .invokestatic 99, 3), (21, .athrow, 1), (22, .iload_n 0, 1), (23, .ireturn, 1)] := dq_s 16 0 (by decide +kernel)
theorem dJ3_checkFromToIndex_8c36e_0 : decode cJ3_checkFromToIndex_8c36e 0 = .ok (.iload_n 0, 1) := dq_h dzJ3_checkFromToIndex_8c36e_0
theorem dJ3_checkFromToIndex_8c36e_1 : decode cJ3_checkFromToIndex_8c36e 1 = .ok (.ifCond .lt 13, 3) := dq_h (dq_t dzJ3_checkFromToIndex_8c36e_0)
theorem dJ3_checkFromToIndex_8c36e_4 : decode cJ3_checkFromToIndex_8c36e 4 = .ok (.iload_n 0, 1) := dq_h (dq_t (dq_t dzJ3_checkFromToIndex_8c36e_0))
theorem dJ3_checkFromToIndex_8c36e_5 : decode cJ3_checkFromToIndex_8c36e 5 = .ok (.iload_n 1, 1) := dq_h (dq_t (dq_t (dq_t dzJ3_checkFromToIndex_8c36e_0)))
theorem dJ3_checkFromToIndex_8c36e_6 : decode cJ3_checkFromToIndex_8c36e 6 = .ok (.if_icmp .gt 8, 3) := dq_h (dq_t (dq_t (dq_t (dq_t dzJ3_checkFromToIndex_8c36e_0))))
theorem dJ3_checkFromToIndex_8c36e_9 : decode cJ3_checkFromToIndex_8c36e 9 = .ok (.iload_n 1, 1) := dq_h (dq_t (dq_t (dq_t (dq_t (dq_t dzJ3_checkFromToIndex_8c36e_0)))))
theorem dJ3_checkFromToIndex_8c36e_10 : decode cJ3_checkFromToIndex_8c36e 10 = .ok (.iload_n 2, 1) := dq_h (dq_t (dq_t (dq_t (dq_t (dq_t (dq_t dzJ3_checkFromToIndex_8c36e_0))))))
theorem dJ3_checkFromToIndex_8c36e_11 : decode cJ3_checkFromToIndex_8c36e 11 = .ok (.if_icmp .le 11, 3) := dq_h (dq_t (dq_t (dq_t (dq_t (dq_t (dq_t (dq_t dzJ3_checkFromToIndex_8c36e_0)))))))
theorem dJ3_checkFromToIndex_8c36e_14 : decode cJ3_checkFromToIndex_8c36e 14 = .ok (.aload_n 3, 1) := dq_h (dq_t (dq_t (dq_t (dq_t (dq_t (dq_t (dq_t (dq_t dzJ3_checkFromToIndex_8c36e_0))))))))
theorem dJ3_checkFromToIndex_8c36e_15 : decode cJ3_checkFromToIndex_8c36e 15 = .ok (.iload_n 0, 1) := dq_h (dq_t (dq_t (dq_t (dq_t (dq_t (dq_t (dq_t (dq_t (dq_t dzJ3_checkFromToIndex_8c36e_0)))))))))
theorem dJ3_checkFromToIndex_8c36e_16 : decode cJ3_checkFromToIndex_8c36e 16 = .ok (.iload_n 1, 1) := dq_h (dq_t (dq_t (dq_t (dq_t (dq_t (dq_t (dq_t (dq_t (dq_t (dq_t dzJ3_checkFromToIndex_8c36e_0))))))))))
theorem dJ3_checkFromToIndex_8c36e_17 : decode cJ3_checkFromToIndex_8c36e 17 = .ok (.iload_n 2, 1) := dq_h (dq_t (dq_t (dq_t (dq_t (dq_t (dq_t (dq_t (dq_t (dq_t (dq_t (dq_t dzJ3_checkFromToIndex_8c36e_0)))))))))))
theorem dJ3_checkFromToIndex_8c36e_18 : decode cJ3_checkFromToIndex_8c36e 18 = .ok (.invokestatic 99, 3) := dq_h (dq_t (dq_t (dq_t (dq_t (dq_t (dq_t (dq_t (dq_t (dq_t (dq_t (dq_t (dq_t dzJ3_checkFromToIndex_8c36e_0))))))))))))
theorem dJ3_checkFromToIndex_8c36e_21 : decode cJ3_checkFromToIndex_8c36e 21 = .ok (.athrow, 1) := dq_h (dq_t (dq_t (dq_t (dq_t (dq_t (dq_t (dq_t (dq_t (dq_t (dq_t (dq_t (dq_t (dq_t dzJ3_checkFromToIndex_8c36e_0)))))))))))))
theorem dJ3_checkFromToIndex_8c36e_22 : decode cJ3_checkFromToIndex_8c36e 22 = .ok (.iload_n 0, 1) := dq_h (dq_t (dq_t (dq_t (dq_t (dq_t (dq_t (dq_t (dq_t (dq_t (dq_t (dq_t (dq_t (dq_t (dq_t dzJ3_checkFromToIndex_8c36e_0))))))))))))))
theorem dJ3_checkFromToIndex_8c36e_23 : decode cJ3_checkFromToIndex_8c36e 23 = .ok (.ireturn, 1) := dq_h (dq_t (dq_t (dq_t (dq_t (dq_t (dq_t (dq_t (dq_t (dq_t (dq_t (dq_t (dq_t (dq_t (dq_t (dq_t dzJ3_checkFromToIndex_8c36e_0)))))))))))))))
end

/-! part 12.xwords -/
section
/-! words of the class's calls and constants (printed by wip/whole/mkxwords.py) -/
theorem xc_X8_add : Cond.code yX8_add cX8_add 3 none ∈ gT := gT_c2 196 rfl rfl
theorem xi_X8_add : Cond.instanceMethod yX8_add ∈ gT ∧ Cond.selects yX8_add.cls yX8_add yX8_add ∈ gT := ⟨gT_c2 194 rfl rfl, gT_c2 195 rfl rfl⟩
theorem xd_X8_add : yX8_add.cls ≠ "java/lang/invoke/MethodHandle" ∧ yX8_add.cls ≠ "java/lang/invoke/VarHandle" ∧ (parseMethodDescriptor yX8_add.desc).map (fun d => d.parameters.length) = some 1 := by decide +kernel
theorem xini_X8 : Cond.initialized RX8 ∈ gT := gT_c1 3 rfl rfl
theorem xv_X11_78 : gWV RX11 78 yX8_add cX8_add 3 none 1 := ⟨gT_c2 193 rfl rfl, xi_X8_add.1, xi_X8_add.2, xini_X8, xc_X8_add, xd_X8_add⟩
theorem xc_X3_read : Cond.code yX3_read cX3_read 3 (some .int) ∈ gT := gT_c3 182 rfl rfl
theorem xi_X3_read : Cond.instanceMethod yX3_read ∈ gT ∧ Cond.selects yX3_read.cls yX3_read yX3_read ∈ gT := ⟨gT_c3 180 rfl rfl, gT_c3 181 rfl rfl⟩
theorem xd_X3_read : yX3_read.cls ≠ "java/lang/invoke/MethodHandle" ∧ yX3_read.cls ≠ "java/lang/invoke/VarHandle" ∧ (parseMethodDescriptor yX3_read.desc).map (fun d => d.parameters.length) = some 1 := by decide +kernel
theorem xini_X3 : Cond.initialized RX3 ∈ gT := gT_c1 2 rfl rfl
theorem xv_X11_89 : gWV RX11 89 yX3_read cX3_read 3 (some .int) 1 := ⟨gT_c3 179 rfl rfl, xi_X3_read.1, xi_X3_read.2, xini_X3, xc_X3_read, xd_X3_read⟩
theorem xc_X1_refuse : Cond.code yX1_refuse cX1_refuse 2 (some .int) ∈ gT := gT_c2 211 rfl rfl
theorem xi_X1_refuse : Cond.instanceMethod yX1_refuse ∈ gT ∧ Cond.selects yX1_refuse.cls yX1_refuse yX1_refuse ∈ gT := ⟨gT_c2 209 rfl rfl, gT_c2 210 rfl rfl⟩
theorem xd_X1_refuse : yX1_refuse.cls ≠ "java/lang/invoke/MethodHandle" ∧ yX1_refuse.cls ≠ "java/lang/invoke/VarHandle" ∧ (parseMethodDescriptor yX1_refuse.desc).map (fun d => d.parameters.length) = some 1 := by decide +kernel
theorem xini_X1 : Cond.initialized RX1 ∈ gT := gT_c1 6 rfl rfl
theorem xv_X11_93 : gWV RX11 93 yX1_refuse cX1_refuse 2 (some .int) 1 := ⟨gT_c2 208 rfl rfl, xi_X1_refuse.1, xi_X1_refuse.2, xini_X1, xc_X1_refuse, xd_X1_refuse⟩
theorem xc_X1_begin : Cond.code yX1_begin cX1_begin 2 none ∈ gT := gT_c4 188 rfl rfl
theorem xi_X1_begin : Cond.instanceMethod yX1_begin ∈ gT ∧ Cond.selects yX1_begin.cls yX1_begin yX1_begin ∈ gT := ⟨gT_c4 186 rfl rfl, gT_c4 187 rfl rfl⟩
theorem xd_X1_begin : yX1_begin.cls ≠ "java/lang/invoke/MethodHandle" ∧ yX1_begin.cls ≠ "java/lang/invoke/VarHandle" ∧ (parseMethodDescriptor yX1_begin.desc).map (fun d => d.parameters.length) = some 1 := by decide +kernel
theorem xv_X11_98 : gWV RX11 98 yX1_begin cX1_begin 2 none 1 := ⟨gT_c4 185 rfl rfl, xi_X1_begin.1, xi_X1_begin.2, xini_X1, xc_X1_begin, xd_X1_begin⟩
theorem xc_X9_wetOf : Cond.code yX9_wetOf cX9_wetOf 2 (some .int) ∈ gT := gT_c2 230 rfl rfl
theorem xi_X9_wetOf : Cond.instanceMethod yX9_wetOf ∈ gT ∧ Cond.selects yX9_wetOf.cls yX9_wetOf yX9_wetOf ∈ gT := ⟨gT_c2 228 rfl rfl, gT_c2 229 rfl rfl⟩
theorem xd_X9_wetOf : yX9_wetOf.cls ≠ "java/lang/invoke/MethodHandle" ∧ yX9_wetOf.cls ≠ "java/lang/invoke/VarHandle" ∧ (parseMethodDescriptor yX9_wetOf.desc).map (fun d => d.parameters.length) = some 1 := by decide +kernel
theorem xini_X9 : Cond.initialized RX9 ∈ gT := gT_c1 4 rfl rfl
theorem xv_X11_117 : gWV RX11 117 yX9_wetOf cX9_wetOf 2 (some .int) 1 := ⟨gT_c2 227 rfl rfl, xi_X9_wetOf.1, xi_X9_wetOf.2, xini_X9, xc_X9_wetOf, xd_X9_wetOf⟩
theorem xc_X9_mostSin : Cond.code yX9_mostSin cX9_mostSin 1 (some .int) ∈ gT := gT_c3 56 rfl rfl
theorem xi_X9_mostSin : Cond.instanceMethod yX9_mostSin ∈ gT ∧ Cond.selects yX9_mostSin.cls yX9_mostSin yX9_mostSin ∈ gT := ⟨gT_c3 54 rfl rfl, gT_c3 55 rfl rfl⟩
theorem xd_X9_mostSin : yX9_mostSin.cls ≠ "java/lang/invoke/MethodHandle" ∧ yX9_mostSin.cls ≠ "java/lang/invoke/VarHandle" ∧ (parseMethodDescriptor yX9_mostSin.desc).map (fun d => d.parameters.length) = some 0 := by decide +kernel
theorem xv_X11_120 : gWV RX11 120 yX9_mostSin cX9_mostSin 1 (some .int) 0 := ⟨gT_c4 201 rfl rfl, xi_X9_mostSin.1, xi_X9_mostSin.2, xini_X9, xc_X9_mostSin, xd_X9_mostSin⟩
theorem xc_X7_hiredBits : Cond.code yX7_hiredBits cX7_hiredBits 4 (some .int) ∈ gT := gT_c4 205 rfl rfl
theorem xi_X7_hiredBits : Cond.instanceMethod yX7_hiredBits ∈ gT ∧ Cond.selects yX7_hiredBits.cls yX7_hiredBits yX7_hiredBits ∈ gT := ⟨gT_c4 203 rfl rfl, gT_c4 204 rfl rfl⟩
theorem xd_X7_hiredBits : yX7_hiredBits.cls ≠ "java/lang/invoke/MethodHandle" ∧ yX7_hiredBits.cls ≠ "java/lang/invoke/VarHandle" ∧ (parseMethodDescriptor yX7_hiredBits.desc).map (fun d => d.parameters.length) = some 1 := by decide +kernel
theorem xini_X7 : Cond.initialized RX7 ∈ gT := gT_c1 7 rfl rfl
theorem xv_X11_124 : gWV RX11 124 yX7_hiredBits cX7_hiredBits 4 (some .int) 1 := ⟨gT_c4 202 rfl rfl, xi_X7_hiredBits.1, xi_X7_hiredBits.2, xini_X7, xc_X7_hiredBits, xd_X7_hiredBits⟩
theorem xc_X7_purses : Cond.code yX7_purses cX7_purses 4 (some .int) ∈ gT := gT_c4 209 rfl rfl
theorem xi_X7_purses : Cond.instanceMethod yX7_purses ∈ gT ∧ Cond.selects yX7_purses.cls yX7_purses yX7_purses ∈ gT := ⟨gT_c4 207 rfl rfl, gT_c4 208 rfl rfl⟩
theorem xd_X7_purses : yX7_purses.cls ≠ "java/lang/invoke/MethodHandle" ∧ yX7_purses.cls ≠ "java/lang/invoke/VarHandle" ∧ (parseMethodDescriptor yX7_purses.desc).map (fun d => d.parameters.length) = some 1 := by decide +kernel
theorem xv_X11_131 : gWV RX11 131 yX7_purses cX7_purses 4 (some .int) 1 := ⟨gT_c4 206 rfl rfl, xi_X7_purses.1, xi_X7_purses.2, xini_X7, xc_X7_purses, xd_X7_purses⟩
theorem xc_X7_sins : Cond.code yX7_sins cX7_sins 4 (some .int) ∈ gT := gT_c4 213 rfl rfl
theorem xi_X7_sins : Cond.instanceMethod yX7_sins ∈ gT ∧ Cond.selects yX7_sins.cls yX7_sins yX7_sins ∈ gT := ⟨gT_c4 211 rfl rfl, gT_c4 212 rfl rfl⟩
theorem xd_X7_sins : yX7_sins.cls ≠ "java/lang/invoke/MethodHandle" ∧ yX7_sins.cls ≠ "java/lang/invoke/VarHandle" ∧ (parseMethodDescriptor yX7_sins.desc).map (fun d => d.parameters.length) = some 1 := by decide +kernel
theorem xv_X11_134 : gWV RX11 134 yX7_sins cX7_sins 4 (some .int) 1 := ⟨gT_c4 210 rfl rfl, xi_X7_sins.1, xi_X7_sins.2, xini_X7, xc_X7_sins, xd_X7_sins⟩
theorem xc_X11_needGrotto : Cond.code yX11_needGrotto cX11_needGrotto 2 none ∈ gT := gT_c5 0 rfl rfl
theorem xi_X11_needGrotto : Cond.instanceMethod yX11_needGrotto ∈ gT ∧ Cond.selects yX11_needGrotto.cls yX11_needGrotto yX11_needGrotto ∈ gT := ⟨gT_c4 239 rfl rfl, gT_of 23 (by decide +kernel) rfl⟩
theorem xd_X11_needGrotto : yX11_needGrotto.cls ≠ "java/lang/invoke/MethodHandle" ∧ yX11_needGrotto.cls ≠ "java/lang/invoke/VarHandle" ∧ (parseMethodDescriptor yX11_needGrotto.desc).map (fun d => d.parameters.length) = some 1 := by decide +kernel
theorem xini_X11 : Cond.initialized RX11 ∈ gT := gT_c1 1 rfl rfl
theorem xv_X11_162 : gWV RX11 162 yX11_needGrotto cX11_needGrotto 2 none 1 := ⟨gT_c4 237 rfl rfl, xi_X11_needGrotto.1, xi_X11_needGrotto.2, xini_X11, xc_X11_needGrotto, xd_X11_needGrotto⟩
theorem xc_X7_isDrained : Cond.code yX7_isDrained cX7_isDrained 2 (some .boolean) ∈ gT := gT_c5 6 rfl rfl
theorem xi_X7_isDrained : Cond.instanceMethod yX7_isDrained ∈ gT ∧ Cond.selects yX7_isDrained.cls yX7_isDrained yX7_isDrained ∈ gT := ⟨gT_c5 4 rfl rfl, gT_c5 5 rfl rfl⟩
theorem xd_X7_isDrained : yX7_isDrained.cls ≠ "java/lang/invoke/MethodHandle" ∧ yX7_isDrained.cls ≠ "java/lang/invoke/VarHandle" ∧ (parseMethodDescriptor yX7_isDrained.desc).map (fun d => d.parameters.length) = some 1 := by decide +kernel
theorem xv_X11_178 : gWV RX11 178 yX7_isDrained cX7_isDrained 2 (some .boolean) 1 := ⟨gT_c5 3 rfl rfl, xi_X7_isDrained.1, xi_X7_isDrained.2, xini_X7, xc_X7_isDrained, xd_X7_isDrained⟩
theorem xc_X7_holderOf : Cond.code yX7_holderOf cX7_holderOf 4 (some .int) ∈ gT := gT_c5 11 rfl rfl
theorem xi_X7_holderOf : Cond.instanceMethod yX7_holderOf ∈ gT ∧ Cond.selects yX7_holderOf.cls yX7_holderOf yX7_holderOf ∈ gT := ⟨gT_c5 9 rfl rfl, gT_c5 10 rfl rfl⟩
theorem xd_X7_holderOf : yX7_holderOf.cls ≠ "java/lang/invoke/MethodHandle" ∧ yX7_holderOf.cls ≠ "java/lang/invoke/VarHandle" ∧ (parseMethodDescriptor yX7_holderOf.desc).map (fun d => d.parameters.length) = some 2 := by decide +kernel
theorem xv_X11_182 : gWV RX11 182 yX7_holderOf cX7_holderOf 4 (some .int) 2 := ⟨gT_c5 8 rfl rfl, xi_X7_holderOf.1, xi_X7_holderOf.2, xini_X7, xc_X7_holderOf, xd_X7_holderOf⟩
theorem xc_X11_nextDrip : Cond.code yX11_nextDrip cX11_nextDrip 3 (some .int) ∈ gT := gT_c5 15 rfl rfl
theorem xi_X11_nextDrip : Cond.instanceMethod yX11_nextDrip ∈ gT ∧ Cond.selects yX11_nextDrip.cls yX11_nextDrip yX11_nextDrip ∈ gT := ⟨gT_c5 14 rfl rfl, gT_of 24 (by decide +kernel) rfl⟩
theorem xd_X11_nextDrip : yX11_nextDrip.cls ≠ "java/lang/invoke/MethodHandle" ∧ yX11_nextDrip.cls ≠ "java/lang/invoke/VarHandle" ∧ (parseMethodDescriptor yX11_nextDrip.desc).map (fun d => d.parameters.length) = some 1 := by decide +kernel
theorem xv_X11_186 : gWV RX11 186 yX11_nextDrip cX11_nextDrip 3 (some .int) 1 := ⟨gT_c5 12 rfl rfl, xi_X11_nextDrip.1, xi_X11_nextDrip.2, xini_X11, xc_X11_nextDrip, xd_X11_nextDrip⟩
theorem xc_X11_needGuild : Cond.code yX11_needGuild cX11_needGuild 2 none ∈ gT := gT_c5 32 rfl rfl
theorem xi_X11_needGuild : Cond.instanceMethod yX11_needGuild ∈ gT ∧ Cond.selects yX11_needGuild.cls yX11_needGuild yX11_needGuild ∈ gT := ⟨gT_c5 31 rfl rfl, gT_of 26 (by decide +kernel) rfl⟩
theorem xd_X11_needGuild : yX11_needGuild.cls ≠ "java/lang/invoke/MethodHandle" ∧ yX11_needGuild.cls ≠ "java/lang/invoke/VarHandle" ∧ (parseMethodDescriptor yX11_needGuild.desc).map (fun d => d.parameters.length) = some 1 := by decide +kernel
theorem xv_X11_191 : gWV RX11 191 yX11_needGuild cX11_needGuild 2 none 1 := ⟨gT_c5 29 rfl rfl, xi_X11_needGuild.1, xi_X11_needGuild.2, xini_X11, xc_X11_needGuild, xd_X11_needGuild⟩
theorem xc_X11_costNow : Cond.code yX11_costNow cX11_costNow 2 (some .int) ∈ gT := gT_c5 38 rfl rfl
theorem xi_X11_costNow : Cond.instanceMethod yX11_costNow ∈ gT ∧ Cond.selects yX11_costNow.cls yX11_costNow yX11_costNow ∈ gT := ⟨gT_c5 37 rfl rfl, gT_of 27 (by decide +kernel) rfl⟩
theorem xd_X11_costNow : yX11_costNow.cls ≠ "java/lang/invoke/MethodHandle" ∧ yX11_costNow.cls ≠ "java/lang/invoke/VarHandle" ∧ (parseMethodDescriptor yX11_costNow.desc).map (fun d => d.parameters.length) = some 1 := by decide +kernel
theorem xv_X11_209 : gWV RX11 209 yX11_costNow cX11_costNow 2 (some .int) 1 := ⟨gT_c5 35 rfl rfl, xi_X11_costNow.1, xi_X11_costNow.2, xini_X11, xc_X11_costNow, xd_X11_costNow⟩
theorem xc_X11_isWithin : Cond.code yX11_isWithin cX11_isWithin 3 (some .boolean) ∈ gT := gT_c2 207 rfl rfl
theorem xt_X11_isWithin : Cond.static yX11_isWithin ∈ gT := gT_c2 206 rfl rfl
theorem xd_X11_isWithin : yX11_isWithin.cls ≠ "java/lang/invoke/MethodHandle" ∧ yX11_isWithin.cls ≠ "java/lang/invoke/VarHandle" ∧ (parseMethodDescriptor yX11_isWithin.desc).map (fun d => d.parameters.length) = some 3 := by decide +kernel
theorem xv_X11_214 : gWS RX11 214 yX11_isWithin cX11_isWithin 3 (some .boolean) 3 := ⟨gT_c2 205 rfl rfl, xt_X11_isWithin, xini_X11, xc_X11_isWithin, rfl, xd_X11_isWithin⟩
theorem xc_X1_keepAct : Cond.code yX1_keepAct cX1_keepAct 1 none ∈ gT := gT_c2 215 rfl rfl
theorem xi_X1_keepAct : Cond.instanceMethod yX1_keepAct ∈ gT ∧ Cond.selects yX1_keepAct.cls yX1_keepAct yX1_keepAct ∈ gT := ⟨gT_c2 213 rfl rfl, gT_c2 214 rfl rfl⟩
theorem xd_X1_keepAct : yX1_keepAct.cls ≠ "java/lang/invoke/MethodHandle" ∧ yX1_keepAct.cls ≠ "java/lang/invoke/VarHandle" ∧ (parseMethodDescriptor yX1_keepAct.desc).map (fun d => d.parameters.length) = some 0 := by decide +kernel
theorem xv_X11_218 : gWV RX11 218 yX1_keepAct cX1_keepAct 1 none 0 := ⟨gT_c2 212 rfl rfl, xi_X1_keepAct.1, xi_X1_keepAct.2, xini_X1, xc_X1_keepAct, xd_X1_keepAct⟩
theorem xc_X11_passHour : Cond.code yX11_passHour cX11_passHour 5 (some .int) ∈ gT := gT_c2 234 rfl rfl
theorem xi_X11_passHour : Cond.instanceMethod yX11_passHour ∈ gT ∧ Cond.selects yX11_passHour.cls yX11_passHour yX11_passHour ∈ gT := ⟨gT_c2 233 rfl rfl, gT_of 0 (by decide +kernel) rfl⟩
theorem xd_X11_passHour : yX11_passHour.cls ≠ "java/lang/invoke/MethodHandle" ∧ yX11_passHour.cls ≠ "java/lang/invoke/VarHandle" ∧ (parseMethodDescriptor yX11_passHour.desc).map (fun d => d.parameters.length) = some 2 := by decide +kernel
theorem xv_X11_221 : gWV RX11 221 yX11_passHour cX11_passHour 5 (some .int) 2 := ⟨gT_c2 231 rfl rfl, xi_X11_passHour.1, xi_X11_passHour.2, xini_X11, xc_X11_passHour, xd_X11_passHour⟩
theorem xc_X7_turn : Cond.code yX7_turn cX7_turn 2 none ∈ gT := gT_c5 72 rfl rfl
theorem xi_X7_turn : Cond.instanceMethod yX7_turn ∈ gT ∧ Cond.selects yX7_turn.cls yX7_turn yX7_turn ∈ gT := ⟨gT_c5 70 rfl rfl, gT_c5 71 rfl rfl⟩
theorem xd_X7_turn : yX7_turn.cls ≠ "java/lang/invoke/MethodHandle" ∧ yX7_turn.cls ≠ "java/lang/invoke/VarHandle" ∧ (parseMethodDescriptor yX7_turn.desc).map (fun d => d.parameters.length) = some 1 := by decide +kernel
theorem xv_X11_225 : gWV RX11 225 yX7_turn cX7_turn 2 none 1 := ⟨gT_c5 69 rfl rfl, xi_X7_turn.1, xi_X7_turn.2, xini_X7, xc_X7_turn, xd_X7_turn⟩
theorem xc_X7_enrich : Cond.code yX7_enrich cX7_enrich 3 none ∈ gT := gT_c5 83 rfl rfl
theorem xi_X7_enrich : Cond.instanceMethod yX7_enrich ∈ gT ∧ Cond.selects yX7_enrich.cls yX7_enrich yX7_enrich ∈ gT := ⟨gT_c5 81 rfl rfl, gT_c5 82 rfl rfl⟩
theorem xd_X7_enrich : yX7_enrich.cls ≠ "java/lang/invoke/MethodHandle" ∧ yX7_enrich.cls ≠ "java/lang/invoke/VarHandle" ∧ (parseMethodDescriptor yX7_enrich.desc).map (fun d => d.parameters.length) = some 2 := by decide +kernel
theorem xv_X11_228 : gWV RX11 228 yX7_enrich cX7_enrich 3 none 2 := ⟨gT_c5 80 rfl rfl, xi_X7_enrich.1, xi_X7_enrich.2, xini_X7, xc_X7_enrich, xd_X7_enrich⟩
theorem xc_X0_takeBack : Cond.code yX0_takeBack cX0_takeBack 2 (some .int) ∈ gT := gT_c3 72 rfl rfl
theorem xi_X0_takeBack : Cond.instanceMethod yX0_takeBack ∈ gT ∧ Cond.selects yX0_takeBack.cls yX0_takeBack yX0_takeBack ∈ gT := ⟨gT_c3 70 rfl rfl, gT_c3 71 rfl rfl⟩
theorem xd_X0_takeBack : yX0_takeBack.cls ≠ "java/lang/invoke/MethodHandle" ∧ yX0_takeBack.cls ≠ "java/lang/invoke/VarHandle" ∧ (parseMethodDescriptor yX0_takeBack.desc).map (fun d => d.parameters.length) = some 1 := by decide +kernel
theorem xini_X0 : Cond.initialized RX0 ∈ gT := gT_c1 8 rfl rfl
theorem xv_X11_232 : gWV RX11 232 yX0_takeBack cX0_takeBack 2 (some .int) 1 := ⟨gT_c3 69 rfl rfl, xi_X0_takeBack.1, xi_X0_takeBack.2, xini_X0, xc_X0_takeBack, xd_X0_takeBack⟩
theorem xc_X11_needWhat : Cond.code yX11_needWhat cX11_needWhat 2 none ∈ gT := gT_c5 94 rfl rfl
theorem xt_X11_needWhat : Cond.static yX11_needWhat ∈ gT := gT_c5 93 rfl rfl
theorem xd_X11_needWhat : yX11_needWhat.cls ≠ "java/lang/invoke/MethodHandle" ∧ yX11_needWhat.cls ≠ "java/lang/invoke/VarHandle" ∧ (parseMethodDescriptor yX11_needWhat.desc).map (fun d => d.parameters.length) = some 2 := by decide +kernel
theorem xv_X11_236 : gWS RX11 236 yX11_needWhat cX11_needWhat 2 none 2 := ⟨gT_c5 92 rfl rfl, xt_X11_needWhat, xini_X11, xc_X11_needWhat, rfl, xd_X11_needWhat⟩
theorem xc_X11_needWithin : Cond.code yX11_needWithin cX11_needWithin 3 none ∈ gT := gT_c5 98 rfl rfl
theorem xt_X11_needWithin : Cond.static yX11_needWithin ∈ gT := gT_c5 97 rfl rfl
theorem xd_X11_needWithin : yX11_needWithin.cls ≠ "java/lang/invoke/MethodHandle" ∧ yX11_needWithin.cls ≠ "java/lang/invoke/VarHandle" ∧ (parseMethodDescriptor yX11_needWithin.desc).map (fun d => d.parameters.length) = some 3 := by decide +kernel
theorem xv_X11_239 : gWS RX11 239 yX11_needWithin cX11_needWithin 3 none 3 := ⟨gT_c5 96 rfl rfl, xt_X11_needWithin, xini_X11, xc_X11_needWithin, rfl, xd_X11_needWithin⟩
theorem xc_X10_begin : Cond.code yX10_begin cX10_begin 4 none ∈ gT := gT_c2 238 rfl rfl
theorem xi_X10_begin : Cond.instanceMethod yX10_begin ∈ gT ∧ Cond.selects yX10_begin.cls yX10_begin yX10_begin ∈ gT := ⟨gT_c2 236 rfl rfl, gT_c2 237 rfl rfl⟩
theorem xd_X10_begin : yX10_begin.cls ≠ "java/lang/invoke/MethodHandle" ∧ yX10_begin.cls ≠ "java/lang/invoke/VarHandle" ∧ (parseMethodDescriptor yX10_begin.desc).map (fun d => d.parameters.length) = some 3 := by decide +kernel
theorem xini_X10 : Cond.initialized RX10 ∈ gT := gT_c1 10 rfl rfl
theorem xv_X11_243 : gWV RX11 243 yX10_begin cX10_begin 4 none 3 := ⟨gT_c2 235 rfl rfl, xi_X10_begin.1, xi_X10_begin.2, xini_X10, xc_X10_begin, xd_X10_begin⟩
theorem xc_X10_passHours : Cond.code yX10_passHours cX10_passHours 4 none ∈ gT := gT_c5 103 rfl rfl
theorem xi_X10_passHours : Cond.instanceMethod yX10_passHours ∈ gT ∧ Cond.selects yX10_passHours.cls yX10_passHours yX10_passHours ∈ gT := ⟨gT_c5 101 rfl rfl, gT_c5 102 rfl rfl⟩
theorem xd_X10_passHours : yX10_passHours.cls ≠ "java/lang/invoke/MethodHandle" ∧ yX10_passHours.cls ≠ "java/lang/invoke/VarHandle" ∧ (parseMethodDescriptor yX10_passHours.desc).map (fun d => d.parameters.length) = some 2 := by decide +kernel
theorem xv_X11_246 : gWV RX11 246 yX10_passHours cX10_passHours 4 none 2 := ⟨gT_c5 100 rfl rfl, xi_X10_passHours.1, xi_X10_passHours.2, xini_X10, xc_X10_passHours, xd_X10_passHours⟩
theorem xc_X11_dripBits : Cond.code yX11_dripBits cX11_dripBits 4 (some .int) ∈ gT := gT_c5 115 rfl rfl
theorem xi_X11_dripBits : Cond.instanceMethod yX11_dripBits ∈ gT ∧ Cond.selects yX11_dripBits.cls yX11_dripBits yX11_dripBits ∈ gT := ⟨gT_c5 114 rfl rfl, gT_of 28 (by decide +kernel) rfl⟩
theorem xd_X11_dripBits : yX11_dripBits.cls ≠ "java/lang/invoke/MethodHandle" ∧ yX11_dripBits.cls ≠ "java/lang/invoke/VarHandle" ∧ (parseMethodDescriptor yX11_dripBits.desc).map (fun d => d.parameters.length) = some 1 := by decide +kernel
theorem xv_X11_258 : gWV RX11 258 yX11_dripBits cX11_dripBits 4 (some .int) 1 := ⟨gT_c5 112 rfl rfl, xi_X11_dripBits.1, xi_X11_dripBits.2, xini_X11, xc_X11_dripBits, xd_X11_dripBits⟩
theorem xc_X10_passHour : Cond.code yX10_passHour cX10_passHour 5 (some .boolean) ∈ gT := gT_c3 7 rfl rfl
theorem xi_X10_passHour : Cond.instanceMethod yX10_passHour ∈ gT ∧ Cond.selects yX10_passHour.cls yX10_passHour yX10_passHour ∈ gT := ⟨gT_c3 5 rfl rfl, gT_c3 6 rfl rfl⟩
theorem xd_X10_passHour : yX10_passHour.cls ≠ "java/lang/invoke/MethodHandle" ∧ yX10_passHour.cls ≠ "java/lang/invoke/VarHandle" ∧ (parseMethodDescriptor yX10_passHour.desc).map (fun d => d.parameters.length) = some 2 := by decide +kernel
theorem xv_X11_262 : gWV RX11 262 yX10_passHour cX10_passHour 5 (some .boolean) 2 := ⟨gT_c3 4 rfl rfl, xi_X10_passHour.1, xi_X10_passHour.2, xini_X10, xc_X10_passHour, xd_X10_passHour⟩
theorem xm_max : Cond.static Lib.Math.max.name ∈ gT ∧ Cond.initialized "java/lang/Math" ∈ gT ∧ Cond.code Lib.Math.max.name Lib.Math.max.code 2 (some .int) ∈ gT := ⟨gT_c3 47 rfl rfl, gT_c1 18 rfl rfl, gT_c3 48 rfl rfl⟩
theorem xMmax_X11_265 : Cond.methodLink RX11 265 Lib.Math.max.name ∈ gT ∧ Cond.static Lib.Math.max.name ∈ gT ∧ Cond.initialized "java/lang/Math" ∈ gT ∧ Cond.code Lib.Math.max.name Lib.Math.max.code 2 (some .int) ∈ gT := ⟨gT_c5 144 rfl rfl, xm_max⟩
theorem xc_J6_bitCount_0f7a4 : Cond.code yJ6_bitCount_0f7a4 cJ6_bitCount_0f7a4 1 (some .int) ∈ gT := gT_c5 154 rfl rfl
theorem xt_J6_bitCount_0f7a4 : Cond.static yJ6_bitCount_0f7a4 ∈ gT := gT_c5 153 rfl rfl
theorem xd_J6_bitCount_0f7a4 : yJ6_bitCount_0f7a4.cls ≠ "java/lang/invoke/MethodHandle" ∧ yJ6_bitCount_0f7a4.cls ≠ "java/lang/invoke/VarHandle" ∧ (parseMethodDescriptor yJ6_bitCount_0f7a4.desc).map (fun d => d.parameters.length) = some 1 := by decide +kernel
theorem xini_J6 : Cond.initialized RJ6 ∈ gT := gT_c1 26 rfl rfl
theorem xv_X11_271 : gWO RX11 271 yJ6_bitCount_0f7a4 cJ6_bitCount_0f7a4 1 (some .int) 1 := ⟨gT_c5 152 rfl rfl, xt_J6_bitCount_0f7a4, xini_J6, xc_J6_bitCount_0f7a4, xd_J6_bitCount_0f7a4⟩
theorem xc_X11_needGrottoes : Cond.code yX11_needGrottoes cX11_needGrottoes 2 none ∈ gT := gT_c5 168 rfl rfl
theorem xi_X11_needGrottoes : Cond.instanceMethod yX11_needGrottoes ∈ gT ∧ Cond.selects yX11_needGrottoes.cls yX11_needGrottoes yX11_needGrottoes ∈ gT := ⟨gT_c5 167 rfl rfl, gT_of 29 (by decide +kernel) rfl⟩
theorem xd_X11_needGrottoes : yX11_needGrottoes.cls ≠ "java/lang/invoke/MethodHandle" ∧ yX11_needGrottoes.cls ≠ "java/lang/invoke/VarHandle" ∧ (parseMethodDescriptor yX11_needGrottoes.desc).map (fun d => d.parameters.length) = some 1 := by decide +kernel
theorem xv_X11_276 : gWV RX11 276 yX11_needGrottoes cX11_needGrottoes 2 none 1 := ⟨gT_c5 165 rfl rfl, xi_X11_needGrottoes.1, xi_X11_needGrottoes.2, xini_X11, xc_X11_needGrottoes, xd_X11_needGrottoes⟩
theorem xc_X11_isOneOf : Cond.code yX11_isOneOf cX11_isOneOf 2 (some .boolean) ∈ gT := gT_c3 18 rfl rfl
theorem xt_X11_isOneOf : Cond.static yX11_isOneOf ∈ gT := gT_c3 17 rfl rfl
theorem xd_X11_isOneOf : yX11_isOneOf.cls ≠ "java/lang/invoke/MethodHandle" ∧ yX11_isOneOf.cls ≠ "java/lang/invoke/VarHandle" ∧ (parseMethodDescriptor yX11_isOneOf.desc).map (fun d => d.parameters.length) = some 2 := by decide +kernel
theorem xv_X11_279 : gWS RX11 279 yX11_isOneOf cX11_isOneOf 2 (some .boolean) 2 := ⟨gT_c5 170 rfl rfl, xt_X11_isOneOf, xini_X11, xc_X11_isOneOf, rfl, xd_X11_isOneOf⟩
theorem xc_X11_nextOf : Cond.code yX11_nextOf cX11_nextOf 6 (some .int) ∈ gT := gT_c5 174 rfl rfl
theorem xi_X11_nextOf : Cond.instanceMethod yX11_nextOf ∈ gT ∧ Cond.selects yX11_nextOf.cls yX11_nextOf yX11_nextOf ∈ gT := ⟨gT_c5 173 rfl rfl, gT_of 30 (by decide +kernel) rfl⟩
theorem xd_X11_nextOf : yX11_nextOf.cls ≠ "java/lang/invoke/MethodHandle" ∧ yX11_nextOf.cls ≠ "java/lang/invoke/VarHandle" ∧ (parseMethodDescriptor yX11_nextOf.desc).map (fun d => d.parameters.length) = some 3 := by decide +kernel
theorem xv_X11_283 : gWV RX11 283 yX11_nextOf cX11_nextOf 6 (some .int) 3 := ⟨gT_c5 171 rfl rfl, xi_X11_nextOf.1, xi_X11_nextOf.2, xini_X11, xc_X11_nextOf, xd_X11_nextOf⟩
theorem xc_X11_leastCommon : Cond.code yX11_leastCommon cX11_leastCommon 4 (some .int) ∈ gT := gT_c5 178 rfl rfl
theorem xt_X11_leastCommon : Cond.static yX11_leastCommon ∈ gT := gT_c5 177 rfl rfl
theorem xd_X11_leastCommon : yX11_leastCommon.cls ≠ "java/lang/invoke/MethodHandle" ∧ yX11_leastCommon.cls ≠ "java/lang/invoke/VarHandle" ∧ (parseMethodDescriptor yX11_leastCommon.desc).map (fun d => d.parameters.length) = some 2 := by decide +kernel
theorem xv_X11_287 : gWS RX11 287 yX11_leastCommon cX11_leastCommon 4 (some .int) 2 := ⟨gT_c5 176 rfl rfl, xt_X11_leastCommon, xini_X11, xc_X11_leastCommon, rfl, xd_X11_leastCommon⟩
theorem xc_X11_dripsAhead : Cond.code yX11_dripsAhead cX11_dripsAhead 4 (some .boolean) ∈ gT := gT_c5 19 rfl rfl
theorem xi_X11_dripsAhead : Cond.instanceMethod yX11_dripsAhead ∈ gT ∧ Cond.selects yX11_dripsAhead.cls yX11_dripsAhead yX11_dripsAhead ∈ gT := ⟨gT_c5 18 rfl rfl, gT_of 25 (by decide +kernel) rfl⟩
theorem xd_X11_dripsAhead : yX11_dripsAhead.cls ≠ "java/lang/invoke/MethodHandle" ∧ yX11_dripsAhead.cls ≠ "java/lang/invoke/VarHandle" ∧ (parseMethodDescriptor yX11_dripsAhead.desc).map (fun d => d.parameters.length) = some 2 := by decide +kernel
theorem xv_X11_290 : gWV RX11 290 yX11_dripsAhead cX11_dripsAhead 4 (some .boolean) 2 := ⟨gT_c5 16 rfl rfl, xi_X11_dripsAhead.1, xi_X11_dripsAhead.2, xini_X11, xc_X11_dripsAhead, xd_X11_dripsAhead⟩
theorem xc_X6_share : Cond.code yX6_share cX6_share 6 none ∈ gT := gT_c5 210 rfl rfl
theorem xi_X6_share : Cond.instanceMethod yX6_share ∈ gT ∧ Cond.selects yX6_share.cls yX6_share yX6_share ∈ gT := ⟨gT_c5 208 rfl rfl, gT_c5 209 rfl rfl⟩
theorem xd_X6_share : yX6_share.cls ≠ "java/lang/invoke/MethodHandle" ∧ yX6_share.cls ≠ "java/lang/invoke/VarHandle" ∧ (parseMethodDescriptor yX6_share.desc).map (fun d => d.parameters.length) = some 2 := by decide +kernel
theorem xini_X6 : Cond.initialized RX6 ∈ gT := gT_c1 11 rfl rfl
theorem xv_X11_293 : gWV RX11 293 yX6_share cX6_share 6 none 2 := ⟨gT_c5 207 rfl rfl, xi_X6_share.1, xi_X6_share.2, xini_X6, xc_X6_share, xd_X6_share⟩
theorem xc_X4_minds : Cond.code yX4_minds cX4_minds 3 (some .boolean) ∈ gT := gT_c6 11 rfl rfl
theorem xi_X4_minds : Cond.instanceMethod yX4_minds ∈ gT ∧ Cond.selects yX4_minds.cls yX4_minds yX4_minds ∈ gT := ⟨gT_c6 9 rfl rfl, gT_c6 10 rfl rfl⟩
theorem xd_X4_minds : yX4_minds.cls ≠ "java/lang/invoke/MethodHandle" ∧ yX4_minds.cls ≠ "java/lang/invoke/VarHandle" ∧ (parseMethodDescriptor yX4_minds.desc).map (fun d => d.parameters.length) = some 1 := by decide +kernel
theorem xini_X4 : Cond.initialized RX4 ∈ gT := gT_c1 5 rfl rfl
theorem xv_X11_308 : gWV RX11 308 yX4_minds cX4_minds 3 (some .boolean) 1 := ⟨gT_c6 8 rfl rfl, xi_X4_minds.1, xi_X4_minds.2, xini_X4, xc_X4_minds, xd_X4_minds⟩
theorem xc_X11_leastOfAllPurses : Cond.code yX11_leastOfAllPurses cX11_leastOfAllPurses 4 (some .int) ∈ gT := gT_c6 15 rfl rfl
theorem xi_X11_leastOfAllPurses : Cond.instanceMethod yX11_leastOfAllPurses ∈ gT ∧ Cond.selects yX11_leastOfAllPurses.cls yX11_leastOfAllPurses yX11_leastOfAllPurses ∈ gT := ⟨gT_c6 14 rfl rfl, gT_of 35 (by decide +kernel) rfl⟩
theorem xd_X11_leastOfAllPurses : yX11_leastOfAllPurses.cls ≠ "java/lang/invoke/MethodHandle" ∧ yX11_leastOfAllPurses.cls ≠ "java/lang/invoke/VarHandle" ∧ (parseMethodDescriptor yX11_leastOfAllPurses.desc).map (fun d => d.parameters.length) = some 2 := by decide +kernel
theorem xv_X11_316 : gWV RX11 316 yX11_leastOfAllPurses cX11_leastOfAllPurses 4 (some .int) 2 := ⟨gT_c6 12 rfl rfl, xi_X11_leastOfAllPurses.1, xi_X11_leastOfAllPurses.2, xini_X11, xc_X11_leastOfAllPurses, xd_X11_leastOfAllPurses⟩
theorem xc_X11_leastByHalves : Cond.code yX11_leastByHalves cX11_leastByHalves 7 (some .int) ∈ gT := gT_c6 23 rfl rfl
theorem xi_X11_leastByHalves : Cond.instanceMethod yX11_leastByHalves ∈ gT ∧ Cond.selects yX11_leastByHalves.cls yX11_leastByHalves yX11_leastByHalves ∈ gT := ⟨gT_c6 22 rfl rfl, gT_of 37 (by decide +kernel) rfl⟩
theorem xd_X11_leastByHalves : yX11_leastByHalves.cls ≠ "java/lang/invoke/MethodHandle" ∧ yX11_leastByHalves.cls ≠ "java/lang/invoke/VarHandle" ∧ (parseMethodDescriptor yX11_leastByHalves.desc).map (fun d => d.parameters.length) = some 2 := by decide +kernel
theorem xv_X11_319 : gWV RX11 319 yX11_leastByHalves cX11_leastByHalves 7 (some .int) 2 := ⟨gT_c6 20 rfl rfl, xi_X11_leastByHalves.1, xi_X11_leastByHalves.2, xini_X11, xc_X11_leastByHalves, xd_X11_leastByHalves⟩
theorem xc_X10_repent : Cond.code yX10_repent cX10_repent 1 none ∈ gT := gT_c6 34 rfl rfl
theorem xi_X10_repent : Cond.instanceMethod yX10_repent ∈ gT ∧ Cond.selects yX10_repent.cls yX10_repent yX10_repent ∈ gT := ⟨gT_c6 32 rfl rfl, gT_c6 33 rfl rfl⟩
theorem xd_X10_repent : yX10_repent.cls ≠ "java/lang/invoke/MethodHandle" ∧ yX10_repent.cls ≠ "java/lang/invoke/VarHandle" ∧ (parseMethodDescriptor yX10_repent.desc).map (fun d => d.parameters.length) = some 0 := by decide +kernel
theorem xv_X11_322 : gWV RX11 322 yX10_repent cX10_repent 1 none 0 := ⟨gT_c6 31 rfl rfl, xi_X10_repent.1, xi_X10_repent.2, xini_X10, xc_X10_repent, xd_X10_repent⟩
theorem xc_X5_add : Cond.code yX5_add cX5_add 4 none ∈ gT := gT_c6 45 rfl rfl
theorem xi_X5_add : Cond.instanceMethod yX5_add ∈ gT ∧ Cond.selects yX5_add.cls yX5_add yX5_add ∈ gT := ⟨gT_c6 43 rfl rfl, gT_c6 44 rfl rfl⟩
theorem xd_X5_add : yX5_add.cls ≠ "java/lang/invoke/MethodHandle" ∧ yX5_add.cls ≠ "java/lang/invoke/VarHandle" ∧ (parseMethodDescriptor yX5_add.desc).map (fun d => d.parameters.length) = some 3 := by decide +kernel
theorem xini_X5 : Cond.initialized RX5 ∈ gT := gT_c1 9 rfl rfl
theorem xv_X11_325 : gWV RX11 325 yX5_add cX5_add 4 none 3 := ⟨gT_c6 42 rfl rfl, xi_X5_add.1, xi_X5_add.2, xini_X5, xc_X5_add, xd_X5_add⟩
theorem xc_X2_weigh : Cond.code yX2_weigh cX2_weigh 5 none ∈ gT := gT_c6 56 rfl rfl
theorem xi_X2_weigh : Cond.instanceMethod yX2_weigh ∈ gT ∧ Cond.selects yX2_weigh.cls yX2_weigh yX2_weigh ∈ gT := ⟨gT_c6 54 rfl rfl, gT_c6 55 rfl rfl⟩
theorem xd_X2_weigh : yX2_weigh.cls ≠ "java/lang/invoke/MethodHandle" ∧ yX2_weigh.cls ≠ "java/lang/invoke/VarHandle" ∧ (parseMethodDescriptor yX2_weigh.desc).map (fun d => d.parameters.length) = some 3 := by decide +kernel
theorem xini_X2 : Cond.initialized RX2 ∈ gT := gT_c1 12 rfl rfl
theorem xv_X11_327 : gWV RX11 327 yX2_weigh cX2_weigh 5 none 3 := ⟨gT_c6 53 rfl rfl, xi_X2_weigh.1, xi_X2_weigh.2, xini_X2, xc_X2_weigh, xd_X2_weigh⟩
theorem xc_X2_bestLook : Cond.code yX2_bestLook cX2_bestLook 3 (some .int) ∈ gT := gT_c6 89 rfl rfl
theorem xi_X2_bestLook : Cond.instanceMethod yX2_bestLook ∈ gT ∧ Cond.selects yX2_bestLook.cls yX2_bestLook yX2_bestLook ∈ gT := ⟨gT_c6 87 rfl rfl, gT_c6 88 rfl rfl⟩
theorem xd_X2_bestLook : yX2_bestLook.cls ≠ "java/lang/invoke/MethodHandle" ∧ yX2_bestLook.cls ≠ "java/lang/invoke/VarHandle" ∧ (parseMethodDescriptor yX2_bestLook.desc).map (fun d => d.parameters.length) = some 0 := by decide +kernel
theorem xv_X11_338 : gWV RX11 338 yX2_bestLook cX2_bestLook 3 (some .int) 0 := ⟨gT_c6 86 rfl rfl, xi_X2_bestLook.1, xi_X2_bestLook.2, xini_X2, xc_X2_bestLook, xd_X2_bestLook⟩
theorem xc_X2_unlikeBehind : Cond.code yX2_unlikeBehind cX2_unlikeBehind 2 (some .int) ∈ gT := gT_c6 93 rfl rfl
theorem xi_X2_unlikeBehind : Cond.instanceMethod yX2_unlikeBehind ∈ gT ∧ Cond.selects yX2_unlikeBehind.cls yX2_unlikeBehind yX2_unlikeBehind ∈ gT := ⟨gT_c6 91 rfl rfl, gT_c6 92 rfl rfl⟩
theorem xd_X2_unlikeBehind : yX2_unlikeBehind.cls ≠ "java/lang/invoke/MethodHandle" ∧ yX2_unlikeBehind.cls ≠ "java/lang/invoke/VarHandle" ∧ (parseMethodDescriptor yX2_unlikeBehind.desc).map (fun d => d.parameters.length) = some 1 := by decide +kernel
theorem xv_X11_341 : gWV RX11 341 yX2_unlikeBehind cX2_unlikeBehind 2 (some .int) 1 := ⟨gT_c6 95 rfl rfl, xi_X2_unlikeBehind.1, xi_X2_unlikeBehind.2, xini_X2, xc_X2_unlikeBehind, xd_X2_unlikeBehind⟩
theorem xc_X11_mostChoice : Cond.code yX11_mostChoice cX11_mostChoice 2 (some .int) ∈ gT := gT_c6 114 rfl rfl
theorem xi_X11_mostChoice : Cond.instanceMethod yX11_mostChoice ∈ gT ∧ Cond.selects yX11_mostChoice.cls yX11_mostChoice yX11_mostChoice ∈ gT := ⟨gT_c6 113 rfl rfl, gT_of 41 (by decide +kernel) rfl⟩
theorem xd_X11_mostChoice : yX11_mostChoice.cls ≠ "java/lang/invoke/MethodHandle" ∧ yX11_mostChoice.cls ≠ "java/lang/invoke/VarHandle" ∧ (parseMethodDescriptor yX11_mostChoice.desc).map (fun d => d.parameters.length) = some 1 := by decide +kernel
theorem xv_X11_346 : gWV RX11 346 yX11_mostChoice cX11_mostChoice 2 (some .int) 1 := ⟨gT_c6 111 rfl rfl, xi_X11_mostChoice.1, xi_X11_mostChoice.2, xini_X11, xc_X11_mostChoice, xd_X11_mostChoice⟩
theorem xc_X11_isContent : Cond.code yX11_isContent cX11_isContent 6 (some .boolean) ∈ gT := gT_c6 118 rfl rfl
theorem xi_X11_isContent : Cond.instanceMethod yX11_isContent ∈ gT ∧ Cond.selects yX11_isContent.cls yX11_isContent yX11_isContent ∈ gT := ⟨gT_c6 117 rfl rfl, gT_of 42 (by decide +kernel) rfl⟩
theorem xd_X11_isContent : yX11_isContent.cls ≠ "java/lang/invoke/MethodHandle" ∧ yX11_isContent.cls ≠ "java/lang/invoke/VarHandle" ∧ (parseMethodDescriptor yX11_isContent.desc).map (fun d => d.parameters.length) = some 4 := by decide +kernel
theorem xv_X11_349 : gWV RX11 349 yX11_isContent cX11_isContent 6 (some .boolean) 4 := ⟨gT_c6 115 rfl rfl, xi_X11_isContent.1, xi_X11_isContent.2, xini_X11, xc_X11_isContent, xd_X11_isContent⟩
theorem xc_X7_copy : Cond.code yX7_copy cX7_copy 3 none ∈ gT := gT_c3 92 rfl rfl
theorem xi_X7_copy : Cond.instanceMethod yX7_copy ∈ gT ∧ Cond.selects yX7_copy.cls yX7_copy yX7_copy ∈ gT := ⟨gT_c3 90 rfl rfl, gT_c3 91 rfl rfl⟩
theorem xd_X7_copy : yX7_copy.cls ≠ "java/lang/invoke/MethodHandle" ∧ yX7_copy.cls ≠ "java/lang/invoke/VarHandle" ∧ (parseMethodDescriptor yX7_copy.desc).map (fun d => d.parameters.length) = some 1 := by decide +kernel
theorem xv_X11_353 : gWV RX11 353 yX7_copy cX7_copy 3 none 1 := ⟨gT_c6 134 rfl rfl, xi_X7_copy.1, xi_X7_copy.2, xini_X7, xc_X7_copy, xd_X7_copy⟩
theorem xc_X11_draw : Cond.code yX11_draw cX11_draw 2 (some .int) ∈ gT := gT_c6 138 rfl rfl
theorem xi_X11_draw : Cond.instanceMethod yX11_draw ∈ gT ∧ Cond.selects yX11_draw.cls yX11_draw yX11_draw ∈ gT := ⟨gT_c6 137 rfl rfl, gT_of 45 (by decide +kernel) rfl⟩
theorem xd_X11_draw : yX11_draw.cls ≠ "java/lang/invoke/MethodHandle" ∧ yX11_draw.cls ≠ "java/lang/invoke/VarHandle" ∧ (parseMethodDescriptor yX11_draw.desc).map (fun d => d.parameters.length) = some 1 := by decide +kernel
theorem xv_X11_357 : gWV RX11 357 yX11_draw cX11_draw 2 (some .int) 1 := ⟨gT_c6 135 rfl rfl, xi_X11_draw.1, xi_X11_draw.2, xini_X11, xc_X11_draw, xd_X11_draw⟩
theorem xc_X11_chance : Cond.code yX11_chance cX11_chance 4 none ∈ gT := gT_c6 143 rfl rfl
theorem xi_X11_chance : Cond.instanceMethod yX11_chance ∈ gT ∧ Cond.selects yX11_chance.cls yX11_chance yX11_chance ∈ gT := ⟨gT_c6 142 rfl rfl, gT_of 46 (by decide +kernel) rfl⟩
theorem xd_X11_chance : yX11_chance.cls ≠ "java/lang/invoke/MethodHandle" ∧ yX11_chance.cls ≠ "java/lang/invoke/VarHandle" ∧ (parseMethodDescriptor yX11_chance.desc).map (fun d => d.parameters.length) = some 1 := by decide +kernel
theorem xv_X11_360 : gWV RX11 360 yX11_chance cX11_chance 4 none 1 := ⟨gT_c6 140 rfl rfl, xi_X11_chance.1, xi_X11_chance.2, xini_X11, xc_X11_chance, xd_X11_chance⟩
theorem xc_X1_copy : Cond.code yX1_copy cX1_copy 3 none ∈ gT := gT_c3 88 rfl rfl
theorem xi_X1_copy : Cond.instanceMethod yX1_copy ∈ gT ∧ Cond.selects yX1_copy.cls yX1_copy yX1_copy ∈ gT := ⟨gT_c3 86 rfl rfl, gT_c3 87 rfl rfl⟩
theorem xd_X1_copy : yX1_copy.cls ≠ "java/lang/invoke/MethodHandle" ∧ yX1_copy.cls ≠ "java/lang/invoke/VarHandle" ∧ (parseMethodDescriptor yX1_copy.desc).map (fun d => d.parameters.length) = some 1 := by decide +kernel
theorem xv_X11_363 : gWV RX11 363 yX1_copy cX1_copy 3 none 1 := ⟨gT_c3 85 rfl rfl, xi_X1_copy.1, xi_X1_copy.2, xini_X1, xc_X1_copy, xd_X1_copy⟩
theorem xc_X9_isGrotto : Cond.code yX9_isGrotto cX9_isGrotto 2 (some .boolean) ∈ gT := gT_c3 11 rfl rfl
theorem xi_X9_isGrotto : Cond.instanceMethod yX9_isGrotto ∈ gT ∧ Cond.selects yX9_isGrotto.cls yX9_isGrotto yX9_isGrotto ∈ gT := ⟨gT_c3 9 rfl rfl, gT_c3 10 rfl rfl⟩
theorem xd_X9_isGrotto : yX9_isGrotto.cls ≠ "java/lang/invoke/MethodHandle" ∧ yX9_isGrotto.cls ≠ "java/lang/invoke/VarHandle" ∧ (parseMethodDescriptor yX9_isGrotto.desc).map (fun d => d.parameters.length) = some 1 := by decide +kernel
theorem xv_X11_366 : gWV RX11 366 yX9_isGrotto cX9_isGrotto 2 (some .boolean) 1 := ⟨gT_c5 1 rfl rfl, xi_X9_isGrotto.1, xi_X9_isGrotto.2, xini_X9, xc_X9_isGrotto, xd_X9_isGrotto⟩
theorem xc_X9_isGuild : Cond.code yX9_isGuild cX9_isGuild 2 (some .boolean) ∈ gT := gT_c3 2 rfl rfl
theorem xi_X9_isGuild : Cond.instanceMethod yX9_isGuild ∈ gT ∧ Cond.selects yX9_isGuild.cls yX9_isGuild yX9_isGuild ∈ gT := ⟨gT_c3 0 rfl rfl, gT_c3 1 rfl rfl⟩
theorem xd_X9_isGuild : yX9_isGuild.cls ≠ "java/lang/invoke/MethodHandle" ∧ yX9_isGuild.cls ≠ "java/lang/invoke/VarHandle" ∧ (parseMethodDescriptor yX9_isGuild.desc).map (fun d => d.parameters.length) = some 1 := by decide +kernel
theorem xv_X11_371 : gWV RX11 371 yX9_isGuild cX9_isGuild 2 (some .boolean) 1 := ⟨gT_c5 33 rfl rfl, xi_X9_isGuild.1, xi_X9_isGuild.2, xini_X9, xc_X9_isGuild, xd_X9_isGuild⟩
theorem xc_X9_drips : Cond.code yX9_drips cX9_drips 5 (some .boolean) ∈ gT := gT_c3 15 rfl rfl
theorem xi_X9_drips : Cond.instanceMethod yX9_drips ∈ gT ∧ Cond.selects yX9_drips.cls yX9_drips yX9_drips ∈ gT := ⟨gT_c3 13 rfl rfl, gT_c3 14 rfl rfl⟩
theorem xd_X9_drips : yX9_drips.cls ≠ "java/lang/invoke/MethodHandle" ∧ yX9_drips.cls ≠ "java/lang/invoke/VarHandle" ∧ (parseMethodDescriptor yX9_drips.desc).map (fun d => d.parameters.length) = some 4 := by decide +kernel
theorem xv_X11_382 : gWV RX11 382 yX9_drips cX9_drips 5 (some .boolean) 4 := ⟨gT_c5 20 rfl rfl, xi_X9_drips.1, xi_X9_drips.2, xini_X9, xc_X9_drips, xd_X9_drips⟩
theorem xc_X10_cost : Cond.code yX10_cost cX10_cost 3 (some .int) ∈ gT := gT_c3 52 rfl rfl
theorem xi_X10_cost : Cond.instanceMethod yX10_cost ∈ gT ∧ Cond.selects yX10_cost.cls yX10_cost yX10_cost ∈ gT := ⟨gT_c3 50 rfl rfl, gT_c3 51 rfl rfl⟩
theorem xd_X10_cost : yX10_cost.cls ≠ "java/lang/invoke/MethodHandle" ∧ yX10_cost.cls ≠ "java/lang/invoke/VarHandle" ∧ (parseMethodDescriptor yX10_cost.desc).map (fun d => d.parameters.length) = some 1 := by decide +kernel
theorem xv_X11_385 : gWV RX11 385 yX10_cost cX10_cost 3 (some .int) 1 := ⟨gT_c5 39 rfl rfl, xi_X10_cost.1, xi_X10_cost.2, xini_X10, xc_X10_cost, xd_X10_cost⟩
theorem xc_X10_end : Cond.code yX10_end cX10_end 3 none ∈ gT := gT_c3 64 rfl rfl
theorem xi_X10_end : Cond.instanceMethod yX10_end ∈ gT ∧ Cond.selects yX10_end.cls yX10_end yX10_end ∈ gT := ⟨gT_c3 62 rfl rfl, gT_c3 63 rfl rfl⟩
theorem xd_X10_end : yX10_end.cls ≠ "java/lang/invoke/MethodHandle" ∧ yX10_end.cls ≠ "java/lang/invoke/VarHandle" ∧ (parseMethodDescriptor yX10_end.desc).map (fun d => d.parameters.length) = some 2 := by decide +kernel
theorem xv_X11_388 : gWV RX11 388 yX10_end cX10_end 3 none 2 := ⟨gT_c3 61 rfl rfl, xi_X10_end.1, xi_X10_end.2, xini_X10, xc_X10_end, xd_X10_end⟩
theorem xc_X9_comesRound : Cond.code yX9_comesRound cX9_comesRound 3 (some .boolean) ∈ gT := gT_c3 22 rfl rfl
theorem xi_X9_comesRound : Cond.instanceMethod yX9_comesRound ∈ gT ∧ Cond.selects yX9_comesRound.cls yX9_comesRound yX9_comesRound ∈ gT := ⟨gT_c3 20 rfl rfl, gT_c3 21 rfl rfl⟩
theorem xd_X9_comesRound : yX9_comesRound.cls ≠ "java/lang/invoke/MethodHandle" ∧ yX9_comesRound.cls ≠ "java/lang/invoke/VarHandle" ∧ (parseMethodDescriptor yX9_comesRound.desc).map (fun d => d.parameters.length) = some 2 := by decide +kernel
theorem xv_X11_392 : gWV RX11 392 yX9_comesRound cX9_comesRound 3 (some .boolean) 2 := ⟨gT_c5 175 rfl rfl, xi_X9_comesRound.1, xi_X9_comesRound.2, xini_X9, xc_X9_comesRound, xd_X9_comesRound⟩
theorem xc_X11_keeps : Cond.code yX11_keeps cX11_keeps 5 (some .boolean) ∈ gT := gT_c6 19 rfl rfl
theorem xi_X11_keeps : Cond.instanceMethod yX11_keeps ∈ gT ∧ Cond.selects yX11_keeps.cls yX11_keeps yX11_keeps ∈ gT := ⟨gT_c6 18 rfl rfl, gT_of 36 (by decide +kernel) rfl⟩
theorem xd_X11_keeps : yX11_keeps.cls ≠ "java/lang/invoke/MethodHandle" ∧ yX11_keeps.cls ≠ "java/lang/invoke/VarHandle" ∧ (parseMethodDescriptor yX11_keeps.desc).map (fun d => d.parameters.length) = some 3 := by decide +kernel
theorem xv_X11_395 : gWV RX11 395 yX11_keeps cX11_keeps 5 (some .boolean) 3 := ⟨gT_c6 16 rfl rfl, xi_X11_keeps.1, xi_X11_keeps.2, xini_X11, xc_X11_keeps, xd_X11_keeps⟩
theorem xc_X11_gain : Cond.code yX11_gain cX11_gain 5 (some .int) ∈ gT := gT_c6 122 rfl rfl
theorem xi_X11_gain : Cond.instanceMethod yX11_gain ∈ gT ∧ Cond.selects yX11_gain.cls yX11_gain yX11_gain ∈ gT := ⟨gT_c6 121 rfl rfl, gT_of 43 (by decide +kernel) rfl⟩
theorem xd_X11_gain : yX11_gain.cls ≠ "java/lang/invoke/MethodHandle" ∧ yX11_gain.cls ≠ "java/lang/invoke/VarHandle" ∧ (parseMethodDescriptor yX11_gain.desc).map (fun d => d.parameters.length) = some 4 := by decide +kernel
theorem xv_X11_398 : gWV RX11 398 yX11_gain cX11_gain 5 (some .int) 4 := ⟨gT_c6 119 rfl rfl, xi_X11_gain.1, xi_X11_gain.2, xini_X11, xc_X11_gain, xd_X11_gain⟩
theorem xc_X11_quietHours : Cond.code yX11_quietHours cX11_quietHours 5 (some .int) ∈ gT := gT_c6 126 rfl rfl
theorem xi_X11_quietHours : Cond.instanceMethod yX11_quietHours ∈ gT ∧ Cond.selects yX11_quietHours.cls yX11_quietHours yX11_quietHours ∈ gT := ⟨gT_c6 125 rfl rfl, gT_of 44 (by decide +kernel) rfl⟩
theorem xd_X11_quietHours : yX11_quietHours.cls ≠ "java/lang/invoke/MethodHandle" ∧ yX11_quietHours.cls ≠ "java/lang/invoke/VarHandle" ∧ (parseMethodDescriptor yX11_quietHours.desc).map (fun d => d.parameters.length) = some 2 := by decide +kernel
theorem xv_X11_402 : gWV RX11 402 yX11_quietHours cX11_quietHours 5 (some .int) 2 := ⟨gT_c6 123 rfl rfl, xi_X11_quietHours.1, xi_X11_quietHours.2, xini_X11, xc_X11_quietHours, xd_X11_quietHours⟩
theorem xc_X7_write : Cond.code yX7_write cX7_write 5 none ∈ gT := gT_c2 226 rfl rfl
theorem xi_X7_write : Cond.instanceMethod yX7_write ∈ gT ∧ Cond.selects yX7_write.cls yX7_write yX7_write ∈ gT := ⟨gT_c2 224 rfl rfl, gT_c2 225 rfl rfl⟩
theorem xd_X7_write : yX7_write.cls ≠ "java/lang/invoke/MethodHandle" ∧ yX7_write.cls ≠ "java/lang/invoke/VarHandle" ∧ (parseMethodDescriptor yX7_write.desc).map (fun d => d.parameters.length) = some 2 := by decide +kernel
theorem xv_X0_27 : gWV RX0 27 yX7_write cX7_write 5 none 2 := ⟨gT_c2 223 rfl rfl, xi_X7_write.1, xi_X7_write.2, xini_X7, xc_X7_write, xd_X7_write⟩
theorem xc_X7_read : Cond.code yX7_read cX7_read 5 none ∈ gT := gT_c3 76 rfl rfl
theorem xi_X7_read : Cond.instanceMethod yX7_read ∈ gT ∧ Cond.selects yX7_read.cls yX7_read yX7_read ∈ gT := ⟨gT_c3 74 rfl rfl, gT_c3 75 rfl rfl⟩
theorem xd_X7_read : yX7_read.cls ≠ "java/lang/invoke/MethodHandle" ∧ yX7_read.cls ≠ "java/lang/invoke/VarHandle" ∧ (parseMethodDescriptor yX7_read.desc).map (fun d => d.parameters.length) = some 2 := by decide +kernel
theorem xv_X0_31 : gWV RX0 31 yX7_read cX7_read 5 none 2 := ⟨gT_c3 73 rfl rfl, xi_X7_read.1, xi_X7_read.2, xini_X7, xc_X7_read, xd_X7_read⟩
theorem xc_X7_begin : Cond.code yX7_begin cX7_begin 3 none ∈ gT := gT_c4 192 rfl rfl
theorem xi_X7_begin : Cond.instanceMethod yX7_begin ∈ gT ∧ Cond.selects yX7_begin.cls yX7_begin yX7_begin ∈ gT := ⟨gT_c4 190 rfl rfl, gT_c4 191 rfl rfl⟩
theorem xd_X7_begin : yX7_begin.cls ≠ "java/lang/invoke/MethodHandle" ∧ yX7_begin.cls ≠ "java/lang/invoke/VarHandle" ∧ (parseMethodDescriptor yX7_begin.desc).map (fun d => d.parameters.length) = some 1 := by decide +kernel
theorem xv_X1_36 : gWV RX1 36 yX7_begin cX7_begin 3 none 1 := ⟨gT_c4 189 rfl rfl, xi_X7_begin.1, xi_X7_begin.2, xini_X7, xc_X7_begin, xd_X7_begin⟩
theorem xc_X0_add : Cond.code yX0_add cX0_add 2 none ∈ gT := gT_c2 219 rfl rfl
theorem xi_X0_add : Cond.instanceMethod yX0_add ∈ gT ∧ Cond.selects yX0_add.cls yX0_add yX0_add ∈ gT := ⟨gT_c2 217 rfl rfl, gT_c2 218 rfl rfl⟩
theorem xd_X0_add : yX0_add.cls ≠ "java/lang/invoke/MethodHandle" ∧ yX0_add.cls ≠ "java/lang/invoke/VarHandle" ∧ (parseMethodDescriptor yX0_add.desc).map (fun d => d.parameters.length) = some 1 := by decide +kernel
theorem xv_X1_45 : gWV RX1 45 yX0_add cX0_add 2 none 1 := ⟨gT_c2 216 rfl rfl, xi_X0_add.1, xi_X0_add.2, xini_X0, xc_X0_add, xd_X0_add⟩
theorem xv_X1_49 : gWV RX1 49 yX7_copy cX7_copy 3 none 1 := ⟨gT_c3 89 rfl rfl, xi_X7_copy.1, xi_X7_copy.2, xini_X7, xc_X7_copy, xd_X7_copy⟩
theorem xc_X0_copy : Cond.code yX0_copy cX0_copy 2 none ∈ gT := gT_c3 96 rfl rfl
theorem xi_X0_copy : Cond.instanceMethod yX0_copy ∈ gT ∧ Cond.selects yX0_copy.cls yX0_copy yX0_copy ∈ gT := ⟨gT_c3 94 rfl rfl, gT_c3 95 rfl rfl⟩
theorem xd_X0_copy : yX0_copy.cls ≠ "java/lang/invoke/MethodHandle" ∧ yX0_copy.cls ≠ "java/lang/invoke/VarHandle" ∧ (parseMethodDescriptor yX0_copy.desc).map (fun d => d.parameters.length) = some 1 := by decide +kernel
theorem xv_X1_52 : gWV RX1 52 yX0_copy cX0_copy 2 none 1 := ⟨gT_c3 93 rfl rfl, xi_X0_copy.1, xi_X0_copy.2, xini_X0, xc_X0_copy, xd_X0_copy⟩
theorem xc_X5_copy : Cond.code yX5_copy cX5_copy 3 none ∈ gT := gT_c3 100 rfl rfl
theorem xi_X5_copy : Cond.instanceMethod yX5_copy ∈ gT ∧ Cond.selects yX5_copy.cls yX5_copy yX5_copy ∈ gT := ⟨gT_c3 98 rfl rfl, gT_c3 99 rfl rfl⟩
theorem xd_X5_copy : yX5_copy.cls ≠ "java/lang/invoke/MethodHandle" ∧ yX5_copy.cls ≠ "java/lang/invoke/VarHandle" ∧ (parseMethodDescriptor yX5_copy.desc).map (fun d => d.parameters.length) = some 1 := by decide +kernel
theorem xv_X1_55 : gWV RX1 55 yX5_copy cX5_copy 3 none 1 := ⟨gT_c3 97 rfl rfl, xi_X5_copy.1, xi_X5_copy.2, xini_X5, xc_X5_copy, xd_X5_copy⟩
theorem xv_X2_45 : gWV RX2 45 yX10_begin cX10_begin 4 none 3 := ⟨gT_c6 57 rfl rfl, xi_X10_begin.1, xi_X10_begin.2, xini_X10, xc_X10_begin, xd_X10_begin⟩
theorem xc_X2_follow : Cond.code yX2_follow cX2_follow 4 none ∈ gT := gT_c6 60 rfl rfl
theorem xt_X2_follow : Cond.static yX2_follow ∈ gT := gT_c6 59 rfl rfl
theorem xd_X2_follow : yX2_follow.cls ≠ "java/lang/invoke/MethodHandle" ∧ yX2_follow.cls ≠ "java/lang/invoke/VarHandle" ∧ (parseMethodDescriptor yX2_follow.desc).map (fun d => d.parameters.length) = some 3 := by decide +kernel
theorem xv_X2_51 : gWS RX2 51 yX2_follow cX2_follow 4 none 3 := ⟨gT_c6 58 rfl rfl, xt_X2_follow, xini_X2, xc_X2_follow, rfl, xd_X2_follow⟩
theorem xc_X2_doOthersSuit : Cond.code yX2_doOthersSuit cX2_doOthersSuit 5 (some .boolean) ∈ gT := gT_c6 66 rfl rfl
theorem xi_X2_doOthersSuit : Cond.instanceMethod yX2_doOthersSuit ∈ gT ∧ Cond.selects yX2_doOthersSuit.cls yX2_doOthersSuit yX2_doOthersSuit ∈ gT := ⟨gT_c6 65 rfl rfl, gT_of 38 (by decide +kernel) rfl⟩
theorem xd_X2_doOthersSuit : yX2_doOthersSuit.cls ≠ "java/lang/invoke/MethodHandle" ∧ yX2_doOthersSuit.cls ≠ "java/lang/invoke/VarHandle" ∧ (parseMethodDescriptor yX2_doOthersSuit.desc).map (fun d => d.parameters.length) = some 3 := by decide +kernel
theorem xv_X2_59 : gWV RX2 59 yX2_doOthersSuit cX2_doOthersSuit 5 (some .boolean) 3 := ⟨gT_c6 63 rfl rfl, xi_X2_doOthersSuit.1, xi_X2_doOthersSuit.2, xini_X2, xc_X2_doOthersSuit, xd_X2_doOthersSuit⟩
theorem xc_X2_tryGreeds : Cond.code yX2_tryGreeds cX2_tryGreeds 6 none ∈ gT := gT_c6 74 rfl rfl
theorem xi_X2_tryGreeds : Cond.instanceMethod yX2_tryGreeds ∈ gT ∧ Cond.selects yX2_tryGreeds.cls yX2_tryGreeds yX2_tryGreeds ∈ gT := ⟨gT_c6 73 rfl rfl, gT_of 39 (by decide +kernel) rfl⟩
theorem xd_X2_tryGreeds : yX2_tryGreeds.cls ≠ "java/lang/invoke/MethodHandle" ∧ yX2_tryGreeds.cls ≠ "java/lang/invoke/VarHandle" ∧ (parseMethodDescriptor yX2_tryGreeds.desc).map (fun d => d.parameters.length) = some 4 := by decide +kernel
theorem xv_X2_63 : gWV RX2 63 yX2_tryGreeds cX2_tryGreeds 6 none 4 := ⟨gT_c6 71 rfl rfl, xi_X2_tryGreeds.1, xi_X2_tryGreeds.2, xini_X2, xc_X2_tryGreeds, xd_X2_tryGreeds⟩
theorem xv_X2_67 : gWV RX2 67 yX2_unlikeBehind cX2_unlikeBehind 2 (some .int) 1 := ⟨gT_c6 90 rfl rfl, xi_X2_unlikeBehind.1, xi_X2_unlikeBehind.2, xini_X2, xc_X2_unlikeBehind, xd_X2_unlikeBehind⟩
theorem xv_X2_71 : gWO RX2 71 yJ6_bitCount_0f7a4 cJ6_bitCount_0f7a4 1 (some .int) 1 := ⟨gT_c6 94 rfl rfl, xt_J6_bitCount_0f7a4, xini_J6, xc_J6_bitCount_0f7a4, xd_J6_bitCount_0f7a4⟩
theorem xc_X5_suits : Cond.code yX5_suits cX5_suits 5 (some .boolean) ∈ gT := gT_c6 70 rfl rfl
theorem xi_X5_suits : Cond.instanceMethod yX5_suits ∈ gT ∧ Cond.selects yX5_suits.cls yX5_suits yX5_suits ∈ gT := ⟨gT_c6 68 rfl rfl, gT_c6 69 rfl rfl⟩
theorem xd_X5_suits : yX5_suits.cls ≠ "java/lang/invoke/MethodHandle" ∧ yX5_suits.cls ≠ "java/lang/invoke/VarHandle" ∧ (parseMethodDescriptor yX5_suits.desc).map (fun d => d.parameters.length) = some 2 := by decide +kernel
theorem xv_X2_81 : gWV RX2 81 yX5_suits cX5_suits 5 (some .boolean) 2 := ⟨gT_c6 67 rfl rfl, xi_X5_suits.1, xi_X5_suits.2, xini_X5, xc_X5_suits, xd_X5_suits⟩
theorem xc_X2_markWorst : Cond.code yX2_markWorst cX2_markWorst 8 none ∈ gT := gT_c6 78 rfl rfl
theorem xi_X2_markWorst : Cond.instanceMethod yX2_markWorst ∈ gT ∧ Cond.selects yX2_markWorst.cls yX2_markWorst yX2_markWorst ∈ gT := ⟨gT_c6 77 rfl rfl, gT_of 40 (by decide +kernel) rfl⟩
theorem xd_X2_markWorst : yX2_markWorst.cls ≠ "java/lang/invoke/MethodHandle" ∧ yX2_markWorst.cls ≠ "java/lang/invoke/VarHandle" ∧ (parseMethodDescriptor yX2_markWorst.desc).map (fun d => d.parameters.length) = some 2 := by decide +kernel
theorem xv_X2_87 : gWV RX2 87 yX2_markWorst cX2_markWorst 8 none 2 := ⟨gT_c6 75 rfl rfl, xi_X2_markWorst.1, xi_X2_markWorst.2, xini_X2, xc_X2_markWorst, xd_X2_markWorst⟩
theorem xv_X2_97 : gWV RX2 97 yX9_wetOf cX9_wetOf 2 (some .int) 1 := ⟨gT_c6 61 rfl rfl, xi_X9_wetOf.1, xi_X9_wetOf.2, xini_X9, xc_X9_wetOf, xd_X9_wetOf⟩
theorem xv_X2_100 : gWV RX2 100 yX10_passHour cX10_passHour 5 (some .boolean) 2 := ⟨gT_c6 62 rfl rfl, xi_X10_passHour.1, xi_X10_passHour.2, xini_X10, xc_X10_passHour, xd_X10_passHour⟩
theorem xc_X9_clear : Cond.code yX9_clear cX9_clear 1 none ∈ gT := gT_c3 186 rfl rfl
theorem xi_X9_clear : Cond.instanceMethod yX9_clear ∈ gT ∧ Cond.selects yX9_clear.cls yX9_clear yX9_clear ∈ gT := ⟨gT_c3 184 rfl rfl, gT_c3 185 rfl rfl⟩
theorem xd_X9_clear : yX9_clear.cls ≠ "java/lang/invoke/MethodHandle" ∧ yX9_clear.cls ≠ "java/lang/invoke/VarHandle" ∧ (parseMethodDescriptor yX9_clear.desc).map (fun d => d.parameters.length) = some 0 := by decide +kernel
theorem xv_X3_32 : gWV RX3 32 yX9_clear cX9_clear 1 none 0 := ⟨gT_c3 183 rfl rfl, xi_X9_clear.1, xi_X9_clear.2, xini_X9, xc_X9_clear, xd_X9_clear⟩
theorem xc_X8_open : Cond.code yX8_open cX8_open 2 none ∈ gT := gT_c3 194 rfl rfl
theorem xi_X8_open : Cond.instanceMethod yX8_open ∈ gT ∧ Cond.selects yX8_open.cls yX8_open yX8_open ∈ gT := ⟨gT_c3 192 rfl rfl, gT_c3 193 rfl rfl⟩
theorem xd_X8_open : yX8_open.cls ≠ "java/lang/invoke/MethodHandle" ∧ yX8_open.cls ≠ "java/lang/invoke/VarHandle" ∧ (parseMethodDescriptor yX8_open.desc).map (fun d => d.parameters.length) = some 1 := by decide +kernel
theorem xv_X3_35 : gWV RX3 35 yX8_open cX8_open 2 none 1 := ⟨gT_c3 191 rfl rfl, xi_X8_open.1, xi_X8_open.2, xini_X8, xc_X8_open, xd_X8_open⟩
theorem xc_X3_isFine : Cond.code yX3_isFine cX3_isFine 1 (some .boolean) ∈ gT := gT_c4 53 rfl rfl
theorem xi_X3_isFine : Cond.instanceMethod yX3_isFine ∈ gT ∧ Cond.selects yX3_isFine.cls yX3_isFine yX3_isFine ∈ gT := ⟨gT_c4 52 rfl rfl, gT_of 4 (by decide +kernel) rfl⟩
theorem xd_X3_isFine : yX3_isFine.cls ≠ "java/lang/invoke/MethodHandle" ∧ yX3_isFine.cls ≠ "java/lang/invoke/VarHandle" ∧ (parseMethodDescriptor yX3_isFine.desc).map (fun d => d.parameters.length) = some 0 := by decide +kernel
theorem xv_X3_39 : gWV RX3 39 yX3_isFine cX3_isFine 1 (some .boolean) 0 := ⟨gT_c4 50 rfl rfl, xi_X3_isFine.1, xi_X3_isFine.2, xini_X3, xc_X3_isFine, xd_X3_isFine⟩
theorem xc_X3_readLine : Cond.code yX3_readLine cX3_readLine 1 none ∈ gT := gT_c4 57 rfl rfl
theorem xi_X3_readLine : Cond.instanceMethod yX3_readLine ∈ gT ∧ Cond.selects yX3_readLine.cls yX3_readLine yX3_readLine ∈ gT := ⟨gT_c4 56 rfl rfl, gT_of 5 (by decide +kernel) rfl⟩
theorem xd_X3_readLine : yX3_readLine.cls ≠ "java/lang/invoke/MethodHandle" ∧ yX3_readLine.cls ≠ "java/lang/invoke/VarHandle" ∧ (parseMethodDescriptor yX3_readLine.desc).map (fun d => d.parameters.length) = some 0 := by decide +kernel
theorem xv_X3_46 : gWV RX3 46 yX3_readLine cX3_readLine 1 none 0 := ⟨gT_c4 54 rfl rfl, xi_X3_readLine.1, xi_X3_readLine.2, xini_X3, xc_X3_readLine, xd_X3_readLine⟩
theorem xc_X3_skipSign : Cond.code yX3_skipSign cX3_skipSign 2 none ∈ gT := gT_c4 167 rfl rfl
theorem xi_X3_skipSign : Cond.instanceMethod yX3_skipSign ∈ gT ∧ Cond.selects yX3_skipSign.cls yX3_skipSign yX3_skipSign ∈ gT := ⟨gT_c4 166 rfl rfl, gT_of 21 (by decide +kernel) rfl⟩
theorem xd_X3_skipSign : yX3_skipSign.cls ≠ "java/lang/invoke/MethodHandle" ∧ yX3_skipSign.cls ≠ "java/lang/invoke/VarHandle" ∧ (parseMethodDescriptor yX3_skipSign.desc).map (fun d => d.parameters.length) = some 1 := by decide +kernel
theorem xv_X3_49 : gWV RX3 49 yX3_skipSign cX3_skipSign 2 none 1 := ⟨gT_c4 164 rfl rfl, xi_X3_skipSign.1, xi_X3_skipSign.2, xini_X3, xc_X3_skipSign, xd_X3_skipSign⟩
theorem xc_X8_isAtSign : Cond.code yX8_isAtSign cX8_isAtSign 2 (some .boolean) ∈ gT := gT_c4 138 rfl rfl
theorem xi_X8_isAtSign : Cond.instanceMethod yX8_isAtSign ∈ gT ∧ Cond.selects yX8_isAtSign.cls yX8_isAtSign yX8_isAtSign ∈ gT := ⟨gT_c4 136 rfl rfl, gT_c4 137 rfl rfl⟩
theorem xd_X8_isAtSign : yX8_isAtSign.cls ≠ "java/lang/invoke/MethodHandle" ∧ yX8_isAtSign.cls ≠ "java/lang/invoke/VarHandle" ∧ (parseMethodDescriptor yX8_isAtSign.desc).map (fun d => d.parameters.length) = some 1 := by decide +kernel
theorem xv_X3_56 : gWV RX3 56 yX8_isAtSign cX8_isAtSign 2 (some .boolean) 1 := ⟨gT_c4 135 rfl rfl, xi_X8_isAtSign.1, xi_X8_isAtSign.2, xini_X8, xc_X8_isAtSign, xd_X8_isAtSign⟩
theorem xc_X3_refuse : Cond.code yX3_refuse cX3_refuse 2 none ∈ gT := gT_c4 91 rfl rfl
theorem xi_X3_refuse : Cond.instanceMethod yX3_refuse ∈ gT ∧ Cond.selects yX3_refuse.cls yX3_refuse yX3_refuse ∈ gT := ⟨gT_c4 90 rfl rfl, gT_of 7 (by decide +kernel) rfl⟩
theorem xd_X3_refuse : yX3_refuse.cls ≠ "java/lang/invoke/MethodHandle" ∧ yX3_refuse.cls ≠ "java/lang/invoke/VarHandle" ∧ (parseMethodDescriptor yX3_refuse.desc).map (fun d => d.parameters.length) = some 1 := by decide +kernel
theorem xv_X3_60 : gWV RX3 60 yX3_refuse cX3_refuse 2 none 1 := ⟨gT_c4 88 rfl rfl, xi_X3_refuse.1, xi_X3_refuse.2, xini_X3, xc_X3_refuse, xd_X3_refuse⟩
theorem xc_X8_advance : Cond.code yX8_advance cX8_advance 2 none ∈ gT := gT_c3 199 rfl rfl
theorem xi_X8_advance : Cond.instanceMethod yX8_advance ∈ gT ∧ Cond.selects yX8_advance.cls yX8_advance yX8_advance ∈ gT := ⟨gT_c3 197 rfl rfl, gT_c3 198 rfl rfl⟩
theorem xd_X8_advance : yX8_advance.cls ≠ "java/lang/invoke/MethodHandle" ∧ yX8_advance.cls ≠ "java/lang/invoke/VarHandle" ∧ (parseMethodDescriptor yX8_advance.desc).map (fun d => d.parameters.length) = some 0 := by decide +kernel
theorem xv_X3_63 : gWV RX3 63 yX8_advance cX8_advance 2 none 0 := ⟨gT_c4 92 rfl rfl, xi_X8_advance.1, xi_X8_advance.2, xini_X8, xc_X8_advance, xd_X8_advance⟩
theorem xn_X3_69 : Cond.methodLinkNest RX3 69 yX11_isWithin "GrottoHours" ∈ xNest := List.mem_of_getElem? (i := 97) rfl
theorem xv_X3_69 : gWN RX3 "GrottoHours" 69 yX11_isWithin cX11_isWithin 3 (some .boolean) 3 := ⟨xt_X11_isWithin, xini_X11, xc_X11_isWithin, xd_X11_isWithin⟩
theorem xc_X8_isAtWord : Cond.code yX8_isAtWord cX8_isAtWord 3 (some .boolean) ∈ gT := gT_c4 62 rfl rfl
theorem xi_X8_isAtWord : Cond.instanceMethod yX8_isAtWord ∈ gT ∧ Cond.selects yX8_isAtWord.cls yX8_isAtWord yX8_isAtWord ∈ gT := ⟨gT_c4 60 rfl rfl, gT_c4 61 rfl rfl⟩
theorem xd_X8_isAtWord : yX8_isAtWord.cls ≠ "java/lang/invoke/MethodHandle" ∧ yX8_isAtWord.cls ≠ "java/lang/invoke/VarHandle" ∧ (parseMethodDescriptor yX8_isAtWord.desc).map (fun d => d.parameters.length) = some 1 := by decide +kernel
theorem xv_X3_75 : gWV RX3 75 yX8_isAtWord cX8_isAtWord 3 (some .boolean) 1 := ⟨gT_c4 59 rfl rfl, xi_X8_isAtWord.1, xi_X8_isAtWord.2, xini_X8, xc_X8_isAtWord, xd_X8_isAtWord⟩
theorem xc_X3_readGrotto : Cond.code yX3_readGrotto cX3_readGrotto 3 none ∈ gT := gT_c4 87 rfl rfl
theorem xi_X3_readGrotto : Cond.instanceMethod yX3_readGrotto ∈ gT ∧ Cond.selects yX3_readGrotto.cls yX3_readGrotto yX3_readGrotto ∈ gT := ⟨gT_c4 86 rfl rfl, gT_of 6 (by decide +kernel) rfl⟩
theorem xd_X3_readGrotto : yX3_readGrotto.cls ≠ "java/lang/invoke/MethodHandle" ∧ yX3_readGrotto.cls ≠ "java/lang/invoke/VarHandle" ∧ (parseMethodDescriptor yX3_readGrotto.desc).map (fun d => d.parameters.length) = some 1 := by decide +kernel
theorem xv_X3_79 : gWV RX3 79 yX3_readGrotto cX3_readGrotto 3 none 1 := ⟨gT_c4 84 rfl rfl, xi_X3_readGrotto.1, xi_X3_readGrotto.2, xini_X3, xc_X3_readGrotto, xd_X3_readGrotto⟩
theorem xc_X3_readGuild : Cond.code yX3_readGuild cX3_readGuild 2 none ∈ gT := gT_c4 103 rfl rfl
theorem xi_X3_readGuild : Cond.instanceMethod yX3_readGuild ∈ gT ∧ Cond.selects yX3_readGuild.cls yX3_readGuild yX3_readGuild ∈ gT := ⟨gT_c4 102 rfl rfl, gT_of 9 (by decide +kernel) rfl⟩
theorem xd_X3_readGuild : yX3_readGuild.cls ≠ "java/lang/invoke/MethodHandle" ∧ yX3_readGuild.cls ≠ "java/lang/invoke/VarHandle" ∧ (parseMethodDescriptor yX3_readGuild.desc).map (fun d => d.parameters.length) = some 0 := by decide +kernel
theorem xv_X3_87 : gWV RX3 87 yX3_readGuild cX3_readGuild 2 none 0 := ⟨gT_c4 100 rfl rfl, xi_X3_readGuild.1, xi_X3_readGuild.2, xini_X3, xc_X3_readGuild, xd_X3_readGuild⟩
theorem xc_X3_readWet : Cond.code yX3_readWet cX3_readWet 2 none ∈ gT := gT_c4 118 rfl rfl
theorem xi_X3_readWet : Cond.instanceMethod yX3_readWet ∈ gT ∧ Cond.selects yX3_readWet.cls yX3_readWet yX3_readWet ∈ gT := ⟨gT_c4 117 rfl rfl, gT_of 11 (by decide +kernel) rfl⟩
theorem xd_X3_readWet : yX3_readWet.cls ≠ "java/lang/invoke/MethodHandle" ∧ yX3_readWet.cls ≠ "java/lang/invoke/VarHandle" ∧ (parseMethodDescriptor yX3_readWet.desc).map (fun d => d.parameters.length) = some 0 := by decide +kernel
theorem xv_X3_92 : gWV RX3 92 yX3_readWet cX3_readWet 2 none 0 := ⟨gT_c4 115 rfl rfl, xi_X3_readWet.1, xi_X3_readWet.2, xini_X3, xc_X3_readWet, xd_X3_readWet⟩
theorem xc_X3_readBound : Cond.code yX3_readBound cX3_readBound 1 none ∈ gT := gT_c4 123 rfl rfl
theorem xi_X3_readBound : Cond.instanceMethod yX3_readBound ∈ gT ∧ Cond.selects yX3_readBound.cls yX3_readBound yX3_readBound ∈ gT := ⟨gT_c4 122 rfl rfl, gT_of 12 (by decide +kernel) rfl⟩
theorem xd_X3_readBound : yX3_readBound.cls ≠ "java/lang/invoke/MethodHandle" ∧ yX3_readBound.cls ≠ "java/lang/invoke/VarHandle" ∧ (parseMethodDescriptor yX3_readBound.desc).map (fun d => d.parameters.length) = some 0 := by decide +kernel
theorem xv_X3_97 : gWV RX3 97 yX3_readBound cX3_readBound 1 none 0 := ⟨gT_c4 120 rfl rfl, xi_X3_readBound.1, xi_X3_readBound.2, xini_X3, xc_X3_readBound, xd_X3_readBound⟩
theorem xc_X3_readRule : Cond.code yX3_readRule cX3_readRule 2 none ∈ gT := gT_c4 129 rfl rfl
theorem xi_X3_readRule : Cond.instanceMethod yX3_readRule ∈ gT ∧ Cond.selects yX3_readRule.cls yX3_readRule yX3_readRule ∈ gT := ⟨gT_c4 128 rfl rfl, gT_of 13 (by decide +kernel) rfl⟩
theorem xd_X3_readRule : yX3_readRule.cls ≠ "java/lang/invoke/MethodHandle" ∧ yX3_readRule.cls ≠ "java/lang/invoke/VarHandle" ∧ (parseMethodDescriptor yX3_readRule.desc).map (fun d => d.parameters.length) = some 1 := by decide +kernel
theorem xv_X3_105 : gWV RX3 105 yX3_readRule cX3_readRule 2 none 1 := ⟨gT_c4 126 rfl rfl, xi_X3_readRule.1, xi_X3_readRule.2, xini_X3, xc_X3_readRule, xd_X3_readRule⟩
theorem xc_X3_readNumber : Cond.code yX3_readNumber cX3_readNumber 4 (some .int) ∈ gT := gT_c4 96 rfl rfl
theorem xi_X3_readNumber : Cond.instanceMethod yX3_readNumber ∈ gT ∧ Cond.selects yX3_readNumber.cls yX3_readNumber yX3_readNumber ∈ gT := ⟨gT_c4 95 rfl rfl, gT_of 8 (by decide +kernel) rfl⟩
theorem xd_X3_readNumber : yX3_readNumber.cls ≠ "java/lang/invoke/MethodHandle" ∧ yX3_readNumber.cls ≠ "java/lang/invoke/VarHandle" ∧ (parseMethodDescriptor yX3_readNumber.desc).map (fun d => d.parameters.length) = some 2 := by decide +kernel
theorem xv_X3_120 : gWV RX3 120 yX3_readNumber cX3_readNumber 4 (some .int) 2 := ⟨gT_c4 93 rfl rfl, xi_X3_readNumber.1, xi_X3_readNumber.2, xini_X3, xc_X3_readNumber, xd_X3_readNumber⟩
theorem xc_X3_readHired : Cond.code yX3_readHired cX3_readHired 1 (some .int) ∈ gT := gT_c4 108 rfl rfl
theorem xi_X3_readHired : Cond.instanceMethod yX3_readHired ∈ gT ∧ Cond.selects yX3_readHired.cls yX3_readHired yX3_readHired ∈ gT := ⟨gT_c4 107 rfl rfl, gT_of 10 (by decide +kernel) rfl⟩
theorem xd_X3_readHired : yX3_readHired.cls ≠ "java/lang/invoke/MethodHandle" ∧ yX3_readHired.cls ≠ "java/lang/invoke/VarHandle" ∧ (parseMethodDescriptor yX3_readHired.desc).map (fun d => d.parameters.length) = some 0 := by decide +kernel
theorem xv_X3_150 : gWV RX3 150 yX3_readHired cX3_readHired 1 (some .int) 0 := ⟨gT_c4 105 rfl rfl, xi_X3_readHired.1, xi_X3_readHired.2, xini_X3, xc_X3_readHired, xd_X3_readHired⟩
theorem xv_X3_154 : gWV RX3 154 yX9_isGrotto cX9_isGrotto 2 (some .boolean) 1 := ⟨gT_c4 109 rfl rfl, xi_X9_isGrotto.1, xi_X9_isGrotto.2, xini_X9, xc_X9_isGrotto, xd_X9_isGrotto⟩
theorem xc_X9_isHired : Cond.code yX9_isHired cX9_isHired 3 (some .boolean) ∈ gT := gT_c4 113 rfl rfl
theorem xi_X9_isHired : Cond.instanceMethod yX9_isHired ∈ gT ∧ Cond.selects yX9_isHired.cls yX9_isHired yX9_isHired ∈ gT := ⟨gT_c4 111 rfl rfl, gT_c4 112 rfl rfl⟩
theorem xd_X9_isHired : yX9_isHired.cls ≠ "java/lang/invoke/MethodHandle" ∧ yX9_isHired.cls ≠ "java/lang/invoke/VarHandle" ∧ (parseMethodDescriptor yX9_isHired.desc).map (fun d => d.parameters.length) = some 1 := by decide +kernel
theorem xv_X3_158 : gWV RX3 158 yX9_isHired cX9_isHired 3 (some .boolean) 1 := ⟨gT_c4 110 rfl rfl, xi_X9_isHired.1, xi_X9_isHired.2, xini_X9, xc_X9_isHired, xd_X9_isHired⟩
theorem xc_X9_isBoundTold : Cond.code yX9_isBoundTold cX9_isBoundTold 1 (some .boolean) ∈ gT := gT_c3 60 rfl rfl
theorem xi_X9_isBoundTold : Cond.instanceMethod yX9_isBoundTold ∈ gT ∧ Cond.selects yX9_isBoundTold.cls yX9_isBoundTold yX9_isBoundTold ∈ gT := ⟨gT_c3 58 rfl rfl, gT_c3 59 rfl rfl⟩
theorem xd_X9_isBoundTold : yX9_isBoundTold.cls ≠ "java/lang/invoke/MethodHandle" ∧ yX9_isBoundTold.cls ≠ "java/lang/invoke/VarHandle" ∧ (parseMethodDescriptor yX9_isBoundTold.desc).map (fun d => d.parameters.length) = some 0 := by decide +kernel
theorem xv_X3_166 : gWV RX3 166 yX9_isBoundTold cX9_isBoundTold 1 (some .boolean) 0 := ⟨gT_c4 124 rfl rfl, xi_X9_isBoundTold.1, xi_X9_isBoundTold.2, xini_X9, xc_X9_isBoundTold, xd_X9_isBoundTold⟩
theorem xc_X4_isTold : Cond.code yX4_isTold cX4_isTold 1 (some .boolean) ∈ gT := gT_c3 31 rfl rfl
theorem xi_X4_isTold : Cond.instanceMethod yX4_isTold ∈ gT ∧ Cond.selects yX4_isTold.cls yX4_isTold yX4_isTold ∈ gT := ⟨gT_c3 29 rfl rfl, gT_c3 30 rfl rfl⟩
theorem xd_X4_isTold : yX4_isTold.cls ≠ "java/lang/invoke/MethodHandle" ∧ yX4_isTold.cls ≠ "java/lang/invoke/VarHandle" ∧ (parseMethodDescriptor yX4_isTold.desc).map (fun d => d.parameters.length) = some 0 := by decide +kernel
theorem xv_X3_171 : gWV RX3 171 yX4_isTold cX4_isTold 1 (some .boolean) 0 := ⟨gT_c4 130 rfl rfl, xi_X4_isTold.1, xi_X4_isTold.2, xini_X4, xc_X4_isTold, xd_X4_isTold⟩
theorem xc_X3_readExpr : Cond.code yX3_readExpr cX3_readExpr 4 none ∈ gT := gT_c4 134 rfl rfl
theorem xi_X3_readExpr : Cond.instanceMethod yX3_readExpr ∈ gT ∧ Cond.selects yX3_readExpr.cls yX3_readExpr yX3_readExpr ∈ gT := ⟨gT_c4 133 rfl rfl, gT_of 14 (by decide +kernel) rfl⟩
theorem xd_X3_readExpr : yX3_readExpr.cls ≠ "java/lang/invoke/MethodHandle" ∧ yX3_readExpr.cls ≠ "java/lang/invoke/VarHandle" ∧ (parseMethodDescriptor yX3_readExpr.desc).map (fun d => d.parameters.length) = some 2 := by decide +kernel
theorem xv_X3_176 : gWV RX3 176 yX3_readExpr cX3_readExpr 4 none 2 := ⟨gT_c4 131 rfl rfl, xi_X3_readExpr.1, xi_X3_readExpr.2, xini_X3, xc_X3_readExpr, xd_X3_readExpr⟩
theorem xc_X3_readAnd : Cond.code yX3_readAnd cX3_readAnd 4 none ∈ gT := gT_c4 142 rfl rfl
theorem xi_X3_readAnd : Cond.instanceMethod yX3_readAnd ∈ gT ∧ Cond.selects yX3_readAnd.cls yX3_readAnd yX3_readAnd ∈ gT := ⟨gT_c4 141 rfl rfl, gT_of 15 (by decide +kernel) rfl⟩
theorem xd_X3_readAnd : yX3_readAnd.cls ≠ "java/lang/invoke/MethodHandle" ∧ yX3_readAnd.cls ≠ "java/lang/invoke/VarHandle" ∧ (parseMethodDescriptor yX3_readAnd.desc).map (fun d => d.parameters.length) = some 2 := by decide +kernel
theorem xv_X3_180 : gWV RX3 180 yX3_readAnd cX3_readAnd 4 none 2 := ⟨gT_c4 139 rfl rfl, xi_X3_readAnd.1, xi_X3_readAnd.2, xini_X3, xc_X3_readAnd, xd_X3_readAnd⟩
theorem xc_X4_add : Cond.code yX4_add cX4_add 2 none ∈ gT := gT_c4 171 rfl rfl
theorem xi_X4_add : Cond.instanceMethod yX4_add ∈ gT ∧ Cond.selects yX4_add.cls yX4_add yX4_add ∈ gT := ⟨gT_c4 169 rfl rfl, gT_c4 170 rfl rfl⟩
theorem xd_X4_add : yX4_add.cls ≠ "java/lang/invoke/MethodHandle" ∧ yX4_add.cls ≠ "java/lang/invoke/VarHandle" ∧ (parseMethodDescriptor yX4_add.desc).map (fun d => d.parameters.length) = some 1 := by decide +kernel
theorem xv_X3_185 : gWV RX3 185 yX4_add cX4_add 2 none 1 := ⟨gT_c4 168 rfl rfl, xi_X4_add.1, xi_X4_add.2, xini_X4, xc_X4_add, xd_X4_add⟩
theorem xc_X3_readNot : Cond.code yX3_readNot cX3_readNot 5 none ∈ gT := gT_c4 146 rfl rfl
theorem xi_X3_readNot : Cond.instanceMethod yX3_readNot ∈ gT ∧ Cond.selects yX3_readNot.cls yX3_readNot yX3_readNot ∈ gT := ⟨gT_c4 145 rfl rfl, gT_of 16 (by decide +kernel) rfl⟩
theorem xd_X3_readNot : yX3_readNot.cls ≠ "java/lang/invoke/MethodHandle" ∧ yX3_readNot.cls ≠ "java/lang/invoke/VarHandle" ∧ (parseMethodDescriptor yX3_readNot.desc).map (fun d => d.parameters.length) = some 2 := by decide +kernel
theorem xv_X3_188 : gWV RX3 188 yX3_readNot cX3_readNot 5 none 2 := ⟨gT_c4 143 rfl rfl, xi_X3_readNot.1, xi_X3_readNot.2, xini_X3, xc_X3_readNot, xd_X3_readNot⟩
theorem xc_X3_readTest : Cond.code yX3_readTest cX3_readTest 4 none ∈ gT := gT_c4 151 rfl rfl
theorem xi_X3_readTest : Cond.instanceMethod yX3_readTest ∈ gT ∧ Cond.selects yX3_readTest.cls yX3_readTest yX3_readTest ∈ gT := ⟨gT_c4 150 rfl rfl, gT_of 17 (by decide +kernel) rfl⟩
theorem xd_X3_readTest : yX3_readTest.cls ≠ "java/lang/invoke/MethodHandle" ∧ yX3_readTest.cls ≠ "java/lang/invoke/VarHandle" ∧ (parseMethodDescriptor yX3_readTest.desc).map (fun d => d.parameters.length) = some 2 := by decide +kernel
theorem xv_X3_195 : gWV RX3 195 yX3_readTest cX3_readTest 4 none 2 := ⟨gT_c4 148 rfl rfl, xi_X3_readTest.1, xi_X3_readTest.2, xini_X3, xc_X3_readTest, xd_X3_readTest⟩
theorem xc_X3_readSum : Cond.code yX3_readSum cX3_readSum 5 none ∈ gT := gT_c4 155 rfl rfl
theorem xi_X3_readSum : Cond.instanceMethod yX3_readSum ∈ gT ∧ Cond.selects yX3_readSum.cls yX3_readSum yX3_readSum ∈ gT := ⟨gT_c4 154 rfl rfl, gT_of 18 (by decide +kernel) rfl⟩
theorem xd_X3_readSum : yX3_readSum.cls ≠ "java/lang/invoke/MethodHandle" ∧ yX3_readSum.cls ≠ "java/lang/invoke/VarHandle" ∧ (parseMethodDescriptor yX3_readSum.desc).map (fun d => d.parameters.length) = some 2 := by decide +kernel
theorem xv_X3_198 : gWV RX3 198 yX3_readSum cX3_readSum 5 none 2 := ⟨gT_c4 152 rfl rfl, xi_X3_readSum.1, xi_X3_readSum.2, xini_X3, xc_X3_readSum, xd_X3_readSum⟩
theorem xc_X3_readProduct : Cond.code yX3_readProduct cX3_readProduct 5 none ∈ gT := gT_c4 159 rfl rfl
theorem xi_X3_readProduct : Cond.instanceMethod yX3_readProduct ∈ gT ∧ Cond.selects yX3_readProduct.cls yX3_readProduct yX3_readProduct ∈ gT := ⟨gT_c4 158 rfl rfl, gT_of 19 (by decide +kernel) rfl⟩
theorem xd_X3_readProduct : yX3_readProduct.cls ≠ "java/lang/invoke/MethodHandle" ∧ yX3_readProduct.cls ≠ "java/lang/invoke/VarHandle" ∧ (parseMethodDescriptor yX3_readProduct.desc).map (fun d => d.parameters.length) = some 2 := by decide +kernel
theorem xv_X3_201 : gWV RX3 201 yX3_readProduct cX3_readProduct 5 none 2 := ⟨gT_c4 156 rfl rfl, xi_X3_readProduct.1, xi_X3_readProduct.2, xini_X3, xc_X3_readProduct, xd_X3_readProduct⟩
theorem xc_X3_readPart : Cond.code yX3_readPart cX3_readPart 3 none ∈ gT := gT_c4 163 rfl rfl
theorem xi_X3_readPart : Cond.instanceMethod yX3_readPart ∈ gT ∧ Cond.selects yX3_readPart.cls yX3_readPart yX3_readPart ∈ gT := ⟨gT_c4 162 rfl rfl, gT_of 20 (by decide +kernel) rfl⟩
theorem xd_X3_readPart : yX3_readPart.cls ≠ "java/lang/invoke/MethodHandle" ∧ yX3_readPart.cls ≠ "java/lang/invoke/VarHandle" ∧ (parseMethodDescriptor yX3_readPart.desc).map (fun d => d.parameters.length) = some 2 := by decide +kernel
theorem xv_X3_204 : gWV RX3 204 yX3_readPart cX3_readPart 3 none 2 := ⟨gT_c4 160 rfl rfl, xi_X3_readPart.1, xi_X3_readPart.2, xini_X3, xc_X3_readPart, xd_X3_readPart⟩
theorem xc_X3_valueCode : Cond.code yX3_valueCode cX3_valueCode 2 (some .int) ∈ gT := gT_c4 175 rfl rfl
theorem xi_X3_valueCode : Cond.instanceMethod yX3_valueCode ∈ gT ∧ Cond.selects yX3_valueCode.cls yX3_valueCode yX3_valueCode ∈ gT := ⟨gT_c4 174 rfl rfl, gT_of 22 (by decide +kernel) rfl⟩
theorem xd_X3_valueCode : yX3_valueCode.cls ≠ "java/lang/invoke/MethodHandle" ∧ yX3_valueCode.cls ≠ "java/lang/invoke/VarHandle" ∧ (parseMethodDescriptor yX3_valueCode.desc).map (fun d => d.parameters.length) = some 1 := by decide +kernel
theorem xv_X3_207 : gWV RX3 207 yX3_valueCode cX3_valueCode 2 (some .int) 1 := ⟨gT_c4 172 rfl rfl, xi_X3_valueCode.1, xi_X3_valueCode.2, xini_X3, xc_X3_valueCode, xd_X3_valueCode⟩
theorem xc_X10_valueOf : Cond.code yX10_valueOf cX10_valueOf 4 (some .int) ∈ gT := gT_c3 39 rfl rfl
theorem xi_X10_valueOf : Cond.instanceMethod yX10_valueOf ∈ gT ∧ Cond.selects yX10_valueOf.cls yX10_valueOf yX10_valueOf ∈ gT := ⟨gT_c3 37 rfl rfl, gT_c3 38 rfl rfl⟩
theorem xd_X10_valueOf : yX10_valueOf.cls ≠ "java/lang/invoke/MethodHandle" ∧ yX10_valueOf.cls ≠ "java/lang/invoke/VarHandle" ∧ (parseMethodDescriptor yX10_valueOf.desc).map (fun d => d.parameters.length) = some 2 := by decide +kernel
theorem xv_X4_26 : gWV RX4 26 yX10_valueOf cX10_valueOf 4 (some .int) 2 := ⟨gT_c3 36 rfl rfl, xi_X10_valueOf.1, xi_X10_valueOf.2, xini_X10, xc_X10_valueOf, xd_X10_valueOf⟩
theorem xc_X4_join : Cond.code yX4_join cX4_join 3 (some .int) ∈ gT := gT_c3 42 rfl rfl
theorem xt_X4_join : Cond.static yX4_join ∈ gT := gT_c3 41 rfl rfl
theorem xd_X4_join : yX4_join.cls ≠ "java/lang/invoke/MethodHandle" ∧ yX4_join.cls ≠ "java/lang/invoke/VarHandle" ∧ (parseMethodDescriptor yX4_join.desc).map (fun d => d.parameters.length) = some 3 := by decide +kernel
theorem xv_X4_32 : gWS RX4 32 yX4_join cX4_join 3 (some .int) 3 := ⟨gT_c3 40 rfl rfl, xt_X4_join, xini_X4, xc_X4_join, rfl, xd_X4_join⟩
theorem xv_X6_35 : gWO RX6 35 yJ6_bitCount_0f7a4 cJ6_bitCount_0f7a4 1 (some .int) 1 := ⟨gT_c5 211 rfl rfl, xt_J6_bitCount_0f7a4, xini_J6, xc_J6_bitCount_0f7a4, xd_J6_bitCount_0f7a4⟩
theorem xc_X6_bestOf : Cond.code yX6_bestOf cX6_bestOf 7 (some .int) ∈ gT := gT_c5 215 rfl rfl
theorem xi_X6_bestOf : Cond.instanceMethod yX6_bestOf ∈ gT ∧ Cond.selects yX6_bestOf.cls yX6_bestOf yX6_bestOf ∈ gT := ⟨gT_c5 214 rfl rfl, gT_of 31 (by decide +kernel) rfl⟩
theorem xd_X6_bestOf : yX6_bestOf.cls ≠ "java/lang/invoke/MethodHandle" ∧ yX6_bestOf.cls ≠ "java/lang/invoke/VarHandle" ∧ (parseMethodDescriptor yX6_bestOf.desc).map (fun d => d.parameters.length) = some 4 := by decide +kernel
theorem xv_X6_41 : gWV RX6 41 yX6_bestOf cX6_bestOf 7 (some .int) 4 := ⟨gT_c5 212 rfl rfl, xi_X6_bestOf.1, xi_X6_bestOf.2, xini_X6, xc_X6_bestOf, xd_X6_bestOf⟩
theorem xc_X6_choice : Cond.code yX6_choice cX6_choice 6 (some .int) ∈ gT := gT_c5 232 rfl rfl
theorem xi_X6_choice : Cond.instanceMethod yX6_choice ∈ gT ∧ Cond.selects yX6_choice.cls yX6_choice yX6_choice ∈ gT := ⟨gT_c5 231 rfl rfl, gT_of 34 (by decide +kernel) rfl⟩
theorem xd_X6_choice : yX6_choice.cls ≠ "java/lang/invoke/MethodHandle" ∧ yX6_choice.cls ≠ "java/lang/invoke/VarHandle" ∧ (parseMethodDescriptor yX6_choice.desc).map (fun d => d.parameters.length) = some 4 := by decide +kernel
theorem xv_X6_45 : gWV RX6 45 yX6_choice cX6_choice 6 (some .int) 4 := ⟨gT_c5 229 rfl rfl, xi_X6_choice.1, xi_X6_choice.2, xini_X6, xc_X6_choice, xd_X6_choice⟩
theorem xv_X6_48 : gWV RX6 48 yX9_isGrotto cX9_isGrotto 2 (some .boolean) 1 := ⟨gT_c5 233 rfl rfl, xi_X9_isGrotto.1, xi_X9_isGrotto.2, xini_X9, xc_X9_isGrotto, xd_X9_isGrotto⟩
theorem xc_X6_behind : Cond.code yX6_behind cX6_behind 4 (some .int) ∈ gT := gT_c5 219 rfl rfl
theorem xi_X6_behind : Cond.instanceMethod yX6_behind ∈ gT ∧ Cond.selects yX6_behind.cls yX6_behind yX6_behind ∈ gT := ⟨gT_c5 218 rfl rfl, gT_of 32 (by decide +kernel) rfl⟩
theorem xd_X6_behind : yX6_behind.cls ≠ "java/lang/invoke/MethodHandle" ∧ yX6_behind.cls ≠ "java/lang/invoke/VarHandle" ∧ (parseMethodDescriptor yX6_behind.desc).map (fun d => d.parameters.length) = some 3 := by decide +kernel
theorem xv_X6_55 : gWV RX6 55 yX6_behind cX6_behind 4 (some .int) 3 := ⟨gT_c5 216 rfl rfl, xi_X6_behind.1, xi_X6_behind.2, xini_X6, xc_X6_behind, xd_X6_behind⟩
theorem xc_X6_canHave : Cond.code yX6_canHave cX6_canHave 5 (some .boolean) ∈ gT := gT_c5 222 rfl rfl
theorem xt_X6_canHave : Cond.static yX6_canHave ∈ gT := gT_c5 221 rfl rfl
theorem xd_X6_canHave : yX6_canHave.cls ≠ "java/lang/invoke/MethodHandle" ∧ yX6_canHave.cls ≠ "java/lang/invoke/VarHandle" ∧ (parseMethodDescriptor yX6_canHave.desc).map (fun d => d.parameters.length) = some 5 := by decide +kernel
theorem xv_X6_59 : gWS RX6 59 yX6_canHave cX6_canHave 5 (some .boolean) 5 := ⟨gT_c5 220 rfl rfl, xt_X6_canHave, xini_X6, xc_X6_canHave, rfl, xd_X6_canHave⟩
theorem xc_X6_worthOf : Cond.code yX6_worthOf cX6_worthOf 5 (some .int) ∈ gT := gT_c5 227 rfl rfl
theorem xi_X6_worthOf : Cond.instanceMethod yX6_worthOf ∈ gT ∧ Cond.selects yX6_worthOf.cls yX6_worthOf yX6_worthOf ∈ gT := ⟨gT_c5 226 rfl rfl, gT_of 33 (by decide +kernel) rfl⟩
theorem xd_X6_worthOf : yX6_worthOf.cls ≠ "java/lang/invoke/MethodHandle" ∧ yX6_worthOf.cls ≠ "java/lang/invoke/VarHandle" ∧ (parseMethodDescriptor yX6_worthOf.desc).map (fun d => d.parameters.length) = some 4 := by decide +kernel
theorem xv_X6_63 : gWV RX6 63 yX6_worthOf cX6_worthOf 5 (some .int) 4 := ⟨gT_c5 224 rfl rfl, xi_X6_worthOf.1, xi_X6_worthOf.2, xini_X6, xc_X6_worthOf, xd_X6_worthOf⟩
theorem xMmax_X6_67 : Cond.methodLink RX6 67 Lib.Math.max.name ∈ gT ∧ Cond.static Lib.Math.max.name ∈ gT ∧ Cond.initialized "java/lang/Math" ∈ gT ∧ Cond.code Lib.Math.max.name Lib.Math.max.code 2 (some .int) ∈ gT := ⟨gT_c5 228 rfl rfl, xm_max⟩
theorem xn_X6_73 : Cond.methodLinkNest RX6 73 yX11_isOneOf "GrottoHours" ∈ xNest := List.mem_of_getElem? (i := 99) rfl
theorem xv_X6_73 : gWN RX6 "GrottoHours" 73 yX11_isOneOf cX11_isOneOf 2 (some .boolean) 2 := ⟨xt_X11_isOneOf, xini_X11, xc_X11_isOneOf, xd_X11_isOneOf⟩
theorem xn_X7_39 : Cond.methodLinkNest RX7 39 yX11_isOneOf "GrottoHours" ∈ xNest := List.mem_of_getElem? (i := 98) rfl
theorem xv_X7_39 : gWN RX7 "GrottoHours" 39 yX11_isOneOf cX11_isOneOf 2 (some .boolean) 2 := ⟨xt_X11_isOneOf, xini_X11, xc_X11_isOneOf, xd_X11_isOneOf⟩
theorem xm_min : Cond.static Lib.Math.min.name ∈ gT ∧ Cond.initialized "java/lang/Math" ∈ gT ∧ Cond.code Lib.Math.min.name Lib.Math.min.code 2 (some .int) ∈ gT := ⟨gT_c3 44 rfl rfl, gT_c1 18 rfl rfl, gT_c3 45 rfl rfl⟩
theorem xMmin_X7_43 : Cond.methodLink RX7 43 Lib.Math.min.name ∈ gT ∧ Cond.static Lib.Math.min.name ∈ gT ∧ Cond.initialized "java/lang/Math" ∈ gT ∧ Cond.code Lib.Math.min.name Lib.Math.min.code 2 (some .int) ∈ gT := ⟨gT_c5 84 rfl rfl, xm_min⟩
theorem xMmin_X8_34 : Cond.methodLink RX8 34 Lib.Math.min.name ∈ gT ∧ Cond.static Lib.Math.min.name ∈ gT ∧ Cond.initialized "java/lang/Math" ∈ gT ∧ Cond.code Lib.Math.min.name Lib.Math.min.code 2 (some .int) ∈ gT := ⟨gT_c3 195 rfl rfl, xm_min⟩
theorem xv_X8_40 : gWV RX8 40 yX8_advance cX8_advance 2 none 0 := ⟨gT_c3 196 rfl rfl, xi_X8_advance.1, xi_X8_advance.2, xini_X8, xc_X8_advance, xd_X8_advance⟩
theorem xc_X8_at : Cond.code yX8_at cX8_at 2 (some .int) ∈ gT := gT_c3 203 rfl rfl
theorem xi_X8_at : Cond.instanceMethod yX8_at ∈ gT ∧ Cond.selects yX8_at.cls yX8_at yX8_at ∈ gT := ⟨gT_c3 202 rfl rfl, gT_of 3 (by decide +kernel) rfl⟩
theorem xd_X8_at : yX8_at.cls ≠ "java/lang/invoke/MethodHandle" ∧ yX8_at.cls ≠ "java/lang/invoke/VarHandle" ∧ (parseMethodDescriptor yX8_at.desc).map (fun d => d.parameters.length) = some 1 := by decide +kernel
theorem xv_X8_43 : gWV RX8 43 yX8_at cX8_at 2 (some .int) 1 := ⟨gT_c3 200 rfl rfl, xi_X8_at.1, xi_X8_at.2, xini_X8, xc_X8_at, xd_X8_at⟩
theorem xc_X8_kindOf : Cond.code yX8_kindOf cX8_kindOf 1 (some .int) ∈ gT := gT_c3 206 rfl rfl
theorem xt_X8_kindOf : Cond.static yX8_kindOf ∈ gT := gT_c3 205 rfl rfl
theorem xd_X8_kindOf : yX8_kindOf.cls ≠ "java/lang/invoke/MethodHandle" ∧ yX8_kindOf.cls ≠ "java/lang/invoke/VarHandle" ∧ (parseMethodDescriptor yX8_kindOf.desc).map (fun d => d.parameters.length) = some 1 := by decide +kernel
theorem xv_X8_47 : gWS RX8 47 yX8_kindOf cX8_kindOf 1 (some .int) 1 := ⟨gT_c3 204 rfl rfl, xt_X8_kindOf, xini_X8, xc_X8_kindOf, rfl, xd_X8_kindOf⟩
theorem xc_J0_length_8abf5 : Cond.code yJ0_length_8abf5 cJ0_length_8abf5 1 (some .int) ∈ gT := gT_c3 225 rfl rfl
theorem xi_J0_length_8abf5 : Cond.instanceMethod yJ0_length_8abf5 ∈ gT ∧ Cond.selects yJ0_length_8abf5.cls yJ0_length_8abf5 yJ0_length_8abf5 ∈ gT := ⟨gT_c3 223 rfl rfl, gT_c3 224 rfl rfl⟩
theorem xd_J0_length_8abf5 : yJ0_length_8abf5.cls ≠ "java/lang/invoke/MethodHandle" ∧ yJ0_length_8abf5.cls ≠ "java/lang/invoke/VarHandle" ∧ (parseMethodDescriptor yJ0_length_8abf5.desc).map (fun d => d.parameters.length) = some 0 := by decide +kernel
theorem xini_J0 : Cond.initialized RJ0 ∈ gT := gT_c1 19 rfl rfl
theorem xv_X8_50 : gWV RX8 50 yJ0_length_8abf5 cJ0_length_8abf5 1 (some .int) 0 := ⟨gT_c4 63 rfl rfl, xi_J0_length_8abf5.1, xi_J0_length_8abf5.2, xini_J0, xc_J0_length_8abf5, xd_J0_length_8abf5⟩
theorem xc_J0_charAt_5068e : Cond.code yJ0_charAt_5068e cJ0_charAt_5068e 2 (some .char) ∈ gT := gT_c4 67 rfl rfl
theorem xi_J0_charAt_5068e : Cond.instanceMethod yJ0_charAt_5068e ∈ gT ∧ Cond.selects yJ0_charAt_5068e.cls yJ0_charAt_5068e yJ0_charAt_5068e ∈ gT := ⟨gT_c4 65 rfl rfl, gT_c4 66 rfl rfl⟩
theorem xd_J0_charAt_5068e : yJ0_charAt_5068e.cls ≠ "java/lang/invoke/MethodHandle" ∧ yJ0_charAt_5068e.cls ≠ "java/lang/invoke/VarHandle" ∧ (parseMethodDescriptor yJ0_charAt_5068e.desc).map (fun d => d.parameters.length) = some 1 := by decide +kernel
theorem xv_X8_55 : gWV RX8 55 yJ0_charAt_5068e cJ0_charAt_5068e 2 (some .char) 1 := ⟨gT_c4 64 rfl rfl, xi_J0_charAt_5068e.1, xi_J0_charAt_5068e.2, xini_J0, xc_J0_charAt_5068e, xd_J0_charAt_5068e⟩
theorem xc_J0_indexOf_0f7a4 : Cond.code yJ0_indexOf_0f7a4 cJ0_indexOf_0f7a4 2 (some .int) ∈ gT := gT_c3 211 rfl rfl
theorem xi_J0_indexOf_0f7a4 : Cond.instanceMethod yJ0_indexOf_0f7a4 ∈ gT ∧ Cond.selects yJ0_indexOf_0f7a4.cls yJ0_indexOf_0f7a4 yJ0_indexOf_0f7a4 ∈ gT := ⟨gT_c3 209 rfl rfl, gT_c3 210 rfl rfl⟩
theorem xd_J0_indexOf_0f7a4 : yJ0_indexOf_0f7a4.cls ≠ "java/lang/invoke/MethodHandle" ∧ yJ0_indexOf_0f7a4.cls ≠ "java/lang/invoke/VarHandle" ∧ (parseMethodDescriptor yJ0_indexOf_0f7a4.desc).map (fun d => d.parameters.length) = some 1 := by decide +kernel
theorem xv_X8_61 : gWV RX8 61 yJ0_indexOf_0f7a4 cJ0_indexOf_0f7a4 2 (some .int) 1 := ⟨gT_c3 208 rfl rfl, xi_J0_indexOf_0f7a4.1, xi_J0_indexOf_0f7a4.2, xini_J0, xc_J0_indexOf_0f7a4, xd_J0_indexOf_0f7a4⟩
theorem xc_X4_clear : Cond.code yX4_clear cX4_clear 1 none ∈ gT := gT_c3 190 rfl rfl
theorem xi_X4_clear : Cond.instanceMethod yX4_clear ∈ gT ∧ Cond.selects yX4_clear.cls yX4_clear yX4_clear ∈ gT := ⟨gT_c3 188 rfl rfl, gT_c3 189 rfl rfl⟩
theorem xd_X4_clear : yX4_clear.cls ≠ "java/lang/invoke/MethodHandle" ∧ yX4_clear.cls ≠ "java/lang/invoke/VarHandle" ∧ (parseMethodDescriptor yX4_clear.desc).map (fun d => d.parameters.length) = some 0 := by decide +kernel
theorem xv_X9_65 : gWV RX9 65 yX4_clear cX4_clear 1 none 0 := ⟨gT_c3 187 rfl rfl, xi_X4_clear.1, xi_X4_clear.2, xini_X4, xc_X4_clear, xd_X4_clear⟩
theorem xv_X9_68 : gWV RX9 68 yX9_isBoundTold cX9_isBoundTold 1 (some .boolean) 0 := ⟨gT_c3 57 rfl rfl, xi_X9_isBoundTold.1, xi_X9_isBoundTold.2, xini_X9, xc_X9_isBoundTold, xd_X9_isBoundTold⟩
theorem xv_X9_72 : gWV RX9 72 yX9_isGrotto cX9_isGrotto 2 (some .boolean) 1 := ⟨gT_c3 23 rfl rfl, xi_X9_isGrotto.1, xi_X9_isGrotto.2, xini_X9, xc_X9_isGrotto, xd_X9_isGrotto⟩
theorem xn_X9_76 : Cond.methodLinkNest RX9 76 yX11_isOneOf "GrottoHours" ∈ xNest := List.mem_of_getElem? (i := 96) rfl
theorem xv_X9_76 : gWN RX9 "GrottoHours" 76 yX11_isOneOf cX11_isOneOf 2 (some .boolean) 2 := ⟨xt_X11_isOneOf, xini_X11, xc_X11_isOneOf, xd_X11_isOneOf⟩
theorem xv_X9_80 : gWV RX9 80 yX9_comesRound cX9_comesRound 3 (some .boolean) 2 := ⟨gT_c3 19 rfl rfl, xi_X9_comesRound.1, xi_X9_comesRound.2, xini_X9, xc_X9_comesRound, xd_X9_comesRound⟩
theorem xv_X10_36 : gWV RX10 36 yX9_isGuild cX9_isGuild 2 (some .boolean) 1 := ⟨gT_c2 239 rfl rfl, xi_X9_isGuild.1, xi_X9_isGuild.2, xini_X9, xc_X9_isGuild, xd_X9_isGuild⟩
theorem xv_X10_56 : gWV RX10 56 yX9_wetOf cX9_wetOf 2 (some .int) 1 := ⟨gT_c3 3 rfl rfl, xi_X9_wetOf.1, xi_X9_wetOf.2, xini_X9, xc_X9_wetOf, xd_X9_wetOf⟩
theorem xv_X10_61 : gWV RX10 61 yX10_passHour cX10_passHour 5 (some .boolean) 2 := ⟨gT_c5 104 rfl rfl, xi_X10_passHour.1, xi_X10_passHour.2, xini_X10, xc_X10_passHour, xd_X10_passHour⟩
theorem xv_X10_65 : gWV RX10 65 yX9_isGrotto cX9_isGrotto 2 (some .boolean) 1 := ⟨gT_c3 8 rfl rfl, xi_X9_isGrotto.1, xi_X9_isGrotto.2, xini_X9, xc_X9_isGrotto, xd_X9_isGrotto⟩
theorem xv_X10_68 : gWV RX10 68 yX9_drips cX9_drips 5 (some .boolean) 4 := ⟨gT_c3 12 rfl rfl, xi_X9_drips.1, xi_X9_drips.2, xini_X9, xc_X9_drips, xd_X9_drips⟩
theorem xc_X10_pray : Cond.code yX10_pray cX10_pray 3 none ∈ gT := gT_c3 27 rfl rfl
theorem xi_X10_pray : Cond.instanceMethod yX10_pray ∈ gT ∧ Cond.selects yX10_pray.cls yX10_pray yX10_pray ∈ gT := ⟨gT_c3 26 rfl rfl, gT_of 1 (by decide +kernel) rfl⟩
theorem xd_X10_pray : yX10_pray.cls ≠ "java/lang/invoke/MethodHandle" ∧ yX10_pray.cls ≠ "java/lang/invoke/VarHandle" ∧ (parseMethodDescriptor yX10_pray.desc).map (fun d => d.parameters.length) = some 1 := by decide +kernel
theorem xv_X10_72 : gWV RX10 72 yX10_pray cX10_pray 3 none 1 := ⟨gT_c3 24 rfl rfl, xi_X10_pray.1, xi_X10_pray.2, xini_X10, xc_X10_pray, xd_X10_pray⟩
theorem xMmin_X10_80 : Cond.methodLink RX10 80 Lib.Math.min.name ∈ gT ∧ Cond.static Lib.Math.min.name ∈ gT ∧ Cond.initialized "java/lang/Math" ∈ gT ∧ Cond.code Lib.Math.min.name Lib.Math.min.code 2 (some .int) ∈ gT := ⟨gT_c3 43 rfl rfl, xm_min⟩
theorem xv_X10_86 : gWV RX10 86 yX10_cost cX10_cost 3 (some .int) 1 := ⟨gT_c3 49 rfl rfl, xi_X10_cost.1, xi_X10_cost.2, xini_X10, xc_X10_cost, xd_X10_cost⟩
theorem xv_X10_90 : gWV RX10 90 yX9_mostSin cX9_mostSin 1 (some .int) 0 := ⟨gT_c3 53 rfl rfl, xi_X9_mostSin.1, xi_X9_mostSin.2, xini_X9, xc_X9_mostSin, xd_X9_mostSin⟩
theorem xv_X10_98 : gWV RX10 98 yX4_isTold cX4_isTold 1 (some .boolean) 0 := ⟨gT_c3 28 rfl rfl, xi_X4_isTold.1, xi_X4_isTold.2, xini_X4, xc_X4_isTold, xd_X4_isTold⟩
theorem xc_X4_worth : Cond.code yX4_worth cX4_worth 6 (some .int) ∈ gT := gT_c3 35 rfl rfl
theorem xi_X4_worth : Cond.instanceMethod yX4_worth ∈ gT ∧ Cond.selects yX4_worth.cls yX4_worth yX4_worth ∈ gT := ⟨gT_c3 33 rfl rfl, gT_c3 34 rfl rfl⟩
theorem xd_X4_worth : yX4_worth.cls ≠ "java/lang/invoke/MethodHandle" ∧ yX4_worth.cls ≠ "java/lang/invoke/VarHandle" ∧ (parseMethodDescriptor yX4_worth.desc).map (fun d => d.parameters.length) = some 2 := by decide +kernel
theorem xv_X10_104 : gWV RX10 104 yX4_worth cX4_worth 6 (some .int) 2 := ⟨gT_c3 32 rfl rfl, xi_X4_worth.1, xi_X4_worth.2, xini_X4, xc_X4_worth, xd_X4_worth⟩
theorem xMmax_X10_111 : Cond.methodLink RX10 111 Lib.Math.max.name ∈ gT ∧ Cond.static Lib.Math.max.name ∈ gT ∧ Cond.initialized "java/lang/Math" ∈ gT ∧ Cond.code Lib.Math.max.name Lib.Math.max.code 2 (some .int) ∈ gT := ⟨gT_c3 46 rfl rfl, xm_max⟩
theorem xKI_J2_227 : Cond.constant RJ2 227 (65536) ∈ gT := gT_c4 6 rfl rfl
theorem xKI_J11_110 : Cond.constant RJ11 110 (55232) ∈ gT := gT_c4 45 rfl rfl
theorem xKI_J11_76 : Cond.constant RJ11 76 (56320) ∈ gT := gT_c4 49 rfl rfl
theorem xKI_J6_265 : Cond.constant RJ6 265 (1431655765) ∈ gT := gT_c5 155 rfl rfl
theorem xKI_J6_266 : Cond.constant RJ6 266 (858993459) ∈ gT := gT_c5 156 rfl rfl
theorem xKI_J6_267 : Cond.constant RJ6 267 (252645135) ∈ gT := gT_c5 157 rfl rfl
theorem xKI_X11_405 : Cond.constant RX11 405 (1103515245) ∈ gT := gT_c6 139 rfl rfl
theorem xKI_X12_191 : Cond.constant RX12 191 (100000) ∈ gT := gT_c7 150 rfl rfl
theorem xKI_X12_480 : Cond.constant RX12 480 (1103515245) ∈ gT := gT_c9 65 rfl rfl
end
