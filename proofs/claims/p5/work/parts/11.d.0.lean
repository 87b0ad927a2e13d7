theorem dX0_init_0 : decode cX0_init 0 = .ok (.aload_n 0, 1) := by decide +kernel
theorem dX0_init_1 : decode cX0_init 1 = .ok (.invokespecial 3, 3) := by decide +kernel
theorem dX0_init_4 : decode cX0_init 4 = .ok (.aload_n 0, 1) := by decide +kernel
theorem dX0_init_5 : decode cX0_init 5 = .ok (.sipush 1040, 3) := by decide +kernel
theorem dX0_init_8 : decode cX0_init 8 = .ok (.newarray .int, 2) := by decide +kernel
theorem dX0_init_10 : decode cX0_init 10 = .ok (.putfield 11, 3) := by decide +kernel
theorem dX0_init_13 : decode cX0_init 13 = .ok (.aload_n 0, 1) := by decide +kernel
theorem dX0_init_14 : decode cX0_init 14 = .ok (.iconst 0, 1) := by decide +kernel
theorem dX0_init_15 : decode cX0_init 15 = .ok (.putfield 17, 3) := by decide +kernel
theorem dX0_init_18 : decode cX0_init 18 = .ok (.return_, 1) := by decide +kernel
theorem dX0_add_0 : decode cX0_add 0 = .ok (.aload_n 0, 1) := by decide +kernel
theorem dX0_add_1 : decode cX0_add 1 = .ok (.getfield 17, 3) := by decide +kernel
theorem dX0_add_4 : decode cX0_add 4 = .ok (.bipush 40, 2) := by decide +kernel
theorem dX0_add_6 : decode cX0_add 6 = .ok (.if_icmp .lt 30, 3) := by decide +kernel
theorem dX0_add_9 : decode cX0_add 9 = .ok (.aload_n 0, 1) := by decide +kernel
theorem dX0_add_10 : decode cX0_add 10 = .ok (.bipush 39, 2) := by decide +kernel
theorem dX0_add_12 : decode cX0_add 12 = .ok (.putfield 17, 3) := by decide +kernel
theorem dX0_add_15 : decode cX0_add 15 = .ok (.aload_n 0, 1) := by decide +kernel
theorem dX0_add_16 : decode cX0_add 16 = .ok (.getfield 11, 3) := by decide +kernel
theorem dX0_add_19 : decode cX0_add 19 = .ok (.bipush 26, 2) := by decide +kernel
theorem dX0_add_21 : decode cX0_add 21 = .ok (.aload_n 0, 1) := by decide +kernel
theorem dX0_add_22 : decode cX0_add 22 = .ok (.getfield 11, 3) := by decide +kernel
theorem dX0_add_25 : decode cX0_add 25 = .ok (.iconst 0, 1) := by decide +kernel
theorem dX0_add_26 : decode cX0_add 26 = .ok (.aload_n 0, 1) := by decide +kernel
theorem dX0_add_27 : decode cX0_add 27 = .ok (.getfield 17, 3) := by decide +kernel
theorem dX0_add_30 : decode cX0_add 30 = .ok (.bipush 26, 2) := by decide +kernel
theorem dX0_add_32 : decode cX0_add 32 = .ok (.imul, 1) := by decide +kernel
theorem dX0_add_33 : decode cX0_add 33 = .ok (.invokestatic 21, 3) := by decide +kernel
theorem dX0_add_36 : decode cX0_add 36 = .ok (.aload_n 1, 1) := by decide +kernel
theorem dX0_add_37 : decode cX0_add 37 = .ok (.aload_n 0, 1) := by decide +kernel
theorem dX0_add_38 : decode cX0_add 38 = .ok (.getfield 11, 3) := by decide +kernel
theorem dX0_add_41 : decode cX0_add 41 = .ok (.aload_n 0, 1) := by decide +kernel
theorem dX0_add_42 : decode cX0_add 42 = .ok (.getfield 17, 3) := by decide +kernel
theorem dX0_add_45 : decode cX0_add 45 = .ok (.bipush 26, 2) := by decide +kernel
theorem dX0_add_47 : decode cX0_add 47 = .ok (.imul, 1) := by decide +kernel
theorem dX0_add_48 : decode cX0_add 48 = .ok (.invokevirtual 27, 3) := by decide +kernel
theorem dX0_add_51 : decode cX0_add 51 = .ok (.aload_n 0, 1) := by decide +kernel
theorem dX0_add_52 : decode cX0_add 52 = .ok (.dup, 1) := by decide +kernel
theorem dX0_add_53 : decode cX0_add 53 = .ok (.getfield 17, 3) := by decide +kernel
theorem dX0_add_56 : decode cX0_add 56 = .ok (.iconst 1, 1) := by decide +kernel
theorem dX0_add_57 : decode cX0_add 57 = .ok (.iadd, 1) := by decide +kernel
theorem dX0_add_58 : decode cX0_add 58 = .ok (.putfield 17, 3) := by decide +kernel
theorem dX0_add_61 : decode cX0_add 61 = .ok (.return_, 1) := by decide +kernel
theorem dX0_takeBack_0 : decode cX0_takeBack 0 = .ok (.aload_n 0, 1) := by decide +kernel
theorem dX0_takeBack_1 : decode cX0_takeBack 1 = .ok (.getfield 17, 3) := by decide +kernel
theorem dX0_takeBack_4 : decode cX0_takeBack 4 = .ok (.iconst 1, 1) := by decide +kernel
theorem dX0_takeBack_5 : decode cX0_takeBack 5 = .ok (.if_icmp .ge 5, 3) := by decide +kernel
theorem dX0_takeBack_8 : decode cX0_takeBack 8 = .ok (.iconst (-1), 1) := by decide +kernel
theorem dX0_takeBack_9 : decode cX0_takeBack 9 = .ok (.ireturn, 1) := by decide +kernel
theorem dX0_takeBack_10 : decode cX0_takeBack 10 = .ok (.aload_n 0, 1) := by decide +kernel
theorem dX0_takeBack_11 : decode cX0_takeBack 11 = .ok (.dup, 1) := by decide +kernel
theorem dX0_takeBack_12 : decode cX0_takeBack 12 = .ok (.getfield 17, 3) := by decide +kernel
theorem dX0_takeBack_15 : decode cX0_takeBack 15 = .ok (.iconst 1, 1) := by decide +kernel
theorem dX0_takeBack_16 : decode cX0_takeBack 16 = .ok (.isub, 1) := by decide +kernel
theorem dX0_takeBack_17 : decode cX0_takeBack 17 = .ok (.putfield 17, 3) := by decide +kernel
theorem dX0_takeBack_20 : decode cX0_takeBack 20 = .ok (.aload_n 1, 1) := by decide +kernel
theorem dX0_takeBack_21 : decode cX0_takeBack 21 = .ok (.aload_n 0, 1) := by decide +kernel
theorem dX0_takeBack_22 : decode cX0_takeBack 22 = .ok (.getfield 11, 3) := by decide +kernel
theorem dX0_takeBack_25 : decode cX0_takeBack 25 = .ok (.aload_n 0, 1) := by decide +kernel
theorem dX0_takeBack_26 : decode cX0_takeBack 26 = .ok (.getfield 17, 3) := by decide +kernel
theorem dX0_takeBack_29 : decode cX0_takeBack 29 = .ok (.bipush 26, 2) := by decide +kernel
theorem dX0_takeBack_31 : decode cX0_takeBack 31 = .ok (.imul, 1) := by decide +kernel
theorem dX0_takeBack_32 : decode cX0_takeBack 32 = .ok (.invokevirtual 31, 3) := by decide +kernel
theorem dX0_takeBack_35 : decode cX0_takeBack 35 = .ok (.aload_n 0, 1) := by decide +kernel
theorem dX0_takeBack_36 : decode cX0_takeBack 36 = .ok (.getfield 17, 3) := by decide +kernel
theorem dX0_takeBack_39 : decode cX0_takeBack 39 = .ok (.ireturn, 1) := by decide +kernel
theorem dX0_copy_0 : decode cX0_copy 0 = .ok (.aload_n 0, 1) := by decide +kernel
theorem dX0_copy_1 : decode cX0_copy 1 = .ok (.aload_n 1, 1) := by decide +kernel
theorem dX0_copy_2 : decode cX0_copy 2 = .ok (.getfield 17, 3) := by decide +kernel
theorem dX0_copy_5 : decode cX0_copy 5 = .ok (.putfield 17, 3) := by decide +kernel
theorem dX0_copy_8 : decode cX0_copy 8 = .ok (.aload_n 1, 1) := by decide +kernel
theorem dX0_copy_9 : decode cX0_copy 9 = .ok (.getfield 11, 3) := by decide +kernel
theorem dX0_copy_12 : decode cX0_copy 12 = .ok (.iconst 0, 1) := by decide +kernel
theorem dX0_copy_13 : decode cX0_copy 13 = .ok (.aload_n 0, 1) := by decide +kernel
theorem dX0_copy_14 : decode cX0_copy 14 = .ok (.getfield 11, 3) := by decide +kernel
theorem dX0_copy_17 : decode cX0_copy 17 = .ok (.iconst 0, 1) := by decide +kernel
theorem dX0_copy_18 : decode cX0_copy 18 = .ok (.aload_n 0, 1) := by decide +kernel
theorem dX0_copy_19 : decode cX0_copy 19 = .ok (.getfield 11, 3) := by decide +kernel
theorem dX0_copy_22 : decode cX0_copy 22 = .ok (.arraylength, 1) := by decide +kernel
theorem dX0_copy_23 : decode cX0_copy 23 = .ok (.invokestatic 21, 3) := by decide +kernel
theorem dX0_copy_26 : decode cX0_copy 26 = .ok (.return_, 1) := by decide +kernel
theorem dX1_init_0 : decode cX1_init 0 = .ok (.aload_n 0, 1) := by decide +kernel
theorem dX1_init_1 : decode cX1_init 1 = .ok (.invokespecial 3, 3) := by decide +kernel
theorem dX1_init_4 : decode cX1_init 4 = .ok (.aload_n 0, 1) := by decide +kernel
theorem dX1_init_5 : decode cX1_init 5 = .ok (.new 9, 3) := by decide +kernel
theorem dX1_init_8 : decode cX1_init 8 = .ok (.dup, 1) := by decide +kernel
theorem dX1_init_9 : decode cX1_init 9 = .ok (.invokespecial 11, 3) := by decide +kernel
theorem dX1_init_12 : decode cX1_init 12 = .ok (.putfield 12, 3) := by decide +kernel
theorem dX1_init_15 : decode cX1_init 15 = .ok (.aload_n 0, 1) := by decide +kernel
theorem dX1_init_16 : decode cX1_init 16 = .ok (.new 18, 3) := by decide +kernel
theorem dX1_init_19 : decode cX1_init 19 = .ok (.dup, 1) := by decide +kernel
theorem dX1_init_20 : decode cX1_init 20 = .ok (.invokespecial 20, 3) := by decide +kernel
theorem dX1_init_23 : decode cX1_init 23 = .ok (.putfield 21, 3) := by decide +kernel
theorem dX1_init_26 : decode cX1_init 26 = .ok (.aload_n 0, 1) := by decide +kernel
theorem dX1_init_27 : decode cX1_init 27 = .ok (.new 25, 3) := by decide +kernel
theorem dX1_init_30 : decode cX1_init 30 = .ok (.dup, 1) := by decide +kernel
theorem dX1_init_31 : decode cX1_init 31 = .ok (.invokespecial 27, 3) := by decide +kernel
theorem dX1_init_34 : decode cX1_init 34 = .ok (.putfield 28, 3) := by decide +kernel
theorem dX1_init_37 : decode cX1_init 37 = .ok (.aload_n 0, 1) := by decide +kernel
theorem dX1_init_38 : decode cX1_init 38 = .ok (.iconst 3, 1) := by decide +kernel
theorem dX1_init_39 : decode cX1_init 39 = .ok (.newarray .int, 2) := by decide +kernel
theorem dX1_init_41 : decode cX1_init 41 = .ok (.putfield 32, 3) := by decide +kernel
theorem dX1_init_44 : decode cX1_init 44 = .ok (.return_, 1) := by decide +kernel
theorem dX1_begin_0 : decode cX1_begin 0 = .ok (.aload_n 0, 1) := by decide +kernel
theorem dX1_begin_1 : decode cX1_begin 1 = .ok (.getfield 12, 3) := by decide +kernel
theorem dX1_begin_4 : decode cX1_begin 4 = .ok (.aload_n 1, 1) := by decide +kernel
theorem dX1_begin_5 : decode cX1_begin 5 = .ok (.invokevirtual 36, 3) := by decide +kernel
theorem dX1_begin_8 : decode cX1_begin 8 = .ok (.aload_n 0, 1) := by decide +kernel
theorem dX1_begin_9 : decode cX1_begin 9 = .ok (.getfield 21, 3) := by decide +kernel
theorem dX1_begin_12 : decode cX1_begin 12 = .ok (.iconst 0, 1) := by decide +kernel
theorem dX1_begin_13 : decode cX1_begin 13 = .ok (.putfield 40, 3) := by decide +kernel
theorem dX1_begin_16 : decode cX1_begin 16 = .ok (.aload_n 0, 1) := by decide +kernel
theorem dX1_begin_17 : decode cX1_begin 17 = .ok (.getfield 28, 3) := by decide +kernel
theorem dX1_begin_20 : decode cX1_begin 20 = .ok (.iconst 0, 1) := by decide +kernel
theorem dX1_begin_21 : decode cX1_begin 21 = .ok (.putfield 44, 3) := by decide +kernel
theorem dX1_begin_24 : decode cX1_begin 24 = .ok (.return_, 1) := by decide +kernel
theorem dX1_keepAct_0 : decode cX1_keepAct 0 = .ok (.aload_n 0, 1) := by decide +kernel
theorem dX1_keepAct_1 : decode cX1_keepAct 1 = .ok (.getfield 21, 3) := by decide +kernel
theorem dX1_keepAct_4 : decode cX1_keepAct 4 = .ok (.aload_n 0, 1) := by decide +kernel
theorem dX1_keepAct_5 : decode cX1_keepAct 5 = .ok (.getfield 12, 3) := by decide +kernel
theorem dX1_keepAct_8 : decode cX1_keepAct 8 = .ok (.invokevirtual 45, 3) := by decide +kernel
theorem dX1_keepAct_11 : decode cX1_keepAct 11 = .ok (.return_, 1) := by decide +kernel
theorem dX1_refuse_0 : decode cX1_refuse 0 = .ok (.iload_n 1, 1) := by decide +kernel
theorem dX1_refuse_1 : decode cX1_refuse 1 = .ok (.ifCond .lt 22, 3) := by decide +kernel
theorem dX1_refuse_4 : decode cX1_refuse 4 = .ok (.iload_n 1, 1) := by decide +kernel
theorem dX1_refuse_5 : decode cX1_refuse 5 = .ok (.aload_n 0, 1) := by decide +kernel
theorem dX1_refuse_6 : decode cX1_refuse 6 = .ok (.getfield 32, 3) := by decide +kernel
theorem dX1_refuse_9 : decode cX1_refuse 9 = .ok (.arraylength, 1) := by decide +kernel
theorem dX1_refuse_10 : decode cX1_refuse 10 = .ok (.if_icmp .ge 13, 3) := by decide +kernel
theorem dX1_refuse_13 : decode cX1_refuse 13 = .ok (.aload_n 0, 1) := by decide +kernel
theorem dX1_refuse_14 : decode cX1_refuse 14 = .ok (.getfield 32, 3) := by decide +kernel
theorem dX1_refuse_17 : decode cX1_refuse 17 = .ok (.iload_n 1, 1) := by decide +kernel
theorem dX1_refuse_18 : decode cX1_refuse 18 = .ok (.dup2, 1) := by decide +kernel
theorem dX1_refuse_19 : decode cX1_refuse 19 = .ok (.iaload, 1) := by decide +kernel
theorem dX1_refuse_20 : decode cX1_refuse 20 = .ok (.iconst 1, 1) := by decide +kernel
theorem dX1_refuse_21 : decode cX1_refuse 21 = .ok (.iadd, 1) := by decide +kernel
theorem dX1_refuse_22 : decode cX1_refuse 22 = .ok (.iastore, 1) := by decide +kernel
theorem dX1_refuse_23 : decode cX1_refuse 23 = .ok (.iconst (-1), 1) := by decide +kernel
theorem dX1_refuse_24 : decode cX1_refuse 24 = .ok (.ireturn, 1) := by decide +kernel
theorem dX1_copy_0 : decode cX1_copy 0 = .ok (.aload_n 0, 1) := by decide +kernel
theorem dX1_copy_1 : decode cX1_copy 1 = .ok (.getfield 12, 3) := by decide +kernel
theorem dX1_copy_4 : decode cX1_copy 4 = .ok (.aload_n 1, 1) := by decide +kernel
theorem dX1_copy_5 : decode cX1_copy 5 = .ok (.getfield 12, 3) := by decide +kernel
theorem dX1_copy_8 : decode cX1_copy 8 = .ok (.invokevirtual 49, 3) := by decide +kernel
theorem dX1_copy_11 : decode cX1_copy 11 = .ok (.aload_n 0, 1) := by decide +kernel
theorem dX1_copy_12 : decode cX1_copy 12 = .ok (.getfield 21, 3) := by decide +kernel
theorem dX1_copy_15 : decode cX1_copy 15 = .ok (.aload_n 1, 1) := by decide +kernel
theorem dX1_copy_16 : decode cX1_copy 16 = .ok (.getfield 21, 3) := by decide +kernel
theorem dX1_copy_19 : decode cX1_copy 19 = .ok (.invokevirtual 52, 3) := by decide +kernel
theorem dX1_copy_22 : decode cX1_copy 22 = .ok (.aload_n 0, 1) := by decide +kernel
theorem dX1_copy_23 : decode cX1_copy 23 = .ok (.getfield 28, 3) := by decide +kernel
theorem dX1_copy_26 : decode cX1_copy 26 = .ok (.aload_n 1, 1) := by decide +kernel
theorem dX1_copy_27 : decode cX1_copy 27 = .ok (.getfield 28, 3) := by decide +kernel
theorem dX1_copy_30 : decode cX1_copy 30 = .ok (.invokevirtual 55, 3) := by decide +kernel
theorem dX1_copy_33 : decode cX1_copy 33 = .ok (.iconst 0, 1) := by decide +kernel
theorem dX1_copy_34 : decode cX1_copy 34 = .ok (.istore_n 2, 1) := by decide +kernel
theorem dX1_copy_35 : decode cX1_copy 35 = .ok (.iload_n 2, 1) := by decide +kernel
theorem dX1_copy_36 : decode cX1_copy 36 = .ok (.iconst 3, 1) := by decide +kernel
theorem dX1_copy_37 : decode cX1_copy 37 = .ok (.if_icmp .ge 21, 3) := by decide +kernel
theorem dX1_copy_40 : decode cX1_copy 40 = .ok (.aload_n 0, 1) := by decide +kernel
theorem dX1_copy_41 : decode cX1_copy 41 = .ok (.getfield 32, 3) := by decide +kernel
theorem dX1_copy_44 : decode cX1_copy 44 = .ok (.iload_n 2, 1) := by decide +kernel
theorem dX1_copy_45 : decode cX1_copy 45 = .ok (.aload_n 1, 1) := by decide +kernel
theorem dX1_copy_46 : decode cX1_copy 46 = .ok (.getfield 32, 3) := by decide +kernel
theorem dX1_copy_49 : decode cX1_copy 49 = .ok (.iload_n 2, 1) := by decide +kernel
theorem dX1_copy_50 : decode cX1_copy 50 = .ok (.iaload, 1) := by decide +kernel
theorem dX1_copy_51 : decode cX1_copy 51 = .ok (.iastore, 1) := by decide +kernel
theorem dX1_copy_52 : decode cX1_copy 52 = .ok (.iinc 2 1, 3) := by decide +kernel
theorem dX1_copy_55 : decode cX1_copy 55 = .ok (.goto (-20), 3) := by decide +kernel
theorem dX1_copy_58 : decode cX1_copy 58 = .ok (.return_, 1) := by decide +kernel
theorem dX2_init_0 : decode cX2_init 0 = .ok (.aload_n 0, 1) := by decide +kernel
theorem dX2_init_1 : decode cX2_init 1 = .ok (.invokespecial 3, 3) := by decide +kernel
theorem dX2_init_4 : decode cX2_init 4 = .ok (.aload_n 0, 1) := by decide +kernel
theorem dX2_init_5 : decode cX2_init 5 = .ok (.bipush 6, 2) := by decide +kernel
theorem dX2_init_7 : decode cX2_init 7 = .ok (.bipush 21, 2) := by decide +kernel
theorem dX2_init_9 : decode cX2_init 9 = .ok (.multianewarray 9 2, 4) := by decide +kernel
theorem dX2_init_13 : decode cX2_init 13 = .ok (.putfield 11, 3) := by decide +kernel
theorem dX2_init_16 : decode cX2_init 16 = .ok (.aload_n 0, 1) := by decide +kernel
theorem dX2_init_17 : decode cX2_init 17 = .ok (.bipush 21, 2) := by decide +kernel
theorem dX2_init_19 : decode cX2_init 19 = .ok (.newarray .int, 2) := by decide +kernel
theorem dX2_init_21 : decode cX2_init 21 = .ok (.putfield 16, 3) := by decide +kernel
theorem dX2_init_24 : decode cX2_init 24 = .ok (.aload_n 0, 1) := by decide +kernel
theorem dX2_init_25 : decode cX2_init 25 = .ok (.bipush 21, 2) := by decide +kernel
theorem dX2_init_27 : decode cX2_init 27 = .ok (.newarray .int, 2) := by decide +kernel
theorem dX2_init_29 : decode cX2_init 29 = .ok (.putfield 20, 3) := by decide +kernel
theorem dX2_init_32 : decode cX2_init 32 = .ok (.aload_n 0, 1) := by decide +kernel
theorem dX2_init_33 : decode cX2_init 33 = .ok (.iconst 0, 1) := by decide +kernel
theorem dX2_init_34 : decode cX2_init 34 = .ok (.putfield 23, 3) := by decide +kernel
theorem dX2_init_37 : decode cX2_init 37 = .ok (.aload_n 0, 1) := by decide +kernel
theorem dX2_init_38 : decode cX2_init 38 = .ok (.iconst (-1), 1) := by decide +kernel
theorem dX2_init_39 : decode cX2_init 39 = .ok (.putfield 27, 3) := by decide +kernel
theorem dX2_init_42 : decode cX2_init 42 = .ok (.aload_n 0, 1) := by decide +kernel
theorem dX2_init_43 : decode cX2_init 43 = .ok (.iconst 1, 1) := by decide +kernel
theorem dX2_init_44 : decode cX2_init 44 = .ok (.putfield 30, 3) := by decide +kernel
theorem dX2_init_47 : decode cX2_init 47 = .ok (.return_, 1) := by decide +kernel
theorem dX2_weigh_0 : decode cX2_weigh 0 = .ok (.aload_n 0, 1) := by decide +kernel
theorem dX2_weigh_1 : decode cX2_weigh 1 = .ok (.iconst 0, 1) := by decide +kernel
theorem dX2_weigh_2 : decode cX2_weigh 2 = .ok (.putfield 23, 3) := by decide +kernel
theorem dX2_weigh_5 : decode cX2_weigh 5 = .ok (.aload_n 0, 1) := by decide +kernel
theorem dX2_weigh_6 : decode cX2_weigh 6 = .ok (.iconst (-1), 1) := by decide +kernel
theorem dX2_weigh_7 : decode cX2_weigh 7 = .ok (.putfield 27, 3) := by decide +kernel
theorem dX2_weigh_10 : decode cX2_weigh 10 = .ok (.iconst 0, 1) := by decide +kernel
theorem dX2_weigh_11 : decode cX2_weigh 11 = .ok (.istore 4, 2) := by decide +kernel
theorem dX2_weigh_13 : decode cX2_weigh 13 = .ok (.iload 4, 2) := by decide +kernel
theorem dX2_weigh_15 : decode cX2_weigh 15 = .ok (.bipush 20, 2) := by decide +kernel
theorem dX2_weigh_17 : decode cX2_weigh 17 = .ok (.if_icmp .gt 17, 3) := by decide +kernel
theorem dX2_weigh_20 : decode cX2_weigh 20 = .ok (.aload_n 0, 1) := by decide +kernel
theorem dX2_weigh_21 : decode cX2_weigh 21 = .ok (.getfield 20, 3) := by decide +kernel
theorem dX2_weigh_24 : decode cX2_weigh 24 = .ok (.iload 4, 2) := by decide +kernel
theorem dX2_weigh_26 : decode cX2_weigh 26 = .ok (.iconst 0, 1) := by decide +kernel
theorem dX2_weigh_27 : decode cX2_weigh 27 = .ok (.iastore, 1) := by decide +kernel
theorem dX2_weigh_28 : decode cX2_weigh 28 = .ok (.iinc 4 1, 3) := by decide +kernel
theorem dX2_weigh_31 : decode cX2_weigh 31 = .ok (.goto (-18), 3) := by decide +kernel
theorem dX2_weigh_34 : decode cX2_weigh 34 = .ok (.iconst 0, 1) := by decide +kernel
theorem dX2_weigh_35 : decode cX2_weigh 35 = .ok (.istore 4, 2) := by decide +kernel
theorem dX2_weigh_37 : decode cX2_weigh 37 = .ok (.iload 4, 2) := by decide +kernel
theorem dX2_weigh_39 : decode cX2_weigh 39 = .ok (.aload_n 1, 1) := by decide +kernel
theorem dX2_weigh_40 : decode cX2_weigh 40 = .ok (.getfield 34, 3) := by decide +kernel
theorem dX2_weigh_43 : decode cX2_weigh 43 = .ok (.if_icmp .ge 32, 3) := by decide +kernel
theorem dX2_weigh_46 : decode cX2_weigh 46 = .ok (.aload_n 3, 1) := by decide +kernel
theorem dX2_weigh_47 : decode cX2_weigh 47 = .ok (.aload_n 1, 1) := by decide +kernel
theorem dX2_weigh_48 : decode cX2_weigh 48 = .ok (.aload_n 2, 1) := by decide +kernel
theorem dX2_weigh_49 : decode cX2_weigh 49 = .ok (.getfield 39, 3) := by decide +kernel
theorem dX2_weigh_52 : decode cX2_weigh 52 = .ok (.iload 4, 2) := by decide +kernel
theorem dX2_weigh_54 : decode cX2_weigh 54 = .ok (.invokevirtual 45, 3) := by decide +kernel
theorem dX2_weigh_57 : decode cX2_weigh 57 = .ok (.aload_n 1, 1) := by decide +kernel
theorem dX2_weigh_58 : decode cX2_weigh 58 = .ok (.aload_n 3, 1) := by decide +kernel
theorem dX2_weigh_59 : decode cX2_weigh 59 = .ok (.aload_n 0, 1) := by decide +kernel
theorem dX2_weigh_60 : decode cX2_weigh 60 = .ok (.getfield 11, 3) := by decide +kernel
theorem dX2_weigh_63 : decode cX2_weigh 63 = .ok (.iload 4, 2) := by decide +kernel
theorem dX2_weigh_65 : decode cX2_weigh 65 = .ok (.aaload, 1) := by decide +kernel
theorem dX2_weigh_66 : decode cX2_weigh 66 = .ok (.invokestatic 51, 3) := by decide +kernel
theorem dX2_weigh_69 : decode cX2_weigh 69 = .ok (.iinc 4 1, 3) := by decide +kernel
theorem dX2_weigh_72 : decode cX2_weigh 72 = .ok (.goto (-35), 3) := by decide +kernel
theorem dX2_weigh_75 : decode cX2_weigh 75 = .ok (.aload_n 0, 1) := by decide +kernel
theorem dX2_weigh_76 : decode cX2_weigh 76 = .ok (.aload_n 0, 1) := by decide +kernel
theorem dX2_weigh_77 : decode cX2_weigh 77 = .ok (.aload_n 1, 1) := by decide +kernel
theorem dX2_weigh_78 : decode cX2_weigh 78 = .ok (.aload_n 2, 1) := by decide +kernel
theorem dX2_weigh_79 : decode cX2_weigh 79 = .ok (.getfield 55, 3) := by decide +kernel
theorem dX2_weigh_82 : decode cX2_weigh 82 = .ok (.iconst (-1), 1) := by decide +kernel
theorem dX2_weigh_83 : decode cX2_weigh 83 = .ok (.invokevirtual 59, 3) := by decide +kernel
theorem dX2_weigh_86 : decode cX2_weigh 86 = .ok (.putfield 30, 3) := by decide +kernel
theorem dX2_weigh_89 : decode cX2_weigh 89 = .ok (.iconst 0, 1) := by decide +kernel
theorem dX2_weigh_90 : decode cX2_weigh 90 = .ok (.istore 4, 2) := by decide +kernel
theorem dX2_weigh_92 : decode cX2_weigh 92 = .ok (.iload 4, 2) := by decide +kernel
theorem dX2_weigh_94 : decode cX2_weigh 94 = .ok (.aload_n 1, 1) := by decide +kernel
theorem dX2_weigh_95 : decode cX2_weigh 95 = .ok (.getfield 34, 3) := by decide +kernel
theorem dX2_weigh_98 : decode cX2_weigh 98 = .ok (.if_icmp .ge 32, 3) := by decide +kernel
theorem dX2_weigh_101 : decode cX2_weigh 101 = .ok (.aload_n 0, 1) := by decide +kernel
theorem dX2_weigh_102 : decode cX2_weigh 102 = .ok (.aload_n 1, 1) := by decide +kernel
theorem dX2_weigh_103 : decode cX2_weigh 103 = .ok (.aload_n 2, 1) := by decide +kernel
theorem dX2_weigh_104 : decode cX2_weigh 104 = .ok (.getfield 55, 3) := by decide +kernel
theorem dX2_weigh_107 : decode cX2_weigh 107 = .ok (.iload 4, 2) := by decide +kernel
theorem dX2_weigh_109 : decode cX2_weigh 109 = .ok (.invokevirtual 59, 3) := by decide +kernel
theorem dX2_weigh_112 : decode cX2_weigh 112 = .ok (.ifCond .eq 12, 3) := by decide +kernel
theorem dX2_weigh_115 : decode cX2_weigh 115 = .ok (.aload_n 0, 1) := by decide +kernel
theorem dX2_weigh_116 : decode cX2_weigh 116 = .ok (.aload_n 1, 1) := by decide +kernel
theorem dX2_weigh_117 : decode cX2_weigh 117 = .ok (.aload_n 2, 1) := by decide +kernel
theorem dX2_weigh_118 : decode cX2_weigh 118 = .ok (.aload_n 3, 1) := by decide +kernel
theorem dX2_weigh_119 : decode cX2_weigh 119 = .ok (.iload 4, 2) := by decide +kernel
theorem dX2_weigh_121 : decode cX2_weigh 121 = .ok (.invokevirtual 63, 3) := by decide +kernel
theorem dX2_weigh_124 : decode cX2_weigh 124 = .ok (.iinc 4 1, 3) := by decide +kernel
theorem dX2_weigh_127 : decode cX2_weigh 127 = .ok (.goto (-35), 3) := by decide +kernel
theorem dX2_weigh_130 : decode cX2_weigh 130 = .ok (.return_, 1) := by decide +kernel
theorem dX2_bestLook_0 : decode cX2_bestLook 0 = .ok (.iconst (-1), 1) := by decide +kernel
theorem dX2_bestLook_1 : decode cX2_bestLook 1 = .ok (.istore_n 1, 1) := by decide +kernel
theorem dX2_bestLook_2 : decode cX2_bestLook 2 = .ok (.iconst 1, 1) := by decide +kernel
theorem dX2_bestLook_3 : decode cX2_bestLook 3 = .ok (.istore_n 2, 1) := by decide +kernel
theorem dX2_bestLook_4 : decode cX2_bestLook 4 = .ok (.iload_n 2, 1) := by decide +kernel
theorem dX2_bestLook_5 : decode cX2_bestLook 5 = .ok (.bipush 20, 2) := by decide +kernel
theorem dX2_bestLook_7 : decode cX2_bestLook 7 = .ok (.if_icmp .gt 36, 3) := by decide +kernel
theorem dX2_bestLook_10 : decode cX2_bestLook 10 = .ok (.aload_n 0, 1) := by decide +kernel
theorem dX2_bestLook_11 : decode cX2_bestLook 11 = .ok (.getfield 23, 3) := by decide +kernel
theorem dX2_bestLook_14 : decode cX2_bestLook 14 = .ok (.ifCond .le 29, 3) := by decide +kernel
theorem dX2_bestLook_17 : decode cX2_bestLook 17 = .ok (.iload_n 1, 1) := by decide +kernel
theorem dX2_bestLook_18 : decode cX2_bestLook 18 = .ok (.iconst (-1), 1) := by decide +kernel
theorem dX2_bestLook_19 : decode cX2_bestLook 19 = .ok (.if_icmp .eq 16, 3) := by decide +kernel
theorem dX2_bestLook_22 : decode cX2_bestLook 22 = .ok (.aload_n 0, 1) := by decide +kernel
theorem dX2_bestLook_23 : decode cX2_bestLook 23 = .ok (.iload_n 2, 1) := by decide +kernel
theorem dX2_bestLook_24 : decode cX2_bestLook 24 = .ok (.invokevirtual 67, 3) := by decide +kernel
theorem dX2_bestLook_27 : decode cX2_bestLook 27 = .ok (.aload_n 0, 1) := by decide +kernel
theorem dX2_bestLook_28 : decode cX2_bestLook 28 = .ok (.iload_n 1, 1) := by decide +kernel
theorem dX2_bestLook_29 : decode cX2_bestLook 29 = .ok (.invokevirtual 67, 3) := by decide +kernel
theorem dX2_bestLook_32 : decode cX2_bestLook 32 = .ok (.if_icmp .le 5, 3) := by decide +kernel
theorem dX2_bestLook_35 : decode cX2_bestLook 35 = .ok (.iload_n 2, 1) := by decide +kernel
theorem dX2_bestLook_36 : decode cX2_bestLook 36 = .ok (.istore_n 1, 1) := by decide +kernel
theorem dX2_bestLook_37 : decode cX2_bestLook 37 = .ok (.iinc 2 1, 3) := by decide +kernel
theorem dX2_bestLook_40 : decode cX2_bestLook 40 = .ok (.goto (-36), 3) := by decide +kernel
theorem dX2_bestLook_43 : decode cX2_bestLook 43 = .ok (.iload_n 1, 1) := by decide +kernel
theorem dX2_bestLook_44 : decode cX2_bestLook 44 = .ok (.ireturn, 1) := by decide +kernel
theorem dX2_unlikeBehind_0 : decode cX2_unlikeBehind 0 = .ok (.iload_n 1, 1) := by decide +kernel
theorem dX2_unlikeBehind_1 : decode cX2_unlikeBehind 1 = .ok (.ifCond .lt 24, 3) := by decide +kernel
theorem dX2_unlikeBehind_4 : decode cX2_unlikeBehind 4 = .ok (.iload_n 1, 1) := by decide +kernel
theorem dX2_unlikeBehind_5 : decode cX2_unlikeBehind 5 = .ok (.aload_n 0, 1) := by decide +kernel
theorem dX2_unlikeBehind_6 : decode cX2_unlikeBehind 6 = .ok (.getfield 20, 3) := by decide +kernel
theorem dX2_unlikeBehind_9 : decode cX2_unlikeBehind 9 = .ok (.arraylength, 1) := by decide +kernel
theorem dX2_unlikeBehind_10 : decode cX2_unlikeBehind 10 = .ok (.if_icmp .ge 15, 3) := by decide +kernel
theorem dX2_unlikeBehind_13 : decode cX2_unlikeBehind 13 = .ok (.aload_n 0, 1) := by decide +kernel
theorem dX2_unlikeBehind_14 : decode cX2_unlikeBehind 14 = .ok (.getfield 20, 3) := by decide +kernel
theorem dX2_unlikeBehind_17 : decode cX2_unlikeBehind 17 = .ok (.iload_n 1, 1) := by decide +kernel
theorem dX2_unlikeBehind_18 : decode cX2_unlikeBehind 18 = .ok (.iaload, 1) := by decide +kernel
theorem dX2_unlikeBehind_19 : decode cX2_unlikeBehind 19 = .ok (.invokestatic 71, 3) := by decide +kernel
theorem dX2_unlikeBehind_22 : decode cX2_unlikeBehind 22 = .ok (.goto 4, 3) := by decide +kernel
theorem dX2_unlikeBehind_25 : decode cX2_unlikeBehind 25 = .ok (.iconst 0, 1) := by decide +kernel
theorem dX2_unlikeBehind_26 : decode cX2_unlikeBehind 26 = .ok (.ireturn, 1) := by decide +kernel
theorem dX2_tryGreeds_0 : decode cX2_tryGreeds 0 = .ok (.iconst 0, 1) := by decide +kernel
theorem dX2_tryGreeds_1 : decode cX2_tryGreeds 1 = .ok (.istore 5, 2) := by decide +kernel
theorem dX2_tryGreeds_3 : decode cX2_tryGreeds 3 = .ok (.iload 5, 2) := by decide +kernel
theorem dX2_tryGreeds_5 : decode cX2_tryGreeds 5 = .ok (.bipush 9, 2) := by decide +kernel
theorem dX2_tryGreeds_7 : decode cX2_tryGreeds 7 = .ok (.if_icmp .gt 107, 3) := by decide +kernel
theorem dX2_tryGreeds_10 : decode cX2_tryGreeds 10 = .ok (.iload 5, 2) := by decide +kernel
theorem dX2_tryGreeds_12 : decode cX2_tryGreeds 12 = .ok (.aload_n 1, 1) := by decide +kernel
theorem dX2_tryGreeds_13 : decode cX2_tryGreeds 13 = .ok (.getfield 76, 3) := by decide +kernel
theorem dX2_tryGreeds_16 : decode cX2_tryGreeds 16 = .ok (.iload 4, 2) := by decide +kernel
theorem dX2_tryGreeds_18 : decode cX2_tryGreeds 18 = .ok (.iaload, 1) := by decide +kernel
theorem dX2_tryGreeds_19 : decode cX2_tryGreeds 19 = .ok (.if_icmp .eq 89, 3) := by decide +kernel
theorem dX2_tryGreeds_22 : decode cX2_tryGreeds 22 = .ok (.aload_n 3, 1) := by decide +kernel
theorem dX2_tryGreeds_23 : decode cX2_tryGreeds 23 = .ok (.aload_n 1, 1) := by decide +kernel
theorem dX2_tryGreeds_24 : decode cX2_tryGreeds 24 = .ok (.aload_n 2, 1) := by decide +kernel
theorem dX2_tryGreeds_25 : decode cX2_tryGreeds 25 = .ok (.getfield 39, 3) := by decide +kernel
theorem dX2_tryGreeds_28 : decode cX2_tryGreeds 28 = .ok (.iload 4, 2) := by decide +kernel
theorem dX2_tryGreeds_30 : decode cX2_tryGreeds 30 = .ok (.invokevirtual 45, 3) := by decide +kernel
theorem dX2_tryGreeds_33 : decode cX2_tryGreeds 33 = .ok (.aload_n 3, 1) := by decide +kernel
theorem dX2_tryGreeds_34 : decode cX2_tryGreeds 34 = .ok (.iload 5, 2) := by decide +kernel
theorem dX2_tryGreeds_36 : decode cX2_tryGreeds 36 = .ok (.putfield 79, 3) := by decide +kernel
theorem dX2_tryGreeds_39 : decode cX2_tryGreeds 39 = .ok (.aload_n 1, 1) := by decide +kernel
theorem dX2_tryGreeds_40 : decode cX2_tryGreeds 40 = .ok (.aload_n 3, 1) := by decide +kernel
theorem dX2_tryGreeds_41 : decode cX2_tryGreeds 41 = .ok (.aload_n 0, 1) := by decide +kernel
theorem dX2_tryGreeds_42 : decode cX2_tryGreeds 42 = .ok (.getfield 16, 3) := by decide +kernel
theorem dX2_tryGreeds_45 : decode cX2_tryGreeds 45 = .ok (.invokestatic 51, 3) := by decide +kernel
theorem dX2_tryGreeds_48 : decode cX2_tryGreeds 48 = .ok (.aload_n 2, 1) := by decide +kernel
theorem dX2_tryGreeds_49 : decode cX2_tryGreeds 49 = .ok (.getfield 55, 3) := by decide +kernel
theorem dX2_tryGreeds_52 : decode cX2_tryGreeds 52 = .ok (.iload 4, 2) := by decide +kernel
theorem dX2_tryGreeds_54 : decode cX2_tryGreeds 54 = .ok (.aload_n 0, 1) := by decide +kernel
theorem dX2_tryGreeds_55 : decode cX2_tryGreeds 55 = .ok (.getfield 16, 3) := by decide +kernel
theorem dX2_tryGreeds_58 : decode cX2_tryGreeds 58 = .ok (.invokevirtual 81, 3) := by decide +kernel
theorem dX2_tryGreeds_61 : decode cX2_tryGreeds 61 = .ok (.ifCond .eq 47, 3) := by decide +kernel
theorem dX2_tryGreeds_64 : decode cX2_tryGreeds 64 = .ok (.aload_n 0, 1) := by decide +kernel
theorem dX2_tryGreeds_65 : decode cX2_tryGreeds 65 = .ok (.dup, 1) := by decide +kernel
theorem dX2_tryGreeds_66 : decode cX2_tryGreeds 66 = .ok (.getfield 23, 3) := by decide +kernel
theorem dX2_tryGreeds_69 : decode cX2_tryGreeds 69 = .ok (.iconst 1, 1) := by decide +kernel
theorem dX2_tryGreeds_70 : decode cX2_tryGreeds 70 = .ok (.iadd, 1) := by decide +kernel
theorem dX2_tryGreeds_71 : decode cX2_tryGreeds 71 = .ok (.putfield 23, 3) := by decide +kernel
theorem dX2_tryGreeds_74 : decode cX2_tryGreeds 74 = .ok (.aload_n 0, 1) := by decide +kernel
theorem dX2_tryGreeds_75 : decode cX2_tryGreeds 75 = .ok (.aload_n 0, 1) := by decide +kernel
theorem dX2_tryGreeds_76 : decode cX2_tryGreeds 76 = .ok (.getfield 27, 3) := by decide +kernel
theorem dX2_tryGreeds_79 : decode cX2_tryGreeds 79 = .ok (.iconst (-1), 1) := by decide +kernel
theorem dX2_tryGreeds_80 : decode cX2_tryGreeds 80 = .ok (.if_icmp .ne 14, 3) := by decide +kernel
theorem dX2_tryGreeds_83 : decode cX2_tryGreeds 83 = .ok (.bipush 10, 2) := by decide +kernel
theorem dX2_tryGreeds_85 : decode cX2_tryGreeds 85 = .ok (.iload 4, 2) := by decide +kernel
theorem dX2_tryGreeds_87 : decode cX2_tryGreeds 87 = .ok (.imul, 1) := by decide +kernel
theorem dX2_tryGreeds_88 : decode cX2_tryGreeds 88 = .ok (.iload 5, 2) := by decide +kernel
theorem dX2_tryGreeds_90 : decode cX2_tryGreeds 90 = .ok (.iadd, 1) := by decide +kernel
theorem dX2_tryGreeds_91 : decode cX2_tryGreeds 91 = .ok (.goto 7, 3) := by decide +kernel
theorem dX2_tryGreeds_94 : decode cX2_tryGreeds 94 = .ok (.aload_n 0, 1) := by decide +kernel
theorem dX2_tryGreeds_95 : decode cX2_tryGreeds 95 = .ok (.getfield 27, 3) := by decide +kernel
theorem dX2_tryGreeds_98 : decode cX2_tryGreeds 98 = .ok (.putfield 27, 3) := by decide +kernel
theorem dX2_tryGreeds_101 : decode cX2_tryGreeds 101 = .ok (.aload_n 0, 1) := by decide +kernel
theorem dX2_tryGreeds_102 : decode cX2_tryGreeds 102 = .ok (.aload_n 1, 1) := by decide +kernel
theorem dX2_tryGreeds_103 : decode cX2_tryGreeds 103 = .ok (.iload 4, 2) := by decide +kernel
theorem dX2_tryGreeds_105 : decode cX2_tryGreeds 105 = .ok (.invokevirtual 87, 3) := by decide +kernel
theorem dX2_tryGreeds_108 : decode cX2_tryGreeds 108 = .ok (.iinc 5 1, 3) := by decide +kernel
theorem dX2_tryGreeds_111 : decode cX2_tryGreeds 111 = .ok (.goto (-108), 3) := by decide +kernel
theorem dX2_tryGreeds_114 : decode cX2_tryGreeds 114 = .ok (.return_, 1) := by decide +kernel
theorem dX2_follow_0 : decode cX2_follow 0 = .ok (.iconst 0, 1) := by decide +kernel
theorem dX2_follow_1 : decode cX2_follow 1 = .ok (.istore_n 3, 1) := by decide +kernel
theorem dX2_follow_2 : decode cX2_follow 2 = .ok (.iload_n 3, 1) := by decide +kernel
theorem dX2_follow_3 : decode cX2_follow 3 = .ok (.aload_n 2, 1) := by decide +kernel
theorem dX2_follow_4 : decode cX2_follow 4 = .ok (.arraylength, 1) := by decide +kernel
theorem dX2_follow_5 : decode cX2_follow 5 = .ok (.if_icmp .ge 30, 3) := by decide +kernel
theorem dX2_follow_8 : decode cX2_follow 8 = .ok (.aload_n 2, 1) := by decide +kernel
theorem dX2_follow_9 : decode cX2_follow 9 = .ok (.iload_n 3, 1) := by decide +kernel
theorem dX2_follow_10 : decode cX2_follow 10 = .ok (.aload_n 1, 1) := by decide +kernel
theorem dX2_follow_11 : decode cX2_follow 11 = .ok (.getfield 91, 3) := by decide +kernel
theorem dX2_follow_14 : decode cX2_follow 14 = .ok (.iastore, 1) := by decide +kernel
theorem dX2_follow_15 : decode cX2_follow 15 = .ok (.aload_n 1, 1) := by decide +kernel
theorem dX2_follow_16 : decode cX2_follow 16 = .ok (.aload_n 0, 1) := by decide +kernel
theorem dX2_follow_17 : decode cX2_follow 17 = .ok (.aload_n 0, 1) := by decide +kernel
theorem dX2_follow_18 : decode cX2_follow 18 = .ok (.aload_n 1, 1) := by decide +kernel
theorem dX2_follow_19 : decode cX2_follow 19 = .ok (.getfield 94, 3) := by decide +kernel
theorem dX2_follow_22 : decode cX2_follow 22 = .ok (.invokevirtual 97, 3) := by decide +kernel
theorem dX2_follow_25 : decode cX2_follow 25 = .ok (.invokevirtual 100, 3) := by decide +kernel
theorem dX2_follow_28 : decode cX2_follow 28 = .ok (.pop, 1) := by decide +kernel
theorem dX2_follow_29 : decode cX2_follow 29 = .ok (.iinc 3 1, 3) := by decide +kernel
theorem dX2_follow_32 : decode cX2_follow 32 = .ok (.goto (-30), 3) := by decide +kernel
theorem dX2_follow_35 : decode cX2_follow 35 = .ok (.return_, 1) := by decide +kernel
theorem dX2_doOthersSuit_0 : decode cX2_doOthersSuit 0 = .ok (.iconst 0, 1) := by decide +kernel
theorem dX2_doOthersSuit_1 : decode cX2_doOthersSuit 1 = .ok (.istore 4, 2) := by decide +kernel
theorem dX2_doOthersSuit_3 : decode cX2_doOthersSuit 3 = .ok (.iload 4, 2) := by decide +kernel
theorem dX2_doOthersSuit_5 : decode cX2_doOthersSuit 5 = .ok (.aload_n 1, 1) := by decide +kernel
theorem dX2_doOthersSuit_6 : decode cX2_doOthersSuit 6 = .ok (.getfield 34, 3) := by decide +kernel
theorem dX2_doOthersSuit_9 : decode cX2_doOthersSuit 9 = .ok (.if_icmp .ge 33, 3) := by decide +kernel
theorem dX2_doOthersSuit_12 : decode cX2_doOthersSuit 12 = .ok (.iload 4, 2) := by decide +kernel
theorem dX2_doOthersSuit_14 : decode cX2_doOthersSuit 14 = .ok (.iload_n 3, 1) := by decide +kernel
theorem dX2_doOthersSuit_15 : decode cX2_doOthersSuit 15 = .ok (.if_icmp .eq 21, 3) := by decide +kernel
theorem dX2_doOthersSuit_18 : decode cX2_doOthersSuit 18 = .ok (.aload_n 2, 1) := by decide +kernel
theorem dX2_doOthersSuit_19 : decode cX2_doOthersSuit 19 = .ok (.iload 4, 2) := by decide +kernel
theorem dX2_doOthersSuit_21 : decode cX2_doOthersSuit 21 = .ok (.aload_n 0, 1) := by decide +kernel
theorem dX2_doOthersSuit_22 : decode cX2_doOthersSuit 22 = .ok (.getfield 11, 3) := by decide +kernel
theorem dX2_doOthersSuit_25 : decode cX2_doOthersSuit 25 = .ok (.iload 4, 2) := by decide +kernel
theorem dX2_doOthersSuit_27 : decode cX2_doOthersSuit 27 = .ok (.aaload, 1) := by decide +kernel
theorem dX2_doOthersSuit_28 : decode cX2_doOthersSuit 28 = .ok (.invokevirtual 81, 3) := by decide +kernel
theorem dX2_doOthersSuit_31 : decode cX2_doOthersSuit 31 = .ok (.ifCond .ne 5, 3) := by decide +kernel
theorem dX2_doOthersSuit_34 : decode cX2_doOthersSuit 34 = .ok (.iconst 0, 1) := by decide +kernel
theorem dX2_doOthersSuit_35 : decode cX2_doOthersSuit 35 = .ok (.ireturn, 1) := by decide +kernel
theorem dX2_doOthersSuit_36 : decode cX2_doOthersSuit 36 = .ok (.iinc 4 1, 3) := by decide +kernel
theorem dX2_doOthersSuit_39 : decode cX2_doOthersSuit 39 = .ok (.goto (-36), 3) := by decide +kernel
theorem dX2_doOthersSuit_42 : decode cX2_doOthersSuit 42 = .ok (.iconst 1, 1) := by decide +kernel
theorem dX2_doOthersSuit_43 : decode cX2_doOthersSuit 43 = .ok (.ireturn, 1) := by decide +kernel
theorem dX2_markWorst_0 : decode cX2_markWorst 0 = .ok (.iconst 1, 1) := by decide +kernel
theorem dX2_markWorst_1 : decode cX2_markWorst 1 = .ok (.istore_n 3, 1) := by decide +kernel
theorem dX2_markWorst_2 : decode cX2_markWorst 2 = .ok (.iload_n 3, 1) := by decide +kernel
theorem dX2_markWorst_3 : decode cX2_markWorst 3 = .ok (.bipush 20, 2) := by decide +kernel
theorem dX2_markWorst_5 : decode cX2_markWorst 5 = .ok (.if_icmp .gt 87, 3) := by decide +kernel
theorem dX2_markWorst_8 : decode cX2_markWorst 8 = .ok (.iconst 0, 1) := by decide +kernel
theorem dX2_markWorst_9 : decode cX2_markWorst 9 = .ok (.istore 4, 2) := by decide +kernel
theorem dX2_markWorst_11 : decode cX2_markWorst 11 = .ok (.iconst (-1), 1) := by decide +kernel
theorem dX2_markWorst_12 : decode cX2_markWorst 12 = .ok (.istore 5, 2) := by decide +kernel
theorem dX2_markWorst_14 : decode cX2_markWorst 14 = .ok (.iconst 0, 1) := by decide +kernel
theorem dX2_markWorst_15 : decode cX2_markWorst 15 = .ok (.istore 6, 2) := by decide +kernel
theorem dX2_markWorst_17 : decode cX2_markWorst 17 = .ok (.iload 6, 2) := by decide +kernel
theorem dX2_markWorst_19 : decode cX2_markWorst 19 = .ok (.aload_n 1, 1) := by decide +kernel
theorem dX2_markWorst_20 : decode cX2_markWorst 20 = .ok (.getfield 34, 3) := by decide +kernel
theorem dX2_markWorst_23 : decode cX2_markWorst 23 = .ok (.if_icmp .ge 50, 3) := by decide +kernel
theorem dX2_markWorst_26 : decode cX2_markWorst 26 = .ok (.iload 6, 2) := by decide +kernel
theorem dX2_markWorst_28 : decode cX2_markWorst 28 = .ok (.iload_n 2, 1) := by decide +kernel
theorem dX2_markWorst_29 : decode cX2_markWorst 29 = .ok (.if_icmp .ne 12, 3) := by decide +kernel
theorem dX2_markWorst_32 : decode cX2_markWorst 32 = .ok (.aload_n 0, 1) := by decide +kernel
theorem dX2_markWorst_33 : decode cX2_markWorst 33 = .ok (.getfield 16, 3) := by decide +kernel
theorem dX2_markWorst_36 : decode cX2_markWorst 36 = .ok (.iload_n 3, 1) := by decide +kernel
theorem dX2_markWorst_37 : decode cX2_markWorst 37 = .ok (.iaload, 1) := by decide +kernel
theorem dX2_markWorst_38 : decode cX2_markWorst 38 = .ok (.goto 12, 3) := by decide +kernel
theorem dX2_markWorst_41 : decode cX2_markWorst 41 = .ok (.aload_n 0, 1) := by decide +kernel
theorem dX2_markWorst_42 : decode cX2_markWorst 42 = .ok (.getfield 11, 3) := by decide +kernel
theorem dX2_markWorst_45 : decode cX2_markWorst 45 = .ok (.iload 6, 2) := by decide +kernel
theorem dX2_markWorst_47 : decode cX2_markWorst 47 = .ok (.aaload, 1) := by decide +kernel
theorem dX2_markWorst_48 : decode cX2_markWorst 48 = .ok (.iload_n 3, 1) := by decide +kernel
theorem dX2_markWorst_49 : decode cX2_markWorst 49 = .ok (.iaload, 1) := by decide +kernel
theorem dX2_markWorst_50 : decode cX2_markWorst 50 = .ok (.istore 7, 2) := by decide +kernel
theorem dX2_markWorst_52 : decode cX2_markWorst 52 = .ok (.iload 7, 2) := by decide +kernel
theorem dX2_markWorst_54 : decode cX2_markWorst 54 = .ok (.iload 5, 2) := by decide +kernel
theorem dX2_markWorst_56 : decode cX2_markWorst 56 = .ok (.if_icmp .le 11, 3) := by decide +kernel
theorem dX2_markWorst_59 : decode cX2_markWorst 59 = .ok (.iload 6, 2) := by decide +kernel
theorem dX2_markWorst_61 : decode cX2_markWorst 61 = .ok (.istore 4, 2) := by decide +kernel
theorem dX2_markWorst_63 : decode cX2_markWorst 63 = .ok (.iload 7, 2) := by decide +kernel
theorem dX2_markWorst_65 : decode cX2_markWorst 65 = .ok (.istore 5, 2) := by decide +kernel
theorem dX2_markWorst_67 : decode cX2_markWorst 67 = .ok (.iinc 6 1, 3) := by decide +kernel
theorem dX2_markWorst_70 : decode cX2_markWorst 70 = .ok (.goto (-53), 3) := by decide +kernel
theorem dX2_markWorst_73 : decode cX2_markWorst 73 = .ok (.aload_n 0, 1) := by decide +kernel
theorem dX2_markWorst_74 : decode cX2_markWorst 74 = .ok (.getfield 20, 3) := by decide +kernel
theorem dX2_markWorst_77 : decode cX2_markWorst 77 = .ok (.iload_n 3, 1) := by decide +kernel
theorem dX2_markWorst_78 : decode cX2_markWorst 78 = .ok (.dup2, 1) := by decide +kernel
theorem dX2_markWorst_79 : decode cX2_markWorst 79 = .ok (.iaload, 1) := by decide +kernel
theorem dX2_markWorst_80 : decode cX2_markWorst 80 = .ok (.iconst 1, 1) := by decide +kernel
theorem dX2_markWorst_81 : decode cX2_markWorst 81 = .ok (.iload 4, 2) := by decide +kernel
theorem dX2_markWorst_83 : decode cX2_markWorst 83 = .ok (.ishl, 1) := by decide +kernel
theorem dX2_markWorst_84 : decode cX2_markWorst 84 = .ok (.ior, 1) := by decide +kernel
theorem dX2_markWorst_85 : decode cX2_markWorst 85 = .ok (.iastore, 1) := by decide +kernel
theorem dX2_markWorst_86 : decode cX2_markWorst 86 = .ok (.iinc 3 1, 3) := by decide +kernel
theorem dX2_markWorst_89 : decode cX2_markWorst 89 = .ok (.goto (-87), 3) := by decide +kernel
theorem dX2_markWorst_92 : decode cX2_markWorst 92 = .ok (.return_, 1) := by decide +kernel
theorem dX3_init_0 : decode cX3_init 0 = .ok (.aload_n 0, 1) := by decide +kernel
theorem dX3_init_1 : decode cX3_init 1 = .ok (.invokespecial 3, 3) := by decide +kernel
theorem dX3_init_4 : decode cX3_init 4 = .ok (.aload_n 0, 1) := by decide +kernel
theorem dX3_init_5 : decode cX3_init 5 = .ok (.new 9, 3) := by decide +kernel
theorem dX3_init_8 : decode cX3_init 8 = .ok (.dup, 1) := by decide +kernel
theorem dX3_init_9 : decode cX3_init 9 = .ok (.invokespecial 11, 3) := by decide +kernel
theorem dX3_init_12 : decode cX3_init 12 = .ok (.putfield 12, 3) := by decide +kernel
theorem dX3_init_15 : decode cX3_init 15 = .ok (.aload_n 0, 1) := by decide +kernel
theorem dX3_init_16 : decode cX3_init 16 = .ok (.new 18, 3) := by decide +kernel
theorem dX3_init_19 : decode cX3_init 19 = .ok (.dup, 1) := by decide +kernel
theorem dX3_init_20 : decode cX3_init 20 = .ok (.invokespecial 20, 3) := by decide +kernel
theorem dX3_init_23 : decode cX3_init 23 = .ok (.putfield 21, 3) := by decide +kernel
theorem dX3_init_26 : decode cX3_init 26 = .ok (.aload_n 0, 1) := by decide +kernel
theorem dX3_init_27 : decode cX3_init 27 = .ok (.iconst 0, 1) := by decide +kernel
theorem dX3_init_28 : decode cX3_init 28 = .ok (.putfield 25, 3) := by decide +kernel
theorem dX3_init_31 : decode cX3_init 31 = .ok (.aload_n 0, 1) := by decide +kernel
theorem dX3_init_32 : decode cX3_init 32 = .ok (.iconst (-1), 1) := by decide +kernel
theorem dX3_init_33 : decode cX3_init 33 = .ok (.putfield 29, 3) := by decide +kernel
theorem dX3_init_36 : decode cX3_init 36 = .ok (.return_, 1) := by decide +kernel
theorem dX3_read_0 : decode cX3_read 0 = .ok (.aload_n 0, 1) := by decide +kernel
theorem dX3_read_1 : decode cX3_read 1 = .ok (.getfield 21, 3) := by decide +kernel
theorem dX3_read_4 : decode cX3_read 4 = .ok (.invokevirtual 32, 3) := by decide +kernel
theorem dX3_read_7 : decode cX3_read 7 = .ok (.aload_n 0, 1) := by decide +kernel
theorem dX3_read_8 : decode cX3_read 8 = .ok (.iconst 0, 1) := by decide +kernel
theorem dX3_read_9 : decode cX3_read 9 = .ok (.putfield 25, 3) := by decide +kernel
theorem dX3_read_12 : decode cX3_read 12 = .ok (.aload_n 0, 1) := by decide +kernel
theorem dX3_read_13 : decode cX3_read 13 = .ok (.iconst (-1), 1) := by decide +kernel
theorem dX3_read_14 : decode cX3_read 14 = .ok (.putfield 29, 3) := by decide +kernel
theorem dX3_read_17 : decode cX3_read 17 = .ok (.aload_n 0, 1) := by decide +kernel
theorem dX3_read_18 : decode cX3_read 18 = .ok (.getfield 12, 3) := by decide +kernel
theorem dX3_read_21 : decode cX3_read 21 = .ok (.iload_n 1, 1) := by decide +kernel
theorem dX3_read_22 : decode cX3_read 22 = .ok (.invokevirtual 35, 3) := by decide +kernel
theorem dX3_read_25 : decode cX3_read 25 = .ok (.iconst 0, 1) := by decide +kernel
theorem dX3_read_26 : decode cX3_read 26 = .ok (.istore_n 2, 1) := by decide +kernel
theorem dX3_read_27 : decode cX3_read 27 = .ok (.iload_n 2, 1) := by decide +kernel
theorem dX3_read_28 : decode cX3_read 28 = .ok (.sipush 700, 3) := by decide +kernel
theorem dX3_read_31 : decode cX3_read 31 = .ok (.if_icmp .ge 36, 3) := by decide +kernel
theorem dX3_read_34 : decode cX3_read 34 = .ok (.aload_n 0, 1) := by decide +kernel
theorem dX3_read_35 : decode cX3_read 35 = .ok (.invokevirtual 39, 3) := by decide +kernel
theorem dX3_read_38 : decode cX3_read 38 = .ok (.ifCond .eq 29, 3) := by decide +kernel
theorem dX3_read_41 : decode cX3_read 41 = .ok (.aload_n 0, 1) := by decide +kernel
theorem dX3_read_42 : decode cX3_read 42 = .ok (.getfield 12, 3) := by decide +kernel
theorem dX3_read_45 : decode cX3_read 45 = .ok (.getfield 43, 3) := by decide +kernel
theorem dX3_read_48 : decode cX3_read 48 = .ok (.ifCond .eq 19, 3) := by decide +kernel
theorem dX3_read_51 : decode cX3_read 51 = .ok (.aload_n 0, 1) := by decide +kernel
theorem dX3_read_52 : decode cX3_read 52 = .ok (.invokevirtual 46, 3) := by decide +kernel
theorem dX3_read_55 : decode cX3_read 55 = .ok (.aload_n 0, 1) := by decide +kernel
theorem dX3_read_56 : decode cX3_read 56 = .ok (.bipush 59, 2) := by decide +kernel
theorem dX3_read_58 : decode cX3_read 58 = .ok (.invokevirtual 49, 3) := by decide +kernel
theorem dX3_read_61 : decode cX3_read 61 = .ok (.iinc 2 1, 3) := by decide +kernel
theorem dX3_read_64 : decode cX3_read 64 = .ok (.goto (-37), 3) := by decide +kernel
theorem dX3_read_67 : decode cX3_read 67 = .ok (.aload_n 0, 1) := by decide +kernel
theorem dX3_read_68 : decode cX3_read 68 = .ok (.getfield 25, 3) := by decide +kernel
theorem dX3_read_71 : decode cX3_read 71 = .ok (.ireturn, 1) := by decide +kernel
theorem dX3_isFine_0 : decode cX3_isFine 0 = .ok (.aload_n 0, 1) := by decide +kernel
theorem dX3_isFine_1 : decode cX3_isFine 1 = .ok (.getfield 25, 3) := by decide +kernel
theorem dX3_isFine_4 : decode cX3_isFine 4 = .ok (.ifCond .ne 7, 3) := by decide +kernel
theorem dX3_isFine_7 : decode cX3_isFine 7 = .ok (.iconst 1, 1) := by decide +kernel
theorem dX3_isFine_8 : decode cX3_isFine 8 = .ok (.goto 4, 3) := by decide +kernel
theorem dX3_isFine_11 : decode cX3_isFine 11 = .ok (.iconst 0, 1) := by decide +kernel
theorem dX3_isFine_12 : decode cX3_isFine 12 = .ok (.ireturn, 1) := by decide +kernel
theorem dX3_refuse_0 : decode cX3_refuse 0 = .ok (.aload_n 0, 1) := by decide +kernel
theorem dX3_refuse_1 : decode cX3_refuse 1 = .ok (.invokevirtual 39, 3) := by decide +kernel
theorem dX3_refuse_4 : decode cX3_refuse 4 = .ok (.ifCond .eq 19, 3) := by decide +kernel
theorem dX3_refuse_7 : decode cX3_refuse 7 = .ok (.aload_n 0, 1) := by decide +kernel
theorem dX3_refuse_8 : decode cX3_refuse 8 = .ok (.iload_n 1, 1) := by decide +kernel
theorem dX3_refuse_9 : decode cX3_refuse 9 = .ok (.putfield 25, 3) := by decide +kernel
theorem dX3_refuse_12 : decode cX3_refuse 12 = .ok (.aload_n 0, 1) := by decide +kernel
theorem dX3_refuse_13 : decode cX3_refuse 13 = .ok (.aload_n 0, 1) := by decide +kernel
theorem dX3_refuse_14 : decode cX3_refuse 14 = .ok (.getfield 12, 3) := by decide +kernel
theorem dX3_refuse_17 : decode cX3_refuse 17 = .ok (.getfield 53, 3) := by decide +kernel
theorem dX3_refuse_20 : decode cX3_refuse 20 = .ok (.putfield 29, 3) := by decide +kernel
theorem dX3_refuse_23 : decode cX3_refuse 23 = .ok (.return_, 1) := by decide +kernel
theorem dX3_skipSign_0 : decode cX3_skipSign 0 = .ok (.aload_n 0, 1) := by decide +kernel
theorem dX3_skipSign_1 : decode cX3_skipSign 1 = .ok (.getfield 12, 3) := by decide +kernel
theorem dX3_skipSign_4 : decode cX3_skipSign 4 = .ok (.iload_n 1, 1) := by decide +kernel
theorem dX3_skipSign_5 : decode cX3_skipSign 5 = .ok (.invokevirtual 56, 3) := by decide +kernel
theorem dX3_skipSign_8 : decode cX3_skipSign 8 = .ok (.ifCond .ne 11, 3) := by decide +kernel
theorem dX3_skipSign_11 : decode cX3_skipSign 11 = .ok (.aload_n 0, 1) := by decide +kernel
theorem dX3_skipSign_12 : decode cX3_skipSign 12 = .ok (.iconst 1, 1) := by decide +kernel
theorem dX3_skipSign_13 : decode cX3_skipSign 13 = .ok (.invokevirtual 60, 3) := by decide +kernel
theorem dX3_skipSign_16 : decode cX3_skipSign 16 = .ok (.goto 17, 3) := by decide +kernel
theorem dX3_skipSign_19 : decode cX3_skipSign 19 = .ok (.aload_n 0, 1) := by decide +kernel
theorem dX3_skipSign_20 : decode cX3_skipSign 20 = .ok (.invokevirtual 39, 3) := by decide +kernel
theorem dX3_skipSign_23 : decode cX3_skipSign 23 = .ok (.ifCond .eq 10, 3) := by decide +kernel
theorem dX3_skipSign_26 : decode cX3_skipSign 26 = .ok (.aload_n 0, 1) := by decide +kernel
theorem dX3_skipSign_27 : decode cX3_skipSign 27 = .ok (.getfield 12, 3) := by decide +kernel
theorem dX3_skipSign_30 : decode cX3_skipSign 30 = .ok (.invokevirtual 63, 3) := by decide +kernel
theorem dX3_skipSign_33 : decode cX3_skipSign 33 = .ok (.return_, 1) := by decide +kernel
theorem dX3_readNumber_0 : decode cX3_readNumber 0 = .ok (.aload_n 0, 1) := by decide +kernel
theorem dX3_readNumber_1 : decode cX3_readNumber 1 = .ok (.getfield 12, 3) := by decide +kernel
theorem dX3_readNumber_4 : decode cX3_readNumber 4 = .ok (.getfield 43, 3) := by decide +kernel
theorem dX3_readNumber_7 : decode cX3_readNumber 7 = .ok (.iconst 2, 1) := by decide +kernel
theorem dX3_readNumber_8 : decode cX3_readNumber 8 = .ok (.if_icmp .eq 11, 3) := by decide +kernel
theorem dX3_readNumber_11 : decode cX3_readNumber 11 = .ok (.aload_n 0, 1) := by decide +kernel
theorem dX3_readNumber_12 : decode cX3_readNumber 12 = .ok (.iconst 1, 1) := by decide +kernel
theorem dX3_readNumber_13 : decode cX3_readNumber 13 = .ok (.invokevirtual 60, 3) := by decide +kernel
theorem dX3_readNumber_16 : decode cX3_readNumber 16 = .ok (.goto 23, 3) := by decide +kernel
theorem dX3_readNumber_19 : decode cX3_readNumber 19 = .ok (.aload_n 0, 1) := by decide +kernel
theorem dX3_readNumber_20 : decode cX3_readNumber 20 = .ok (.getfield 12, 3) := by decide +kernel
theorem dX3_readNumber_23 : decode cX3_readNumber 23 = .ok (.getfield 66, 3) := by decide +kernel
theorem dX3_readNumber_26 : decode cX3_readNumber 26 = .ok (.iload_n 1, 1) := by decide +kernel
theorem dX3_readNumber_27 : decode cX3_readNumber 27 = .ok (.iload_n 2, 1) := by decide +kernel
theorem dX3_readNumber_28 : decode cX3_readNumber 28 = .ok (.invokestatic 69, 3) := by decide +kernel
theorem dX3_readNumber_31 : decode cX3_readNumber 31 = .ok (.ifCond .ne 8, 3) := by decide +kernel
theorem dX3_readNumber_34 : decode cX3_readNumber 34 = .ok (.aload_n 0, 1) := by decide +kernel
theorem dX3_readNumber_35 : decode cX3_readNumber 35 = .ok (.iconst 2, 1) := by decide +kernel
theorem dX3_readNumber_36 : decode cX3_readNumber 36 = .ok (.invokevirtual 60, 3) := by decide +kernel
theorem dX3_readNumber_39 : decode cX3_readNumber 39 = .ok (.aload_n 0, 1) := by decide +kernel
theorem dX3_readNumber_40 : decode cX3_readNumber 40 = .ok (.getfield 12, 3) := by decide +kernel
theorem dX3_readNumber_43 : decode cX3_readNumber 43 = .ok (.getfield 66, 3) := by decide +kernel
theorem dX3_readNumber_46 : decode cX3_readNumber 46 = .ok (.istore_n 3, 1) := by decide +kernel
theorem dX3_readNumber_47 : decode cX3_readNumber 47 = .ok (.aload_n 0, 1) := by decide +kernel
theorem dX3_readNumber_48 : decode cX3_readNumber 48 = .ok (.invokevirtual 39, 3) := by decide +kernel
theorem dX3_readNumber_51 : decode cX3_readNumber 51 = .ok (.ifCond .eq 10, 3) := by decide +kernel
theorem dX3_readNumber_54 : decode cX3_readNumber 54 = .ok (.aload_n 0, 1) := by decide +kernel
theorem dX3_readNumber_55 : decode cX3_readNumber 55 = .ok (.getfield 12, 3) := by decide +kernel
theorem dX3_readNumber_58 : decode cX3_readNumber 58 = .ok (.invokevirtual 63, 3) := by decide +kernel
theorem dX3_readNumber_61 : decode cX3_readNumber 61 = .ok (.iload_n 3, 1) := by decide +kernel
theorem dX3_readNumber_62 : decode cX3_readNumber 62 = .ok (.ireturn, 1) := by decide +kernel
theorem dX3_readLine_0 : decode cX3_readLine 0 = .ok (.aload_n 0, 1) := by decide +kernel
theorem dX3_readLine_1 : decode cX3_readLine 1 = .ok (.getfield 12, 3) := by decide +kernel
theorem dX3_readLine_4 : decode cX3_readLine 4 = .ok (.ldc 73, 2) := by decide +kernel
theorem dX3_readLine_6 : decode cX3_readLine 6 = .ok (.invokevirtual 75, 3) := by decide +kernel
theorem dX3_readLine_9 : decode cX3_readLine 9 = .ok (.ifCond .eq 11, 3) := by decide +kernel
theorem dX3_readLine_12 : decode cX3_readLine 12 = .ok (.aload_n 0, 1) := by decide +kernel
theorem dX3_readLine_13 : decode cX3_readLine 13 = .ok (.iconst 0, 1) := by decide +kernel
theorem dX3_readLine_14 : decode cX3_readLine 14 = .ok (.invokevirtual 79, 3) := by decide +kernel
theorem dX3_readLine_17 : decode cX3_readLine 17 = .ok (.goto 137, 3) := by decide +kernel
theorem dX3_readLine_20 : decode cX3_readLine 20 = .ok (.aload_n 0, 1) := by decide +kernel
theorem dX3_readLine_21 : decode cX3_readLine 21 = .ok (.getfield 12, 3) := by decide +kernel
theorem dX3_readLine_24 : decode cX3_readLine 24 = .ok (.ldc 83, 2) := by decide +kernel
theorem dX3_readLine_26 : decode cX3_readLine 26 = .ok (.invokevirtual 75, 3) := by decide +kernel
theorem dX3_readLine_29 : decode cX3_readLine 29 = .ok (.ifCond .eq 11, 3) := by decide +kernel
theorem dX3_readLine_32 : decode cX3_readLine 32 = .ok (.aload_n 0, 1) := by decide +kernel
theorem dX3_readLine_33 : decode cX3_readLine 33 = .ok (.iconst 1, 1) := by decide +kernel
theorem dX3_readLine_34 : decode cX3_readLine 34 = .ok (.invokevirtual 79, 3) := by decide +kernel
theorem dX3_readLine_37 : decode cX3_readLine 37 = .ok (.goto 117, 3) := by decide +kernel
theorem dX3_readLine_40 : decode cX3_readLine 40 = .ok (.aload_n 0, 1) := by decide +kernel
theorem dX3_readLine_41 : decode cX3_readLine 41 = .ok (.getfield 12, 3) := by decide +kernel
theorem dX3_readLine_44 : decode cX3_readLine 44 = .ok (.ldc 85, 2) := by decide +kernel
theorem dX3_readLine_46 : decode cX3_readLine 46 = .ok (.invokevirtual 75, 3) := by decide +kernel
theorem dX3_readLine_49 : decode cX3_readLine 49 = .ok (.ifCond .eq 10, 3) := by decide +kernel
theorem dX3_readLine_52 : decode cX3_readLine 52 = .ok (.aload_n 0, 1) := by decide +kernel
theorem dX3_readLine_53 : decode cX3_readLine 53 = .ok (.invokevirtual 87, 3) := by decide +kernel
theorem dX3_readLine_56 : decode cX3_readLine 56 = .ok (.goto 98, 3) := by decide +kernel
theorem dX3_readLine_59 : decode cX3_readLine 59 = .ok (.aload_n 0, 1) := by decide +kernel
theorem dX3_readLine_60 : decode cX3_readLine 60 = .ok (.getfield 12, 3) := by decide +kernel
theorem dX3_readLine_63 : decode cX3_readLine 63 = .ok (.ldc 90, 2) := by decide +kernel
theorem dX3_readLine_65 : decode cX3_readLine 65 = .ok (.invokevirtual 75, 3) := by decide +kernel
theorem dX3_readLine_68 : decode cX3_readLine 68 = .ok (.ifCond .eq 10, 3) := by decide +kernel
theorem dX3_readLine_71 : decode cX3_readLine 71 = .ok (.aload_n 0, 1) := by decide +kernel
theorem dX3_readLine_72 : decode cX3_readLine 72 = .ok (.invokevirtual 92, 3) := by decide +kernel
theorem dX3_readLine_75 : decode cX3_readLine 75 = .ok (.goto 79, 3) := by decide +kernel
theorem dX3_readLine_78 : decode cX3_readLine 78 = .ok (.aload_n 0, 1) := by decide +kernel
theorem dX3_readLine_79 : decode cX3_readLine 79 = .ok (.getfield 12, 3) := by decide +kernel
theorem dX3_readLine_82 : decode cX3_readLine 82 = .ok (.ldc 95, 2) := by decide +kernel
theorem dX3_readLine_84 : decode cX3_readLine 84 = .ok (.invokevirtual 75, 3) := by decide +kernel
theorem dX3_readLine_87 : decode cX3_readLine 87 = .ok (.ifCond .eq 10, 3) := by decide +kernel
theorem dX3_readLine_90 : decode cX3_readLine 90 = .ok (.aload_n 0, 1) := by decide +kernel
theorem dX3_readLine_91 : decode cX3_readLine 91 = .ok (.invokevirtual 97, 3) := by decide +kernel
theorem dX3_readLine_94 : decode cX3_readLine 94 = .ok (.goto 60, 3) := by decide +kernel
theorem dX3_readLine_97 : decode cX3_readLine 97 = .ok (.aload_n 0, 1) := by decide +kernel
theorem dX3_readLine_98 : decode cX3_readLine 98 = .ok (.getfield 12, 3) := by decide +kernel
theorem dX3_readLine_101 : decode cX3_readLine 101 = .ok (.ldc 100, 2) := by decide +kernel
theorem dX3_readLine_103 : decode cX3_readLine 103 = .ok (.invokevirtual 75, 3) := by decide +kernel
theorem dX3_readLine_106 : decode cX3_readLine 106 = .ok (.ifCond .eq 17, 3) := by decide +kernel
theorem dX3_readLine_109 : decode cX3_readLine 109 = .ok (.aload_n 0, 1) := by decide +kernel
theorem dX3_readLine_110 : decode cX3_readLine 110 = .ok (.aload_n 0, 1) := by decide +kernel
theorem dX3_readLine_111 : decode cX3_readLine 111 = .ok (.getfield 21, 3) := by decide +kernel
theorem dX3_readLine_114 : decode cX3_readLine 114 = .ok (.getfield 102, 3) := by decide +kernel
theorem dX3_readLine_117 : decode cX3_readLine 117 = .ok (.invokevirtual 105, 3) := by decide +kernel
theorem dX3_readLine_120 : decode cX3_readLine 120 = .ok (.goto 34, 3) := by decide +kernel
theorem dX3_readLine_123 : decode cX3_readLine 123 = .ok (.aload_n 0, 1) := by decide +kernel
theorem dX3_readLine_124 : decode cX3_readLine 124 = .ok (.getfield 12, 3) := by decide +kernel
theorem dX3_readLine_127 : decode cX3_readLine 127 = .ok (.ldc 109, 2) := by decide +kernel
theorem dX3_readLine_129 : decode cX3_readLine 129 = .ok (.invokevirtual 75, 3) := by decide +kernel
theorem dX3_readLine_132 : decode cX3_readLine 132 = .ok (.ifCond .eq 17, 3) := by decide +kernel
theorem dX3_readLine_135 : decode cX3_readLine 135 = .ok (.aload_n 0, 1) := by decide +kernel
theorem dX3_readLine_136 : decode cX3_readLine 136 = .ok (.aload_n 0, 1) := by decide +kernel
theorem dX3_readLine_137 : decode cX3_readLine 137 = .ok (.getfield 21, 3) := by decide +kernel
theorem dX3_readLine_140 : decode cX3_readLine 140 = .ok (.getfield 111, 3) := by decide +kernel
theorem dX3_readLine_143 : decode cX3_readLine 143 = .ok (.invokevirtual 105, 3) := by decide +kernel
theorem dX3_readLine_146 : decode cX3_readLine 146 = .ok (.goto 8, 3) := by decide +kernel
theorem dX3_readLine_149 : decode cX3_readLine 149 = .ok (.aload_n 0, 1) := by decide +kernel
theorem dX3_readLine_150 : decode cX3_readLine 150 = .ok (.iconst 1, 1) := by decide +kernel
theorem dX3_readLine_151 : decode cX3_readLine 151 = .ok (.invokevirtual 60, 3) := by decide +kernel
theorem dX3_readLine_154 : decode cX3_readLine 154 = .ok (.return_, 1) := by decide +kernel
theorem dX3_readGrotto_0 : decode cX3_readGrotto 0 = .ok (.aload_n 0, 1) := by decide +kernel
theorem dX3_readGrotto_1 : decode cX3_readGrotto 1 = .ok (.getfield 21, 3) := by decide +kernel
theorem dX3_readGrotto_4 : decode cX3_readGrotto 4 = .ok (.getfield 113, 3) := by decide +kernel
theorem dX3_readGrotto_7 : decode cX3_readGrotto 7 = .ok (.istore_n 2, 1) := by decide +kernel
theorem dX3_readGrotto_8 : decode cX3_readGrotto 8 = .ok (.iload_n 2, 1) := by decide +kernel
theorem dX3_readGrotto_9 : decode cX3_readGrotto 9 = .ok (.bipush 8, 2) := by decide +kernel
theorem dX3_readGrotto_11 : decode cX3_readGrotto 11 = .ok (.if_icmp .lt 9, 3) := by decide +kernel
theorem dX3_readGrotto_14 : decode cX3_readGrotto 14 = .ok (.aload_n 0, 1) := by decide +kernel
theorem dX3_readGrotto_15 : decode cX3_readGrotto 15 = .ok (.iconst 2, 1) := by decide +kernel
theorem dX3_readGrotto_16 : decode cX3_readGrotto 16 = .ok (.invokevirtual 60, 3) := by decide +kernel
theorem dX3_readGrotto_19 : decode cX3_readGrotto 19 = .ok (.return_, 1) := by decide +kernel
theorem dX3_readGrotto_20 : decode cX3_readGrotto 20 = .ok (.aload_n 0, 1) := by decide +kernel
theorem dX3_readGrotto_21 : decode cX3_readGrotto 21 = .ok (.getfield 12, 3) := by decide +kernel
theorem dX3_readGrotto_24 : decode cX3_readGrotto 24 = .ok (.invokevirtual 63, 3) := by decide +kernel
theorem dX3_readGrotto_27 : decode cX3_readGrotto 27 = .ok (.aload_n 0, 1) := by decide +kernel
theorem dX3_readGrotto_28 : decode cX3_readGrotto 28 = .ok (.getfield 21, 3) := by decide +kernel
theorem dX3_readGrotto_31 : decode cX3_readGrotto 31 = .ok (.getfield 116, 3) := by decide +kernel
theorem dX3_readGrotto_34 : decode cX3_readGrotto 34 = .ok (.iload_n 2, 1) := by decide +kernel
theorem dX3_readGrotto_35 : decode cX3_readGrotto 35 = .ok (.aload_n 0, 1) := by decide +kernel
theorem dX3_readGrotto_36 : decode cX3_readGrotto 36 = .ok (.iconst 1, 1) := by decide +kernel
theorem dX3_readGrotto_37 : decode cX3_readGrotto 37 = .ok (.bipush 12, 2) := by decide +kernel
theorem dX3_readGrotto_39 : decode cX3_readGrotto 39 = .ok (.invokevirtual 120, 3) := by decide +kernel
theorem dX3_readGrotto_42 : decode cX3_readGrotto 42 = .ok (.iastore, 1) := by decide +kernel
theorem dX3_readGrotto_43 : decode cX3_readGrotto 43 = .ok (.aload_n 0, 1) := by decide +kernel
theorem dX3_readGrotto_44 : decode cX3_readGrotto 44 = .ok (.getfield 21, 3) := by decide +kernel
theorem dX3_readGrotto_47 : decode cX3_readGrotto 47 = .ok (.getfield 124, 3) := by decide +kernel
theorem dX3_readGrotto_50 : decode cX3_readGrotto 50 = .ok (.iload_n 2, 1) := by decide +kernel
theorem dX3_readGrotto_51 : decode cX3_readGrotto 51 = .ok (.aload_n 0, 1) := by decide +kernel
theorem dX3_readGrotto_52 : decode cX3_readGrotto 52 = .ok (.iconst 0, 1) := by decide +kernel
theorem dX3_readGrotto_53 : decode cX3_readGrotto 53 = .ok (.bipush 11, 2) := by decide +kernel
theorem dX3_readGrotto_55 : decode cX3_readGrotto 55 = .ok (.invokevirtual 120, 3) := by decide +kernel
theorem dX3_readGrotto_58 : decode cX3_readGrotto 58 = .ok (.iastore, 1) := by decide +kernel
theorem dX3_readGrotto_59 : decode cX3_readGrotto 59 = .ok (.aload_n 0, 1) := by decide +kernel
theorem dX3_readGrotto_60 : decode cX3_readGrotto 60 = .ok (.getfield 21, 3) := by decide +kernel
theorem dX3_readGrotto_63 : decode cX3_readGrotto 63 = .ok (.getfield 127, 3) := by decide +kernel
theorem dX3_readGrotto_66 : decode cX3_readGrotto 66 = .ok (.iload_n 2, 1) := by decide +kernel
theorem dX3_readGrotto_67 : decode cX3_readGrotto 67 = .ok (.aload_n 0, 1) := by decide +kernel
theorem dX3_readGrotto_68 : decode cX3_readGrotto 68 = .ok (.iconst 0, 1) := by decide +kernel
theorem dX3_readGrotto_69 : decode cX3_readGrotto 69 = .ok (.bipush 20, 2) := by decide +kernel
theorem dX3_readGrotto_71 : decode cX3_readGrotto 71 = .ok (.invokevirtual 120, 3) := by decide +kernel
theorem dX3_readGrotto_74 : decode cX3_readGrotto 74 = .ok (.iastore, 1) := by decide +kernel
theorem dX3_readGrotto_75 : decode cX3_readGrotto 75 = .ok (.aload_n 0, 1) := by decide +kernel
theorem dX3_readGrotto_76 : decode cX3_readGrotto 76 = .ok (.getfield 21, 3) := by decide +kernel
theorem dX3_readGrotto_79 : decode cX3_readGrotto 79 = .ok (.getfield 130, 3) := by decide +kernel
theorem dX3_readGrotto_82 : decode cX3_readGrotto 82 = .ok (.iload_n 2, 1) := by decide +kernel
theorem dX3_readGrotto_83 : decode cX3_readGrotto 83 = .ok (.iload_n 1, 1) := by decide +kernel
theorem dX3_readGrotto_84 : decode cX3_readGrotto 84 = .ok (.bastore, 1) := by decide +kernel
theorem dX3_readGrotto_85 : decode cX3_readGrotto 85 = .ok (.aload_n 0, 1) := by decide +kernel
theorem dX3_readGrotto_86 : decode cX3_readGrotto 86 = .ok (.getfield 21, 3) := by decide +kernel
theorem dX3_readGrotto_89 : decode cX3_readGrotto 89 = .ok (.dup, 1) := by decide +kernel
theorem dX3_readGrotto_90 : decode cX3_readGrotto 90 = .ok (.getfield 113, 3) := by decide +kernel
theorem dX3_readGrotto_93 : decode cX3_readGrotto 93 = .ok (.iconst 1, 1) := by decide +kernel
theorem dX3_readGrotto_94 : decode cX3_readGrotto 94 = .ok (.iadd, 1) := by decide +kernel
theorem dX3_readGrotto_95 : decode cX3_readGrotto 95 = .ok (.putfield 113, 3) := by decide +kernel
theorem dX3_readGrotto_98 : decode cX3_readGrotto 98 = .ok (.return_, 1) := by decide +kernel
theorem dX3_readGuild_0 : decode cX3_readGuild 0 = .ok (.aload_n 0, 1) := by decide +kernel
theorem dX3_readGuild_1 : decode cX3_readGuild 1 = .ok (.getfield 21, 3) := by decide +kernel
theorem dX3_readGuild_4 : decode cX3_readGuild 4 = .ok (.getfield 133, 3) := by decide +kernel
theorem dX3_readGuild_7 : decode cX3_readGuild 7 = .ok (.istore_n 1, 1) := by decide +kernel
theorem dX3_readGuild_8 : decode cX3_readGuild 8 = .ok (.iload_n 1, 1) := by decide +kernel
theorem dX3_readGuild_9 : decode cX3_readGuild 9 = .ok (.bipush 6, 2) := by decide +kernel
theorem dX3_readGuild_11 : decode cX3_readGuild 11 = .ok (.if_icmp .lt 9, 3) := by decide +kernel
theorem dX3_readGuild_14 : decode cX3_readGuild 14 = .ok (.aload_n 0, 1) := by decide +kernel
theorem dX3_readGuild_15 : decode cX3_readGuild 15 = .ok (.iconst 2, 1) := by decide +kernel
theorem dX3_readGuild_16 : decode cX3_readGuild 16 = .ok (.invokevirtual 60, 3) := by decide +kernel
theorem dX3_readGuild_19 : decode cX3_readGuild 19 = .ok (.return_, 1) := by decide +kernel
theorem dX3_readGuild_20 : decode cX3_readGuild 20 = .ok (.aload_n 0, 1) := by decide +kernel
theorem dX3_readGuild_21 : decode cX3_readGuild 21 = .ok (.getfield 12, 3) := by decide +kernel
theorem dX3_readGuild_24 : decode cX3_readGuild 24 = .ok (.invokevirtual 63, 3) := by decide +kernel
theorem dX3_readGuild_27 : decode cX3_readGuild 27 = .ok (.aload_n 0, 1) := by decide +kernel
theorem dX3_readGuild_28 : decode cX3_readGuild 28 = .ok (.getfield 21, 3) := by decide +kernel
theorem dX3_readGuild_31 : decode cX3_readGuild 31 = .ok (.getfield 136, 3) := by decide +kernel
theorem dX3_readGuild_34 : decode cX3_readGuild 34 = .ok (.iload_n 1, 1) := by decide +kernel
theorem dX3_readGuild_35 : decode cX3_readGuild 35 = .ok (.aload_n 0, 1) := by decide +kernel
theorem dX3_readGuild_36 : decode cX3_readGuild 36 = .ok (.iconst 0, 1) := by decide +kernel
theorem dX3_readGuild_37 : decode cX3_readGuild 37 = .ok (.bipush 9, 2) := by decide +kernel
theorem dX3_readGuild_39 : decode cX3_readGuild 39 = .ok (.invokevirtual 120, 3) := by decide +kernel
theorem dX3_readGuild_42 : decode cX3_readGuild 42 = .ok (.iastore, 1) := by decide +kernel
theorem dX3_readGuild_43 : decode cX3_readGuild 43 = .ok (.aload_n 0, 1) := by decide +kernel
theorem dX3_readGuild_44 : decode cX3_readGuild 44 = .ok (.getfield 21, 3) := by decide +kernel
theorem dX3_readGuild_47 : decode cX3_readGuild 47 = .ok (.getfield 139, 3) := by decide +kernel
theorem dX3_readGuild_50 : decode cX3_readGuild 50 = .ok (.iload_n 1, 1) := by decide +kernel
theorem dX3_readGuild_51 : decode cX3_readGuild 51 = .ok (.aload_n 0, 1) := by decide +kernel
theorem dX3_readGuild_52 : decode cX3_readGuild 52 = .ok (.iconst 0, 1) := by decide +kernel
theorem dX3_readGuild_53 : decode cX3_readGuild 53 = .ok (.bipush 99, 2) := by decide +kernel
theorem dX3_readGuild_55 : decode cX3_readGuild 55 = .ok (.invokevirtual 120, 3) := by decide +kernel
theorem dX3_readGuild_58 : decode cX3_readGuild 58 = .ok (.iastore, 1) := by decide +kernel
theorem dX3_readGuild_59 : decode cX3_readGuild 59 = .ok (.aload_n 0, 1) := by decide +kernel
theorem dX3_readGuild_60 : decode cX3_readGuild 60 = .ok (.getfield 21, 3) := by decide +kernel
theorem dX3_readGuild_63 : decode cX3_readGuild 63 = .ok (.getfield 142, 3) := by decide +kernel
theorem dX3_readGuild_66 : decode cX3_readGuild 66 = .ok (.iload_n 1, 1) := by decide +kernel
theorem dX3_readGuild_67 : decode cX3_readGuild 67 = .ok (.aload_n 0, 1) := by decide +kernel
theorem dX3_readGuild_68 : decode cX3_readGuild 68 = .ok (.iconst 0, 1) := by decide +kernel
theorem dX3_readGuild_69 : decode cX3_readGuild 69 = .ok (.sipush 999, 3) := by decide +kernel
theorem dX3_readGuild_72 : decode cX3_readGuild 72 = .ok (.invokevirtual 120, 3) := by decide +kernel
theorem dX3_readGuild_75 : decode cX3_readGuild 75 = .ok (.iastore, 1) := by decide +kernel
theorem dX3_readGuild_76 : decode cX3_readGuild 76 = .ok (.aload_n 0, 1) := by decide +kernel
theorem dX3_readGuild_77 : decode cX3_readGuild 77 = .ok (.getfield 21, 3) := by decide +kernel
theorem dX3_readGuild_80 : decode cX3_readGuild 80 = .ok (.getfield 145, 3) := by decide +kernel
theorem dX3_readGuild_83 : decode cX3_readGuild 83 = .ok (.iload_n 1, 1) := by decide +kernel
theorem dX3_readGuild_84 : decode cX3_readGuild 84 = .ok (.iconst (-1), 1) := by decide +kernel
theorem dX3_readGuild_85 : decode cX3_readGuild 85 = .ok (.iastore, 1) := by decide +kernel
theorem dX3_readGuild_86 : decode cX3_readGuild 86 = .ok (.aload_n 0, 1) := by decide +kernel
theorem dX3_readGuild_87 : decode cX3_readGuild 87 = .ok (.invokevirtual 39, 3) := by decide +kernel
theorem dX3_readGuild_90 : decode cX3_readGuild 90 = .ok (.ifCond .eq 35, 3) := by decide +kernel
theorem dX3_readGuild_93 : decode cX3_readGuild 93 = .ok (.aload_n 0, 1) := by decide +kernel
theorem dX3_readGuild_94 : decode cX3_readGuild 94 = .ok (.getfield 12, 3) := by decide +kernel
theorem dX3_readGuild_97 : decode cX3_readGuild 97 = .ok (.ldc 148, 2) := by decide +kernel
theorem dX3_readGuild_99 : decode cX3_readGuild 99 = .ok (.invokevirtual 75, 3) := by decide +kernel
theorem dX3_readGuild_102 : decode cX3_readGuild 102 = .ok (.ifCond .eq 23, 3) := by decide +kernel
theorem dX3_readGuild_105 : decode cX3_readGuild 105 = .ok (.aload_n 0, 1) := by decide +kernel
theorem dX3_readGuild_106 : decode cX3_readGuild 106 = .ok (.getfield 12, 3) := by decide +kernel
theorem dX3_readGuild_109 : decode cX3_readGuild 109 = .ok (.invokevirtual 63, 3) := by decide +kernel
theorem dX3_readGuild_112 : decode cX3_readGuild 112 = .ok (.aload_n 0, 1) := by decide +kernel
theorem dX3_readGuild_113 : decode cX3_readGuild 113 = .ok (.getfield 21, 3) := by decide +kernel
theorem dX3_readGuild_116 : decode cX3_readGuild 116 = .ok (.getfield 145, 3) := by decide +kernel
theorem dX3_readGuild_119 : decode cX3_readGuild 119 = .ok (.iload_n 1, 1) := by decide +kernel
theorem dX3_readGuild_120 : decode cX3_readGuild 120 = .ok (.aload_n 0, 1) := by decide +kernel
theorem dX3_readGuild_121 : decode cX3_readGuild 121 = .ok (.invokevirtual 150, 3) := by decide +kernel
theorem dX3_readGuild_124 : decode cX3_readGuild 124 = .ok (.iastore, 1) := by decide +kernel
theorem dX3_readGuild_125 : decode cX3_readGuild 125 = .ok (.aload_n 0, 1) := by decide +kernel
theorem dX3_readGuild_126 : decode cX3_readGuild 126 = .ok (.getfield 21, 3) := by decide +kernel
theorem dX3_readGuild_129 : decode cX3_readGuild 129 = .ok (.dup, 1) := by decide +kernel
theorem dX3_readGuild_130 : decode cX3_readGuild 130 = .ok (.getfield 133, 3) := by decide +kernel
theorem dX3_readGuild_133 : decode cX3_readGuild 133 = .ok (.iconst 1, 1) := by decide +kernel
theorem dX3_readGuild_134 : decode cX3_readGuild 134 = .ok (.iadd, 1) := by decide +kernel
theorem dX3_readGuild_135 : decode cX3_readGuild 135 = .ok (.putfield 133, 3) := by decide +kernel
theorem dX3_readGuild_138 : decode cX3_readGuild 138 = .ok (.return_, 1) := by decide +kernel
theorem dX3_readHired_0 : decode cX3_readHired 0 = .ok (.aload_n 0, 1) := by decide +kernel
theorem dX3_readHired_1 : decode cX3_readHired 1 = .ok (.getfield 12, 3) := by decide +kernel
theorem dX3_readHired_4 : decode cX3_readHired 4 = .ok (.getfield 43, 3) := by decide +kernel
theorem dX3_readHired_7 : decode cX3_readHired 7 = .ok (.iconst 2, 1) := by decide +kernel
theorem dX3_readHired_8 : decode cX3_readHired 8 = .ok (.if_icmp .ne 63, 3) := by decide +kernel
theorem dX3_readHired_11 : decode cX3_readHired 11 = .ok (.aload_n 0, 1) := by decide +kernel
theorem dX3_readHired_12 : decode cX3_readHired 12 = .ok (.getfield 12, 3) := by decide +kernel
theorem dX3_readHired_15 : decode cX3_readHired 15 = .ok (.getfield 66, 3) := by decide +kernel
theorem dX3_readHired_18 : decode cX3_readHired 18 = .ok (.sipush 9999, 3) := by decide +kernel
theorem dX3_readHired_21 : decode cX3_readHired 21 = .ok (.if_icmp .gt 50, 3) := by decide +kernel
theorem dX3_readHired_24 : decode cX3_readHired 24 = .ok (.aload_n 0, 1) := by decide +kernel
theorem dX3_readHired_25 : decode cX3_readHired 25 = .ok (.getfield 21, 3) := by decide +kernel
theorem dX3_readHired_28 : decode cX3_readHired 28 = .ok (.aload_n 0, 1) := by decide +kernel
theorem dX3_readHired_29 : decode cX3_readHired 29 = .ok (.getfield 12, 3) := by decide +kernel
theorem dX3_readHired_32 : decode cX3_readHired 32 = .ok (.getfield 66, 3) := by decide +kernel
theorem dX3_readHired_35 : decode cX3_readHired 35 = .ok (.invokevirtual 154, 3) := by decide +kernel
theorem dX3_readHired_38 : decode cX3_readHired 38 = .ok (.ifCond .ne 11, 3) := by decide +kernel
theorem dX3_readHired_41 : decode cX3_readHired 41 = .ok (.aload_n 0, 1) := by decide +kernel
theorem dX3_readHired_42 : decode cX3_readHired 42 = .ok (.iconst 3, 1) := by decide +kernel
theorem dX3_readHired_43 : decode cX3_readHired 43 = .ok (.invokevirtual 60, 3) := by decide +kernel
theorem dX3_readHired_46 : decode cX3_readHired 46 = .ok (.goto 25, 3) := by decide +kernel
theorem dX3_readHired_49 : decode cX3_readHired 49 = .ok (.aload_n 0, 1) := by decide +kernel
theorem dX3_readHired_50 : decode cX3_readHired 50 = .ok (.getfield 21, 3) := by decide +kernel
theorem dX3_readHired_53 : decode cX3_readHired 53 = .ok (.aload_n 0, 1) := by decide +kernel
theorem dX3_readHired_54 : decode cX3_readHired 54 = .ok (.getfield 12, 3) := by decide +kernel
theorem dX3_readHired_57 : decode cX3_readHired 57 = .ok (.getfield 66, 3) := by decide +kernel
theorem dX3_readHired_60 : decode cX3_readHired 60 = .ok (.invokevirtual 158, 3) := by decide +kernel
theorem dX3_readHired_63 : decode cX3_readHired 63 = .ok (.ifCond .eq 8, 3) := by decide +kernel
theorem dX3_readHired_66 : decode cX3_readHired 66 = .ok (.aload_n 0, 1) := by decide +kernel
theorem dX3_readHired_67 : decode cX3_readHired 67 = .ok (.iconst 4, 1) := by decide +kernel
theorem dX3_readHired_68 : decode cX3_readHired 68 = .ok (.invokevirtual 60, 3) := by decide +kernel
theorem dX3_readHired_71 : decode cX3_readHired 71 = .ok (.aload_n 0, 1) := by decide +kernel
theorem dX3_readHired_72 : decode cX3_readHired 72 = .ok (.iconst 0, 1) := by decide +kernel
theorem dX3_readHired_73 : decode cX3_readHired 73 = .ok (.sipush 9999, 3) := by decide +kernel
theorem dX3_readHired_76 : decode cX3_readHired 76 = .ok (.invokevirtual 120, 3) := by decide +kernel
theorem dX3_readHired_79 : decode cX3_readHired 79 = .ok (.ireturn, 1) := by decide +kernel
theorem dX3_readWet_0 : decode cX3_readWet 0 = .ok (.aload_n 0, 1) := by decide +kernel
theorem dX3_readWet_1 : decode cX3_readWet 1 = .ok (.getfield 21, 3) := by decide +kernel
theorem dX3_readWet_4 : decode cX3_readWet 4 = .ok (.getfield 161, 3) := by decide +kernel
theorem dX3_readWet_7 : decode cX3_readWet 7 = .ok (.ifCond .le 9, 3) := by decide +kernel
theorem dX3_readWet_10 : decode cX3_readWet 10 = .ok (.aload_n 0, 1) := by decide +kernel
theorem dX3_readWet_11 : decode cX3_readWet 11 = .ok (.iconst 5, 1) := by decide +kernel
theorem dX3_readWet_12 : decode cX3_readWet 12 = .ok (.invokevirtual 60, 3) := by decide +kernel
theorem dX3_readWet_15 : decode cX3_readWet 15 = .ok (.return_, 1) := by decide +kernel
theorem dX3_readWet_16 : decode cX3_readWet 16 = .ok (.aload_n 0, 1) := by decide +kernel
theorem dX3_readWet_17 : decode cX3_readWet 17 = .ok (.getfield 12, 3) := by decide +kernel
theorem dX3_readWet_20 : decode cX3_readWet 20 = .ok (.invokevirtual 63, 3) := by decide +kernel
theorem dX3_readWet_23 : decode cX3_readWet 23 = .ok (.aload_n 0, 1) := by decide +kernel
theorem dX3_readWet_24 : decode cX3_readWet 24 = .ok (.getfield 21, 3) := by decide +kernel
theorem dX3_readWet_27 : decode cX3_readWet 27 = .ok (.getfield 164, 3) := by decide +kernel
theorem dX3_readWet_30 : decode cX3_readWet 30 = .ok (.iconst 0, 1) := by decide +kernel
theorem dX3_readWet_31 : decode cX3_readWet 31 = .ok (.aload_n 0, 1) := by decide +kernel
theorem dX3_readWet_32 : decode cX3_readWet 32 = .ok (.iconst 0, 1) := by decide +kernel
theorem dX3_readWet_33 : decode cX3_readWet 33 = .ok (.bipush 9, 2) := by decide +kernel
theorem dX3_readWet_35 : decode cX3_readWet 35 = .ok (.invokevirtual 120, 3) := by decide +kernel
theorem dX3_readWet_38 : decode cX3_readWet 38 = .ok (.iastore, 1) := by decide +kernel
theorem dX3_readWet_39 : decode cX3_readWet 39 = .ok (.aload_n 0, 1) := by decide +kernel
theorem dX3_readWet_40 : decode cX3_readWet 40 = .ok (.getfield 21, 3) := by decide +kernel
theorem dX3_readWet_43 : decode cX3_readWet 43 = .ok (.iconst 1, 1) := by decide +kernel
theorem dX3_readWet_44 : decode cX3_readWet 44 = .ok (.putfield 161, 3) := by decide +kernel
theorem dX3_readWet_47 : decode cX3_readWet 47 = .ok (.iconst 1, 1) := by decide +kernel
theorem dX3_readWet_48 : decode cX3_readWet 48 = .ok (.istore_n 1, 1) := by decide +kernel
theorem dX3_readWet_49 : decode cX3_readWet 49 = .ok (.iload_n 1, 1) := by decide +kernel
theorem dX3_readWet_50 : decode cX3_readWet 50 = .ok (.bipush 8, 2) := by decide +kernel
theorem dX3_readWet_52 : decode cX3_readWet 52 = .ok (.if_icmp .gt 70, 3) := by decide +kernel
theorem dX3_readWet_55 : decode cX3_readWet 55 = .ok (.aload_n 0, 1) := by decide +kernel
theorem dX3_readWet_56 : decode cX3_readWet 56 = .ok (.invokevirtual 39, 3) := by decide +kernel
theorem dX3_readWet_59 : decode cX3_readWet 59 = .ok (.ifCond .eq 63, 3) := by decide +kernel
theorem dX3_readWet_62 : decode cX3_readWet 62 = .ok (.aload_n 0, 1) := by decide +kernel
theorem dX3_readWet_63 : decode cX3_readWet 63 = .ok (.getfield 12, 3) := by decide +kernel
theorem dX3_readWet_66 : decode cX3_readWet 66 = .ok (.getfield 43, 3) := by decide +kernel
theorem dX3_readWet_69 : decode cX3_readWet 69 = .ok (.iconst 2, 1) := by decide +kernel
theorem dX3_readWet_70 : decode cX3_readWet 70 = .ok (.if_icmp .ne 52, 3) := by decide +kernel
theorem dX3_readWet_73 : decode cX3_readWet 73 = .ok (.iload_n 1, 1) := by decide +kernel
theorem dX3_readWet_74 : decode cX3_readWet 74 = .ok (.bipush 8, 2) := by decide +kernel
theorem dX3_readWet_76 : decode cX3_readWet 76 = .ok (.if_icmp .ne 11, 3) := by decide +kernel
theorem dX3_readWet_79 : decode cX3_readWet 79 = .ok (.aload_n 0, 1) := by decide +kernel
theorem dX3_readWet_80 : decode cX3_readWet 80 = .ok (.iconst 2, 1) := by decide +kernel
theorem dX3_readWet_81 : decode cX3_readWet 81 = .ok (.invokevirtual 60, 3) := by decide +kernel
theorem dX3_readWet_84 : decode cX3_readWet 84 = .ok (.goto 32, 3) := by decide +kernel
theorem dX3_readWet_87 : decode cX3_readWet 87 = .ok (.aload_n 0, 1) := by decide +kernel
theorem dX3_readWet_88 : decode cX3_readWet 88 = .ok (.getfield 21, 3) := by decide +kernel
theorem dX3_readWet_91 : decode cX3_readWet 91 = .ok (.getfield 164, 3) := by decide +kernel
theorem dX3_readWet_94 : decode cX3_readWet 94 = .ok (.iload_n 1, 1) := by decide +kernel
theorem dX3_readWet_95 : decode cX3_readWet 95 = .ok (.aload_n 0, 1) := by decide +kernel
theorem dX3_readWet_96 : decode cX3_readWet 96 = .ok (.iconst 0, 1) := by decide +kernel
theorem dX3_readWet_97 : decode cX3_readWet 97 = .ok (.bipush 9, 2) := by decide +kernel
theorem dX3_readWet_99 : decode cX3_readWet 99 = .ok (.invokevirtual 120, 3) := by decide +kernel
theorem dX3_readWet_102 : decode cX3_readWet 102 = .ok (.iastore, 1) := by decide +kernel
theorem dX3_readWet_103 : decode cX3_readWet 103 = .ok (.aload_n 0, 1) := by decide +kernel
theorem dX3_readWet_104 : decode cX3_readWet 104 = .ok (.getfield 21, 3) := by decide +kernel
theorem dX3_readWet_107 : decode cX3_readWet 107 = .ok (.dup, 1) := by decide +kernel
theorem dX3_readWet_108 : decode cX3_readWet 108 = .ok (.getfield 161, 3) := by decide +kernel
theorem dX3_readWet_111 : decode cX3_readWet 111 = .ok (.iconst 1, 1) := by decide +kernel
theorem dX3_readWet_112 : decode cX3_readWet 112 = .ok (.iadd, 1) := by decide +kernel
theorem dX3_readWet_113 : decode cX3_readWet 113 = .ok (.putfield 161, 3) := by decide +kernel
theorem dX3_readWet_116 : decode cX3_readWet 116 = .ok (.iinc 1 1, 3) := by decide +kernel
theorem dX3_readWet_119 : decode cX3_readWet 119 = .ok (.goto (-70), 3) := by decide +kernel
theorem dX3_readWet_122 : decode cX3_readWet 122 = .ok (.return_, 1) := by decide +kernel
theorem dX3_readBound_0 : decode cX3_readBound 0 = .ok (.aload_n 0, 1) := by decide +kernel
theorem dX3_readBound_1 : decode cX3_readBound 1 = .ok (.getfield 21, 3) := by decide +kernel
theorem dX3_readBound_4 : decode cX3_readBound 4 = .ok (.invokevirtual 166, 3) := by decide +kernel
theorem dX3_readBound_7 : decode cX3_readBound 7 = .ok (.ifCond .eq 9, 3) := by decide +kernel
theorem dX3_readBound_10 : decode cX3_readBound 10 = .ok (.aload_n 0, 1) := by decide +kernel
theorem dX3_readBound_11 : decode cX3_readBound 11 = .ok (.iconst 5, 1) := by decide +kernel
theorem dX3_readBound_12 : decode cX3_readBound 12 = .ok (.invokevirtual 60, 3) := by decide +kernel
theorem dX3_readBound_15 : decode cX3_readBound 15 = .ok (.return_, 1) := by decide +kernel
theorem dX3_readBound_16 : decode cX3_readBound 16 = .ok (.aload_n 0, 1) := by decide +kernel
theorem dX3_readBound_17 : decode cX3_readBound 17 = .ok (.getfield 12, 3) := by decide +kernel
theorem dX3_readBound_20 : decode cX3_readBound 20 = .ok (.invokevirtual 63, 3) := by decide +kernel
theorem dX3_readBound_23 : decode cX3_readBound 23 = .ok (.aload_n 0, 1) := by decide +kernel
theorem dX3_readBound_24 : decode cX3_readBound 24 = .ok (.getfield 21, 3) := by decide +kernel
theorem dX3_readBound_27 : decode cX3_readBound 27 = .ok (.aload_n 0, 1) := by decide +kernel
theorem dX3_readBound_28 : decode cX3_readBound 28 = .ok (.iconst 1, 1) := by decide +kernel
theorem dX3_readBound_29 : decode cX3_readBound 29 = .ok (.bipush 99, 2) := by decide +kernel
theorem dX3_readBound_31 : decode cX3_readBound 31 = .ok (.invokevirtual 120, 3) := by decide +kernel
theorem dX3_readBound_34 : decode cX3_readBound 34 = .ok (.putfield 169, 3) := by decide +kernel
theorem dX3_readBound_37 : decode cX3_readBound 37 = .ok (.return_, 1) := by decide +kernel
theorem dX3_readRule_0 : decode cX3_readRule 0 = .ok (.aload_n 1, 1) := by decide +kernel
theorem dX3_readRule_1 : decode cX3_readRule 1 = .ok (.invokevirtual 171, 3) := by decide +kernel
theorem dX3_readRule_4 : decode cX3_readRule 4 = .ok (.ifCond .eq 9, 3) := by decide +kernel
theorem dX3_readRule_7 : decode cX3_readRule 7 = .ok (.aload_n 0, 1) := by decide +kernel
theorem dX3_readRule_8 : decode cX3_readRule 8 = .ok (.iconst 5, 1) := by decide +kernel
theorem dX3_readRule_9 : decode cX3_readRule 9 = .ok (.invokevirtual 60, 3) := by decide +kernel
theorem dX3_readRule_12 : decode cX3_readRule 12 = .ok (.return_, 1) := by decide +kernel
theorem dX3_readRule_13 : decode cX3_readRule 13 = .ok (.aload_n 0, 1) := by decide +kernel
theorem dX3_readRule_14 : decode cX3_readRule 14 = .ok (.getfield 12, 3) := by decide +kernel
theorem dX3_readRule_17 : decode cX3_readRule 17 = .ok (.invokevirtual 63, 3) := by decide +kernel
theorem dX3_readRule_20 : decode cX3_readRule 20 = .ok (.aload_n 0, 1) := by decide +kernel
theorem dX3_readRule_21 : decode cX3_readRule 21 = .ok (.aload_n 1, 1) := by decide +kernel
theorem dX3_readRule_22 : decode cX3_readRule 22 = .ok (.iconst 0, 1) := by decide +kernel
theorem dX3_readRule_23 : decode cX3_readRule 23 = .ok (.invokevirtual 176, 3) := by decide +kernel
theorem dX3_readRule_26 : decode cX3_readRule 26 = .ok (.return_, 1) := by decide +kernel
theorem dX3_readExpr_0 : decode cX3_readExpr 0 = .ok (.iload_n 2, 1) := by decide +kernel
theorem dX3_readExpr_1 : decode cX3_readExpr 1 = .ok (.iconst 5, 1) := by decide +kernel
theorem dX3_readExpr_2 : decode cX3_readExpr 2 = .ok (.if_icmp .le 57, 3) := by decide +kernel
theorem dX3_readExpr_5 : decode cX3_readExpr 5 = .ok (.aload_n 0, 1) := by decide +kernel
theorem dX3_readExpr_6 : decode cX3_readExpr 6 = .ok (.getfield 12, 3) := by decide +kernel
theorem dX3_readExpr_9 : decode cX3_readExpr 9 = .ok (.getfield 43, 3) := by decide +kernel
theorem dX3_readExpr_12 : decode cX3_readExpr 12 = .ok (.iconst 2, 1) := by decide +kernel
theorem dX3_readExpr_13 : decode cX3_readExpr 13 = .ok (.if_icmp .eq 26, 3) := by decide +kernel
theorem dX3_readExpr_16 : decode cX3_readExpr 16 = .ok (.aload_n 0, 1) := by decide +kernel
theorem dX3_readExpr_17 : decode cX3_readExpr 17 = .ok (.getfield 12, 3) := by decide +kernel
theorem dX3_readExpr_20 : decode cX3_readExpr 20 = .ok (.getfield 43, 3) := by decide +kernel
theorem dX3_readExpr_23 : decode cX3_readExpr 23 = .ok (.iconst 1, 1) := by decide +kernel
theorem dX3_readExpr_24 : decode cX3_readExpr 24 = .ok (.if_icmp .eq 15, 3) := by decide +kernel
theorem dX3_readExpr_27 : decode cX3_readExpr 27 = .ok (.aload_n 0, 1) := by decide +kernel
theorem dX3_readExpr_28 : decode cX3_readExpr 28 = .ok (.getfield 12, 3) := by decide +kernel
theorem dX3_readExpr_31 : decode cX3_readExpr 31 = .ok (.bipush 40, 2) := by decide +kernel
theorem dX3_readExpr_33 : decode cX3_readExpr 33 = .ok (.invokevirtual 56, 3) := by decide +kernel
theorem dX3_readExpr_36 : decode cX3_readExpr 36 = .ok (.ifCond .eq 7, 3) := by decide +kernel
theorem dX3_readExpr_39 : decode cX3_readExpr 39 = .ok (.iconst 1, 1) := by decide +kernel
theorem dX3_readExpr_40 : decode cX3_readExpr 40 = .ok (.goto 4, 3) := by decide +kernel
theorem dX3_readExpr_43 : decode cX3_readExpr 43 = .ok (.iconst 0, 1) := by decide +kernel
theorem dX3_readExpr_44 : decode cX3_readExpr 44 = .ok (.istore_n 3, 1) := by decide +kernel
theorem dX3_readExpr_45 : decode cX3_readExpr 45 = .ok (.aload_n 0, 1) := by decide +kernel
theorem dX3_readExpr_46 : decode cX3_readExpr 46 = .ok (.iload_n 3, 1) := by decide +kernel
theorem dX3_readExpr_47 : decode cX3_readExpr 47 = .ok (.ifCond .eq 7, 3) := by decide +kernel
theorem dX3_readExpr_50 : decode cX3_readExpr 50 = .ok (.iconst 2, 1) := by decide +kernel
theorem dX3_readExpr_51 : decode cX3_readExpr 51 = .ok (.goto 4, 3) := by decide +kernel
theorem dX3_readExpr_54 : decode cX3_readExpr 54 = .ok (.iconst 1, 1) := by decide +kernel
theorem dX3_readExpr_55 : decode cX3_readExpr 55 = .ok (.invokevirtual 60, 3) := by decide +kernel
theorem dX3_readExpr_58 : decode cX3_readExpr 58 = .ok (.return_, 1) := by decide +kernel
theorem dX3_readExpr_59 : decode cX3_readExpr 59 = .ok (.aload_n 0, 1) := by decide +kernel
theorem dX3_readExpr_60 : decode cX3_readExpr 60 = .ok (.aload_n 1, 1) := by decide +kernel
theorem dX3_readExpr_61 : decode cX3_readExpr 61 = .ok (.iload_n 2, 1) := by decide +kernel
theorem dX3_readExpr_62 : decode cX3_readExpr 62 = .ok (.invokevirtual 180, 3) := by decide +kernel
theorem dX3_readExpr_65 : decode cX3_readExpr 65 = .ok (.iconst 0, 1) := by decide +kernel
theorem dX3_readExpr_66 : decode cX3_readExpr 66 = .ok (.istore_n 3, 1) := by decide +kernel
theorem dX3_readExpr_67 : decode cX3_readExpr 67 = .ok (.iload_n 3, 1) := by decide +kernel
theorem dX3_readExpr_68 : decode cX3_readExpr 68 = .ok (.sipush 700, 3) := by decide +kernel
theorem dX3_readExpr_71 : decode cX3_readExpr 71 = .ok (.if_icmp .ge 48, 3) := by decide +kernel
theorem dX3_readExpr_74 : decode cX3_readExpr 74 = .ok (.aload_n 0, 1) := by decide +kernel
theorem dX3_readExpr_75 : decode cX3_readExpr 75 = .ok (.invokevirtual 39, 3) := by decide +kernel
theorem dX3_readExpr_78 : decode cX3_readExpr 78 = .ok (.ifCond .eq 41, 3) := by decide +kernel
theorem dX3_readExpr_81 : decode cX3_readExpr 81 = .ok (.aload_n 0, 1) := by decide +kernel
theorem dX3_readExpr_82 : decode cX3_readExpr 82 = .ok (.getfield 12, 3) := by decide +kernel
theorem dX3_readExpr_85 : decode cX3_readExpr 85 = .ok (.ldc 183, 2) := by decide +kernel
theorem dX3_readExpr_87 : decode cX3_readExpr 87 = .ok (.invokevirtual 75, 3) := by decide +kernel
theorem dX3_readExpr_90 : decode cX3_readExpr 90 = .ok (.ifCond .eq 29, 3) := by decide +kernel
theorem dX3_readExpr_93 : decode cX3_readExpr 93 = .ok (.aload_n 0, 1) := by decide +kernel
theorem dX3_readExpr_94 : decode cX3_readExpr 94 = .ok (.getfield 12, 3) := by decide +kernel
theorem dX3_readExpr_97 : decode cX3_readExpr 97 = .ok (.invokevirtual 63, 3) := by decide +kernel
theorem dX3_readExpr_100 : decode cX3_readExpr 100 = .ok (.aload_n 0, 1) := by decide +kernel
theorem dX3_readExpr_101 : decode cX3_readExpr 101 = .ok (.aload_n 1, 1) := by decide +kernel
theorem dX3_readExpr_102 : decode cX3_readExpr 102 = .ok (.iload_n 2, 1) := by decide +kernel
theorem dX3_readExpr_103 : decode cX3_readExpr 103 = .ok (.invokevirtual 180, 3) := by decide +kernel
theorem dX3_readExpr_106 : decode cX3_readExpr 106 = .ok (.aload_n 1, 1) := by decide +kernel
theorem dX3_readExpr_107 : decode cX3_readExpr 107 = .ok (.sipush 10011, 3) := by decide +kernel
theorem dX3_readExpr_110 : decode cX3_readExpr 110 = .ok (.invokevirtual 185, 3) := by decide +kernel
theorem dX3_readExpr_113 : decode cX3_readExpr 113 = .ok (.iinc 3 1, 3) := by decide +kernel
theorem dX3_readExpr_116 : decode cX3_readExpr 116 = .ok (.goto (-49), 3) := by decide +kernel
theorem dX3_readExpr_119 : decode cX3_readExpr 119 = .ok (.return_, 1) := by decide +kernel
theorem dX3_readAnd_0 : decode cX3_readAnd 0 = .ok (.aload_n 0, 1) := by decide +kernel
theorem dX3_readAnd_1 : decode cX3_readAnd 1 = .ok (.aload_n 1, 1) := by decide +kernel
theorem dX3_readAnd_2 : decode cX3_readAnd 2 = .ok (.iload_n 2, 1) := by decide +kernel
theorem dX3_readAnd_3 : decode cX3_readAnd 3 = .ok (.invokevirtual 188, 3) := by decide +kernel
theorem dX3_readAnd_6 : decode cX3_readAnd 6 = .ok (.iconst 0, 1) := by decide +kernel
theorem dX3_readAnd_7 : decode cX3_readAnd 7 = .ok (.istore_n 3, 1) := by decide +kernel
theorem dX3_readAnd_8 : decode cX3_readAnd 8 = .ok (.iload_n 3, 1) := by decide +kernel
theorem dX3_readAnd_9 : decode cX3_readAnd 9 = .ok (.sipush 700, 3) := by decide +kernel
theorem dX3_readAnd_12 : decode cX3_readAnd 12 = .ok (.if_icmp .ge 48, 3) := by decide +kernel
theorem dX3_readAnd_15 : decode cX3_readAnd 15 = .ok (.aload_n 0, 1) := by decide +kernel
theorem dX3_readAnd_16 : decode cX3_readAnd 16 = .ok (.invokevirtual 39, 3) := by decide +kernel
theorem dX3_readAnd_19 : decode cX3_readAnd 19 = .ok (.ifCond .eq 41, 3) := by decide +kernel
theorem dX3_readAnd_22 : decode cX3_readAnd 22 = .ok (.aload_n 0, 1) := by decide +kernel
theorem dX3_readAnd_23 : decode cX3_readAnd 23 = .ok (.getfield 12, 3) := by decide +kernel
theorem dX3_readAnd_26 : decode cX3_readAnd 26 = .ok (.ldc 191, 2) := by decide +kernel
theorem dX3_readAnd_28 : decode cX3_readAnd 28 = .ok (.invokevirtual 75, 3) := by decide +kernel
theorem dX3_readAnd_31 : decode cX3_readAnd 31 = .ok (.ifCond .eq 29, 3) := by decide +kernel
theorem dX3_readAnd_34 : decode cX3_readAnd 34 = .ok (.aload_n 0, 1) := by decide +kernel
theorem dX3_readAnd_35 : decode cX3_readAnd 35 = .ok (.getfield 12, 3) := by decide +kernel
theorem dX3_readAnd_38 : decode cX3_readAnd 38 = .ok (.invokevirtual 63, 3) := by decide +kernel
theorem dX3_readAnd_41 : decode cX3_readAnd 41 = .ok (.aload_n 0, 1) := by decide +kernel
theorem dX3_readAnd_42 : decode cX3_readAnd 42 = .ok (.aload_n 1, 1) := by decide +kernel
theorem dX3_readAnd_43 : decode cX3_readAnd 43 = .ok (.iload_n 2, 1) := by decide +kernel
theorem dX3_readAnd_44 : decode cX3_readAnd 44 = .ok (.invokevirtual 188, 3) := by decide +kernel
theorem dX3_readAnd_47 : decode cX3_readAnd 47 = .ok (.aload_n 1, 1) := by decide +kernel
theorem dX3_readAnd_48 : decode cX3_readAnd 48 = .ok (.sipush 10012, 3) := by decide +kernel
theorem dX3_readAnd_51 : decode cX3_readAnd 51 = .ok (.invokevirtual 185, 3) := by decide +kernel
theorem dX3_readAnd_54 : decode cX3_readAnd 54 = .ok (.iinc 3 1, 3) := by decide +kernel
theorem dX3_readAnd_57 : decode cX3_readAnd 57 = .ok (.goto (-49), 3) := by decide +kernel
theorem dX3_readAnd_60 : decode cX3_readAnd 60 = .ok (.return_, 1) := by decide +kernel
theorem dX3_readNot_0 : decode cX3_readNot 0 = .ok (.iconst 0, 1) := by decide +kernel
theorem dX3_readNot_1 : decode cX3_readNot 1 = .ok (.istore_n 3, 1) := by decide +kernel
theorem dX3_readNot_2 : decode cX3_readNot 2 = .ok (.iconst 0, 1) := by decide +kernel
theorem dX3_readNot_3 : decode cX3_readNot 3 = .ok (.istore 4, 2) := by decide +kernel
theorem dX3_readNot_5 : decode cX3_readNot 5 = .ok (.iload 4, 2) := by decide +kernel
theorem dX3_readNot_7 : decode cX3_readNot 7 = .ok (.bipush 6, 2) := by decide +kernel
theorem dX3_readNot_9 : decode cX3_readNot 9 = .ok (.if_icmp .ge 31, 3) := by decide +kernel
theorem dX3_readNot_12 : decode cX3_readNot 12 = .ok (.aload_n 0, 1) := by decide +kernel
theorem dX3_readNot_13 : decode cX3_readNot 13 = .ok (.getfield 12, 3) := by decide +kernel
theorem dX3_readNot_16 : decode cX3_readNot 16 = .ok (.ldc 193, 2) := by decide +kernel
theorem dX3_readNot_18 : decode cX3_readNot 18 = .ok (.invokevirtual 75, 3) := by decide +kernel
theorem dX3_readNot_21 : decode cX3_readNot 21 = .ok (.ifCond .eq 19, 3) := by decide +kernel
theorem dX3_readNot_24 : decode cX3_readNot 24 = .ok (.aload_n 0, 1) := by decide +kernel
theorem dX3_readNot_25 : decode cX3_readNot 25 = .ok (.getfield 12, 3) := by decide +kernel
theorem dX3_readNot_28 : decode cX3_readNot 28 = .ok (.invokevirtual 63, 3) := by decide +kernel
theorem dX3_readNot_31 : decode cX3_readNot 31 = .ok (.iinc 3 1, 3) := by decide +kernel
theorem dX3_readNot_34 : decode cX3_readNot 34 = .ok (.iinc 4 1, 3) := by decide +kernel
theorem dX3_readNot_37 : decode cX3_readNot 37 = .ok (.goto (-32), 3) := by decide +kernel
theorem dX3_readNot_40 : decode cX3_readNot 40 = .ok (.aload_n 0, 1) := by decide +kernel
theorem dX3_readNot_41 : decode cX3_readNot 41 = .ok (.getfield 12, 3) := by decide +kernel
theorem dX3_readNot_44 : decode cX3_readNot 44 = .ok (.ldc 193, 2) := by decide +kernel
theorem dX3_readNot_46 : decode cX3_readNot 46 = .ok (.invokevirtual 75, 3) := by decide +kernel
theorem dX3_readNot_49 : decode cX3_readNot 49 = .ok (.ifCond .eq 9, 3) := by decide +kernel
theorem dX3_readNot_52 : decode cX3_readNot 52 = .ok (.aload_n 0, 1) := by decide +kernel
theorem dX3_readNot_53 : decode cX3_readNot 53 = .ok (.iconst 2, 1) := by decide +kernel
theorem dX3_readNot_54 : decode cX3_readNot 54 = .ok (.invokevirtual 60, 3) := by decide +kernel
theorem dX3_readNot_57 : decode cX3_readNot 57 = .ok (.return_, 1) := by decide +kernel
theorem dX3_readNot_58 : decode cX3_readNot 58 = .ok (.aload_n 0, 1) := by decide +kernel
theorem dX3_readNot_59 : decode cX3_readNot 59 = .ok (.aload_n 1, 1) := by decide +kernel
theorem dX3_readNot_60 : decode cX3_readNot 60 = .ok (.iload_n 2, 1) := by decide +kernel
theorem dX3_readNot_61 : decode cX3_readNot 61 = .ok (.invokevirtual 195, 3) := by decide +kernel
theorem dX3_readNot_64 : decode cX3_readNot 64 = .ok (.iconst 0, 1) := by decide +kernel
theorem dX3_readNot_65 : decode cX3_readNot 65 = .ok (.istore 4, 2) := by decide +kernel
theorem dX3_readNot_67 : decode cX3_readNot 67 = .ok (.iload 4, 2) := by decide +kernel
theorem dX3_readNot_69 : decode cX3_readNot 69 = .ok (.iload_n 3, 1) := by decide +kernel
theorem dX3_readNot_70 : decode cX3_readNot 70 = .ok (.if_icmp .ge 16, 3) := by decide +kernel
theorem dX3_readNot_73 : decode cX3_readNot 73 = .ok (.aload_n 1, 1) := by decide +kernel
theorem dX3_readNot_74 : decode cX3_readNot 74 = .ok (.sipush 10010, 3) := by decide +kernel
theorem dX3_readNot_77 : decode cX3_readNot 77 = .ok (.invokevirtual 185, 3) := by decide +kernel
theorem dX3_readNot_80 : decode cX3_readNot 80 = .ok (.iinc 4 1, 3) := by decide +kernel
theorem dX3_readNot_83 : decode cX3_readNot 83 = .ok (.goto (-16), 3) := by decide +kernel
theorem dX3_readNot_86 : decode cX3_readNot 86 = .ok (.return_, 1) := by decide +kernel
theorem dX3_readTest_0 : decode cX3_readTest 0 = .ok (.aload_n 0, 1) := by decide +kernel
theorem dX3_readTest_1 : decode cX3_readTest 1 = .ok (.aload_n 1, 1) := by decide +kernel
theorem dX3_readTest_2 : decode cX3_readTest 2 = .ok (.iload_n 2, 1) := by decide +kernel
theorem dX3_readTest_3 : decode cX3_readTest 3 = .ok (.invokevirtual 198, 3) := by decide +kernel
theorem dX3_readTest_6 : decode cX3_readTest 6 = .ok (.aload_n 0, 1) := by decide +kernel
theorem dX3_readTest_7 : decode cX3_readTest 7 = .ok (.getfield 12, 3) := by decide +kernel
theorem dX3_readTest_10 : decode cX3_readTest 10 = .ok (.bipush 60, 2) := by decide +kernel
theorem dX3_readTest_12 : decode cX3_readTest 12 = .ok (.invokevirtual 56, 3) := by decide +kernel
theorem dX3_readTest_15 : decode cX3_readTest 15 = .ok (.istore_n 3, 1) := by decide +kernel
theorem dX3_readTest_16 : decode cX3_readTest 16 = .ok (.aload_n 0, 1) := by decide +kernel
theorem dX3_readTest_17 : decode cX3_readTest 17 = .ok (.invokevirtual 39, 3) := by decide +kernel
theorem dX3_readTest_20 : decode cX3_readTest 20 = .ok (.ifCond .eq 49, 3) := by decide +kernel
theorem dX3_readTest_23 : decode cX3_readTest 23 = .ok (.iload_n 3, 1) := by decide +kernel
theorem dX3_readTest_24 : decode cX3_readTest 24 = .ok (.ifCond .ne 15, 3) := by decide +kernel
theorem dX3_readTest_27 : decode cX3_readTest 27 = .ok (.aload_n 0, 1) := by decide +kernel
theorem dX3_readTest_28 : decode cX3_readTest 28 = .ok (.getfield 12, 3) := by decide +kernel
theorem dX3_readTest_31 : decode cX3_readTest 31 = .ok (.bipush 61, 2) := by decide +kernel
theorem dX3_readTest_33 : decode cX3_readTest 33 = .ok (.invokevirtual 56, 3) := by decide +kernel
theorem dX3_readTest_36 : decode cX3_readTest 36 = .ok (.ifCond .eq 33, 3) := by decide +kernel
theorem dX3_readTest_39 : decode cX3_readTest 39 = .ok (.aload_n 0, 1) := by decide +kernel
theorem dX3_readTest_40 : decode cX3_readTest 40 = .ok (.getfield 12, 3) := by decide +kernel
theorem dX3_readTest_43 : decode cX3_readTest 43 = .ok (.invokevirtual 63, 3) := by decide +kernel
theorem dX3_readTest_46 : decode cX3_readTest 46 = .ok (.aload_n 0, 1) := by decide +kernel
theorem dX3_readTest_47 : decode cX3_readTest 47 = .ok (.aload_n 1, 1) := by decide +kernel
theorem dX3_readTest_48 : decode cX3_readTest 48 = .ok (.iload_n 2, 1) := by decide +kernel
theorem dX3_readTest_49 : decode cX3_readTest 49 = .ok (.invokevirtual 198, 3) := by decide +kernel
theorem dX3_readTest_52 : decode cX3_readTest 52 = .ok (.aload_n 1, 1) := by decide +kernel
theorem dX3_readTest_53 : decode cX3_readTest 53 = .ok (.iload_n 3, 1) := by decide +kernel
theorem dX3_readTest_54 : decode cX3_readTest 54 = .ok (.ifCond .eq 9, 3) := by decide +kernel
theorem dX3_readTest_57 : decode cX3_readTest 57 = .ok (.sipush 10013, 3) := by decide +kernel
theorem dX3_readTest_60 : decode cX3_readTest 60 = .ok (.goto 6, 3) := by decide +kernel
theorem dX3_readTest_63 : decode cX3_readTest 63 = .ok (.sipush 10014, 3) := by decide +kernel
theorem dX3_readTest_66 : decode cX3_readTest 66 = .ok (.invokevirtual 185, 3) := by decide +kernel
theorem dX3_readTest_69 : decode cX3_readTest 69 = .ok (.return_, 1) := by decide +kernel
theorem dX3_readSum_0 : decode cX3_readSum 0 = .ok (.aload_n 0, 1) := by decide +kernel
theorem dX3_readSum_1 : decode cX3_readSum 1 = .ok (.aload_n 1, 1) := by decide +kernel
theorem dX3_readSum_2 : decode cX3_readSum 2 = .ok (.iload_n 2, 1) := by decide +kernel
theorem dX3_readSum_3 : decode cX3_readSum 3 = .ok (.invokevirtual 201, 3) := by decide +kernel
theorem dX3_readSum_6 : decode cX3_readSum 6 = .ok (.iconst 0, 1) := by decide +kernel
theorem dX3_readSum_7 : decode cX3_readSum 7 = .ok (.istore_n 3, 1) := by decide +kernel
theorem dX3_readSum_8 : decode cX3_readSum 8 = .ok (.iload_n 3, 1) := by decide +kernel
theorem dX3_readSum_9 : decode cX3_readSum 9 = .ok (.sipush 700, 3) := by decide +kernel
theorem dX3_readSum_12 : decode cX3_readSum 12 = .ok (.if_icmp .ge 82, 3) := by decide +kernel
theorem dX3_readSum_15 : decode cX3_readSum 15 = .ok (.aload_n 0, 1) := by decide +kernel
theorem dX3_readSum_16 : decode cX3_readSum 16 = .ok (.invokevirtual 39, 3) := by decide +kernel
theorem dX3_readSum_19 : decode cX3_readSum 19 = .ok (.ifCond .eq 75, 3) := by decide +kernel
theorem dX3_readSum_22 : decode cX3_readSum 22 = .ok (.aload_n 0, 1) := by decide +kernel
theorem dX3_readSum_23 : decode cX3_readSum 23 = .ok (.getfield 12, 3) := by decide +kernel
theorem dX3_readSum_26 : decode cX3_readSum 26 = .ok (.bipush 43, 2) := by decide +kernel
theorem dX3_readSum_28 : decode cX3_readSum 28 = .ok (.invokevirtual 56, 3) := by decide +kernel
theorem dX3_readSum_31 : decode cX3_readSum 31 = .ok (.ifCond .ne 15, 3) := by decide +kernel
theorem dX3_readSum_34 : decode cX3_readSum 34 = .ok (.aload_n 0, 1) := by decide +kernel
theorem dX3_readSum_35 : decode cX3_readSum 35 = .ok (.getfield 12, 3) := by decide +kernel
theorem dX3_readSum_38 : decode cX3_readSum 38 = .ok (.bipush 45, 2) := by decide +kernel
theorem dX3_readSum_40 : decode cX3_readSum 40 = .ok (.invokevirtual 56, 3) := by decide +kernel
theorem dX3_readSum_43 : decode cX3_readSum 43 = .ok (.ifCond .eq 51, 3) := by decide +kernel
theorem dX3_readSum_46 : decode cX3_readSum 46 = .ok (.aload_n 0, 1) := by decide +kernel
theorem dX3_readSum_47 : decode cX3_readSum 47 = .ok (.getfield 12, 3) := by decide +kernel
theorem dX3_readSum_50 : decode cX3_readSum 50 = .ok (.bipush 43, 2) := by decide +kernel
theorem dX3_readSum_52 : decode cX3_readSum 52 = .ok (.invokevirtual 56, 3) := by decide +kernel
theorem dX3_readSum_55 : decode cX3_readSum 55 = .ok (.ifCond .eq 9, 3) := by decide +kernel
theorem dX3_readSum_58 : decode cX3_readSum 58 = .ok (.sipush 10015, 3) := by decide +kernel
theorem dX3_readSum_61 : decode cX3_readSum 61 = .ok (.goto 6, 3) := by decide +kernel
theorem dX3_readSum_64 : decode cX3_readSum 64 = .ok (.sipush 10016, 3) := by decide +kernel
theorem dX3_readSum_67 : decode cX3_readSum 67 = .ok (.istore 4, 2) := by decide +kernel
theorem dX3_readSum_69 : decode cX3_readSum 69 = .ok (.aload_n 0, 1) := by decide +kernel
theorem dX3_readSum_70 : decode cX3_readSum 70 = .ok (.getfield 12, 3) := by decide +kernel
theorem dX3_readSum_73 : decode cX3_readSum 73 = .ok (.invokevirtual 63, 3) := by decide +kernel
theorem dX3_readSum_76 : decode cX3_readSum 76 = .ok (.aload_n 0, 1) := by decide +kernel
theorem dX3_readSum_77 : decode cX3_readSum 77 = .ok (.aload_n 1, 1) := by decide +kernel
theorem dX3_readSum_78 : decode cX3_readSum 78 = .ok (.iload_n 2, 1) := by decide +kernel
theorem dX3_readSum_79 : decode cX3_readSum 79 = .ok (.invokevirtual 201, 3) := by decide +kernel
theorem dX3_readSum_82 : decode cX3_readSum 82 = .ok (.aload_n 1, 1) := by decide +kernel
theorem dX3_readSum_83 : decode cX3_readSum 83 = .ok (.iload 4, 2) := by decide +kernel
theorem dX3_readSum_85 : decode cX3_readSum 85 = .ok (.invokevirtual 185, 3) := by decide +kernel
theorem dX3_readSum_88 : decode cX3_readSum 88 = .ok (.iinc 3 1, 3) := by decide +kernel
theorem dX3_readSum_91 : decode cX3_readSum 91 = .ok (.goto (-83), 3) := by decide +kernel
theorem dX3_readSum_94 : decode cX3_readSum 94 = .ok (.return_, 1) := by decide +kernel
theorem dX3_readProduct_0 : decode cX3_readProduct 0 = .ok (.aload_n 0, 1) := by decide +kernel
theorem dX3_readProduct_1 : decode cX3_readProduct 1 = .ok (.aload_n 1, 1) := by decide +kernel
theorem dX3_readProduct_2 : decode cX3_readProduct 2 = .ok (.iload_n 2, 1) := by decide +kernel
theorem dX3_readProduct_3 : decode cX3_readProduct 3 = .ok (.invokevirtual 204, 3) := by decide +kernel
theorem dX3_readProduct_6 : decode cX3_readProduct 6 = .ok (.iconst 0, 1) := by decide +kernel
theorem dX3_readProduct_7 : decode cX3_readProduct 7 = .ok (.istore_n 3, 1) := by decide +kernel
theorem dX3_readProduct_8 : decode cX3_readProduct 8 = .ok (.iload_n 3, 1) := by decide +kernel
theorem dX3_readProduct_9 : decode cX3_readProduct 9 = .ok (.sipush 700, 3) := by decide +kernel
theorem dX3_readProduct_12 : decode cX3_readProduct 12 = .ok (.if_icmp .ge 82, 3) := by decide +kernel
theorem dX3_readProduct_15 : decode cX3_readProduct 15 = .ok (.aload_n 0, 1) := by decide +kernel
theorem dX3_readProduct_16 : decode cX3_readProduct 16 = .ok (.invokevirtual 39, 3) := by decide +kernel
theorem dX3_readProduct_19 : decode cX3_readProduct 19 = .ok (.ifCond .eq 75, 3) := by decide +kernel
theorem dX3_readProduct_22 : decode cX3_readProduct 22 = .ok (.aload_n 0, 1) := by decide +kernel
theorem dX3_readProduct_23 : decode cX3_readProduct 23 = .ok (.getfield 12, 3) := by decide +kernel
theorem dX3_readProduct_26 : decode cX3_readProduct 26 = .ok (.bipush 42, 2) := by decide +kernel
theorem dX3_readProduct_28 : decode cX3_readProduct 28 = .ok (.invokevirtual 56, 3) := by decide +kernel
theorem dX3_readProduct_31 : decode cX3_readProduct 31 = .ok (.ifCond .ne 15, 3) := by decide +kernel
theorem dX3_readProduct_34 : decode cX3_readProduct 34 = .ok (.aload_n 0, 1) := by decide +kernel
theorem dX3_readProduct_35 : decode cX3_readProduct 35 = .ok (.getfield 12, 3) := by decide +kernel
theorem dX3_readProduct_38 : decode cX3_readProduct 38 = .ok (.bipush 47, 2) := by decide +kernel
theorem dX3_readProduct_40 : decode cX3_readProduct 40 = .ok (.invokevirtual 56, 3) := by decide +kernel
theorem dX3_readProduct_43 : decode cX3_readProduct 43 = .ok (.ifCond .eq 51, 3) := by decide +kernel
theorem dX3_readProduct_46 : decode cX3_readProduct 46 = .ok (.aload_n 0, 1) := by decide +kernel
theorem dX3_readProduct_47 : decode cX3_readProduct 47 = .ok (.getfield 12, 3) := by decide +kernel
theorem dX3_readProduct_50 : decode cX3_readProduct 50 = .ok (.bipush 42, 2) := by decide +kernel
theorem dX3_readProduct_52 : decode cX3_readProduct 52 = .ok (.invokevirtual 56, 3) := by decide +kernel
theorem dX3_readProduct_55 : decode cX3_readProduct 55 = .ok (.ifCond .eq 9, 3) := by decide +kernel
theorem dX3_readProduct_58 : decode cX3_readProduct 58 = .ok (.sipush 10017, 3) := by decide +kernel
theorem dX3_readProduct_61 : decode cX3_readProduct 61 = .ok (.goto 6, 3) := by decide +kernel
theorem dX3_readProduct_64 : decode cX3_readProduct 64 = .ok (.sipush 10018, 3) := by decide +kernel
theorem dX3_readProduct_67 : decode cX3_readProduct 67 = .ok (.istore 4, 2) := by decide +kernel
theorem dX3_readProduct_69 : decode cX3_readProduct 69 = .ok (.aload_n 0, 1) := by decide +kernel
theorem dX3_readProduct_70 : decode cX3_readProduct 70 = .ok (.getfield 12, 3) := by decide +kernel
theorem dX3_readProduct_73 : decode cX3_readProduct 73 = .ok (.invokevirtual 63, 3) := by decide +kernel
theorem dX3_readProduct_76 : decode cX3_readProduct 76 = .ok (.aload_n 0, 1) := by decide +kernel
theorem dX3_readProduct_77 : decode cX3_readProduct 77 = .ok (.aload_n 1, 1) := by decide +kernel
theorem dX3_readProduct_78 : decode cX3_readProduct 78 = .ok (.iload_n 2, 1) := by decide +kernel
theorem dX3_readProduct_79 : decode cX3_readProduct 79 = .ok (.invokevirtual 204, 3) := by decide +kernel
theorem dX3_readProduct_82 : decode cX3_readProduct 82 = .ok (.aload_n 1, 1) := by decide +kernel
theorem dX3_readProduct_83 : decode cX3_readProduct 83 = .ok (.iload 4, 2) := by decide +kernel
theorem dX3_readProduct_85 : decode cX3_readProduct 85 = .ok (.invokevirtual 185, 3) := by decide +kernel
theorem dX3_readProduct_88 : decode cX3_readProduct 88 = .ok (.iinc 3 1, 3) := by decide +kernel
theorem dX3_readProduct_91 : decode cX3_readProduct 91 = .ok (.goto (-83), 3) := by decide +kernel
theorem dX3_readProduct_94 : decode cX3_readProduct 94 = .ok (.return_, 1) := by decide +kernel
theorem dX3_readPart_0 : decode cX3_readPart 0 = .ok (.aload_n 0, 1) := by decide +kernel
theorem dX3_readPart_1 : decode cX3_readPart 1 = .ok (.getfield 12, 3) := by decide +kernel
theorem dX3_readPart_4 : decode cX3_readPart 4 = .ok (.bipush 40, 2) := by decide +kernel
theorem dX3_readPart_6 : decode cX3_readPart 6 = .ok (.invokevirtual 56, 3) := by decide +kernel
theorem dX3_readPart_9 : decode cX3_readPart 9 = .ok (.ifCond .eq 27, 3) := by decide +kernel
theorem dX3_readPart_12 : decode cX3_readPart 12 = .ok (.aload_n 0, 1) := by decide +kernel
theorem dX3_readPart_13 : decode cX3_readPart 13 = .ok (.getfield 12, 3) := by decide +kernel
theorem dX3_readPart_16 : decode cX3_readPart 16 = .ok (.invokevirtual 63, 3) := by decide +kernel
theorem dX3_readPart_19 : decode cX3_readPart 19 = .ok (.aload_n 0, 1) := by decide +kernel
theorem dX3_readPart_20 : decode cX3_readPart 20 = .ok (.aload_n 1, 1) := by decide +kernel
theorem dX3_readPart_21 : decode cX3_readPart 21 = .ok (.iload_n 2, 1) := by decide +kernel
theorem dX3_readPart_22 : decode cX3_readPart 22 = .ok (.iconst 1, 1) := by decide +kernel
theorem dX3_readPart_23 : decode cX3_readPart 23 = .ok (.iadd, 1) := by decide +kernel
theorem dX3_readPart_24 : decode cX3_readPart 24 = .ok (.invokevirtual 176, 3) := by decide +kernel
theorem dX3_readPart_27 : decode cX3_readPart 27 = .ok (.aload_n 0, 1) := by decide +kernel
theorem dX3_readPart_28 : decode cX3_readPart 28 = .ok (.bipush 41, 2) := by decide +kernel
theorem dX3_readPart_30 : decode cX3_readPart 30 = .ok (.invokevirtual 49, 3) := by decide +kernel
theorem dX3_readPart_33 : decode cX3_readPart 33 = .ok (.goto 62, 3) := by decide +kernel
theorem dX3_readPart_36 : decode cX3_readPart 36 = .ok (.aload_n 0, 1) := by decide +kernel
theorem dX3_readPart_37 : decode cX3_readPart 37 = .ok (.getfield 12, 3) := by decide +kernel
theorem dX3_readPart_40 : decode cX3_readPart 40 = .ok (.getfield 43, 3) := by decide +kernel
theorem dX3_readPart_43 : decode cX3_readPart 43 = .ok (.iconst 1, 1) := by decide +kernel
theorem dX3_readPart_44 : decode cX3_readPart 44 = .ok (.if_icmp .eq 18, 3) := by decide +kernel
theorem dX3_readPart_47 : decode cX3_readPart 47 = .ok (.aload_n 1, 1) := by decide +kernel
theorem dX3_readPart_48 : decode cX3_readPart 48 = .ok (.aload_n 0, 1) := by decide +kernel
theorem dX3_readPart_49 : decode cX3_readPart 49 = .ok (.iconst 0, 1) := by decide +kernel
theorem dX3_readPart_50 : decode cX3_readPart 50 = .ok (.sipush 9999, 3) := by decide +kernel
theorem dX3_readPart_53 : decode cX3_readPart 53 = .ok (.invokevirtual 120, 3) := by decide +kernel
theorem dX3_readPart_56 : decode cX3_readPart 56 = .ok (.invokevirtual 185, 3) := by decide +kernel
theorem dX3_readPart_59 : decode cX3_readPart 59 = .ok (.goto 36, 3) := by decide +kernel
theorem dX3_readPart_62 : decode cX3_readPart 62 = .ok (.aload_n 0, 1) := by decide +kernel
theorem dX3_readPart_63 : decode cX3_readPart 63 = .ok (.aload_n 1, 1) := by decide +kernel
theorem dX3_readPart_64 : decode cX3_readPart 64 = .ok (.invokevirtual 207, 3) := by decide +kernel
theorem dX3_readPart_67 : decode cX3_readPart 67 = .ok (.iconst (-1), 1) := by decide +kernel
theorem dX3_readPart_68 : decode cX3_readPart 68 = .ok (.if_icmp .ne 11, 3) := by decide +kernel
theorem dX3_readPart_71 : decode cX3_readPart 71 = .ok (.aload_n 0, 1) := by decide +kernel
theorem dX3_readPart_72 : decode cX3_readPart 72 = .ok (.iconst 3, 1) := by decide +kernel
theorem dX3_readPart_73 : decode cX3_readPart 73 = .ok (.invokevirtual 60, 3) := by decide +kernel
theorem dX3_readPart_76 : decode cX3_readPart 76 = .ok (.goto 19, 3) := by decide +kernel
theorem dX3_readPart_79 : decode cX3_readPart 79 = .ok (.aload_n 1, 1) := by decide +kernel
theorem dX3_readPart_80 : decode cX3_readPart 80 = .ok (.aload_n 0, 1) := by decide +kernel
theorem dX3_readPart_81 : decode cX3_readPart 81 = .ok (.aload_n 1, 1) := by decide +kernel
theorem dX3_readPart_82 : decode cX3_readPart 82 = .ok (.invokevirtual 207, 3) := by decide +kernel
theorem dX3_readPart_85 : decode cX3_readPart 85 = .ok (.invokevirtual 185, 3) := by decide +kernel
theorem dX3_readPart_88 : decode cX3_readPart 88 = .ok (.aload_n 0, 1) := by decide +kernel
theorem dX3_readPart_89 : decode cX3_readPart 89 = .ok (.getfield 12, 3) := by decide +kernel
theorem dX3_readPart_92 : decode cX3_readPart 92 = .ok (.invokevirtual 63, 3) := by decide +kernel
theorem dX3_readPart_95 : decode cX3_readPart 95 = .ok (.return_, 1) := by decide +kernel
theorem dX3_valueCode_0 : decode cX3_valueCode 0 = .ok (.aload_n 0, 1) := by decide +kernel
theorem dX3_valueCode_1 : decode cX3_valueCode 1 = .ok (.getfield 12, 3) := by decide +kernel
theorem dX3_valueCode_4 : decode cX3_valueCode 4 = .ok (.ldc 211, 2) := by decide +kernel
theorem dX3_valueCode_6 : decode cX3_valueCode 6 = .ok (.invokevirtual 75, 3) := by decide +kernel
theorem dX3_valueCode_9 : decode cX3_valueCode 9 = .ok (.ifCond .eq 7, 3) := by decide +kernel
theorem dX3_valueCode_12 : decode cX3_valueCode 12 = .ok (.sipush 10000, 3) := by decide +kernel
theorem dX3_valueCode_15 : decode cX3_valueCode 15 = .ok (.ireturn, 1) := by decide +kernel
theorem dX3_valueCode_16 : decode cX3_valueCode 16 = .ok (.aload_n 0, 1) := by decide +kernel
theorem dX3_valueCode_17 : decode cX3_valueCode 17 = .ok (.getfield 12, 3) := by decide +kernel
theorem dX3_valueCode_20 : decode cX3_valueCode 20 = .ok (.ldc 212, 2) := by decide +kernel
theorem dX3_valueCode_22 : decode cX3_valueCode 22 = .ok (.invokevirtual 75, 3) := by decide +kernel
theorem dX3_valueCode_25 : decode cX3_valueCode 25 = .ok (.ifCond .eq 7, 3) := by decide +kernel
theorem dX3_valueCode_28 : decode cX3_valueCode 28 = .ok (.sipush 10001, 3) := by decide +kernel
theorem dX3_valueCode_31 : decode cX3_valueCode 31 = .ok (.ireturn, 1) := by decide +kernel
theorem dX3_valueCode_32 : decode cX3_valueCode 32 = .ok (.aload_n 0, 1) := by decide +kernel
theorem dX3_valueCode_33 : decode cX3_valueCode 33 = .ok (.getfield 12, 3) := by decide +kernel
theorem dX3_valueCode_36 : decode cX3_valueCode 36 = .ok (.ldc 213, 2) := by decide +kernel
theorem dX3_valueCode_38 : decode cX3_valueCode 38 = .ok (.invokevirtual 75, 3) := by decide +kernel
theorem dX3_valueCode_41 : decode cX3_valueCode 41 = .ok (.ifCond .eq 7, 3) := by decide +kernel
theorem dX3_valueCode_44 : decode cX3_valueCode 44 = .ok (.sipush 10002, 3) := by decide +kernel
theorem dX3_valueCode_47 : decode cX3_valueCode 47 = .ok (.ireturn, 1) := by decide +kernel
theorem dX3_valueCode_48 : decode cX3_valueCode 48 = .ok (.aload_n 0, 1) := by decide +kernel
theorem dX3_valueCode_49 : decode cX3_valueCode 49 = .ok (.getfield 12, 3) := by decide +kernel
theorem dX3_valueCode_52 : decode cX3_valueCode 52 = .ok (.ldc 214, 2) := by decide +kernel
theorem dX3_valueCode_54 : decode cX3_valueCode 54 = .ok (.invokevirtual 75, 3) := by decide +kernel
theorem dX3_valueCode_57 : decode cX3_valueCode 57 = .ok (.ifCond .eq 7, 3) := by decide +kernel
theorem dX3_valueCode_60 : decode cX3_valueCode 60 = .ok (.sipush 10003, 3) := by decide +kernel
theorem dX3_valueCode_63 : decode cX3_valueCode 63 = .ok (.ireturn, 1) := by decide +kernel
theorem dX3_valueCode_64 : decode cX3_valueCode 64 = .ok (.aload_n 0, 1) := by decide +kernel
theorem dX3_valueCode_65 : decode cX3_valueCode 65 = .ok (.getfield 12, 3) := by decide +kernel
theorem dX3_valueCode_68 : decode cX3_valueCode 68 = .ok (.ldc 90, 2) := by decide +kernel
theorem dX3_valueCode_70 : decode cX3_valueCode 70 = .ok (.invokevirtual 75, 3) := by decide +kernel
theorem dX3_valueCode_73 : decode cX3_valueCode 73 = .ok (.ifCond .eq 7, 3) := by decide +kernel
theorem dX3_valueCode_76 : decode cX3_valueCode 76 = .ok (.sipush 10004, 3) := by decide +kernel
theorem dX3_valueCode_79 : decode cX3_valueCode 79 = .ok (.ireturn, 1) := by decide +kernel
theorem dX3_valueCode_80 : decode cX3_valueCode 80 = .ok (.aload_n 0, 1) := by decide +kernel
theorem dX3_valueCode_81 : decode cX3_valueCode 81 = .ok (.getfield 12, 3) := by decide +kernel
theorem dX3_valueCode_84 : decode cX3_valueCode 84 = .ok (.ldc 215, 2) := by decide +kernel
theorem dX3_valueCode_86 : decode cX3_valueCode 86 = .ok (.invokevirtual 75, 3) := by decide +kernel
theorem dX3_valueCode_89 : decode cX3_valueCode 89 = .ok (.ifCond .eq 7, 3) := by decide +kernel
theorem dX3_valueCode_92 : decode cX3_valueCode 92 = .ok (.sipush 10005, 3) := by decide +kernel
theorem dX3_valueCode_95 : decode cX3_valueCode 95 = .ok (.ireturn, 1) := by decide +kernel
theorem dX3_valueCode_96 : decode cX3_valueCode 96 = .ok (.aload_n 1, 1) := by decide +kernel
theorem dX3_valueCode_97 : decode cX3_valueCode 97 = .ok (.getfield 217, 3) := by decide +kernel
theorem dX3_valueCode_100 : decode cX3_valueCode 100 = .ok (.ifCond .eq 21, 3) := by decide +kernel
theorem dX3_valueCode_103 : decode cX3_valueCode 103 = .ok (.aload_n 0, 1) := by decide +kernel
theorem dX3_valueCode_104 : decode cX3_valueCode 104 = .ok (.getfield 12, 3) := by decide +kernel
theorem dX3_valueCode_107 : decode cX3_valueCode 107 = .ok (.ldc 221, 2) := by decide +kernel
theorem dX3_valueCode_109 : decode cX3_valueCode 109 = .ok (.invokevirtual 75, 3) := by decide +kernel
theorem dX3_valueCode_112 : decode cX3_valueCode 112 = .ok (.ifCond .eq 9, 3) := by decide +kernel
theorem dX3_valueCode_115 : decode cX3_valueCode 115 = .ok (.sipush 10006, 3) := by decide +kernel
theorem dX3_valueCode_118 : decode cX3_valueCode 118 = .ok (.goto 4, 3) := by decide +kernel
theorem dX3_valueCode_121 : decode cX3_valueCode 121 = .ok (.iconst (-1), 1) := by decide +kernel
theorem dX3_valueCode_122 : decode cX3_valueCode 122 = .ok (.ireturn, 1) := by decide +kernel
theorem dX4_init_0 : decode cX4_init 0 = .ok (.aload_n 0, 1) := by decide +kernel
theorem dX4_init_1 : decode cX4_init 1 = .ok (.invokespecial 3, 3) := by decide +kernel
theorem dX4_init_4 : decode cX4_init 4 = .ok (.aload_n 0, 1) := by decide +kernel
theorem dX4_init_5 : decode cX4_init 5 = .ok (.sipush 700, 3) := by decide +kernel
theorem dX4_init_8 : decode cX4_init 8 = .ok (.newarray .int, 2) := by decide +kernel
theorem dX4_init_10 : decode cX4_init 10 = .ok (.putfield 9, 3) := by decide +kernel
theorem dX4_init_13 : decode cX4_init 13 = .ok (.aload_n 0, 1) := by decide +kernel
theorem dX4_init_14 : decode cX4_init 14 = .ok (.bipush 31, 2) := by decide +kernel
theorem dX4_init_16 : decode cX4_init 16 = .ok (.newarray .int, 2) := by decide +kernel
theorem dX4_init_18 : decode cX4_init 18 = .ok (.putfield 15, 3) := by decide +kernel
theorem dX4_init_21 : decode cX4_init 21 = .ok (.aload_n 0, 1) := by decide +kernel
theorem dX4_init_22 : decode cX4_init 22 = .ok (.iconst 0, 1) := by decide +kernel
theorem dX4_init_23 : decode cX4_init 23 = .ok (.putfield 18, 3) := by decide +kernel
theorem dX4_init_26 : decode cX4_init 26 = .ok (.aload_n 0, 1) := by decide +kernel
theorem dX4_init_27 : decode cX4_init 27 = .ok (.iload_n 1, 1) := by decide +kernel
theorem dX4_init_28 : decode cX4_init 28 = .ok (.putfield 22, 3) := by decide +kernel
theorem dX4_init_31 : decode cX4_init 31 = .ok (.return_, 1) := by decide +kernel
theorem dX4_clear_0 : decode cX4_clear 0 = .ok (.aload_n 0, 1) := by decide +kernel
theorem dX4_clear_1 : decode cX4_clear 1 = .ok (.iconst 0, 1) := by decide +kernel
theorem dX4_clear_2 : decode cX4_clear 2 = .ok (.putfield 18, 3) := by decide +kernel
theorem dX4_clear_5 : decode cX4_clear 5 = .ok (.return_, 1) := by decide +kernel
theorem dX4_isTold_0 : decode cX4_isTold 0 = .ok (.aload_n 0, 1) := by decide +kernel
theorem dX4_isTold_1 : decode cX4_isTold 1 = .ok (.getfield 18, 3) := by decide +kernel
theorem dX4_isTold_4 : decode cX4_isTold 4 = .ok (.ifCond .le 7, 3) := by decide +kernel
theorem dX4_isTold_7 : decode cX4_isTold 7 = .ok (.iconst 1, 1) := by decide +kernel
theorem dX4_isTold_8 : decode cX4_isTold 8 = .ok (.goto 4, 3) := by decide +kernel
theorem dX4_isTold_11 : decode cX4_isTold 11 = .ok (.iconst 0, 1) := by decide +kernel
theorem dX4_isTold_12 : decode cX4_isTold 12 = .ok (.ireturn, 1) := by decide +kernel
theorem dX4_add_0 : decode cX4_add 0 = .ok (.aload_n 0, 1) := by decide +kernel
theorem dX4_add_1 : decode cX4_add 1 = .ok (.getfield 18, 3) := by decide +kernel
theorem dX4_add_4 : decode cX4_add 4 = .ok (.aload_n 0, 1) := by decide +kernel
theorem dX4_add_5 : decode cX4_add 5 = .ok (.getfield 9, 3) := by decide +kernel
theorem dX4_add_8 : decode cX4_add 8 = .ok (.arraylength, 1) := by decide +kernel
theorem dX4_add_9 : decode cX4_add 9 = .ok (.if_icmp .ge 23, 3) := by decide +kernel
theorem dX4_add_12 : decode cX4_add 12 = .ok (.aload_n 0, 1) := by decide +kernel
theorem dX4_add_13 : decode cX4_add 13 = .ok (.getfield 9, 3) := by decide +kernel
theorem dX4_add_16 : decode cX4_add 16 = .ok (.aload_n 0, 1) := by decide +kernel
theorem dX4_add_17 : decode cX4_add 17 = .ok (.getfield 18, 3) := by decide +kernel
theorem dX4_add_20 : decode cX4_add 20 = .ok (.iload_n 1, 1) := by decide +kernel
theorem dX4_add_21 : decode cX4_add 21 = .ok (.iastore, 1) := by decide +kernel
theorem dX4_add_22 : decode cX4_add 22 = .ok (.aload_n 0, 1) := by decide +kernel
theorem dX4_add_23 : decode cX4_add 23 = .ok (.dup, 1) := by decide +kernel
theorem dX4_add_24 : decode cX4_add 24 = .ok (.getfield 18, 3) := by decide +kernel
theorem dX4_add_27 : decode cX4_add 27 = .ok (.iconst 1, 1) := by decide +kernel
theorem dX4_add_28 : decode cX4_add 28 = .ok (.iadd, 1) := by decide +kernel
theorem dX4_add_29 : decode cX4_add 29 = .ok (.putfield 18, 3) := by decide +kernel
theorem dX4_add_32 : decode cX4_add 32 = .ok (.return_, 1) := by decide +kernel
theorem dX4_minds_0 : decode cX4_minds 0 = .ok (.iconst 0, 1) := by decide +kernel
theorem dX4_minds_1 : decode cX4_minds 1 = .ok (.istore_n 2, 1) := by decide +kernel
theorem dX4_minds_2 : decode cX4_minds 2 = .ok (.iload_n 2, 1) := by decide +kernel
theorem dX4_minds_3 : decode cX4_minds 3 = .ok (.aload_n 0, 1) := by decide +kernel
theorem dX4_minds_4 : decode cX4_minds 4 = .ok (.getfield 18, 3) := by decide +kernel
theorem dX4_minds_7 : decode cX4_minds 7 = .ok (.if_icmp .ge 21, 3) := by decide +kernel
theorem dX4_minds_10 : decode cX4_minds 10 = .ok (.aload_n 0, 1) := by decide +kernel
theorem dX4_minds_11 : decode cX4_minds 11 = .ok (.getfield 9, 3) := by decide +kernel
theorem dX4_minds_14 : decode cX4_minds 14 = .ok (.iload_n 2, 1) := by decide +kernel
theorem dX4_minds_15 : decode cX4_minds 15 = .ok (.iaload, 1) := by decide +kernel
theorem dX4_minds_16 : decode cX4_minds 16 = .ok (.iload_n 1, 1) := by decide +kernel
theorem dX4_minds_17 : decode cX4_minds 17 = .ok (.if_icmp .ne 5, 3) := by decide +kernel
theorem dX4_minds_20 : decode cX4_minds 20 = .ok (.iconst 1, 1) := by decide +kernel
theorem dX4_minds_21 : decode cX4_minds 21 = .ok (.ireturn, 1) := by decide +kernel
theorem dX4_minds_22 : decode cX4_minds 22 = .ok (.iinc 2 1, 3) := by decide +kernel
theorem dX4_minds_25 : decode cX4_minds 25 = .ok (.goto (-23), 3) := by decide +kernel
theorem dX4_minds_28 : decode cX4_minds 28 = .ok (.iconst 0, 1) := by decide +kernel
theorem dX4_minds_29 : decode cX4_minds 29 = .ok (.ireturn, 1) := by decide +kernel
theorem dX4_worth_0 : decode cX4_worth 0 = .ok (.iconst 0, 1) := by decide +kernel
theorem dX4_worth_1 : decode cX4_worth 1 = .ok (.istore_n 3, 1) := by decide +kernel
theorem dX4_worth_2 : decode cX4_worth 2 = .ok (.iconst 0, 1) := by decide +kernel
theorem dX4_worth_3 : decode cX4_worth 3 = .ok (.istore 4, 2) := by decide +kernel
theorem dX4_worth_5 : decode cX4_worth 5 = .ok (.iload 4, 2) := by decide +kernel
theorem dX4_worth_7 : decode cX4_worth 7 = .ok (.aload_n 0, 1) := by decide +kernel
theorem dX4_worth_8 : decode cX4_worth 8 = .ok (.getfield 18, 3) := by decide +kernel
theorem dX4_worth_11 : decode cX4_worth 11 = .ok (.if_icmp .ge 150, 3) := by decide +kernel
theorem dX4_worth_14 : decode cX4_worth 14 = .ok (.aload_n 0, 1) := by decide +kernel
theorem dX4_worth_15 : decode cX4_worth 15 = .ok (.getfield 9, 3) := by decide +kernel
theorem dX4_worth_18 : decode cX4_worth 18 = .ok (.iload 4, 2) := by decide +kernel
theorem dX4_worth_20 : decode cX4_worth 20 = .ok (.iaload, 1) := by decide +kernel
theorem dX4_worth_21 : decode cX4_worth 21 = .ok (.istore 5, 2) := by decide +kernel
theorem dX4_worth_23 : decode cX4_worth 23 = .ok (.iload 5, 2) := by decide +kernel
theorem dX4_worth_25 : decode cX4_worth 25 = .ok (.sipush 10010, 3) := by decide +kernel
theorem dX4_worth_28 : decode cX4_worth 28 = .ok (.if_icmp .ge 44, 3) := by decide +kernel
theorem dX4_worth_31 : decode cX4_worth 31 = .ok (.iload_n 3, 1) := by decide +kernel
theorem dX4_worth_32 : decode cX4_worth 32 = .ok (.aload_n 0, 1) := by decide +kernel
theorem dX4_worth_33 : decode cX4_worth 33 = .ok (.getfield 15, 3) := by decide +kernel
