theorem dX8_init_0 : decode cX8_init 0 = .ok (.aload_n 0, 1) := by decide +kernel
theorem dX8_init_1 : decode cX8_init 1 = .ok (.invokespecial 1, 3) := by decide +kernel
theorem dX8_init_4 : decode cX8_init 4 = .ok (.aload_n 0, 1) := by decide +kernel
theorem dX8_init_5 : decode cX8_init 5 = .ok (.sipush 816, 3) := by decide +kernel
theorem dX8_init_8 : decode cX8_init 8 = .ok (.newarray .int, 2) := by decide +kernel
theorem dX8_init_10 : decode cX8_init 10 = .ok (.putfield 7, 3) := by decide +kernel
theorem dX8_init_13 : decode cX8_init 13 = .ok (.aload_n 0, 1) := by decide +kernel
theorem dX8_init_14 : decode cX8_init 14 = .ok (.sipush 3264, 3) := by decide +kernel
theorem dX8_init_17 : decode cX8_init 17 = .ok (.newarray .int, 2) := by decide +kernel
theorem dX8_init_19 : decode cX8_init 19 = .ok (.putfield 13, 3) := by decide +kernel
theorem dX8_init_22 : decode cX8_init 22 = .ok (.aload_n 0, 1) := by decide +kernel
theorem dX8_init_23 : decode cX8_init 23 = .ok (.sipush 816, 3) := by decide +kernel
theorem dX8_init_26 : decode cX8_init 26 = .ok (.newarray .int, 2) := by decide +kernel
theorem dX8_init_28 : decode cX8_init 28 = .ok (.putfield 16, 3) := by decide +kernel
theorem dX8_init_31 : decode cX8_init 31 = .ok (.aload_n 0, 1) := by decide +kernel
theorem dX8_init_32 : decode cX8_init 32 = .ok (.bipush 16, 2) := by decide +kernel
theorem dX8_init_34 : decode cX8_init 34 = .ok (.newarray .int, 2) := by decide +kernel
theorem dX8_init_36 : decode cX8_init 36 = .ok (.putfield 19, 3) := by decide +kernel
theorem dX8_init_39 : decode cX8_init 39 = .ok (.aload_n 0, 1) := by decide +kernel
theorem dX8_init_40 : decode cX8_init 40 = .ok (.sipush 150, 3) := by decide +kernel
theorem dX8_init_43 : decode cX8_init 43 = .ok (.newarray .int, 2) := by decide +kernel
theorem dX8_init_45 : decode cX8_init 45 = .ok (.putfield 22, 3) := by decide +kernel
theorem dX8_init_48 : decode cX8_init 48 = .ok (.aload_n 0, 1) := by decide +kernel
theorem dX8_init_49 : decode cX8_init 49 = .ok (.iconst 3, 1) := by decide +kernel
theorem dX8_init_50 : decode cX8_init 50 = .ok (.newarray .int, 2) := by decide +kernel
theorem dX8_init_52 : decode cX8_init 52 = .ok (.putfield 25, 3) := by decide +kernel
theorem dX8_init_55 : decode cX8_init 55 = .ok (.aload_n 0, 1) := by decide +kernel
theorem dX8_init_56 : decode cX8_init 56 = .ok (.getfield 7, 3) := by decide +kernel
theorem dX8_init_59 : decode cX8_init 59 = .ok (.iconst 3, 1) := by decide +kernel
theorem dX8_init_60 : decode cX8_init 60 = .ok (.iconst 3, 1) := by decide +kernel
theorem dX8_init_61 : decode cX8_init 61 = .ok (.iastore, 1) := by decide +kernel
theorem dX8_init_62 : decode cX8_init 62 = .ok (.aload_n 0, 1) := by decide +kernel
theorem dX8_init_63 : decode cX8_init 63 = .ok (.getfield 7, 3) := by decide +kernel
theorem dX8_init_66 : decode cX8_init 66 = .ok (.iconst 4, 1) := by decide +kernel
theorem dX8_init_67 : decode cX8_init 67 = .ok (.iconst 2, 1) := by decide +kernel
theorem dX8_init_68 : decode cX8_init 68 = .ok (.iastore, 1) := by decide +kernel
theorem dX8_init_69 : decode cX8_init 69 = .ok (.aload_n 0, 1) := by decide +kernel
theorem dX8_init_70 : decode cX8_init 70 = .ok (.getfield 7, 3) := by decide +kernel
theorem dX8_init_73 : decode cX8_init 73 = .ok (.iconst 5, 1) := by decide +kernel
theorem dX8_init_74 : decode cX8_init 74 = .ok (.iconst 2, 1) := by decide +kernel
theorem dX8_init_75 : decode cX8_init 75 = .ok (.iastore, 1) := by decide +kernel
theorem dX8_init_76 : decode cX8_init 76 = .ok (.aload_n 0, 1) := by decide +kernel
theorem dX8_init_77 : decode cX8_init 77 = .ok (.getfield 7, 3) := by decide +kernel
theorem dX8_init_80 : decode cX8_init 80 = .ok (.bipush 6, 2) := by decide +kernel
theorem dX8_init_82 : decode cX8_init 82 = .ok (.bipush 8, 2) := by decide +kernel
theorem dX8_init_84 : decode cX8_init 84 = .ok (.iastore, 1) := by decide +kernel
theorem dX8_init_85 : decode cX8_init 85 = .ok (.return_, 1) := by decide +kernel
theorem dX8_thrown_0 : decode cX8_thrown 0 = .ok (.aload_n 0, 1) := by decide +kernel
theorem dX8_thrown_1 : decode cX8_thrown 1 = .ok (.getfield 28, 3) := by decide +kernel
theorem dX8_thrown_4 : decode cX8_thrown 4 = .ok (.ireturn, 1) := by decide +kernel
theorem dX8_in_0 : decode cX8_in 0 = .ok (.iload_n 0, 1) := by decide +kernel
theorem dX8_in_1 : decode cX8_in 1 = .ok (.iload_n 1, 1) := by decide +kernel
theorem dX8_in_2 : decode cX8_in 2 = .ok (.if_icmp .lt 12, 3) := by decide +kernel
theorem dX8_in_5 : decode cX8_in 5 = .ok (.iload_n 0, 1) := by decide +kernel
theorem dX8_in_6 : decode cX8_in 6 = .ok (.iload_n 2, 1) := by decide +kernel
theorem dX8_in_7 : decode cX8_in 7 = .ok (.if_icmp .gt 7, 3) := by decide +kernel
theorem dX8_in_10 : decode cX8_in 10 = .ok (.iconst 1, 1) := by decide +kernel
theorem dX8_in_11 : decode cX8_in 11 = .ok (.goto 4, 3) := by decide +kernel
theorem dX8_in_14 : decode cX8_in 14 = .ok (.iconst 0, 1) := by decide +kernel
theorem dX8_in_15 : decode cX8_in 15 = .ok (.ireturn, 1) := by decide +kernel
theorem dX8_fails_0 : decode cX8_fails 0 = .ok (.aload_n 0, 1) := by decide +kernel
theorem dX8_fails_1 : decode cX8_fails 1 = .ok (.iload_n 1, 1) := by decide +kernel
theorem dX8_fails_2 : decode cX8_fails 2 = .ok (.putfield 28, 3) := by decide +kernel
theorem dX8_fails_5 : decode cX8_fails 5 = .ok (.iconst 0, 1) := by decide +kernel
theorem dX8_fails_6 : decode cX8_fails 6 = .ok (.ireturn, 1) := by decide +kernel
theorem dX8_tells_0 : decode cX8_tells 0 = .ok (.aload_n 0, 1) := by decide +kernel
theorem dX8_tells_1 : decode cX8_tells 1 = .ok (.iconst 0, 1) := by decide +kernel
theorem dX8_tells_2 : decode cX8_tells 2 = .ok (.putfield 28, 3) := by decide +kernel
theorem dX8_tells_5 : decode cX8_tells 5 = .ok (.iload_n 1, 1) := by decide +kernel
theorem dX8_tells_6 : decode cX8_tells 6 = .ok (.ireturn, 1) := by decide +kernel
theorem dX8_laysAside_0 : decode cX8_laysAside 0 = .ok (.iconst 0, 1) := by decide +kernel
theorem dX8_laysAside_1 : decode cX8_laysAside 1 = .ok (.istore_n 1, 1) := by decide +kernel
theorem dX8_laysAside_2 : decode cX8_laysAside 2 = .ok (.iload_n 1, 1) := by decide +kernel
theorem dX8_laysAside_3 : decode cX8_laysAside 3 = .ok (.sipush 816, 3) := by decide +kernel
theorem dX8_laysAside_6 : decode cX8_laysAside 6 = .ok (.if_icmp .ge 21, 3) := by decide +kernel
theorem dX8_laysAside_9 : decode cX8_laysAside 9 = .ok (.aload_n 0, 1) := by decide +kernel
theorem dX8_laysAside_10 : decode cX8_laysAside 10 = .ok (.getfield 16, 3) := by decide +kernel
theorem dX8_laysAside_13 : decode cX8_laysAside 13 = .ok (.iload_n 1, 1) := by decide +kernel
theorem dX8_laysAside_14 : decode cX8_laysAside 14 = .ok (.aload_n 0, 1) := by decide +kernel
theorem dX8_laysAside_15 : decode cX8_laysAside 15 = .ok (.getfield 7, 3) := by decide +kernel
theorem dX8_laysAside_18 : decode cX8_laysAside 18 = .ok (.iload_n 1, 1) := by decide +kernel
theorem dX8_laysAside_19 : decode cX8_laysAside 19 = .ok (.iaload, 1) := by decide +kernel
theorem dX8_laysAside_20 : decode cX8_laysAside 20 = .ok (.iastore, 1) := by decide +kernel
theorem dX8_laysAside_21 : decode cX8_laysAside 21 = .ok (.iinc 1 1, 3) := by decide +kernel
theorem dX8_laysAside_24 : decode cX8_laysAside 24 = .ok (.goto (-22), 3) := by decide +kernel
theorem dX8_laysAside_27 : decode cX8_laysAside 27 = .ok (.return_, 1) := by decide +kernel
theorem dX8_bringsBack_0 : decode cX8_bringsBack 0 = .ok (.iconst 0, 1) := by decide +kernel
theorem dX8_bringsBack_1 : decode cX8_bringsBack 1 = .ok (.istore_n 1, 1) := by decide +kernel
theorem dX8_bringsBack_2 : decode cX8_bringsBack 2 = .ok (.iload_n 1, 1) := by decide +kernel
theorem dX8_bringsBack_3 : decode cX8_bringsBack 3 = .ok (.sipush 816, 3) := by decide +kernel
theorem dX8_bringsBack_6 : decode cX8_bringsBack 6 = .ok (.if_icmp .ge 21, 3) := by decide +kernel
theorem dX8_bringsBack_9 : decode cX8_bringsBack 9 = .ok (.aload_n 0, 1) := by decide +kernel
theorem dX8_bringsBack_10 : decode cX8_bringsBack 10 = .ok (.getfield 7, 3) := by decide +kernel
theorem dX8_bringsBack_13 : decode cX8_bringsBack 13 = .ok (.iload_n 1, 1) := by decide +kernel
theorem dX8_bringsBack_14 : decode cX8_bringsBack 14 = .ok (.aload_n 0, 1) := by decide +kernel
theorem dX8_bringsBack_15 : decode cX8_bringsBack 15 = .ok (.getfield 16, 3) := by decide +kernel
theorem dX8_bringsBack_18 : decode cX8_bringsBack 18 = .ok (.iload_n 1, 1) := by decide +kernel
theorem dX8_bringsBack_19 : decode cX8_bringsBack 19 = .ok (.iaload, 1) := by decide +kernel
theorem dX8_bringsBack_20 : decode cX8_bringsBack 20 = .ok (.iastore, 1) := by decide +kernel
theorem dX8_bringsBack_21 : decode cX8_bringsBack 21 = .ok (.iinc 1 1, 3) := by decide +kernel
theorem dX8_bringsBack_24 : decode cX8_bringsBack 24 = .ok (.goto (-22), 3) := by decide +kernel
theorem dX8_bringsBack_27 : decode cX8_bringsBack 27 = .ok (.return_, 1) := by decide +kernel
theorem dX8_keeps_0 : decode cX8_keeps 0 = .ok (.aload_n 0, 1) := by decide +kernel
theorem dX8_keeps_1 : decode cX8_keeps 1 = .ok (.getfield 32, 3) := by decide +kernel
theorem dX8_keeps_4 : decode cX8_keeps 4 = .ok (.iconst 4, 1) := by decide +kernel
theorem dX8_keeps_5 : decode cX8_keeps 5 = .ok (.if_icmp .ne 44, 3) := by decide +kernel
theorem dX8_keeps_8 : decode cX8_keeps 8 = .ok (.iconst 0, 1) := by decide +kernel
theorem dX8_keeps_9 : decode cX8_keeps 9 = .ok (.istore_n 1, 1) := by decide +kernel
theorem dX8_keeps_10 : decode cX8_keeps 10 = .ok (.iload_n 1, 1) := by decide +kernel
theorem dX8_keeps_11 : decode cX8_keeps 11 = .ok (.sipush 2448, 3) := by decide +kernel
theorem dX8_keeps_14 : decode cX8_keeps 14 = .ok (.if_icmp .ge 25, 3) := by decide +kernel
theorem dX8_keeps_17 : decode cX8_keeps 17 = .ok (.aload_n 0, 1) := by decide +kernel
theorem dX8_keeps_18 : decode cX8_keeps 18 = .ok (.getfield 13, 3) := by decide +kernel
theorem dX8_keeps_21 : decode cX8_keeps 21 = .ok (.iload_n 1, 1) := by decide +kernel
theorem dX8_keeps_22 : decode cX8_keeps 22 = .ok (.aload_n 0, 1) := by decide +kernel
theorem dX8_keeps_23 : decode cX8_keeps 23 = .ok (.getfield 13, 3) := by decide +kernel
theorem dX8_keeps_26 : decode cX8_keeps 26 = .ok (.iload_n 1, 1) := by decide +kernel
theorem dX8_keeps_27 : decode cX8_keeps 27 = .ok (.sipush 816, 3) := by decide +kernel
theorem dX8_keeps_30 : decode cX8_keeps 30 = .ok (.iadd, 1) := by decide +kernel
theorem dX8_keeps_31 : decode cX8_keeps 31 = .ok (.iaload, 1) := by decide +kernel
theorem dX8_keeps_32 : decode cX8_keeps 32 = .ok (.iastore, 1) := by decide +kernel
theorem dX8_keeps_33 : decode cX8_keeps 33 = .ok (.iinc 1 1, 3) := by decide +kernel
theorem dX8_keeps_36 : decode cX8_keeps 36 = .ok (.goto (-26), 3) := by decide +kernel
theorem dX8_keeps_39 : decode cX8_keeps 39 = .ok (.aload_n 0, 1) := by decide +kernel
theorem dX8_keeps_40 : decode cX8_keeps 40 = .ok (.dup, 1) := by decide +kernel
theorem dX8_keeps_41 : decode cX8_keeps 41 = .ok (.getfield 32, 3) := by decide +kernel
theorem dX8_keeps_44 : decode cX8_keeps 44 = .ok (.iconst 1, 1) := by decide +kernel
theorem dX8_keeps_45 : decode cX8_keeps 45 = .ok (.isub, 1) := by decide +kernel
theorem dX8_keeps_46 : decode cX8_keeps 46 = .ok (.putfield 32, 3) := by decide +kernel
theorem dX8_keeps_49 : decode cX8_keeps 49 = .ok (.iconst 0, 1) := by decide +kernel
theorem dX8_keeps_50 : decode cX8_keeps 50 = .ok (.istore_n 1, 1) := by decide +kernel
theorem dX8_keeps_51 : decode cX8_keeps 51 = .ok (.iload_n 1, 1) := by decide +kernel
theorem dX8_keeps_52 : decode cX8_keeps 52 = .ok (.sipush 816, 3) := by decide +kernel
theorem dX8_keeps_55 : decode cX8_keeps 55 = .ok (.if_icmp .ge 30, 3) := by decide +kernel
theorem dX8_keeps_58 : decode cX8_keeps 58 = .ok (.aload_n 0, 1) := by decide +kernel
theorem dX8_keeps_59 : decode cX8_keeps 59 = .ok (.getfield 13, 3) := by decide +kernel
theorem dX8_keeps_62 : decode cX8_keeps 62 = .ok (.sipush 816, 3) := by decide +kernel
theorem dX8_keeps_65 : decode cX8_keeps 65 = .ok (.aload_n 0, 1) := by decide +kernel
theorem dX8_keeps_66 : decode cX8_keeps 66 = .ok (.getfield 32, 3) := by decide +kernel
theorem dX8_keeps_69 : decode cX8_keeps 69 = .ok (.imul, 1) := by decide +kernel
theorem dX8_keeps_70 : decode cX8_keeps 70 = .ok (.iload_n 1, 1) := by decide +kernel
theorem dX8_keeps_71 : decode cX8_keeps 71 = .ok (.iadd, 1) := by decide +kernel
theorem dX8_keeps_72 : decode cX8_keeps 72 = .ok (.aload_n 0, 1) := by decide +kernel
theorem dX8_keeps_73 : decode cX8_keeps 73 = .ok (.getfield 16, 3) := by decide +kernel
theorem dX8_keeps_76 : decode cX8_keeps 76 = .ok (.iload_n 1, 1) := by decide +kernel
theorem dX8_keeps_77 : decode cX8_keeps 77 = .ok (.iaload, 1) := by decide +kernel
theorem dX8_keeps_78 : decode cX8_keeps 78 = .ok (.iastore, 1) := by decide +kernel
theorem dX8_keeps_79 : decode cX8_keeps 79 = .ok (.iinc 1 1, 3) := by decide +kernel
theorem dX8_keeps_82 : decode cX8_keeps 82 = .ok (.goto (-31), 3) := by decide +kernel
theorem dX8_keeps_85 : decode cX8_keeps 85 = .ok (.aload_n 0, 1) := by decide +kernel
theorem dX8_keeps_86 : decode cX8_keeps 86 = .ok (.dup, 1) := by decide +kernel
theorem dX8_keeps_87 : decode cX8_keeps 87 = .ok (.getfield 32, 3) := by decide +kernel
theorem dX8_keeps_90 : decode cX8_keeps 90 = .ok (.iconst 1, 1) := by decide +kernel
theorem dX8_keeps_91 : decode cX8_keeps 91 = .ok (.iadd, 1) := by decide +kernel
theorem dX8_keeps_92 : decode cX8_keeps 92 = .ok (.putfield 32, 3) := by decide +kernel
theorem dX8_keeps_95 : decode cX8_keeps 95 = .ok (.return_, 1) := by decide +kernel
theorem dX8_ends_0 : decode cX8_ends 0 = .ok (.iload_n 2, 1) := by decide +kernel
theorem dX8_ends_1 : decode cX8_ends 1 = .ok (.ifCond .le 13, 3) := by decide +kernel
theorem dX8_ends_4 : decode cX8_ends 4 = .ok (.aload_n 0, 1) := by decide +kernel
theorem dX8_ends_5 : decode cX8_ends 5 = .ok (.invokevirtual 35, 3) := by decide +kernel
theorem dX8_ends_8 : decode cX8_ends 8 = .ok (.aload_n 0, 1) := by decide +kernel
theorem dX8_ends_9 : decode cX8_ends 9 = .ok (.iload_n 2, 1) := by decide +kernel
theorem dX8_ends_10 : decode cX8_ends 10 = .ok (.invokevirtual 38, 3) := by decide +kernel
theorem dX8_ends_13 : decode cX8_ends 13 = .ok (.ireturn, 1) := by decide +kernel
theorem dX8_ends_14 : decode cX8_ends 14 = .ok (.aload_n 0, 1) := by decide +kernel
theorem dX8_ends_15 : decode cX8_ends 15 = .ok (.invokevirtual 42, 3) := by decide +kernel
theorem dX8_ends_18 : decode cX8_ends 18 = .ok (.aload_n 0, 1) := by decide +kernel
theorem dX8_ends_19 : decode cX8_ends 19 = .ok (.iload_n 1, 1) := by decide +kernel
theorem dX8_ends_20 : decode cX8_ends 20 = .ok (.invokevirtual 45, 3) := by decide +kernel
theorem dX8_ends_23 : decode cX8_ends 23 = .ok (.ireturn, 1) := by decide +kernel
theorem dX8_isLeaf_0 : decode cX8_isLeaf 0 = .ok (.iload_n 0, 1) := by decide +kernel
theorem dX8_isLeaf_1 : decode cX8_isLeaf 1 = .ok (.iconst 0, 1) := by decide +kernel
theorem dX8_isLeaf_2 : decode cX8_isLeaf 2 = .ok (.bipush 15, 2) := by decide +kernel
theorem dX8_isLeaf_4 : decode cX8_isLeaf 4 = .ok (.invokestatic 48, 3) := by decide +kernel
theorem dX8_isLeaf_7 : decode cX8_isLeaf 7 = .ok (.ireturn, 1) := by decide +kernel
theorem dX8_isLevel_0 : decode cX8_isLevel 0 = .ok (.iload_n 0, 1) := by decide +kernel
theorem dX8_isLevel_1 : decode cX8_isLevel 1 = .ok (.iconst 0, 1) := by decide +kernel
theorem dX8_isLevel_2 : decode cX8_isLevel 2 = .ok (.iconst 2, 1) := by decide +kernel
theorem dX8_isLevel_3 : decode cX8_isLevel 3 = .ok (.invokestatic 48, 3) := by decide +kernel
theorem dX8_isLevel_6 : decode cX8_isLevel 6 = .ok (.ireturn, 1) := by decide +kernel
theorem dX8_isOne_0 : decode cX8_isOne 0 = .ok (.iload_n 1, 1) := by decide +kernel
theorem dX8_isOne_1 : decode cX8_isOne 1 = .ok (.iconst 0, 1) := by decide +kernel
theorem dX8_isOne_2 : decode cX8_isOne 2 = .ok (.aload_n 0, 1) := by decide +kernel
theorem dX8_isOne_3 : decode cX8_isOne 3 = .ok (.getfield 7, 3) := by decide +kernel
theorem dX8_isOne_6 : decode cX8_isOne 6 = .ok (.iconst 1, 1) := by decide +kernel
theorem dX8_isOne_7 : decode cX8_isOne 7 = .ok (.iaload, 1) := by decide +kernel
theorem dX8_isOne_8 : decode cX8_isOne 8 = .ok (.iconst 1, 1) := by decide +kernel
theorem dX8_isOne_9 : decode cX8_isOne 9 = .ok (.isub, 1) := by decide +kernel
theorem dX8_isOne_10 : decode cX8_isOne 10 = .ok (.invokestatic 48, 3) := by decide +kernel
theorem dX8_isOne_13 : decode cX8_isOne 13 = .ok (.ireturn, 1) := by decide +kernel
theorem dX8_of_0 : decode cX8_of 0 = .ok (.aload_n 0, 1) := by decide +kernel
theorem dX8_of_1 : decode cX8_of 1 = .ok (.getfield 7, 3) := by decide +kernel
theorem dX8_of_4 : decode cX8_of 4 = .ok (.bipush 24, 2) := by decide +kernel
theorem dX8_of_6 : decode cX8_of 6 = .ok (.bipush 54, 2) := by decide +kernel
theorem dX8_of_8 : decode cX8_of 8 = .ok (.iload_n 1, 1) := by decide +kernel
theorem dX8_of_9 : decode cX8_of 9 = .ok (.imul, 1) := by decide +kernel
theorem dX8_of_10 : decode cX8_of 10 = .ok (.iadd, 1) := by decide +kernel
theorem dX8_of_11 : decode cX8_of 11 = .ok (.iload_n 2, 1) := by decide +kernel
theorem dX8_of_12 : decode cX8_of 12 = .ok (.iadd, 1) := by decide +kernel
theorem dX8_of_13 : decode cX8_of 13 = .ok (.iaload, 1) := by decide +kernel
theorem dX8_of_14 : decode cX8_of 14 = .ok (.ireturn, 1) := by decide +kernel
theorem dX8_put_0 : decode cX8_put 0 = .ok (.aload_n 0, 1) := by decide +kernel
theorem dX8_put_1 : decode cX8_put 1 = .ok (.getfield 7, 3) := by decide +kernel
theorem dX8_put_4 : decode cX8_put 4 = .ok (.bipush 24, 2) := by decide +kernel
theorem dX8_put_6 : decode cX8_put 6 = .ok (.bipush 54, 2) := by decide +kernel
theorem dX8_put_8 : decode cX8_put 8 = .ok (.iload_n 1, 1) := by decide +kernel
theorem dX8_put_9 : decode cX8_put 9 = .ok (.imul, 1) := by decide +kernel
theorem dX8_put_10 : decode cX8_put 10 = .ok (.iadd, 1) := by decide +kernel
theorem dX8_put_11 : decode cX8_put 11 = .ok (.iload_n 2, 1) := by decide +kernel
theorem dX8_put_12 : decode cX8_put 12 = .ok (.iadd, 1) := by decide +kernel
theorem dX8_put_13 : decode cX8_put 13 = .ok (.iload_n 3, 1) := by decide +kernel
theorem dX8_put_14 : decode cX8_put 14 = .ok (.iastore, 1) := by decide +kernel
theorem dX8_put_15 : decode cX8_put 15 = .ok (.return_, 1) := by decide +kernel
theorem dX8_adds_0 : decode cX8_adds 0 = .ok (.aload_n 0, 1) := by decide +kernel
theorem dX8_adds_1 : decode cX8_adds 1 = .ok (.getfield 7, 3) := by decide +kernel
theorem dX8_adds_4 : decode cX8_adds 4 = .ok (.bipush 24, 2) := by decide +kernel
theorem dX8_adds_6 : decode cX8_adds 6 = .ok (.bipush 54, 2) := by decide +kernel
theorem dX8_adds_8 : decode cX8_adds 8 = .ok (.iload_n 1, 1) := by decide +kernel
theorem dX8_adds_9 : decode cX8_adds 9 = .ok (.imul, 1) := by decide +kernel
theorem dX8_adds_10 : decode cX8_adds 10 = .ok (.iadd, 1) := by decide +kernel
theorem dX8_adds_11 : decode cX8_adds 11 = .ok (.iload_n 2, 1) := by decide +kernel
theorem dX8_adds_12 : decode cX8_adds 12 = .ok (.iadd, 1) := by decide +kernel
theorem dX8_adds_13 : decode cX8_adds 13 = .ok (.dup2, 1) := by decide +kernel
theorem dX8_adds_14 : decode cX8_adds 14 = .ok (.iaload, 1) := by decide +kernel
theorem dX8_adds_15 : decode cX8_adds 15 = .ok (.iload_n 3, 1) := by decide +kernel
theorem dX8_adds_16 : decode cX8_adds 16 = .ok (.iadd, 1) := by decide +kernel
theorem dX8_adds_17 : decode cX8_adds 17 = .ok (.iastore, 1) := by decide +kernel
theorem dX8_adds_18 : decode cX8_adds 18 = .ok (.return_, 1) := by decide +kernel
theorem dX8_ofEvent_0 : decode cX8_ofEvent 0 = .ok (.aload_n 0, 1) := by decide +kernel
theorem dX8_ofEvent_1 : decode cX8_ofEvent 1 = .ok (.getfield 7, 3) := by decide +kernel
theorem dX8_ofEvent_4 : decode cX8_ofEvent 4 = .ok (.sipush 456, 3) := by decide +kernel
theorem dX8_ofEvent_7 : decode cX8_ofEvent 7 = .ok (.bipush 6, 2) := by decide +kernel
theorem dX8_ofEvent_9 : decode cX8_ofEvent 9 = .ok (.iload_n 1, 1) := by decide +kernel
theorem dX8_ofEvent_10 : decode cX8_ofEvent 10 = .ok (.imul, 1) := by decide +kernel
theorem dX8_ofEvent_11 : decode cX8_ofEvent 11 = .ok (.iadd, 1) := by decide +kernel
theorem dX8_ofEvent_12 : decode cX8_ofEvent 12 = .ok (.iload_n 2, 1) := by decide +kernel
theorem dX8_ofEvent_13 : decode cX8_ofEvent 13 = .ok (.iadd, 1) := by decide +kernel
theorem dX8_ofEvent_14 : decode cX8_ofEvent 14 = .ok (.iaload, 1) := by decide +kernel
theorem dX8_ofEvent_15 : decode cX8_ofEvent 15 = .ok (.ireturn, 1) := by decide +kernel
theorem dX8_setting_0 : decode cX8_setting 0 = .ok (.aload_n 0, 1) := by decide +kernel
theorem dX8_setting_1 : decode cX8_setting 1 = .ok (.getfield 7, 3) := by decide +kernel
theorem dX8_setting_4 : decode cX8_setting 4 = .ok (.iconst 3, 1) := by decide +kernel
theorem dX8_setting_5 : decode cX8_setting 5 = .ok (.iload_n 1, 1) := by decide +kernel
theorem dX8_setting_6 : decode cX8_setting 6 = .ok (.iadd, 1) := by decide +kernel
theorem dX8_setting_7 : decode cX8_setting 7 = .ok (.iaload, 1) := by decide +kernel
theorem dX8_setting_8 : decode cX8_setting 8 = .ok (.ireturn, 1) := by decide +kernel
theorem dX8_part_0 : decode cX8_part 0 = .ok (.iload_n 1, 1) := by decide +kernel
theorem dX8_part_1 : decode cX8_part 1 = .ok (.iconst 2, 1) := by decide +kernel
theorem dX8_part_2 : decode cX8_part 2 = .ok (.if_icmp .ne 7, 3) := by decide +kernel
theorem dX8_part_5 : decode cX8_part 5 = .ok (.iload_n 0, 1) := by decide +kernel
theorem dX8_part_6 : decode cX8_part 6 = .ok (.goto 24, 3) := by decide +kernel
theorem dX8_part_9 : decode cX8_part 9 = .ok (.iload_n 1, 1) := by decide +kernel
theorem dX8_part_10 : decode cX8_part 10 = .ok (.iconst 1, 1) := by decide +kernel
theorem dX8_part_11 : decode cX8_part 11 = .ok (.if_icmp .ne 18, 3) := by decide +kernel
theorem dX8_part_14 : decode cX8_part 14 = .ok (.iload_n 0, 1) := by decide +kernel
theorem dX8_part_15 : decode cX8_part 15 = .ok (.bipush 8, 2) := by decide +kernel
theorem dX8_part_17 : decode cX8_part 17 = .ok (.idiv, 1) := by decide +kernel
theorem dX8_part_18 : decode cX8_part 18 = .ok (.iconst 2, 1) := by decide +kernel
theorem dX8_part_19 : decode cX8_part 19 = .ok (.imul, 1) := by decide +kernel
theorem dX8_part_20 : decode cX8_part 20 = .ok (.iload_n 0, 1) := by decide +kernel
theorem dX8_part_21 : decode cX8_part 21 = .ok (.iconst 4, 1) := by decide +kernel
theorem dX8_part_22 : decode cX8_part 22 = .ok (.irem, 1) := by decide +kernel
theorem dX8_part_23 : decode cX8_part 23 = .ok (.iconst 2, 1) := by decide +kernel
theorem dX8_part_24 : decode cX8_part 24 = .ok (.idiv, 1) := by decide +kernel
theorem dX8_part_25 : decode cX8_part 25 = .ok (.iadd, 1) := by decide +kernel
theorem dX8_part_26 : decode cX8_part 26 = .ok (.goto 4, 3) := by decide +kernel
theorem dX8_part_29 : decode cX8_part 29 = .ok (.iconst 0, 1) := by decide +kernel
theorem dX8_part_30 : decode cX8_part 30 = .ok (.ireturn, 1) := by decide +kernel
theorem dX8_overlap_0 : decode cX8_overlap 0 = .ok (.iload_n 1, 1) := by decide +kernel
theorem dX8_overlap_1 : decode cX8_overlap 1 = .ok (.iload_n 3, 1) := by decide +kernel
theorem dX8_overlap_2 : decode cX8_overlap 2 = .ok (.if_icmp .ge 7, 3) := by decide +kernel
theorem dX8_overlap_5 : decode cX8_overlap 5 = .ok (.iload_n 1, 1) := by decide +kernel
theorem dX8_overlap_6 : decode cX8_overlap 6 = .ok (.goto 4, 3) := by decide +kernel
theorem dX8_overlap_9 : decode cX8_overlap 9 = .ok (.iload_n 3, 1) := by decide +kernel
theorem dX8_overlap_10 : decode cX8_overlap 10 = .ok (.istore 4, 2) := by decide +kernel
theorem dX8_overlap_12 : decode cX8_overlap 12 = .ok (.iload_n 0, 1) := by decide +kernel
theorem dX8_overlap_13 : decode cX8_overlap 13 = .ok (.iload 4, 2) := by decide +kernel
theorem dX8_overlap_15 : decode cX8_overlap 15 = .ok (.invokestatic 52, 3) := by decide +kernel
theorem dX8_overlap_18 : decode cX8_overlap 18 = .ok (.iload_n 2, 1) := by decide +kernel
theorem dX8_overlap_19 : decode cX8_overlap 19 = .ok (.iload 4, 2) := by decide +kernel
theorem dX8_overlap_21 : decode cX8_overlap 21 = .ok (.invokestatic 52, 3) := by decide +kernel
theorem dX8_overlap_24 : decode cX8_overlap 24 = .ok (.if_icmp .ne 7, 3) := by decide +kernel
theorem dX8_overlap_27 : decode cX8_overlap 27 = .ok (.iconst 1, 1) := by decide +kernel
theorem dX8_overlap_28 : decode cX8_overlap 28 = .ok (.goto 4, 3) := by decide +kernel
theorem dX8_overlap_31 : decode cX8_overlap 31 = .ok (.iconst 0, 1) := by decide +kernel
theorem dX8_overlap_32 : decode cX8_overlap 32 = .ok (.ireturn, 1) := by decide +kernel
theorem dX8_stayAt_0 : decode cX8_stayAt 0 = .ok (.aload_n 0, 1) := by decide +kernel
theorem dX8_stayAt_1 : decode cX8_stayAt 1 = .ok (.iload_n 1, 1) := by decide +kernel
theorem dX8_stayAt_2 : decode cX8_stayAt 2 = .ok (.bipush 24, 2) := by decide +kernel
theorem dX8_stayAt_4 : decode cX8_stayAt 4 = .ok (.iconst 3, 1) := by decide +kernel
theorem dX8_stayAt_5 : decode cX8_stayAt 5 = .ok (.iload_n 2, 1) := by decide +kernel
theorem dX8_stayAt_6 : decode cX8_stayAt 6 = .ok (.imul, 1) := by decide +kernel
theorem dX8_stayAt_7 : decode cX8_stayAt 7 = .ok (.iadd, 1) := by decide +kernel
theorem dX8_stayAt_8 : decode cX8_stayAt 8 = .ok (.iload_n 3, 1) := by decide +kernel
theorem dX8_stayAt_9 : decode cX8_stayAt 9 = .ok (.iadd, 1) := by decide +kernel
theorem dX8_stayAt_10 : decode cX8_stayAt 10 = .ok (.invokevirtual 56, 3) := by decide +kernel
theorem dX8_stayAt_13 : decode cX8_stayAt 13 = .ok (.ireturn, 1) := by decide +kernel
theorem dX8_beginsStay_0 : decode cX8_beginsStay 0 = .ok (.aload_n 0, 1) := by decide +kernel
theorem dX8_beginsStay_1 : decode cX8_beginsStay 1 = .ok (.iload_n 1, 1) := by decide +kernel
theorem dX8_beginsStay_2 : decode cX8_beginsStay 2 = .ok (.bipush 11, 2) := by decide +kernel
theorem dX8_beginsStay_4 : decode cX8_beginsStay 4 = .ok (.invokevirtual 56, 3) := by decide +kernel
theorem dX8_beginsStay_7 : decode cX8_beginsStay 7 = .ok (.bipush 10, 2) := by decide +kernel
theorem dX8_beginsStay_9 : decode cX8_beginsStay 9 = .ok (.if_icmp .ne 40, 3) := by decide +kernel
theorem dX8_beginsStay_12 : decode cX8_beginsStay 12 = .ok (.bipush 24, 2) := by decide +kernel
theorem dX8_beginsStay_14 : decode cX8_beginsStay 14 = .ok (.istore_n 3, 1) := by decide +kernel
theorem dX8_beginsStay_15 : decode cX8_beginsStay 15 = .ok (.iload_n 3, 1) := by decide +kernel
theorem dX8_beginsStay_16 : decode cX8_beginsStay 16 = .ok (.bipush 51, 2) := by decide +kernel
theorem dX8_beginsStay_18 : decode cX8_beginsStay 18 = .ok (.if_icmp .ge 23, 3) := by decide +kernel
theorem dX8_beginsStay_21 : decode cX8_beginsStay 21 = .ok (.aload_n 0, 1) := by decide +kernel
theorem dX8_beginsStay_22 : decode cX8_beginsStay 22 = .ok (.iload_n 1, 1) := by decide +kernel
theorem dX8_beginsStay_23 : decode cX8_beginsStay 23 = .ok (.iload_n 3, 1) := by decide +kernel
theorem dX8_beginsStay_24 : decode cX8_beginsStay 24 = .ok (.aload_n 0, 1) := by decide +kernel
theorem dX8_beginsStay_25 : decode cX8_beginsStay 25 = .ok (.iload_n 1, 1) := by decide +kernel
theorem dX8_beginsStay_26 : decode cX8_beginsStay 26 = .ok (.iload_n 3, 1) := by decide +kernel
theorem dX8_beginsStay_27 : decode cX8_beginsStay 27 = .ok (.iconst 3, 1) := by decide +kernel
theorem dX8_beginsStay_28 : decode cX8_beginsStay 28 = .ok (.iadd, 1) := by decide +kernel
theorem dX8_beginsStay_29 : decode cX8_beginsStay 29 = .ok (.invokevirtual 56, 3) := by decide +kernel
theorem dX8_beginsStay_32 : decode cX8_beginsStay 32 = .ok (.invokevirtual 59, 3) := by decide +kernel
theorem dX8_beginsStay_35 : decode cX8_beginsStay 35 = .ok (.iinc 3 1, 3) := by decide +kernel
theorem dX8_beginsStay_38 : decode cX8_beginsStay 38 = .ok (.goto (-23), 3) := by decide +kernel
theorem dX8_beginsStay_41 : decode cX8_beginsStay 41 = .ok (.aload_n 0, 1) := by decide +kernel
theorem dX8_beginsStay_42 : decode cX8_beginsStay 42 = .ok (.iload_n 1, 1) := by decide +kernel
theorem dX8_beginsStay_43 : decode cX8_beginsStay 43 = .ok (.bipush 11, 2) := by decide +kernel
theorem dX8_beginsStay_45 : decode cX8_beginsStay 45 = .ok (.iconst (-1), 1) := by decide +kernel
theorem dX8_beginsStay_46 : decode cX8_beginsStay 46 = .ok (.invokevirtual 63, 3) := by decide +kernel
theorem dX8_beginsStay_49 : decode cX8_beginsStay 49 = .ok (.bipush 24, 2) := by decide +kernel
theorem dX8_beginsStay_51 : decode cX8_beginsStay 51 = .ok (.iconst 3, 1) := by decide +kernel
theorem dX8_beginsStay_52 : decode cX8_beginsStay 52 = .ok (.aload_n 0, 1) := by decide +kernel
theorem dX8_beginsStay_53 : decode cX8_beginsStay 53 = .ok (.iload_n 1, 1) := by decide +kernel
theorem dX8_beginsStay_54 : decode cX8_beginsStay 54 = .ok (.bipush 11, 2) := by decide +kernel
theorem dX8_beginsStay_56 : decode cX8_beginsStay 56 = .ok (.invokevirtual 56, 3) := by decide +kernel
theorem dX8_beginsStay_59 : decode cX8_beginsStay 59 = .ok (.imul, 1) := by decide +kernel
theorem dX8_beginsStay_60 : decode cX8_beginsStay 60 = .ok (.iadd, 1) := by decide +kernel
theorem dX8_beginsStay_61 : decode cX8_beginsStay 61 = .ok (.istore_n 3, 1) := by decide +kernel
theorem dX8_beginsStay_62 : decode cX8_beginsStay 62 = .ok (.aload_n 0, 1) := by decide +kernel
theorem dX8_beginsStay_63 : decode cX8_beginsStay 63 = .ok (.iload_n 1, 1) := by decide +kernel
theorem dX8_beginsStay_64 : decode cX8_beginsStay 64 = .ok (.iload_n 3, 1) := by decide +kernel
theorem dX8_beginsStay_65 : decode cX8_beginsStay 65 = .ok (.iload_n 2, 1) := by decide +kernel
theorem dX8_beginsStay_66 : decode cX8_beginsStay 66 = .ok (.invokevirtual 59, 3) := by decide +kernel
theorem dX8_beginsStay_69 : decode cX8_beginsStay 69 = .ok (.aload_n 0, 1) := by decide +kernel
theorem dX8_beginsStay_70 : decode cX8_beginsStay 70 = .ok (.iload_n 1, 1) := by decide +kernel
theorem dX8_beginsStay_71 : decode cX8_beginsStay 71 = .ok (.iload_n 3, 1) := by decide +kernel
theorem dX8_beginsStay_72 : decode cX8_beginsStay 72 = .ok (.iconst 1, 1) := by decide +kernel
theorem dX8_beginsStay_73 : decode cX8_beginsStay 73 = .ok (.iadd, 1) := by decide +kernel
theorem dX8_beginsStay_74 : decode cX8_beginsStay 74 = .ok (.aload_n 0, 1) := by decide +kernel
theorem dX8_beginsStay_75 : decode cX8_beginsStay 75 = .ok (.getfield 7, 3) := by decide +kernel
theorem dX8_beginsStay_78 : decode cX8_beginsStay 78 = .ok (.iconst 0, 1) := by decide +kernel
theorem dX8_beginsStay_79 : decode cX8_beginsStay 79 = .ok (.iaload, 1) := by decide +kernel
theorem dX8_beginsStay_80 : decode cX8_beginsStay 80 = .ok (.invokevirtual 59, 3) := by decide +kernel
theorem dX8_beginsStay_83 : decode cX8_beginsStay 83 = .ok (.aload_n 0, 1) := by decide +kernel
theorem dX8_beginsStay_84 : decode cX8_beginsStay 84 = .ok (.iload_n 1, 1) := by decide +kernel
theorem dX8_beginsStay_85 : decode cX8_beginsStay 85 = .ok (.iload_n 3, 1) := by decide +kernel
theorem dX8_beginsStay_86 : decode cX8_beginsStay 86 = .ok (.iconst 2, 1) := by decide +kernel
theorem dX8_beginsStay_87 : decode cX8_beginsStay 87 = .ok (.iadd, 1) := by decide +kernel
theorem dX8_beginsStay_88 : decode cX8_beginsStay 88 = .ok (.iconst (-1), 1) := by decide +kernel
theorem dX8_beginsStay_89 : decode cX8_beginsStay 89 = .ok (.invokevirtual 59, 3) := by decide +kernel
theorem dX8_beginsStay_92 : decode cX8_beginsStay 92 = .ok (.aload_n 0, 1) := by decide +kernel
theorem dX8_beginsStay_93 : decode cX8_beginsStay 93 = .ok (.iload_n 1, 1) := by decide +kernel
theorem dX8_beginsStay_94 : decode cX8_beginsStay 94 = .ok (.iconst 4, 1) := by decide +kernel
theorem dX8_beginsStay_95 : decode cX8_beginsStay 95 = .ok (.iload_n 2, 1) := by decide +kernel
theorem dX8_beginsStay_96 : decode cX8_beginsStay 96 = .ok (.invokevirtual 59, 3) := by decide +kernel
theorem dX8_beginsStay_99 : decode cX8_beginsStay 99 = .ok (.aload_n 0, 1) := by decide +kernel
theorem dX8_beginsStay_100 : decode cX8_beginsStay 100 = .ok (.iload_n 1, 1) := by decide +kernel
theorem dX8_beginsStay_101 : decode cX8_beginsStay 101 = .ok (.bipush 11, 2) := by decide +kernel
theorem dX8_beginsStay_103 : decode cX8_beginsStay 103 = .ok (.iconst 1, 1) := by decide +kernel
theorem dX8_beginsStay_104 : decode cX8_beginsStay 104 = .ok (.invokevirtual 63, 3) := by decide +kernel
theorem dX8_beginsStay_107 : decode cX8_beginsStay 107 = .ok (.return_, 1) := by decide +kernel
theorem dX8_endsStay_0 : decode cX8_endsStay 0 = .ok (.aload_n 0, 1) := by decide +kernel
theorem dX8_endsStay_1 : decode cX8_endsStay 1 = .ok (.iload_n 1, 1) := by decide +kernel
theorem dX8_endsStay_2 : decode cX8_endsStay 2 = .ok (.bipush 24, 2) := by decide +kernel
theorem dX8_endsStay_4 : decode cX8_endsStay 4 = .ok (.iconst 3, 1) := by decide +kernel
theorem dX8_endsStay_5 : decode cX8_endsStay 5 = .ok (.aload_n 0, 1) := by decide +kernel
theorem dX8_endsStay_6 : decode cX8_endsStay 6 = .ok (.iload_n 1, 1) := by decide +kernel
theorem dX8_endsStay_7 : decode cX8_endsStay 7 = .ok (.bipush 11, 2) := by decide +kernel
theorem dX8_endsStay_9 : decode cX8_endsStay 9 = .ok (.invokevirtual 56, 3) := by decide +kernel
theorem dX8_endsStay_12 : decode cX8_endsStay 12 = .ok (.imul, 1) := by decide +kernel
theorem dX8_endsStay_13 : decode cX8_endsStay 13 = .ok (.iadd, 1) := by decide +kernel
theorem dX8_endsStay_14 : decode cX8_endsStay 14 = .ok (.iconst 1, 1) := by decide +kernel
theorem dX8_endsStay_15 : decode cX8_endsStay 15 = .ok (.isub, 1) := by decide +kernel
theorem dX8_endsStay_16 : decode cX8_endsStay 16 = .ok (.aload_n 0, 1) := by decide +kernel
theorem dX8_endsStay_17 : decode cX8_endsStay 17 = .ok (.getfield 7, 3) := by decide +kernel
theorem dX8_endsStay_20 : decode cX8_endsStay 20 = .ok (.iconst 0, 1) := by decide +kernel
theorem dX8_endsStay_21 : decode cX8_endsStay 21 = .ok (.iaload, 1) := by decide +kernel
theorem dX8_endsStay_22 : decode cX8_endsStay 22 = .ok (.invokevirtual 59, 3) := by decide +kernel
theorem dX8_endsStay_25 : decode cX8_endsStay 25 = .ok (.return_, 1) := by decide +kernel
theorem dX8_leafAt_0 : decode cX8_leafAt 0 = .ok (.iconst (-1), 1) := by decide +kernel
theorem dX8_leafAt_1 : decode cX8_leafAt 1 = .ok (.istore_n 3, 1) := by decide +kernel
theorem dX8_leafAt_2 : decode cX8_leafAt 2 = .ok (.iconst 0, 1) := by decide +kernel
theorem dX8_leafAt_3 : decode cX8_leafAt 3 = .ok (.istore 4, 2) := by decide +kernel
theorem dX8_leafAt_5 : decode cX8_leafAt 5 = .ok (.iload 4, 2) := by decide +kernel
theorem dX8_leafAt_7 : decode cX8_leafAt 7 = .ok (.aload_n 0, 1) := by decide +kernel
theorem dX8_leafAt_8 : decode cX8_leafAt 8 = .ok (.iload_n 1, 1) := by decide +kernel
theorem dX8_leafAt_9 : decode cX8_leafAt 9 = .ok (.bipush 11, 2) := by decide +kernel
theorem dX8_leafAt_11 : decode cX8_leafAt 11 = .ok (.invokevirtual 56, 3) := by decide +kernel
theorem dX8_leafAt_14 : decode cX8_leafAt 14 = .ok (.if_icmp .ge 56, 3) := by decide +kernel
theorem dX8_leafAt_17 : decode cX8_leafAt 17 = .ok (.aload_n 0, 1) := by decide +kernel
theorem dX8_leafAt_18 : decode cX8_leafAt 18 = .ok (.iload_n 1, 1) := by decide +kernel
theorem dX8_leafAt_19 : decode cX8_leafAt 19 = .ok (.iload 4, 2) := by decide +kernel
theorem dX8_leafAt_21 : decode cX8_leafAt 21 = .ok (.iconst 2, 1) := by decide +kernel
theorem dX8_leafAt_22 : decode cX8_leafAt 22 = .ok (.invokevirtual 66, 3) := by decide +kernel
theorem dX8_leafAt_25 : decode cX8_leafAt 25 = .ok (.istore 5, 2) := by decide +kernel
theorem dX8_leafAt_27 : decode cX8_leafAt 27 = .ok (.iload_n 2, 1) := by decide +kernel
theorem dX8_leafAt_28 : decode cX8_leafAt 28 = .ok (.aload_n 0, 1) := by decide +kernel
theorem dX8_leafAt_29 : decode cX8_leafAt 29 = .ok (.iload_n 1, 1) := by decide +kernel
theorem dX8_leafAt_30 : decode cX8_leafAt 30 = .ok (.iload 4, 2) := by decide +kernel
theorem dX8_leafAt_32 : decode cX8_leafAt 32 = .ok (.iconst 1, 1) := by decide +kernel
theorem dX8_leafAt_33 : decode cX8_leafAt 33 = .ok (.invokevirtual 66, 3) := by decide +kernel
theorem dX8_leafAt_36 : decode cX8_leafAt 36 = .ok (.if_icmp .lt 26, 3) := by decide +kernel
theorem dX8_leafAt_39 : decode cX8_leafAt 39 = .ok (.iload 5, 2) := by decide +kernel
theorem dX8_leafAt_41 : decode cX8_leafAt 41 = .ok (.iconst (-1), 1) := by decide +kernel
theorem dX8_leafAt_42 : decode cX8_leafAt 42 = .ok (.if_icmp .eq 9, 3) := by decide +kernel
theorem dX8_leafAt_45 : decode cX8_leafAt 45 = .ok (.iload_n 2, 1) := by decide +kernel
theorem dX8_leafAt_46 : decode cX8_leafAt 46 = .ok (.iload 5, 2) := by decide +kernel
theorem dX8_leafAt_48 : decode cX8_leafAt 48 = .ok (.if_icmp .ge 14, 3) := by decide +kernel
theorem dX8_leafAt_51 : decode cX8_leafAt 51 = .ok (.aload_n 0, 1) := by decide +kernel
theorem dX8_leafAt_52 : decode cX8_leafAt 52 = .ok (.iload_n 1, 1) := by decide +kernel
theorem dX8_leafAt_53 : decode cX8_leafAt 53 = .ok (.iload 4, 2) := by decide +kernel
theorem dX8_leafAt_55 : decode cX8_leafAt 55 = .ok (.iconst 0, 1) := by decide +kernel
theorem dX8_leafAt_56 : decode cX8_leafAt 56 = .ok (.invokevirtual 66, 3) := by decide +kernel
theorem dX8_leafAt_59 : decode cX8_leafAt 59 = .ok (.goto 4, 3) := by decide +kernel
theorem dX8_leafAt_62 : decode cX8_leafAt 62 = .ok (.iload_n 3, 1) := by decide +kernel
theorem dX8_leafAt_63 : decode cX8_leafAt 63 = .ok (.istore_n 3, 1) := by decide +kernel
theorem dX8_leafAt_64 : decode cX8_leafAt 64 = .ok (.iinc 4 1, 3) := by decide +kernel
theorem dX8_leafAt_67 : decode cX8_leafAt 67 = .ok (.goto (-62), 3) := by decide +kernel
theorem dX8_leafAt_70 : decode cX8_leafAt 70 = .ok (.iload_n 3, 1) := by decide +kernel
theorem dX8_leafAt_71 : decode cX8_leafAt 71 = .ok (.ireturn, 1) := by decide +kernel
theorem dX8_reaches_0 : decode cX8_reaches 0 = .ok (.aload_n 0, 1) := by decide +kernel
theorem dX8_reaches_1 : decode cX8_reaches 1 = .ok (.iload_n 1, 1) := by decide +kernel
theorem dX8_reaches_2 : decode cX8_reaches 2 = .ok (.iconst 5, 1) := by decide +kernel
theorem dX8_reaches_3 : decode cX8_reaches 3 = .ok (.invokevirtual 56, 3) := by decide +kernel
theorem dX8_reaches_6 : decode cX8_reaches 6 = .ok (.iconst 1, 1) := by decide +kernel
theorem dX8_reaches_7 : decode cX8_reaches 7 = .ok (.if_icmp .ne 13, 3) := by decide +kernel
theorem dX8_reaches_10 : decode cX8_reaches 10 = .ok (.aload_n 0, 1) := by decide +kernel
theorem dX8_reaches_11 : decode cX8_reaches 11 = .ok (.iload_n 1, 1) := by decide +kernel
theorem dX8_reaches_12 : decode cX8_reaches 12 = .ok (.iload 4, 2) := by decide +kernel
theorem dX8_reaches_14 : decode cX8_reaches 14 = .ok (.invokevirtual 70, 3) := by decide +kernel
theorem dX8_reaches_17 : decode cX8_reaches 17 = .ok (.goto 4, 3) := by decide +kernel
theorem dX8_reaches_20 : decode cX8_reaches 20 = .ok (.iconst (-1), 1) := by decide +kernel
theorem dX8_reaches_21 : decode cX8_reaches 21 = .ok (.istore 5, 2) := by decide +kernel
theorem dX8_reaches_23 : decode cX8_reaches 23 = .ok (.iload 5, 2) := by decide +kernel
theorem dX8_reaches_25 : decode cX8_reaches 25 = .ok (.iconst (-1), 1) := by decide +kernel
theorem dX8_reaches_26 : decode cX8_reaches 26 = .ok (.if_icmp .eq 23, 3) := by decide +kernel
theorem dX8_reaches_29 : decode cX8_reaches 29 = .ok (.iload 5, 2) := by decide +kernel
theorem dX8_reaches_31 : decode cX8_reaches 31 = .ok (.aload_n 0, 1) := by decide +kernel
theorem dX8_reaches_32 : decode cX8_reaches 32 = .ok (.iload_n 1, 1) := by decide +kernel
theorem dX8_reaches_33 : decode cX8_reaches 33 = .ok (.iconst 1, 1) := by decide +kernel
theorem dX8_reaches_34 : decode cX8_reaches 34 = .ok (.invokevirtual 56, 3) := by decide +kernel
theorem dX8_reaches_37 : decode cX8_reaches 37 = .ok (.iload_n 2, 1) := by decide +kernel
theorem dX8_reaches_38 : decode cX8_reaches 38 = .ok (.iload_n 3, 1) := by decide +kernel
theorem dX8_reaches_39 : decode cX8_reaches 39 = .ok (.invokestatic 73, 3) := by decide +kernel
theorem dX8_reaches_42 : decode cX8_reaches 42 = .ok (.ifCond .eq 7, 3) := by decide +kernel
theorem dX8_reaches_45 : decode cX8_reaches 45 = .ok (.iconst 1, 1) := by decide +kernel
theorem dX8_reaches_46 : decode cX8_reaches 46 = .ok (.goto 4, 3) := by decide +kernel
theorem dX8_reaches_49 : decode cX8_reaches 49 = .ok (.iconst 0, 1) := by decide +kernel
theorem dX8_reaches_50 : decode cX8_reaches 50 = .ok (.ireturn, 1) := by decide +kernel
theorem dX8_reachedBy_0 : decode cX8_reachedBy 0 = .ok (.iconst 0, 1) := by decide +kernel
theorem dX8_reachedBy_1 : decode cX8_reachedBy 1 = .ok (.istore 4, 2) := by decide +kernel
theorem dX8_reachedBy_3 : decode cX8_reachedBy 3 = .ok (.iconst 0, 1) := by decide +kernel
theorem dX8_reachedBy_4 : decode cX8_reachedBy 4 = .ok (.istore 5, 2) := by decide +kernel
theorem dX8_reachedBy_6 : decode cX8_reachedBy 6 = .ok (.iload 5, 2) := by decide +kernel
theorem dX8_reachedBy_8 : decode cX8_reachedBy 8 = .ok (.aload_n 0, 1) := by decide +kernel
theorem dX8_reachedBy_9 : decode cX8_reachedBy 9 = .ok (.getfield 7, 3) := by decide +kernel
theorem dX8_reachedBy_12 : decode cX8_reachedBy 12 = .ok (.iconst 1, 1) := by decide +kernel
theorem dX8_reachedBy_13 : decode cX8_reachedBy 13 = .ok (.iaload, 1) := by decide +kernel
theorem dX8_reachedBy_14 : decode cX8_reachedBy 14 = .ok (.if_icmp .ge 34, 3) := by decide +kernel
theorem dX8_reachedBy_17 : decode cX8_reachedBy 17 = .ok (.iload 4, 2) := by decide +kernel
theorem dX8_reachedBy_19 : decode cX8_reachedBy 19 = .ok (.aload_n 0, 1) := by decide +kernel
theorem dX8_reachedBy_20 : decode cX8_reachedBy 20 = .ok (.iload 5, 2) := by decide +kernel
theorem dX8_reachedBy_22 : decode cX8_reachedBy 22 = .ok (.iload_n 1, 1) := by decide +kernel
theorem dX8_reachedBy_23 : decode cX8_reachedBy 23 = .ok (.iload_n 2, 1) := by decide +kernel
theorem dX8_reachedBy_24 : decode cX8_reachedBy 24 = .ok (.iload_n 3, 1) := by decide +kernel
theorem dX8_reachedBy_25 : decode cX8_reachedBy 25 = .ok (.invokevirtual 77, 3) := by decide +kernel
theorem dX8_reachedBy_28 : decode cX8_reachedBy 28 = .ok (.ifCond .eq 10, 3) := by decide +kernel
theorem dX8_reachedBy_31 : decode cX8_reachedBy 31 = .ok (.iconst 1, 1) := by decide +kernel
theorem dX8_reachedBy_32 : decode cX8_reachedBy 32 = .ok (.iload 5, 2) := by decide +kernel
theorem dX8_reachedBy_34 : decode cX8_reachedBy 34 = .ok (.ishl, 1) := by decide +kernel
theorem dX8_reachedBy_35 : decode cX8_reachedBy 35 = .ok (.goto 4, 3) := by decide +kernel
theorem dX8_reachedBy_38 : decode cX8_reachedBy 38 = .ok (.iconst 0, 1) := by decide +kernel
theorem dX8_reachedBy_39 : decode cX8_reachedBy 39 = .ok (.ior, 1) := by decide +kernel
theorem dX8_reachedBy_40 : decode cX8_reachedBy 40 = .ok (.istore 4, 2) := by decide +kernel
theorem dX8_reachedBy_42 : decode cX8_reachedBy 42 = .ok (.iinc 5 1, 3) := by decide +kernel
theorem dX8_reachedBy_45 : decode cX8_reachedBy 45 = .ok (.goto (-39), 3) := by decide +kernel
theorem dX8_reachedBy_48 : decode cX8_reachedBy 48 = .ok (.iload 4, 2) := by decide +kernel
theorem dX8_reachedBy_50 : decode cX8_reachedBy 50 = .ok (.ireturn, 1) := by decide +kernel
theorem dX8_subscribes_0 : decode cX8_subscribes 0 = .ok (.iload_n 3, 1) := by decide +kernel
theorem dX8_subscribes_1 : decode cX8_subscribes 1 = .ok (.invokestatic 80, 3) := by decide +kernel
theorem dX8_subscribes_4 : decode cX8_subscribes 4 = .ok (.ifCond .ne 5, 3) := by decide +kernel
theorem dX8_subscribes_7 : decode cX8_subscribes 7 = .ok (.iconst 1, 1) := by decide +kernel
theorem dX8_subscribes_8 : decode cX8_subscribes 8 = .ok (.ireturn, 1) := by decide +kernel
theorem dX8_subscribes_9 : decode cX8_subscribes 9 = .ok (.iload_n 1, 1) := by decide +kernel
theorem dX8_subscribes_10 : decode cX8_subscribes 10 = .ok (.iconst 0, 1) := by decide +kernel
theorem dX8_subscribes_11 : decode cX8_subscribes 11 = .ok (.iconst 2, 1) := by decide +kernel
theorem dX8_subscribes_12 : decode cX8_subscribes 12 = .ok (.invokestatic 48, 3) := by decide +kernel
theorem dX8_subscribes_15 : decode cX8_subscribes 15 = .ok (.ifCond .eq 10, 3) := by decide +kernel
theorem dX8_subscribes_18 : decode cX8_subscribes 18 = .ok (.iload_n 2, 1) := by decide +kernel
theorem dX8_subscribes_19 : decode cX8_subscribes 19 = .ok (.invokestatic 84, 3) := by decide +kernel
theorem dX8_subscribes_22 : decode cX8_subscribes 22 = .ok (.ifCond .ne 5, 3) := by decide +kernel
theorem dX8_subscribes_25 : decode cX8_subscribes 25 = .ok (.iconst 2, 1) := by decide +kernel
theorem dX8_subscribes_26 : decode cX8_subscribes 26 = .ok (.ireturn, 1) := by decide +kernel
theorem dX8_subscribes_27 : decode cX8_subscribes 27 = .ok (.aload_n 0, 1) := by decide +kernel
theorem dX8_subscribes_28 : decode cX8_subscribes 28 = .ok (.getfield 7, 3) := by decide +kernel
theorem dX8_subscribes_31 : decode cX8_subscribes 31 = .ok (.iconst 1, 1) := by decide +kernel
theorem dX8_subscribes_32 : decode cX8_subscribes 32 = .ok (.iaload, 1) := by decide +kernel
theorem dX8_subscribes_33 : decode cX8_subscribes 33 = .ok (.bipush 8, 2) := by decide +kernel
theorem dX8_subscribes_35 : decode cX8_subscribes 35 = .ok (.if_icmp .ne 5, 3) := by decide +kernel
theorem dX8_subscribes_38 : decode cX8_subscribes 38 = .ok (.iconst 3, 1) := by decide +kernel
theorem dX8_subscribes_39 : decode cX8_subscribes 39 = .ok (.ireturn, 1) := by decide +kernel
theorem dX8_subscribes_40 : decode cX8_subscribes 40 = .ok (.aload_n 0, 1) := by decide +kernel
theorem dX8_subscribes_41 : decode cX8_subscribes 41 = .ok (.getfield 7, 3) := by decide +kernel
theorem dX8_subscribes_44 : decode cX8_subscribes 44 = .ok (.iconst 1, 1) := by decide +kernel
theorem dX8_subscribes_45 : decode cX8_subscribes 45 = .ok (.iaload, 1) := by decide +kernel
theorem dX8_subscribes_46 : decode cX8_subscribes 46 = .ok (.istore 4, 2) := by decide +kernel
theorem dX8_subscribes_48 : decode cX8_subscribes 48 = .ok (.aload_n 0, 1) := by decide +kernel
theorem dX8_subscribes_49 : decode cX8_subscribes 49 = .ok (.getfield 7, 3) := by decide +kernel
theorem dX8_subscribes_52 : decode cX8_subscribes 52 = .ok (.iconst 1, 1) := by decide +kernel
theorem dX8_subscribes_53 : decode cX8_subscribes 53 = .ok (.dup2, 1) := by decide +kernel
theorem dX8_subscribes_54 : decode cX8_subscribes 54 = .ok (.iaload, 1) := by decide +kernel
theorem dX8_subscribes_55 : decode cX8_subscribes 55 = .ok (.iconst 1, 1) := by decide +kernel
theorem dX8_subscribes_56 : decode cX8_subscribes 56 = .ok (.iadd, 1) := by decide +kernel
theorem dX8_subscribes_57 : decode cX8_subscribes 57 = .ok (.iastore, 1) := by decide +kernel
theorem dX8_subscribes_58 : decode cX8_subscribes 58 = .ok (.iconst 0, 1) := by decide +kernel
theorem dX8_subscribes_59 : decode cX8_subscribes 59 = .ok (.istore 5, 2) := by decide +kernel
theorem dX8_subscribes_61 : decode cX8_subscribes 61 = .ok (.iload 5, 2) := by decide +kernel
theorem dX8_subscribes_63 : decode cX8_subscribes 63 = .ok (.bipush 54, 2) := by decide +kernel
theorem dX8_subscribes_65 : decode cX8_subscribes 65 = .ok (.if_icmp .ge 18, 3) := by decide +kernel
theorem dX8_subscribes_68 : decode cX8_subscribes 68 = .ok (.aload_n 0, 1) := by decide +kernel
theorem dX8_subscribes_69 : decode cX8_subscribes 69 = .ok (.iload 4, 2) := by decide +kernel
theorem dX8_subscribes_71 : decode cX8_subscribes 71 = .ok (.iload 5, 2) := by decide +kernel
theorem dX8_subscribes_73 : decode cX8_subscribes 73 = .ok (.iconst 0, 1) := by decide +kernel
theorem dX8_subscribes_74 : decode cX8_subscribes 74 = .ok (.invokevirtual 59, 3) := by decide +kernel
theorem dX8_subscribes_77 : decode cX8_subscribes 77 = .ok (.iinc 5 1, 3) := by decide +kernel
theorem dX8_subscribes_80 : decode cX8_subscribes 80 = .ok (.goto (-19), 3) := by decide +kernel
theorem dX8_subscribes_83 : decode cX8_subscribes 83 = .ok (.aload_n 0, 1) := by decide +kernel
theorem dX8_subscribes_84 : decode cX8_subscribes 84 = .ok (.iload 4, 2) := by decide +kernel
theorem dX8_subscribes_86 : decode cX8_subscribes 86 = .ok (.iconst 0, 1) := by decide +kernel
theorem dX8_subscribes_87 : decode cX8_subscribes 87 = .ok (.iload_n 1, 1) := by decide +kernel
theorem dX8_subscribes_88 : decode cX8_subscribes 88 = .ok (.invokevirtual 59, 3) := by decide +kernel
theorem dX8_subscribes_91 : decode cX8_subscribes 91 = .ok (.aload_n 0, 1) := by decide +kernel
theorem dX8_subscribes_92 : decode cX8_subscribes 92 = .ok (.iload 4, 2) := by decide +kernel
theorem dX8_subscribes_94 : decode cX8_subscribes 94 = .ok (.iconst 1, 1) := by decide +kernel
theorem dX8_subscribes_95 : decode cX8_subscribes 95 = .ok (.iload_n 2, 1) := by decide +kernel
theorem dX8_subscribes_96 : decode cX8_subscribes 96 = .ok (.invokevirtual 59, 3) := by decide +kernel
theorem dX8_subscribes_99 : decode cX8_subscribes 99 = .ok (.aload_n 0, 1) := by decide +kernel
theorem dX8_subscribes_100 : decode cX8_subscribes 100 = .ok (.iload 4, 2) := by decide +kernel
theorem dX8_subscribes_102 : decode cX8_subscribes 102 = .ok (.iconst 2, 1) := by decide +kernel
theorem dX8_subscribes_103 : decode cX8_subscribes 103 = .ok (.iload_n 3, 1) := by decide +kernel
theorem dX8_subscribes_104 : decode cX8_subscribes 104 = .ok (.invokevirtual 59, 3) := by decide +kernel
theorem dX8_subscribes_107 : decode cX8_subscribes 107 = .ok (.aload_n 0, 1) := by decide +kernel
theorem dX8_subscribes_108 : decode cX8_subscribes 108 = .ok (.iload 4, 2) := by decide +kernel
theorem dX8_subscribes_110 : decode cX8_subscribes 110 = .ok (.iconst 3, 1) := by decide +kernel
theorem dX8_subscribes_111 : decode cX8_subscribes 111 = .ok (.aload_n 0, 1) := by decide +kernel
theorem dX8_subscribes_112 : decode cX8_subscribes 112 = .ok (.getfield 7, 3) := by decide +kernel
theorem dX8_subscribes_115 : decode cX8_subscribes 115 = .ok (.iconst 0, 1) := by decide +kernel
theorem dX8_subscribes_116 : decode cX8_subscribes 116 = .ok (.iaload, 1) := by decide +kernel
theorem dX8_subscribes_117 : decode cX8_subscribes 117 = .ok (.invokevirtual 59, 3) := by decide +kernel
theorem dX8_subscribes_120 : decode cX8_subscribes 120 = .ok (.aload_n 0, 1) := by decide +kernel
theorem dX8_subscribes_121 : decode cX8_subscribes 121 = .ok (.iload 4, 2) := by decide +kernel
theorem dX8_subscribes_123 : decode cX8_subscribes 123 = .ok (.iconst 5, 1) := by decide +kernel
theorem dX8_subscribes_124 : decode cX8_subscribes 124 = .ok (.iconst 1, 1) := by decide +kernel
theorem dX8_subscribes_125 : decode cX8_subscribes 125 = .ok (.invokevirtual 59, 3) := by decide +kernel
theorem dX8_subscribes_128 : decode cX8_subscribes 128 = .ok (.aload_n 0, 1) := by decide +kernel
theorem dX8_subscribes_129 : decode cX8_subscribes 129 = .ok (.iload 4, 2) := by decide +kernel
theorem dX8_subscribes_131 : decode cX8_subscribes 131 = .ok (.iload_n 3, 1) := by decide +kernel
theorem dX8_subscribes_132 : decode cX8_subscribes 132 = .ok (.invokevirtual 87, 3) := by decide +kernel
theorem dX8_subscribes_135 : decode cX8_subscribes 135 = .ok (.aload_n 0, 1) := by decide +kernel
theorem dX8_subscribes_136 : decode cX8_subscribes 136 = .ok (.iload 4, 2) := by decide +kernel
theorem dX8_subscribes_138 : decode cX8_subscribes 138 = .ok (.putfield 91, 3) := by decide +kernel
theorem dX8_subscribes_141 : decode cX8_subscribes 141 = .ok (.iconst 0, 1) := by decide +kernel
theorem dX8_subscribes_142 : decode cX8_subscribes 142 = .ok (.ireturn, 1) := by decide +kernel
theorem dX8_goes_0 : decode cX8_goes 0 = .ok (.aload_n 0, 1) := by decide +kernel
theorem dX8_goes_1 : decode cX8_goes 1 = .ok (.iload_n 1, 1) := by decide +kernel
theorem dX8_goes_2 : decode cX8_goes 2 = .ok (.invokevirtual 94, 3) := by decide +kernel
theorem dX8_goes_5 : decode cX8_goes 5 = .ok (.ifCond .eq 10, 3) := by decide +kernel
theorem dX8_goes_8 : decode cX8_goes 8 = .ok (.iload_n 2, 1) := by decide +kernel
theorem dX8_goes_9 : decode cX8_goes 9 = .ok (.invokestatic 80, 3) := by decide +kernel
theorem dX8_goes_12 : decode cX8_goes 12 = .ok (.ifCond .ne 5, 3) := by decide +kernel
theorem dX8_goes_15 : decode cX8_goes 15 = .ok (.iconst 1, 1) := by decide +kernel
theorem dX8_goes_16 : decode cX8_goes 16 = .ok (.ireturn, 1) := by decide +kernel
theorem dX8_goes_17 : decode cX8_goes 17 = .ok (.aload_n 0, 1) := by decide +kernel
theorem dX8_goes_18 : decode cX8_goes 18 = .ok (.iload_n 1, 1) := by decide +kernel
theorem dX8_goes_19 : decode cX8_goes 19 = .ok (.iconst 5, 1) := by decide +kernel
theorem dX8_goes_20 : decode cX8_goes 20 = .ok (.invokevirtual 56, 3) := by decide +kernel
theorem dX8_goes_23 : decode cX8_goes 23 = .ok (.ifCond .eq 23, 3) := by decide +kernel
theorem dX8_goes_26 : decode cX8_goes 26 = .ok (.aload_n 0, 1) := by decide +kernel
theorem dX8_goes_27 : decode cX8_goes 27 = .ok (.iload_n 1, 1) := by decide +kernel
theorem dX8_goes_28 : decode cX8_goes 28 = .ok (.iconst 0, 1) := by decide +kernel
theorem dX8_goes_29 : decode cX8_goes 29 = .ok (.invokevirtual 56, 3) := by decide +kernel
theorem dX8_goes_32 : decode cX8_goes 32 = .ok (.iconst 2, 1) := by decide +kernel
theorem dX8_goes_33 : decode cX8_goes 33 = .ok (.if_icmp .eq 13, 3) := by decide +kernel
theorem dX8_goes_36 : decode cX8_goes 36 = .ok (.aload_n 0, 1) := by decide +kernel
theorem dX8_goes_37 : decode cX8_goes 37 = .ok (.iload_n 1, 1) := by decide +kernel
theorem dX8_goes_38 : decode cX8_goes 38 = .ok (.iconst 2, 1) := by decide +kernel
theorem dX8_goes_39 : decode cX8_goes 39 = .ok (.invokevirtual 56, 3) := by decide +kernel
theorem dX8_goes_42 : decode cX8_goes 42 = .ok (.iload_n 2, 1) := by decide +kernel
theorem dX8_goes_43 : decode cX8_goes 43 = .ok (.if_icmp .ne 5, 3) := by decide +kernel
theorem dX8_goes_46 : decode cX8_goes 46 = .ok (.iconst 2, 1) := by decide +kernel
theorem dX8_goes_47 : decode cX8_goes 47 = .ok (.ireturn, 1) := by decide +kernel
theorem dX8_goes_48 : decode cX8_goes 48 = .ok (.aload_n 0, 1) := by decide +kernel
theorem dX8_goes_49 : decode cX8_goes 49 = .ok (.aload_n 0, 1) := by decide +kernel
theorem dX8_goes_50 : decode cX8_goes 50 = .ok (.iload_n 1, 1) := by decide +kernel
theorem dX8_goes_51 : decode cX8_goes 51 = .ok (.iconst 2, 1) := by decide +kernel
theorem dX8_goes_52 : decode cX8_goes 52 = .ok (.invokevirtual 56, 3) := by decide +kernel
theorem dX8_goes_55 : decode cX8_goes 55 = .ok (.putfield 91, 3) := by decide +kernel
theorem dX8_goes_58 : decode cX8_goes 58 = .ok (.aload_n 0, 1) := by decide +kernel
theorem dX8_goes_59 : decode cX8_goes 59 = .ok (.iload_n 1, 1) := by decide +kernel
theorem dX8_goes_60 : decode cX8_goes 60 = .ok (.iconst 2, 1) := by decide +kernel
theorem dX8_goes_61 : decode cX8_goes 61 = .ok (.iload_n 2, 1) := by decide +kernel
theorem dX8_goes_62 : decode cX8_goes 62 = .ok (.invokevirtual 59, 3) := by decide +kernel
theorem dX8_goes_65 : decode cX8_goes 65 = .ok (.aload_n 0, 1) := by decide +kernel
theorem dX8_goes_66 : decode cX8_goes 66 = .ok (.iload_n 1, 1) := by decide +kernel
theorem dX8_goes_67 : decode cX8_goes 67 = .ok (.iconst 3, 1) := by decide +kernel
theorem dX8_goes_68 : decode cX8_goes 68 = .ok (.aload_n 0, 1) := by decide +kernel
theorem dX8_goes_69 : decode cX8_goes 69 = .ok (.getfield 7, 3) := by decide +kernel
theorem dX8_goes_72 : decode cX8_goes 72 = .ok (.iconst 0, 1) := by decide +kernel
theorem dX8_goes_73 : decode cX8_goes 73 = .ok (.iaload, 1) := by decide +kernel
theorem dX8_goes_74 : decode cX8_goes 74 = .ok (.invokevirtual 59, 3) := by decide +kernel
theorem dX8_goes_77 : decode cX8_goes 77 = .ok (.iconst 0, 1) := by decide +kernel
theorem dX8_goes_78 : decode cX8_goes 78 = .ok (.ireturn, 1) := by decide +kernel
theorem dX8_quits_0 : decode cX8_quits 0 = .ok (.aload_n 0, 1) := by decide +kernel
theorem dX8_quits_1 : decode cX8_quits 1 = .ok (.iload_n 1, 1) := by decide +kernel
theorem dX8_quits_2 : decode cX8_quits 2 = .ok (.invokevirtual 94, 3) := by decide +kernel
theorem dX8_quits_5 : decode cX8_quits 5 = .ok (.ifCond .ne 5, 3) := by decide +kernel
theorem dX8_quits_8 : decode cX8_quits 8 = .ok (.iconst 1, 1) := by decide +kernel
theorem dX8_quits_9 : decode cX8_quits 9 = .ok (.ireturn, 1) := by decide +kernel
theorem dX8_quits_10 : decode cX8_quits 10 = .ok (.aload_n 0, 1) := by decide +kernel
theorem dX8_quits_11 : decode cX8_quits 11 = .ok (.iload_n 1, 1) := by decide +kernel
theorem dX8_quits_12 : decode cX8_quits 12 = .ok (.iconst 5, 1) := by decide +kernel
theorem dX8_quits_13 : decode cX8_quits 13 = .ok (.invokevirtual 56, 3) := by decide +kernel
theorem dX8_quits_16 : decode cX8_quits 16 = .ok (.ifCond .ne 5, 3) := by decide +kernel
theorem dX8_quits_19 : decode cX8_quits 19 = .ok (.iconst 2, 1) := by decide +kernel
theorem dX8_quits_20 : decode cX8_quits 20 = .ok (.ireturn, 1) := by decide +kernel
theorem dX8_quits_21 : decode cX8_quits 21 = .ok (.aload_n 0, 1) := by decide +kernel
theorem dX8_quits_22 : decode cX8_quits 22 = .ok (.aload_n 0, 1) := by decide +kernel
theorem dX8_quits_23 : decode cX8_quits 23 = .ok (.iload_n 1, 1) := by decide +kernel
theorem dX8_quits_24 : decode cX8_quits 24 = .ok (.bipush 6, 2) := by decide +kernel
theorem dX8_quits_26 : decode cX8_quits 26 = .ok (.invokevirtual 56, 3) := by decide +kernel
theorem dX8_quits_29 : decode cX8_quits 29 = .ok (.putfield 91, 3) := by decide +kernel
theorem dX8_quits_32 : decode cX8_quits 32 = .ok (.aload_n 0, 1) := by decide +kernel
theorem dX8_quits_33 : decode cX8_quits 33 = .ok (.getfield 7, 3) := by decide +kernel
theorem dX8_quits_36 : decode cX8_quits 36 = .ok (.bipush 7, 2) := by decide +kernel
theorem dX8_quits_38 : decode cX8_quits 38 = .ok (.dup2, 1) := by decide +kernel
theorem dX8_quits_39 : decode cX8_quits 39 = .ok (.iaload, 1) := by decide +kernel
theorem dX8_quits_40 : decode cX8_quits 40 = .ok (.aload_n 0, 1) := by decide +kernel
theorem dX8_quits_41 : decode cX8_quits 41 = .ok (.getfield 91, 3) := by decide +kernel
theorem dX8_quits_44 : decode cX8_quits 44 = .ok (.iadd, 1) := by decide +kernel
theorem dX8_quits_45 : decode cX8_quits 45 = .ok (.iastore, 1) := by decide +kernel
theorem dX8_quits_46 : decode cX8_quits 46 = .ok (.aload_n 0, 1) := by decide +kernel
theorem dX8_quits_47 : decode cX8_quits 47 = .ok (.iload_n 1, 1) := by decide +kernel
theorem dX8_quits_48 : decode cX8_quits 48 = .ok (.bipush 6, 2) := by decide +kernel
theorem dX8_quits_50 : decode cX8_quits 50 = .ok (.iconst 0, 1) := by decide +kernel
theorem dX8_quits_51 : decode cX8_quits 51 = .ok (.invokevirtual 59, 3) := by decide +kernel
theorem dX8_quits_54 : decode cX8_quits 54 = .ok (.aload_n 0, 1) := by decide +kernel
theorem dX8_quits_55 : decode cX8_quits 55 = .ok (.iload_n 1, 1) := by decide +kernel
theorem dX8_quits_56 : decode cX8_quits 56 = .ok (.iconst 5, 1) := by decide +kernel
theorem dX8_quits_57 : decode cX8_quits 57 = .ok (.iconst 0, 1) := by decide +kernel
theorem dX8_quits_58 : decode cX8_quits 58 = .ok (.invokevirtual 59, 3) := by decide +kernel
theorem dX8_quits_61 : decode cX8_quits 61 = .ok (.aload_n 0, 1) := by decide +kernel
theorem dX8_quits_62 : decode cX8_quits 62 = .ok (.iload_n 1, 1) := by decide +kernel
theorem dX8_quits_63 : decode cX8_quits 63 = .ok (.invokevirtual 97, 3) := by decide +kernel
theorem dX8_quits_66 : decode cX8_quits 66 = .ok (.iconst 0, 1) := by decide +kernel
theorem dX8_quits_67 : decode cX8_quits 67 = .ok (.ireturn, 1) := by decide +kernel
theorem dX8_sets_0 : decode cX8_sets 0 = .ok (.iload_n 1, 1) := by decide +kernel
theorem dX8_sets_1 : decode cX8_sets 1 = .ok (.iconst 0, 1) := by decide +kernel
theorem dX8_sets_2 : decode cX8_sets 2 = .ok (.iconst 3, 1) := by decide +kernel
theorem dX8_sets_3 : decode cX8_sets 3 = .ok (.invokestatic 48, 3) := by decide +kernel
theorem dX8_sets_6 : decode cX8_sets 6 = .ok (.ifCond .ne 5, 3) := by decide +kernel
theorem dX8_sets_9 : decode cX8_sets 9 = .ok (.iconst 1, 1) := by decide +kernel
theorem dX8_sets_10 : decode cX8_sets 10 = .ok (.ireturn, 1) := by decide +kernel
theorem dX8_sets_11 : decode cX8_sets 11 = .ok (.iload_n 1, 1) := by decide +kernel
theorem dX8_sets_12 : decode cX8_sets 12 = .ok (.iconst 3, 1) := by decide +kernel
theorem dX8_sets_13 : decode cX8_sets 13 = .ok (.if_icmp .ne 8, 3) := by decide +kernel
theorem dX8_sets_16 : decode cX8_sets 16 = .ok (.bipush 20, 2) := by decide +kernel
theorem dX8_sets_18 : decode cX8_sets 18 = .ok (.goto 5, 3) := by decide +kernel
theorem dX8_sets_21 : decode cX8_sets 21 = .ok (.bipush 9, 2) := by decide +kernel
theorem dX8_sets_23 : decode cX8_sets 23 = .ok (.istore_n 3, 1) := by decide +kernel
theorem dX8_sets_24 : decode cX8_sets 24 = .ok (.iload_n 2, 1) := by decide +kernel
theorem dX8_sets_25 : decode cX8_sets 25 = .ok (.iload_n 1, 1) := by decide +kernel
theorem dX8_sets_26 : decode cX8_sets 26 = .ok (.iconst 1, 1) := by decide +kernel
theorem dX8_sets_27 : decode cX8_sets 27 = .ok (.if_icmp .ne 7, 3) := by decide +kernel
theorem dX8_sets_30 : decode cX8_sets 30 = .ok (.iconst 1, 1) := by decide +kernel
theorem dX8_sets_31 : decode cX8_sets 31 = .ok (.goto 4, 3) := by decide +kernel
theorem dX8_sets_34 : decode cX8_sets 34 = .ok (.iconst 0, 1) := by decide +kernel
theorem dX8_sets_35 : decode cX8_sets 35 = .ok (.iload_n 3, 1) := by decide +kernel
theorem dX8_sets_36 : decode cX8_sets 36 = .ok (.invokestatic 48, 3) := by decide +kernel
theorem dX8_sets_39 : decode cX8_sets 39 = .ok (.ifCond .ne 5, 3) := by decide +kernel
theorem dX8_sets_42 : decode cX8_sets 42 = .ok (.iconst 1, 1) := by decide +kernel
theorem dX8_sets_43 : decode cX8_sets 43 = .ok (.ireturn, 1) := by decide +kernel
theorem dX8_sets_44 : decode cX8_sets 44 = .ok (.aload_n 0, 1) := by decide +kernel
theorem dX8_sets_45 : decode cX8_sets 45 = .ok (.aload_n 0, 1) := by decide +kernel
theorem dX8_sets_46 : decode cX8_sets 46 = .ok (.iload_n 1, 1) := by decide +kernel
theorem dX8_sets_47 : decode cX8_sets 47 = .ok (.invokevirtual 101, 3) := by decide +kernel
theorem dX8_sets_50 : decode cX8_sets 50 = .ok (.putfield 91, 3) := by decide +kernel
theorem dX8_sets_53 : decode cX8_sets 53 = .ok (.aload_n 0, 1) := by decide +kernel
theorem dX8_sets_54 : decode cX8_sets 54 = .ok (.getfield 7, 3) := by decide +kernel
theorem dX8_sets_57 : decode cX8_sets 57 = .ok (.iconst 3, 1) := by decide +kernel
theorem dX8_sets_58 : decode cX8_sets 58 = .ok (.iload_n 1, 1) := by decide +kernel
theorem dX8_sets_59 : decode cX8_sets 59 = .ok (.iadd, 1) := by decide +kernel
theorem dX8_sets_60 : decode cX8_sets 60 = .ok (.iload_n 2, 1) := by decide +kernel
theorem dX8_sets_61 : decode cX8_sets 61 = .ok (.iastore, 1) := by decide +kernel
theorem dX8_sets_62 : decode cX8_sets 62 = .ok (.iconst 0, 1) := by decide +kernel
theorem dX8_sets_63 : decode cX8_sets 63 = .ok (.ireturn, 1) := by decide +kernel
theorem dX8_isTooLate_0 : decode cX8_isTooLate 0 = .ok (.iload_n 1, 1) := by decide +kernel
theorem dX8_isTooLate_1 : decode cX8_isTooLate 1 = .ok (.aload_n 0, 1) := by decide +kernel
theorem dX8_isTooLate_2 : decode cX8_isTooLate 2 = .ok (.iconst 3, 1) := by decide +kernel
theorem dX8_isTooLate_3 : decode cX8_isTooLate 3 = .ok (.invokevirtual 101, 3) := by decide +kernel
theorem dX8_isTooLate_6 : decode cX8_isTooLate 6 = .ok (.if_icmp .gt 13, 3) := by decide +kernel
theorem dX8_isTooLate_9 : decode cX8_isTooLate 9 = .ok (.iload_n 1, 1) := by decide +kernel
theorem dX8_isTooLate_10 : decode cX8_isTooLate 10 = .ok (.aload_n 0, 1) := by decide +kernel
theorem dX8_isTooLate_11 : decode cX8_isTooLate 11 = .ok (.getfield 7, 3) := by decide +kernel
theorem dX8_isTooLate_14 : decode cX8_isTooLate 14 = .ok (.iconst 0, 1) := by decide +kernel
theorem dX8_isTooLate_15 : decode cX8_isTooLate 15 = .ok (.iaload, 1) := by decide +kernel
theorem dX8_isTooLate_16 : decode cX8_isTooLate 16 = .ok (.if_icmp .le 7, 3) := by decide +kernel
theorem dX8_isTooLate_19 : decode cX8_isTooLate 19 = .ok (.iconst 1, 1) := by decide +kernel
theorem dX8_isTooLate_20 : decode cX8_isTooLate 20 = .ok (.goto 4, 3) := by decide +kernel
theorem dX8_isTooLate_23 : decode cX8_isTooLate 23 = .ok (.iconst 0, 1) := by decide +kernel
theorem dX8_isTooLate_24 : decode cX8_isTooLate 24 = .ok (.ireturn, 1) := by decide +kernel
theorem dX8_publishes_0 : decode cX8_publishes 0 = .ok (.iload_n 1, 1) := by decide +kernel
theorem dX8_publishes_1 : decode cX8_publishes 1 = .ok (.invokestatic 80, 3) := by decide +kernel
theorem dX8_publishes_4 : decode cX8_publishes 4 = .ok (.ifCond .ne 5, 3) := by decide +kernel
theorem dX8_publishes_7 : decode cX8_publishes 7 = .ok (.iconst 1, 1) := by decide +kernel
theorem dX8_publishes_8 : decode cX8_publishes 8 = .ok (.ireturn, 1) := by decide +kernel
theorem dX8_publishes_9 : decode cX8_publishes 9 = .ok (.iload_n 2, 1) := by decide +kernel
theorem dX8_publishes_10 : decode cX8_publishes 10 = .ok (.invokestatic 84, 3) := by decide +kernel
theorem dX8_publishes_13 : decode cX8_publishes 13 = .ok (.ifCond .eq 7, 3) := by decide +kernel
theorem dX8_publishes_16 : decode cX8_publishes 16 = .ok (.iload_n 3, 1) := by decide +kernel
theorem dX8_publishes_17 : decode cX8_publishes 17 = .ok (.ifCond .ge 5, 3) := by decide +kernel
theorem dX8_publishes_20 : decode cX8_publishes 20 = .ok (.iconst 2, 1) := by decide +kernel
theorem dX8_publishes_21 : decode cX8_publishes 21 = .ok (.ireturn, 1) := by decide +kernel
theorem dX8_publishes_22 : decode cX8_publishes 22 = .ok (.aload_n 0, 1) := by decide +kernel
theorem dX8_publishes_23 : decode cX8_publishes 23 = .ok (.getfield 7, 3) := by decide +kernel
theorem dX8_publishes_26 : decode cX8_publishes 26 = .ok (.iconst 2, 1) := by decide +kernel
theorem dX8_publishes_27 : decode cX8_publishes 27 = .ok (.iaload, 1) := by decide +kernel
theorem dX8_publishes_28 : decode cX8_publishes 28 = .ok (.bipush 60, 2) := by decide +kernel
theorem dX8_publishes_30 : decode cX8_publishes 30 = .ok (.if_icmp .eq 11, 3) := by decide +kernel
theorem dX8_publishes_33 : decode cX8_publishes 33 = .ok (.aload_n 0, 1) := by decide +kernel
theorem dX8_publishes_34 : decode cX8_publishes 34 = .ok (.iload_n 3, 1) := by decide +kernel
theorem dX8_publishes_35 : decode cX8_publishes 35 = .ok (.invokevirtual 104, 3) := by decide +kernel
theorem dX8_publishes_38 : decode cX8_publishes 38 = .ok (.ifCond .eq 5, 3) := by decide +kernel
theorem dX8_publishes_41 : decode cX8_publishes 41 = .ok (.iconst 3, 1) := by decide +kernel
theorem dX8_publishes_42 : decode cX8_publishes 42 = .ok (.ireturn, 1) := by decide +kernel
theorem dX8_publishes_43 : decode cX8_publishes 43 = .ok (.aload_n 0, 1) := by decide +kernel
theorem dX8_publishes_44 : decode cX8_publishes 44 = .ok (.getfield 7, 3) := by decide +kernel
theorem dX8_publishes_47 : decode cX8_publishes 47 = .ok (.iconst 2, 1) := by decide +kernel
theorem dX8_publishes_48 : decode cX8_publishes 48 = .ok (.iaload, 1) := by decide +kernel
theorem dX8_publishes_49 : decode cX8_publishes 49 = .ok (.istore 4, 2) := by decide +kernel
theorem dX8_publishes_51 : decode cX8_publishes 51 = .ok (.sipush 456, 3) := by decide +kernel
theorem dX8_publishes_54 : decode cX8_publishes 54 = .ok (.bipush 6, 2) := by decide +kernel
theorem dX8_publishes_56 : decode cX8_publishes 56 = .ok (.iload 4, 2) := by decide +kernel
theorem dX8_publishes_58 : decode cX8_publishes 58 = .ok (.imul, 1) := by decide +kernel
theorem dX8_publishes_59 : decode cX8_publishes 59 = .ok (.iadd, 1) := by decide +kernel
theorem dX8_publishes_60 : decode cX8_publishes 60 = .ok (.istore 5, 2) := by decide +kernel
theorem dX8_publishes_62 : decode cX8_publishes 62 = .ok (.aload_n 0, 1) := by decide +kernel
theorem dX8_publishes_63 : decode cX8_publishes 63 = .ok (.getfield 7, 3) := by decide +kernel
theorem dX8_publishes_66 : decode cX8_publishes 66 = .ok (.iconst 2, 1) := by decide +kernel
theorem dX8_publishes_67 : decode cX8_publishes 67 = .ok (.dup2, 1) := by decide +kernel
theorem dX8_publishes_68 : decode cX8_publishes 68 = .ok (.iaload, 1) := by decide +kernel
theorem dX8_publishes_69 : decode cX8_publishes 69 = .ok (.iconst 1, 1) := by decide +kernel
theorem dX8_publishes_70 : decode cX8_publishes 70 = .ok (.iadd, 1) := by decide +kernel
theorem dX8_publishes_71 : decode cX8_publishes 71 = .ok (.iastore, 1) := by decide +kernel
theorem dX8_publishes_72 : decode cX8_publishes 72 = .ok (.aload_n 0, 1) := by decide +kernel
theorem dX8_publishes_73 : decode cX8_publishes 73 = .ok (.getfield 7, 3) := by decide +kernel
theorem dX8_publishes_76 : decode cX8_publishes 76 = .ok (.iload 5, 2) := by decide +kernel
theorem dX8_publishes_78 : decode cX8_publishes 78 = .ok (.iconst 0, 1) := by decide +kernel
theorem dX8_publishes_79 : decode cX8_publishes 79 = .ok (.iadd, 1) := by decide +kernel
theorem dX8_publishes_80 : decode cX8_publishes 80 = .ok (.iload_n 1, 1) := by decide +kernel
theorem dX8_publishes_81 : decode cX8_publishes 81 = .ok (.iastore, 1) := by decide +kernel
theorem dX8_publishes_82 : decode cX8_publishes 82 = .ok (.aload_n 0, 1) := by decide +kernel
theorem dX8_publishes_83 : decode cX8_publishes 83 = .ok (.getfield 7, 3) := by decide +kernel
theorem dX8_publishes_86 : decode cX8_publishes 86 = .ok (.iload 5, 2) := by decide +kernel
theorem dX8_publishes_88 : decode cX8_publishes 88 = .ok (.iconst 1, 1) := by decide +kernel
theorem dX8_publishes_89 : decode cX8_publishes 89 = .ok (.iadd, 1) := by decide +kernel
theorem dX8_publishes_90 : decode cX8_publishes 90 = .ok (.iload_n 2, 1) := by decide +kernel
theorem dX8_publishes_91 : decode cX8_publishes 91 = .ok (.iastore, 1) := by decide +kernel
theorem dX8_publishes_92 : decode cX8_publishes 92 = .ok (.aload_n 0, 1) := by decide +kernel
theorem dX8_publishes_93 : decode cX8_publishes 93 = .ok (.getfield 7, 3) := by decide +kernel
theorem dX8_publishes_96 : decode cX8_publishes 96 = .ok (.iload 5, 2) := by decide +kernel
theorem dX8_publishes_98 : decode cX8_publishes 98 = .ok (.iconst 2, 1) := by decide +kernel
theorem dX8_publishes_99 : decode cX8_publishes 99 = .ok (.iadd, 1) := by decide +kernel
theorem dX8_publishes_100 : decode cX8_publishes 100 = .ok (.aload_n 0, 1) := by decide +kernel
theorem dX8_publishes_101 : decode cX8_publishes 101 = .ok (.getfield 7, 3) := by decide +kernel
theorem dX8_publishes_104 : decode cX8_publishes 104 = .ok (.iconst 0, 1) := by decide +kernel
theorem dX8_publishes_105 : decode cX8_publishes 105 = .ok (.iaload, 1) := by decide +kernel
theorem dX8_publishes_106 : decode cX8_publishes 106 = .ok (.iload_n 3, 1) := by decide +kernel
theorem dX8_publishes_107 : decode cX8_publishes 107 = .ok (.isub, 1) := by decide +kernel
theorem dX8_publishes_108 : decode cX8_publishes 108 = .ok (.iastore, 1) := by decide +kernel
theorem dX8_publishes_109 : decode cX8_publishes 109 = .ok (.aload_n 0, 1) := by decide +kernel
theorem dX8_publishes_110 : decode cX8_publishes 110 = .ok (.getfield 7, 3) := by decide +kernel
theorem dX8_publishes_113 : decode cX8_publishes 113 = .ok (.iload 5, 2) := by decide +kernel
theorem dX8_publishes_115 : decode cX8_publishes 115 = .ok (.iconst 3, 1) := by decide +kernel
theorem dX8_publishes_116 : decode cX8_publishes 116 = .ok (.iadd, 1) := by decide +kernel
theorem dX8_publishes_117 : decode cX8_publishes 117 = .ok (.aload_n 0, 1) := by decide +kernel
theorem dX8_publishes_118 : decode cX8_publishes 118 = .ok (.getfield 7, 3) := by decide +kernel
theorem dX8_publishes_121 : decode cX8_publishes 121 = .ok (.iconst 0, 1) := by decide +kernel
theorem dX8_publishes_122 : decode cX8_publishes 122 = .ok (.iaload, 1) := by decide +kernel
theorem dX8_publishes_123 : decode cX8_publishes 123 = .ok (.iastore, 1) := by decide +kernel
theorem dX8_publishes_124 : decode cX8_publishes 124 = .ok (.aload_n 0, 1) := by decide +kernel
theorem dX8_publishes_125 : decode cX8_publishes 125 = .ok (.getfield 7, 3) := by decide +kernel
theorem dX8_publishes_128 : decode cX8_publishes 128 = .ok (.iload 5, 2) := by decide +kernel
theorem dX8_publishes_130 : decode cX8_publishes 130 = .ok (.iconst 4, 1) := by decide +kernel
theorem dX8_publishes_131 : decode cX8_publishes 131 = .ok (.iadd, 1) := by decide +kernel
theorem dX8_publishes_132 : decode cX8_publishes 132 = .ok (.aload_n 0, 1) := by decide +kernel
theorem dX8_publishes_133 : decode cX8_publishes 133 = .ok (.iload_n 1, 1) := by decide +kernel
theorem dX8_publishes_134 : decode cX8_publishes 134 = .ok (.iload_n 2, 1) := by decide +kernel
theorem dX8_publishes_135 : decode cX8_publishes 135 = .ok (.aload_n 0, 1) := by decide +kernel
theorem dX8_publishes_136 : decode cX8_publishes 136 = .ok (.getfield 7, 3) := by decide +kernel
theorem dX8_publishes_139 : decode cX8_publishes 139 = .ok (.iconst 0, 1) := by decide +kernel
theorem dX8_publishes_140 : decode cX8_publishes 140 = .ok (.iaload, 1) := by decide +kernel
theorem dX8_publishes_141 : decode cX8_publishes 141 = .ok (.iload_n 3, 1) := by decide +kernel
theorem dX8_publishes_142 : decode cX8_publishes 142 = .ok (.isub, 1) := by decide +kernel
theorem dX8_publishes_143 : decode cX8_publishes 143 = .ok (.invokevirtual 107, 3) := by decide +kernel
theorem dX8_publishes_146 : decode cX8_publishes 146 = .ok (.iastore, 1) := by decide +kernel
theorem dX8_publishes_147 : decode cX8_publishes 147 = .ok (.aload_n 0, 1) := by decide +kernel
theorem dX8_publishes_148 : decode cX8_publishes 148 = .ok (.getfield 7, 3) := by decide +kernel
theorem dX8_publishes_151 : decode cX8_publishes 151 = .ok (.iload 5, 2) := by decide +kernel
theorem dX8_publishes_153 : decode cX8_publishes 153 = .ok (.iconst 5, 1) := by decide +kernel
theorem dX8_publishes_154 : decode cX8_publishes 154 = .ok (.iadd, 1) := by decide +kernel
theorem dX8_publishes_155 : decode cX8_publishes 155 = .ok (.iconst 0, 1) := by decide +kernel
theorem dX8_publishes_156 : decode cX8_publishes 156 = .ok (.iastore, 1) := by decide +kernel
theorem dX8_publishes_157 : decode cX8_publishes 157 = .ok (.iconst 0, 1) := by decide +kernel
theorem dX8_publishes_158 : decode cX8_publishes 158 = .ok (.istore 6, 2) := by decide +kernel
theorem dX8_publishes_160 : decode cX8_publishes 160 = .ok (.iload 6, 2) := by decide +kernel
theorem dX8_publishes_162 : decode cX8_publishes 162 = .ok (.aload_n 0, 1) := by decide +kernel
theorem dX8_publishes_163 : decode cX8_publishes 163 = .ok (.getfield 7, 3) := by decide +kernel
theorem dX8_publishes_166 : decode cX8_publishes 166 = .ok (.iconst 1, 1) := by decide +kernel
theorem dX8_publishes_167 : decode cX8_publishes 167 = .ok (.iaload, 1) := by decide +kernel
theorem dX8_publishes_168 : decode cX8_publishes 168 = .ok (.if_icmp .ge 35, 3) := by decide +kernel
theorem dX8_publishes_171 : decode cX8_publishes 171 = .ok (.aload_n 0, 1) := by decide +kernel
theorem dX8_publishes_172 : decode cX8_publishes 172 = .ok (.getfield 7, 3) := by decide +kernel
theorem dX8_publishes_175 : decode cX8_publishes 175 = .ok (.iload 5, 2) := by decide +kernel
theorem dX8_publishes_177 : decode cX8_publishes 177 = .ok (.iconst 4, 1) := by decide +kernel
theorem dX8_publishes_178 : decode cX8_publishes 178 = .ok (.iadd, 1) := by decide +kernel
theorem dX8_publishes_179 : decode cX8_publishes 179 = .ok (.iaload, 1) := by decide +kernel
theorem dX8_publishes_180 : decode cX8_publishes 180 = .ok (.iload 6, 2) := by decide +kernel
theorem dX8_publishes_182 : decode cX8_publishes 182 = .ok (.ishr, 1) := by decide +kernel
theorem dX8_publishes_183 : decode cX8_publishes 183 = .ok (.iconst 1, 1) := by decide +kernel
theorem dX8_publishes_184 : decode cX8_publishes 184 = .ok (.iand, 1) := by decide +kernel
theorem dX8_publishes_185 : decode cX8_publishes 185 = .ok (.iconst 1, 1) := by decide +kernel
theorem dX8_publishes_186 : decode cX8_publishes 186 = .ok (.if_icmp .ne 11, 3) := by decide +kernel
theorem dX8_publishes_189 : decode cX8_publishes 189 = .ok (.aload_n 0, 1) := by decide +kernel
theorem dX8_publishes_190 : decode cX8_publishes 190 = .ok (.iload 6, 2) := by decide +kernel
theorem dX8_publishes_192 : decode cX8_publishes 192 = .ok (.iload 4, 2) := by decide +kernel
theorem dX8_publishes_194 : decode cX8_publishes 194 = .ok (.invokevirtual 110, 3) := by decide +kernel
theorem dX8_publishes_197 : decode cX8_publishes 197 = .ok (.iinc 6 1, 3) := by decide +kernel
theorem dX8_publishes_200 : decode cX8_publishes 200 = .ok (.goto (-40), 3) := by decide +kernel
theorem dX8_publishes_203 : decode cX8_publishes 203 = .ok (.aload_n 0, 1) := by decide +kernel
theorem dX8_publishes_204 : decode cX8_publishes 204 = .ok (.iload 4, 2) := by decide +kernel
theorem dX8_publishes_206 : decode cX8_publishes 206 = .ok (.putfield 91, 3) := by decide +kernel
theorem dX8_publishes_209 : decode cX8_publishes 209 = .ok (.iconst 0, 1) := by decide +kernel
theorem dX8_publishes_210 : decode cX8_publishes 210 = .ok (.ireturn, 1) := by decide +kernel
theorem dX8_arrives_0 : decode cX8_arrives 0 = .ok (.aload_n 0, 1) := by decide +kernel
theorem dX8_arrives_1 : decode cX8_arrives 1 = .ok (.iload_n 1, 1) := by decide +kernel
theorem dX8_arrives_2 : decode cX8_arrives 2 = .ok (.bipush 6, 2) := by decide +kernel
theorem dX8_arrives_4 : decode cX8_arrives 4 = .ok (.invokevirtual 56, 3) := by decide +kernel
theorem dX8_arrives_7 : decode cX8_arrives 7 = .ok (.bipush 12, 2) := by decide +kernel
theorem dX8_arrives_9 : decode cX8_arrives 9 = .ok (.if_icmp .ne 14, 3) := by decide +kernel
theorem dX8_arrives_12 : decode cX8_arrives 12 = .ok (.aload_n 0, 1) := by decide +kernel
theorem dX8_arrives_13 : decode cX8_arrives 13 = .ok (.iload_n 1, 1) := by decide +kernel
theorem dX8_arrives_14 : decode cX8_arrives 14 = .ok (.bipush 8, 2) := by decide +kernel
theorem dX8_arrives_16 : decode cX8_arrives 16 = .ok (.iconst 1, 1) := by decide +kernel
theorem dX8_arrives_17 : decode cX8_arrives 17 = .ok (.invokevirtual 63, 3) := by decide +kernel
theorem dX8_arrives_20 : decode cX8_arrives 20 = .ok (.goto 27, 3) := by decide +kernel
theorem dX8_arrives_23 : decode cX8_arrives 23 = .ok (.aload_n 0, 1) := by decide +kernel
theorem dX8_arrives_24 : decode cX8_arrives 24 = .ok (.iload_n 1, 1) := by decide +kernel
theorem dX8_arrives_25 : decode cX8_arrives 25 = .ok (.bipush 12, 2) := by decide +kernel
theorem dX8_arrives_27 : decode cX8_arrives 27 = .ok (.aload_n 0, 1) := by decide +kernel
theorem dX8_arrives_28 : decode cX8_arrives 28 = .ok (.iload_n 1, 1) := by decide +kernel
theorem dX8_arrives_29 : decode cX8_arrives 29 = .ok (.bipush 6, 2) := by decide +kernel
theorem dX8_arrives_31 : decode cX8_arrives 31 = .ok (.invokevirtual 56, 3) := by decide +kernel
theorem dX8_arrives_34 : decode cX8_arrives 34 = .ok (.iadd, 1) := by decide +kernel
theorem dX8_arrives_35 : decode cX8_arrives 35 = .ok (.iload_n 2, 1) := by decide +kernel
theorem dX8_arrives_36 : decode cX8_arrives 36 = .ok (.invokevirtual 59, 3) := by decide +kernel
theorem dX8_arrives_39 : decode cX8_arrives 39 = .ok (.aload_n 0, 1) := by decide +kernel
theorem dX8_arrives_40 : decode cX8_arrives 40 = .ok (.iload_n 1, 1) := by decide +kernel
theorem dX8_arrives_41 : decode cX8_arrives 41 = .ok (.bipush 6, 2) := by decide +kernel
theorem dX8_arrives_43 : decode cX8_arrives 43 = .ok (.iconst 1, 1) := by decide +kernel
theorem dX8_arrives_44 : decode cX8_arrives 44 = .ok (.invokevirtual 63, 3) := by decide +kernel
theorem dX8_arrives_47 : decode cX8_arrives 47 = .ok (.return_, 1) := by decide +kernel
theorem dX8_dwellOf_0 : decode cX8_dwellOf 0 = .ok (.aload_n 0, 1) := by decide +kernel
theorem dX8_dwellOf_1 : decode cX8_dwellOf 1 = .ok (.iload_n 1, 1) := by decide +kernel
theorem dX8_dwellOf_2 : decode cX8_dwellOf 2 = .ok (.iconst 0, 1) := by decide +kernel
theorem dX8_dwellOf_3 : decode cX8_dwellOf 3 = .ok (.invokevirtual 56, 3) := by decide +kernel
theorem dX8_dwellOf_6 : decode cX8_dwellOf 6 = .ok (.iconst 1, 1) := by decide +kernel
theorem dX8_dwellOf_7 : decode cX8_dwellOf 7 = .ok (.if_icmp .ne 13, 3) := by decide +kernel
theorem dX8_dwellOf_10 : decode cX8_dwellOf 10 = .ok (.aload_n 0, 1) := by decide +kernel
theorem dX8_dwellOf_11 : decode cX8_dwellOf 11 = .ok (.iconst 0, 1) := by decide +kernel
theorem dX8_dwellOf_12 : decode cX8_dwellOf 12 = .ok (.invokevirtual 101, 3) := by decide +kernel
theorem dX8_dwellOf_15 : decode cX8_dwellOf 15 = .ok (.iconst 2, 1) := by decide +kernel
theorem dX8_dwellOf_16 : decode cX8_dwellOf 16 = .ok (.idiv, 1) := by decide +kernel
theorem dX8_dwellOf_17 : decode cX8_dwellOf 17 = .ok (.goto 8, 3) := by decide +kernel
theorem dX8_dwellOf_20 : decode cX8_dwellOf 20 = .ok (.aload_n 0, 1) := by decide +kernel
theorem dX8_dwellOf_21 : decode cX8_dwellOf 21 = .ok (.iconst 0, 1) := by decide +kernel
theorem dX8_dwellOf_22 : decode cX8_dwellOf 22 = .ok (.invokevirtual 101, 3) := by decide +kernel
theorem dX8_dwellOf_25 : decode cX8_dwellOf 25 = .ok (.ireturn, 1) := by decide +kernel
theorem dX8_mayChange_0 : decode cX8_mayChange 0 = .ok (.aload_n 0, 1) := by decide +kernel
theorem dX8_mayChange_1 : decode cX8_mayChange 1 = .ok (.iload_n 1, 1) := by decide +kernel
theorem dX8_mayChange_2 : decode cX8_mayChange 2 = .ok (.iconst 5, 1) := by decide +kernel
theorem dX8_mayChange_3 : decode cX8_mayChange 3 = .ok (.invokevirtual 56, 3) := by decide +kernel
theorem dX8_mayChange_6 : decode cX8_mayChange 6 = .ok (.iconst 1, 1) := by decide +kernel
theorem dX8_mayChange_7 : decode cX8_mayChange 7 = .ok (.if_icmp .ne 43, 3) := by decide +kernel
theorem dX8_mayChange_10 : decode cX8_mayChange 10 = .ok (.aload_n 0, 1) := by decide +kernel
theorem dX8_mayChange_11 : decode cX8_mayChange 11 = .ok (.iload_n 1, 1) := by decide +kernel
theorem dX8_mayChange_12 : decode cX8_mayChange 12 = .ok (.iconst 2, 1) := by decide +kernel
theorem dX8_mayChange_13 : decode cX8_mayChange 13 = .ok (.invokevirtual 56, 3) := by decide +kernel
theorem dX8_mayChange_16 : decode cX8_mayChange 16 = .ok (.aload_n 0, 1) := by decide +kernel
theorem dX8_mayChange_17 : decode cX8_mayChange 17 = .ok (.iload_n 1, 1) := by decide +kernel
theorem dX8_mayChange_18 : decode cX8_mayChange 18 = .ok (.iconst 4, 1) := by decide +kernel
theorem dX8_mayChange_19 : decode cX8_mayChange 19 = .ok (.invokevirtual 56, 3) := by decide +kernel
theorem dX8_mayChange_22 : decode cX8_mayChange 22 = .ok (.if_icmp .eq 28, 3) := by decide +kernel
theorem dX8_mayChange_25 : decode cX8_mayChange 25 = .ok (.aload_n 0, 1) := by decide +kernel
theorem dX8_mayChange_26 : decode cX8_mayChange 26 = .ok (.getfield 7, 3) := by decide +kernel
theorem dX8_mayChange_29 : decode cX8_mayChange 29 = .ok (.iconst 0, 1) := by decide +kernel
theorem dX8_mayChange_30 : decode cX8_mayChange 30 = .ok (.iaload, 1) := by decide +kernel
theorem dX8_mayChange_31 : decode cX8_mayChange 31 = .ok (.aload_n 0, 1) := by decide +kernel
theorem dX8_mayChange_32 : decode cX8_mayChange 32 = .ok (.iload_n 1, 1) := by decide +kernel
theorem dX8_mayChange_33 : decode cX8_mayChange 33 = .ok (.iconst 3, 1) := by decide +kernel
theorem dX8_mayChange_34 : decode cX8_mayChange 34 = .ok (.invokevirtual 56, 3) := by decide +kernel
theorem dX8_mayChange_37 : decode cX8_mayChange 37 = .ok (.isub, 1) := by decide +kernel
theorem dX8_mayChange_38 : decode cX8_mayChange 38 = .ok (.aload_n 0, 1) := by decide +kernel
theorem dX8_mayChange_39 : decode cX8_mayChange 39 = .ok (.iload_n 1, 1) := by decide +kernel
theorem dX8_mayChange_40 : decode cX8_mayChange 40 = .ok (.invokevirtual 113, 3) := by decide +kernel
theorem dX8_mayChange_43 : decode cX8_mayChange 43 = .ok (.if_icmp .lt 7, 3) := by decide +kernel
theorem dX8_mayChange_46 : decode cX8_mayChange 46 = .ok (.iconst 1, 1) := by decide +kernel
theorem dX8_mayChange_47 : decode cX8_mayChange 47 = .ok (.goto 4, 3) := by decide +kernel
theorem dX8_mayChange_50 : decode cX8_mayChange 50 = .ok (.iconst 0, 1) := by decide +kernel
theorem dX8_mayChange_51 : decode cX8_mayChange 51 = .ok (.ireturn, 1) := by decide +kernel
theorem dX8_delivers_0 : decode cX8_delivers 0 = .ok (.aload_n 0, 1) := by decide +kernel
theorem dX8_delivers_1 : decode cX8_delivers 1 = .ok (.iload_n 1, 1) := by decide +kernel
theorem dX8_delivers_2 : decode cX8_delivers 2 = .ok (.bipush 12, 2) := by decide +kernel
theorem dX8_delivers_4 : decode cX8_delivers 4 = .ok (.invokevirtual 56, 3) := by decide +kernel
theorem dX8_delivers_7 : decode cX8_delivers 7 = .ok (.istore_n 2, 1) := by decide +kernel
theorem dX8_delivers_8 : decode cX8_delivers 8 = .ok (.bipush 12, 2) := by decide +kernel
theorem dX8_delivers_10 : decode cX8_delivers 10 = .ok (.istore_n 3, 1) := by decide +kernel
theorem dX8_delivers_11 : decode cX8_delivers 11 = .ok (.iload_n 3, 1) := by decide +kernel
theorem dX8_delivers_12 : decode cX8_delivers 12 = .ok (.bipush 12, 2) := by decide +kernel
theorem dX8_delivers_14 : decode cX8_delivers 14 = .ok (.aload_n 0, 1) := by decide +kernel
theorem dX8_delivers_15 : decode cX8_delivers 15 = .ok (.iload_n 1, 1) := by decide +kernel
theorem dX8_delivers_16 : decode cX8_delivers 16 = .ok (.bipush 6, 2) := by decide +kernel
theorem dX8_delivers_18 : decode cX8_delivers 18 = .ok (.invokevirtual 56, 3) := by decide +kernel
theorem dX8_delivers_21 : decode cX8_delivers 21 = .ok (.iadd, 1) := by decide +kernel
theorem dX8_delivers_22 : decode cX8_delivers 22 = .ok (.iconst 1, 1) := by decide +kernel
theorem dX8_delivers_23 : decode cX8_delivers 23 = .ok (.isub, 1) := by decide +kernel
theorem dX8_delivers_24 : decode cX8_delivers 24 = .ok (.if_icmp .ge 23, 3) := by decide +kernel
theorem dX8_delivers_27 : decode cX8_delivers 27 = .ok (.aload_n 0, 1) := by decide +kernel
theorem dX8_delivers_28 : decode cX8_delivers 28 = .ok (.iload_n 1, 1) := by decide +kernel
theorem dX8_delivers_29 : decode cX8_delivers 29 = .ok (.iload_n 3, 1) := by decide +kernel
theorem dX8_delivers_30 : decode cX8_delivers 30 = .ok (.aload_n 0, 1) := by decide +kernel
theorem dX8_delivers_31 : decode cX8_delivers 31 = .ok (.iload_n 1, 1) := by decide +kernel
theorem dX8_delivers_32 : decode cX8_delivers 32 = .ok (.iload_n 3, 1) := by decide +kernel
theorem dX8_delivers_33 : decode cX8_delivers 33 = .ok (.iconst 1, 1) := by decide +kernel
theorem dX8_delivers_34 : decode cX8_delivers 34 = .ok (.iadd, 1) := by decide +kernel
theorem dX8_delivers_35 : decode cX8_delivers 35 = .ok (.invokevirtual 56, 3) := by decide +kernel
theorem dX8_delivers_38 : decode cX8_delivers 38 = .ok (.invokevirtual 59, 3) := by decide +kernel
theorem dX8_delivers_41 : decode cX8_delivers 41 = .ok (.iinc 3 1, 3) := by decide +kernel
theorem dX8_delivers_44 : decode cX8_delivers 44 = .ok (.goto (-33), 3) := by decide +kernel
theorem dX8_delivers_47 : decode cX8_delivers 47 = .ok (.aload_n 0, 1) := by decide +kernel
theorem dX8_delivers_48 : decode cX8_delivers 48 = .ok (.iload_n 1, 1) := by decide +kernel
theorem dX8_delivers_49 : decode cX8_delivers 49 = .ok (.bipush 6, 2) := by decide +kernel
theorem dX8_delivers_51 : decode cX8_delivers 51 = .ok (.iconst (-1), 1) := by decide +kernel
theorem dX8_delivers_52 : decode cX8_delivers 52 = .ok (.invokevirtual 63, 3) := by decide +kernel
theorem dX8_delivers_55 : decode cX8_delivers 55 = .ok (.aload_n 0, 1) := by decide +kernel
theorem dX8_delivers_56 : decode cX8_delivers 56 = .ok (.iload_n 1, 1) := by decide +kernel
theorem dX8_delivers_57 : decode cX8_delivers 57 = .ok (.bipush 7, 2) := by decide +kernel
theorem dX8_delivers_59 : decode cX8_delivers 59 = .ok (.iconst 1, 1) := by decide +kernel
theorem dX8_delivers_60 : decode cX8_delivers 60 = .ok (.invokevirtual 63, 3) := by decide +kernel
theorem dX8_delivers_63 : decode cX8_delivers 63 = .ok (.aload_n 0, 1) := by decide +kernel
theorem dX8_delivers_64 : decode cX8_delivers 64 = .ok (.getfield 7, 3) := by decide +kernel
theorem dX8_delivers_67 : decode cX8_delivers 67 = .ok (.bipush 8, 2) := by decide +kernel
theorem dX8_delivers_69 : decode cX8_delivers 69 = .ok (.aload_n 0, 1) := by decide +kernel
theorem dX8_delivers_70 : decode cX8_delivers 70 = .ok (.iload_n 1, 1) := by decide +kernel
theorem dX8_delivers_71 : decode cX8_delivers 71 = .ok (.iconst 4, 1) := by decide +kernel
theorem dX8_delivers_72 : decode cX8_delivers 72 = .ok (.invokevirtual 56, 3) := by decide +kernel
theorem dX8_delivers_75 : decode cX8_delivers 75 = .ok (.iadd, 1) := by decide +kernel
theorem dX8_delivers_76 : decode cX8_delivers 76 = .ok (.dup2, 1) := by decide +kernel
theorem dX8_delivers_77 : decode cX8_delivers 77 = .ok (.iaload, 1) := by decide +kernel
theorem dX8_delivers_78 : decode cX8_delivers 78 = .ok (.iconst 1, 1) := by decide +kernel
theorem dX8_delivers_79 : decode cX8_delivers 79 = .ok (.iadd, 1) := by decide +kernel
theorem dX8_delivers_80 : decode cX8_delivers 80 = .ok (.iastore, 1) := by decide +kernel
theorem dX8_delivers_81 : decode cX8_delivers 81 = .ok (.aload_n 0, 1) := by decide +kernel
theorem dX8_delivers_82 : decode cX8_delivers 82 = .ok (.getfield 7, 3) := by decide +kernel
theorem dX8_delivers_85 : decode cX8_delivers 85 = .ok (.sipush 456, 3) := by decide +kernel
theorem dX8_delivers_88 : decode cX8_delivers 88 = .ok (.bipush 6, 2) := by decide +kernel
theorem dX8_delivers_90 : decode cX8_delivers 90 = .ok (.iload_n 2, 1) := by decide +kernel
theorem dX8_delivers_91 : decode cX8_delivers 91 = .ok (.imul, 1) := by decide +kernel
theorem dX8_delivers_92 : decode cX8_delivers 92 = .ok (.iadd, 1) := by decide +kernel
theorem dX8_delivers_93 : decode cX8_delivers 93 = .ok (.iconst 5, 1) := by decide +kernel
theorem dX8_delivers_94 : decode cX8_delivers 94 = .ok (.iadd, 1) := by decide +kernel
theorem dX8_delivers_95 : decode cX8_delivers 95 = .ok (.dup2, 1) := by decide +kernel
theorem dX8_delivers_96 : decode cX8_delivers 96 = .ok (.iaload, 1) := by decide +kernel
theorem dX8_delivers_97 : decode cX8_delivers 97 = .ok (.iconst 1, 1) := by decide +kernel
theorem dX8_delivers_98 : decode cX8_delivers 98 = .ok (.iload_n 1, 1) := by decide +kernel
theorem dX8_delivers_99 : decode cX8_delivers 99 = .ok (.ishl, 1) := by decide +kernel
theorem dX8_delivers_100 : decode cX8_delivers 100 = .ok (.ior, 1) := by decide +kernel
theorem dX8_delivers_101 : decode cX8_delivers 101 = .ok (.iastore, 1) := by decide +kernel
theorem dX8_delivers_102 : decode cX8_delivers 102 = .ok (.return_, 1) := by decide +kernel
theorem dX8_ticks_0 : decode cX8_ticks 0 = .ok (.iconst 0, 1) := by decide +kernel
theorem dX8_ticks_1 : decode cX8_ticks 1 = .ok (.istore_n 1, 1) := by decide +kernel
theorem dX8_ticks_2 : decode cX8_ticks 2 = .ok (.iconst 0, 1) := by decide +kernel
theorem dX8_ticks_3 : decode cX8_ticks 3 = .ok (.istore_n 2, 1) := by decide +kernel
theorem dX8_ticks_4 : decode cX8_ticks 4 = .ok (.iload_n 2, 1) := by decide +kernel
theorem dX8_ticks_5 : decode cX8_ticks 5 = .ok (.bipush 16, 2) := by decide +kernel
theorem dX8_ticks_7 : decode cX8_ticks 7 = .ok (.if_icmp .ge 16, 3) := by decide +kernel
theorem dX8_ticks_10 : decode cX8_ticks 10 = .ok (.aload_n 0, 1) := by decide +kernel
theorem dX8_ticks_11 : decode cX8_ticks 11 = .ok (.getfield 19, 3) := by decide +kernel
theorem dX8_ticks_14 : decode cX8_ticks 14 = .ok (.iload_n 2, 1) := by decide +kernel
theorem dX8_ticks_15 : decode cX8_ticks 15 = .ok (.iconst 0, 1) := by decide +kernel
theorem dX8_ticks_16 : decode cX8_ticks 16 = .ok (.iastore, 1) := by decide +kernel
theorem dX8_ticks_17 : decode cX8_ticks 17 = .ok (.iinc 2 1, 3) := by decide +kernel
theorem dX8_ticks_20 : decode cX8_ticks 20 = .ok (.goto (-16), 3) := by decide +kernel
theorem dX8_ticks_23 : decode cX8_ticks 23 = .ok (.iconst 0, 1) := by decide +kernel
theorem dX8_ticks_24 : decode cX8_ticks 24 = .ok (.istore_n 2, 1) := by decide +kernel
theorem dX8_ticks_25 : decode cX8_ticks 25 = .ok (.iload_n 2, 1) := by decide +kernel
theorem dX8_ticks_26 : decode cX8_ticks 26 = .ok (.aload_n 0, 1) := by decide +kernel
theorem dX8_ticks_27 : decode cX8_ticks 27 = .ok (.getfield 7, 3) := by decide +kernel
theorem dX8_ticks_30 : decode cX8_ticks 30 = .ok (.iconst 1, 1) := by decide +kernel
theorem dX8_ticks_31 : decode cX8_ticks 31 = .ok (.iaload, 1) := by decide +kernel
theorem dX8_ticks_32 : decode cX8_ticks 32 = .ok (.if_icmp .ge 80, 3) := by decide +kernel
theorem dX8_ticks_35 : decode cX8_ticks 35 = .ok (.aload_n 0, 1) := by decide +kernel
theorem dX8_ticks_36 : decode cX8_ticks 36 = .ok (.iload_n 2, 1) := by decide +kernel
theorem dX8_ticks_37 : decode cX8_ticks 37 = .ok (.invokevirtual 116, 3) := by decide +kernel
theorem dX8_ticks_40 : decode cX8_ticks 40 = .ok (.ifCond .eq 66, 3) := by decide +kernel
theorem dX8_ticks_43 : decode cX8_ticks 43 = .ok (.aload_n 0, 1) := by decide +kernel
theorem dX8_ticks_44 : decode cX8_ticks 44 = .ok (.iload_n 2, 1) := by decide +kernel
theorem dX8_ticks_45 : decode cX8_ticks 45 = .ok (.invokevirtual 97, 3) := by decide +kernel
theorem dX8_ticks_48 : decode cX8_ticks 48 = .ok (.aload_n 0, 1) := by decide +kernel
theorem dX8_ticks_49 : decode cX8_ticks 49 = .ok (.iload_n 2, 1) := by decide +kernel
theorem dX8_ticks_50 : decode cX8_ticks 50 = .ok (.aload_n 0, 1) := by decide +kernel
theorem dX8_ticks_51 : decode cX8_ticks 51 = .ok (.iload_n 2, 1) := by decide +kernel
theorem dX8_ticks_52 : decode cX8_ticks 52 = .ok (.iconst 2, 1) := by decide +kernel
theorem dX8_ticks_53 : decode cX8_ticks 53 = .ok (.invokevirtual 56, 3) := by decide +kernel
theorem dX8_ticks_56 : decode cX8_ticks 56 = .ok (.invokevirtual 87, 3) := by decide +kernel
theorem dX8_ticks_59 : decode cX8_ticks 59 = .ok (.aload_n 0, 1) := by decide +kernel
theorem dX8_ticks_60 : decode cX8_ticks 60 = .ok (.iload_n 2, 1) := by decide +kernel
theorem dX8_ticks_61 : decode cX8_ticks 61 = .ok (.bipush 9, 2) := by decide +kernel
theorem dX8_ticks_63 : decode cX8_ticks 63 = .ok (.iconst 1, 1) := by decide +kernel
theorem dX8_ticks_64 : decode cX8_ticks 64 = .ok (.invokevirtual 63, 3) := by decide +kernel
theorem dX8_ticks_67 : decode cX8_ticks 67 = .ok (.aload_n 0, 1) := by decide +kernel
theorem dX8_ticks_68 : decode cX8_ticks 68 = .ok (.iload_n 2, 1) := by decide +kernel
theorem dX8_ticks_69 : decode cX8_ticks 69 = .ok (.bipush 10, 2) := by decide +kernel
theorem dX8_ticks_71 : decode cX8_ticks 71 = .ok (.aload_n 0, 1) := by decide +kernel
theorem dX8_ticks_72 : decode cX8_ticks 72 = .ok (.iload_n 2, 1) := by decide +kernel
theorem dX8_ticks_73 : decode cX8_ticks 73 = .ok (.bipush 6, 2) := by decide +kernel
theorem dX8_ticks_75 : decode cX8_ticks 75 = .ok (.invokevirtual 56, 3) := by decide +kernel
theorem dX8_ticks_78 : decode cX8_ticks 78 = .ok (.ifCond .le 18, 3) := by decide +kernel
theorem dX8_ticks_81 : decode cX8_ticks 81 = .ok (.aload_n 0, 1) := by decide +kernel
theorem dX8_ticks_82 : decode cX8_ticks 82 = .ok (.getfield 7, 3) := by decide +kernel
theorem dX8_ticks_85 : decode cX8_ticks 85 = .ok (.iconst 0, 1) := by decide +kernel
theorem dX8_ticks_86 : decode cX8_ticks 86 = .ok (.iaload, 1) := by decide +kernel
theorem dX8_ticks_87 : decode cX8_ticks 87 = .ok (.aload_n 0, 1) := by decide +kernel
theorem dX8_ticks_88 : decode cX8_ticks 88 = .ok (.iconst 2, 1) := by decide +kernel
theorem dX8_ticks_89 : decode cX8_ticks 89 = .ok (.invokevirtual 101, 3) := by decide +kernel
theorem dX8_ticks_92 : decode cX8_ticks 92 = .ok (.iadd, 1) := by decide +kernel
theorem dX8_ticks_93 : decode cX8_ticks 93 = .ok (.goto 10, 3) := by decide +kernel
theorem dX8_ticks_96 : decode cX8_ticks 96 = .ok (.aload_n 0, 1) := by decide +kernel
theorem dX8_ticks_97 : decode cX8_ticks 97 = .ok (.iload_n 2, 1) := by decide +kernel
theorem dX8_ticks_98 : decode cX8_ticks 98 = .ok (.bipush 10, 2) := by decide +kernel
theorem dX8_ticks_100 : decode cX8_ticks 100 = .ok (.invokevirtual 56, 3) := by decide +kernel
theorem dX8_ticks_103 : decode cX8_ticks 103 = .ok (.invokevirtual 59, 3) := by decide +kernel
theorem dX8_ticks_106 : decode cX8_ticks 106 = .ok (.iinc 2 1, 3) := by decide +kernel
theorem dX8_ticks_109 : decode cX8_ticks 109 = .ok (.goto (-84), 3) := by decide +kernel
theorem dX8_ticks_112 : decode cX8_ticks 112 = .ok (.iconst 0, 1) := by decide +kernel
theorem dX8_ticks_113 : decode cX8_ticks 113 = .ok (.istore_n 2, 1) := by decide +kernel
theorem dX8_ticks_114 : decode cX8_ticks 114 = .ok (.iload_n 2, 1) := by decide +kernel
theorem dX8_ticks_115 : decode cX8_ticks 115 = .ok (.aload_n 0, 1) := by decide +kernel
theorem dX8_ticks_116 : decode cX8_ticks 116 = .ok (.getfield 7, 3) := by decide +kernel
theorem dX8_ticks_119 : decode cX8_ticks 119 = .ok (.iconst 1, 1) := by decide +kernel
theorem dX8_ticks_120 : decode cX8_ticks 120 = .ok (.iaload, 1) := by decide +kernel
theorem dX8_ticks_121 : decode cX8_ticks 121 = .ok (.if_icmp .ge 100, 3) := by decide +kernel
theorem dX8_ticks_124 : decode cX8_ticks 124 = .ok (.aload_n 0, 1) := by decide +kernel
theorem dX8_ticks_125 : decode cX8_ticks 125 = .ok (.iload_n 2, 1) := by decide +kernel
theorem dX8_ticks_126 : decode cX8_ticks 126 = .ok (.iconst 5, 1) := by decide +kernel
theorem dX8_ticks_127 : decode cX8_ticks 127 = .ok (.invokevirtual 56, 3) := by decide +kernel
theorem dX8_ticks_130 : decode cX8_ticks 130 = .ok (.iconst 1, 1) := by decide +kernel
theorem dX8_ticks_131 : decode cX8_ticks 131 = .ok (.if_icmp .ne 23, 3) := by decide +kernel
theorem dX8_ticks_134 : decode cX8_ticks 134 = .ok (.aload_n 0, 1) := by decide +kernel
theorem dX8_ticks_135 : decode cX8_ticks 135 = .ok (.getfield 7, 3) := by decide +kernel
theorem dX8_ticks_138 : decode cX8_ticks 138 = .ok (.iconst 0, 1) := by decide +kernel
theorem dX8_ticks_139 : decode cX8_ticks 139 = .ok (.iaload, 1) := by decide +kernel
theorem dX8_ticks_140 : decode cX8_ticks 140 = .ok (.aload_n 0, 1) := by decide +kernel
theorem dX8_ticks_141 : decode cX8_ticks 141 = .ok (.iload_n 2, 1) := by decide +kernel
theorem dX8_ticks_142 : decode cX8_ticks 142 = .ok (.bipush 10, 2) := by decide +kernel
theorem dX8_ticks_144 : decode cX8_ticks 144 = .ok (.invokevirtual 56, 3) := by decide +kernel
theorem dX8_ticks_147 : decode cX8_ticks 147 = .ok (.if_icmp .lt 7, 3) := by decide +kernel
theorem dX8_ticks_150 : decode cX8_ticks 150 = .ok (.iconst 1, 1) := by decide +kernel
theorem dX8_ticks_151 : decode cX8_ticks 151 = .ok (.goto 4, 3) := by decide +kernel
theorem dX8_ticks_154 : decode cX8_ticks 154 = .ok (.iconst 0, 1) := by decide +kernel
theorem dX8_ticks_155 : decode cX8_ticks 155 = .ok (.istore_n 3, 1) := by decide +kernel
theorem dX8_ticks_156 : decode cX8_ticks 156 = .ok (.iload_n 3, 1) := by decide +kernel
theorem dX8_ticks_157 : decode cX8_ticks 157 = .ok (.ifCond .eq 58, 3) := by decide +kernel
theorem dX8_ticks_160 : decode cX8_ticks 160 = .ok (.aload_n 0, 1) := by decide +kernel
theorem dX8_ticks_161 : decode cX8_ticks 161 = .ok (.iload_n 2, 1) := by decide +kernel
theorem dX8_ticks_162 : decode cX8_ticks 162 = .ok (.bipush 6, 2) := by decide +kernel
theorem dX8_ticks_164 : decode cX8_ticks 164 = .ok (.invokevirtual 56, 3) := by decide +kernel
theorem dX8_ticks_167 : decode cX8_ticks 167 = .ok (.ifCond .le 48, 3) := by decide +kernel
theorem dX8_ticks_170 : decode cX8_ticks 170 = .ok (.aload_n 0, 1) := by decide +kernel
theorem dX8_ticks_171 : decode cX8_ticks 171 = .ok (.getfield 19, 3) := by decide +kernel
theorem dX8_ticks_174 : decode cX8_ticks 174 = .ok (.aload_n 0, 1) := by decide +kernel
theorem dX8_ticks_175 : decode cX8_ticks 175 = .ok (.iload_n 2, 1) := by decide +kernel
theorem dX8_ticks_176 : decode cX8_ticks 176 = .ok (.iconst 4, 1) := by decide +kernel
theorem dX8_ticks_177 : decode cX8_ticks 177 = .ok (.invokevirtual 56, 3) := by decide +kernel
theorem dX8_ticks_180 : decode cX8_ticks 180 = .ok (.iaload, 1) := by decide +kernel
theorem dX8_ticks_181 : decode cX8_ticks 181 = .ok (.aload_n 0, 1) := by decide +kernel
theorem dX8_ticks_182 : decode cX8_ticks 182 = .ok (.iconst 1, 1) := by decide +kernel
theorem dX8_ticks_183 : decode cX8_ticks 183 = .ok (.invokevirtual 101, 3) := by decide +kernel
theorem dX8_ticks_186 : decode cX8_ticks 186 = .ok (.if_icmp .ge 29, 3) := by decide +kernel
theorem dX8_ticks_189 : decode cX8_ticks 189 = .ok (.aload_n 0, 1) := by decide +kernel
theorem dX8_ticks_190 : decode cX8_ticks 190 = .ok (.getfield 19, 3) := by decide +kernel
theorem dX8_ticks_193 : decode cX8_ticks 193 = .ok (.aload_n 0, 1) := by decide +kernel
theorem dX8_ticks_194 : decode cX8_ticks 194 = .ok (.iload_n 2, 1) := by decide +kernel
theorem dX8_ticks_195 : decode cX8_ticks 195 = .ok (.iconst 4, 1) := by decide +kernel
theorem dX8_ticks_196 : decode cX8_ticks 196 = .ok (.invokevirtual 56, 3) := by decide +kernel
theorem dX8_ticks_199 : decode cX8_ticks 199 = .ok (.dup2, 1) := by decide +kernel
theorem dX8_ticks_200 : decode cX8_ticks 200 = .ok (.iaload, 1) := by decide +kernel
theorem dX8_ticks_201 : decode cX8_ticks 201 = .ok (.iconst 1, 1) := by decide +kernel
theorem dX8_ticks_202 : decode cX8_ticks 202 = .ok (.iadd, 1) := by decide +kernel
theorem dX8_ticks_203 : decode cX8_ticks 203 = .ok (.iastore, 1) := by decide +kernel
theorem dX8_ticks_204 : decode cX8_ticks 204 = .ok (.aload_n 0, 1) := by decide +kernel
theorem dX8_ticks_205 : decode cX8_ticks 205 = .ok (.iload_n 2, 1) := by decide +kernel
theorem dX8_ticks_206 : decode cX8_ticks 206 = .ok (.invokevirtual 119, 3) := by decide +kernel
theorem dX8_ticks_209 : decode cX8_ticks 209 = .ok (.iinc 1 1, 3) := by decide +kernel
theorem dX8_ticks_212 : decode cX8_ticks 212 = .ok (.goto (-56), 3) := by decide +kernel
theorem dX8_ticks_215 : decode cX8_ticks 215 = .ok (.iinc 2 1, 3) := by decide +kernel
theorem dX8_ticks_218 : decode cX8_ticks 218 = .ok (.goto (-104), 3) := by decide +kernel
theorem dX8_ticks_221 : decode cX8_ticks 221 = .ok (.aload_n 0, 1) := by decide +kernel
theorem dX8_ticks_222 : decode cX8_ticks 222 = .ok (.getfield 7, 3) := by decide +kernel
theorem dX8_ticks_225 : decode cX8_ticks 225 = .ok (.iconst 0, 1) := by decide +kernel
theorem dX8_ticks_226 : decode cX8_ticks 226 = .ok (.dup2, 1) := by decide +kernel
theorem dX8_ticks_227 : decode cX8_ticks 227 = .ok (.iaload, 1) := by decide +kernel
theorem dX8_ticks_228 : decode cX8_ticks 228 = .ok (.iconst 1, 1) := by decide +kernel
theorem dX8_ticks_229 : decode cX8_ticks 229 = .ok (.iadd, 1) := by decide +kernel
theorem dX8_ticks_230 : decode cX8_ticks 230 = .ok (.iastore, 1) := by decide +kernel
theorem dX8_ticks_231 : decode cX8_ticks 231 = .ok (.iload_n 1, 1) := by decide +kernel
theorem dX8_ticks_232 : decode cX8_ticks 232 = .ok (.ireturn, 1) := by decide +kernel
theorem dX8_passes_0 : decode cX8_passes 0 = .ok (.iload_n 1, 1) := by decide +kernel
theorem dX8_passes_1 : decode cX8_passes 1 = .ok (.iconst 1, 1) := by decide +kernel
theorem dX8_passes_2 : decode cX8_passes 2 = .ok (.bipush 50, 2) := by decide +kernel
theorem dX8_passes_4 : decode cX8_passes 4 = .ok (.invokestatic 48, 3) := by decide +kernel
theorem dX8_passes_7 : decode cX8_passes 7 = .ok (.ifCond .ne 5, 3) := by decide +kernel
theorem dX8_passes_10 : decode cX8_passes 10 = .ok (.iconst 1, 1) := by decide +kernel
theorem dX8_passes_11 : decode cX8_passes 11 = .ok (.ireturn, 1) := by decide +kernel
theorem dX8_passes_12 : decode cX8_passes 12 = .ok (.aload_n 0, 1) := by decide +kernel
theorem dX8_passes_13 : decode cX8_passes 13 = .ok (.getfield 7, 3) := by decide +kernel
theorem dX8_passes_16 : decode cX8_passes 16 = .ok (.iconst 0, 1) := by decide +kernel
theorem dX8_passes_17 : decode cX8_passes 17 = .ok (.iaload, 1) := by decide +kernel
theorem dX8_passes_18 : decode cX8_passes 18 = .ok (.iload_n 1, 1) := by decide +kernel
theorem dX8_passes_19 : decode cX8_passes 19 = .ok (.iadd, 1) := by decide +kernel
theorem dX8_passes_20 : decode cX8_passes 20 = .ok (.sipush 9999, 3) := by decide +kernel
theorem dX8_passes_23 : decode cX8_passes 23 = .ok (.if_icmp .le 5, 3) := by decide +kernel
theorem dX8_passes_26 : decode cX8_passes 26 = .ok (.iconst 2, 1) := by decide +kernel
theorem dX8_passes_27 : decode cX8_passes 27 = .ok (.ireturn, 1) := by decide +kernel
theorem dX8_passes_28 : decode cX8_passes 28 = .ok (.iconst 0, 1) := by decide +kernel
theorem dX8_passes_29 : decode cX8_passes 29 = .ok (.istore_n 2, 1) := by decide +kernel
theorem dX8_passes_30 : decode cX8_passes 30 = .ok (.iconst 0, 1) := by decide +kernel
theorem dX8_passes_31 : decode cX8_passes 31 = .ok (.istore_n 3, 1) := by decide +kernel
theorem dX8_passes_32 : decode cX8_passes 32 = .ok (.iload_n 3, 1) := by decide +kernel
theorem dX8_passes_33 : decode cX8_passes 33 = .ok (.iload_n 1, 1) := by decide +kernel
theorem dX8_passes_34 : decode cX8_passes 34 = .ok (.if_icmp .ge 16, 3) := by decide +kernel
theorem dX8_passes_37 : decode cX8_passes 37 = .ok (.iload_n 2, 1) := by decide +kernel
theorem dX8_passes_38 : decode cX8_passes 38 = .ok (.aload_n 0, 1) := by decide +kernel
theorem dX8_passes_39 : decode cX8_passes 39 = .ok (.invokevirtual 122, 3) := by decide +kernel
theorem dX8_passes_42 : decode cX8_passes 42 = .ok (.iadd, 1) := by decide +kernel
theorem dX8_passes_43 : decode cX8_passes 43 = .ok (.istore_n 2, 1) := by decide +kernel
theorem dX8_passes_44 : decode cX8_passes 44 = .ok (.iinc 3 1, 3) := by decide +kernel
theorem dX8_passes_47 : decode cX8_passes 47 = .ok (.goto (-15), 3) := by decide +kernel
theorem dX8_passes_50 : decode cX8_passes 50 = .ok (.aload_n 0, 1) := by decide +kernel
theorem dX8_passes_51 : decode cX8_passes 51 = .ok (.iload_n 2, 1) := by decide +kernel
theorem dX8_passes_52 : decode cX8_passes 52 = .ok (.putfield 91, 3) := by decide +kernel
theorem dX8_passes_55 : decode cX8_passes 55 = .ok (.iconst 0, 1) := by decide +kernel
theorem dX8_passes_56 : decode cX8_passes 56 = .ok (.ireturn, 1) := by decide +kernel
theorem dX8_subscribe_0 : decode cX8_subscribe 0 = .ok (.aload_n 0, 1) := by decide +kernel
theorem dX8_subscribe_1 : decode cX8_subscribe 1 = .ok (.invokevirtual 126, 3) := by decide +kernel
theorem dX8_subscribe_4 : decode cX8_subscribe 4 = .ok (.aload_n 0, 1) := by decide +kernel
theorem dX8_subscribe_5 : decode cX8_subscribe 5 = .ok (.iload_n 1, 1) := by decide +kernel
theorem dX8_subscribe_6 : decode cX8_subscribe 6 = .ok (.iload_n 2, 1) := by decide +kernel
theorem dX8_subscribe_7 : decode cX8_subscribe 7 = .ok (.iload_n 3, 1) := by decide +kernel
theorem dX8_subscribe_8 : decode cX8_subscribe 8 = .ok (.invokevirtual 129, 3) := by decide +kernel
theorem dX8_subscribe_11 : decode cX8_subscribe 11 = .ok (.istore 4, 2) := by decide +kernel
theorem dX8_subscribe_13 : decode cX8_subscribe 13 = .ok (.aload_n 0, 1) := by decide +kernel
theorem dX8_subscribe_14 : decode cX8_subscribe 14 = .ok (.aload_n 0, 1) := by decide +kernel
theorem dX8_subscribe_15 : decode cX8_subscribe 15 = .ok (.getfield 91, 3) := by decide +kernel
theorem dX8_subscribe_18 : decode cX8_subscribe 18 = .ok (.iload 4, 2) := by decide +kernel
theorem dX8_subscribe_20 : decode cX8_subscribe 20 = .ok (.invokevirtual 132, 3) := by decide +kernel
theorem dX8_subscribe_23 : decode cX8_subscribe 23 = .ok (.ireturn, 1) := by decide +kernel
theorem dX8_move_0 : decode cX8_move 0 = .ok (.aload_n 0, 1) := by decide +kernel
theorem dX8_move_1 : decode cX8_move 1 = .ok (.invokevirtual 126, 3) := by decide +kernel
theorem dX8_move_4 : decode cX8_move 4 = .ok (.aload_n 0, 1) := by decide +kernel
theorem dX8_move_5 : decode cX8_move 5 = .ok (.iload_n 1, 1) := by decide +kernel
theorem dX8_move_6 : decode cX8_move 6 = .ok (.iload_n 2, 1) := by decide +kernel
theorem dX8_move_7 : decode cX8_move 7 = .ok (.invokevirtual 135, 3) := by decide +kernel
theorem dX8_move_10 : decode cX8_move 10 = .ok (.istore_n 3, 1) := by decide +kernel
theorem dX8_move_11 : decode cX8_move 11 = .ok (.aload_n 0, 1) := by decide +kernel
theorem dX8_move_12 : decode cX8_move 12 = .ok (.aload_n 0, 1) := by decide +kernel
theorem dX8_move_13 : decode cX8_move 13 = .ok (.getfield 91, 3) := by decide +kernel
theorem dX8_move_16 : decode cX8_move 16 = .ok (.iload_n 3, 1) := by decide +kernel
theorem dX8_move_17 : decode cX8_move 17 = .ok (.invokevirtual 132, 3) := by decide +kernel
theorem dX8_move_20 : decode cX8_move 20 = .ok (.ireturn, 1) := by decide +kernel
theorem dX8_leave_0 : decode cX8_leave 0 = .ok (.aload_n 0, 1) := by decide +kernel
theorem dX8_leave_1 : decode cX8_leave 1 = .ok (.invokevirtual 126, 3) := by decide +kernel
theorem dX8_leave_4 : decode cX8_leave 4 = .ok (.aload_n 0, 1) := by decide +kernel
theorem dX8_leave_5 : decode cX8_leave 5 = .ok (.iload_n 1, 1) := by decide +kernel
theorem dX8_leave_6 : decode cX8_leave 6 = .ok (.invokevirtual 138, 3) := by decide +kernel
theorem dX8_leave_9 : decode cX8_leave 9 = .ok (.istore_n 2, 1) := by decide +kernel
theorem dX8_leave_10 : decode cX8_leave 10 = .ok (.aload_n 0, 1) := by decide +kernel
theorem dX8_leave_11 : decode cX8_leave 11 = .ok (.aload_n 0, 1) := by decide +kernel
theorem dX8_leave_12 : decode cX8_leave 12 = .ok (.getfield 91, 3) := by decide +kernel
theorem dX8_leave_15 : decode cX8_leave 15 = .ok (.iload_n 2, 1) := by decide +kernel
theorem dX8_leave_16 : decode cX8_leave 16 = .ok (.invokevirtual 132, 3) := by decide +kernel
theorem dX8_leave_19 : decode cX8_leave 19 = .ok (.ireturn, 1) := by decide +kernel
theorem dX8_setLevel_0 : decode cX8_setLevel 0 = .ok (.aload_n 0, 1) := by decide +kernel
theorem dX8_setLevel_1 : decode cX8_setLevel 1 = .ok (.iload_n 1, 1) := by decide +kernel
theorem dX8_setLevel_2 : decode cX8_setLevel 2 = .ok (.invokevirtual 94, 3) := by decide +kernel
theorem dX8_setLevel_5 : decode cX8_setLevel 5 = .ok (.ifCond .ne 9, 3) := by decide +kernel
theorem dX8_setLevel_8 : decode cX8_setLevel 8 = .ok (.aload_n 0, 1) := by decide +kernel
theorem dX8_setLevel_9 : decode cX8_setLevel 9 = .ok (.iconst 1, 1) := by decide +kernel
theorem dX8_setLevel_10 : decode cX8_setLevel 10 = .ok (.invokevirtual 38, 3) := by decide +kernel
theorem dX8_setLevel_13 : decode cX8_setLevel 13 = .ok (.ireturn, 1) := by decide +kernel
theorem dX8_setLevel_14 : decode cX8_setLevel 14 = .ok (.iload_n 2, 1) := by decide +kernel
theorem dX8_setLevel_15 : decode cX8_setLevel 15 = .ok (.invokestatic 84, 3) := by decide +kernel
theorem dX8_setLevel_18 : decode cX8_setLevel 18 = .ok (.ifCond .ne 9, 3) := by decide +kernel
theorem dX8_setLevel_21 : decode cX8_setLevel 21 = .ok (.aload_n 0, 1) := by decide +kernel
theorem dX8_setLevel_22 : decode cX8_setLevel 22 = .ok (.iconst 2, 1) := by decide +kernel
theorem dX8_setLevel_23 : decode cX8_setLevel 23 = .ok (.invokevirtual 38, 3) := by decide +kernel
theorem dX8_setLevel_26 : decode cX8_setLevel 26 = .ok (.ireturn, 1) := by decide +kernel
theorem dX8_setLevel_27 : decode cX8_setLevel 27 = .ok (.aload_n 0, 1) := by decide +kernel
theorem dX8_setLevel_28 : decode cX8_setLevel 28 = .ok (.invokevirtual 126, 3) := by decide +kernel
theorem dX8_setLevel_31 : decode cX8_setLevel 31 = .ok (.aload_n 0, 1) := by decide +kernel
theorem dX8_setLevel_32 : decode cX8_setLevel 32 = .ok (.iload_n 1, 1) := by decide +kernel
theorem dX8_setLevel_33 : decode cX8_setLevel 33 = .ok (.iconst 1, 1) := by decide +kernel
theorem dX8_setLevel_34 : decode cX8_setLevel 34 = .ok (.invokevirtual 56, 3) := by decide +kernel
theorem dX8_setLevel_37 : decode cX8_setLevel 37 = .ok (.istore_n 3, 1) := by decide +kernel
theorem dX8_setLevel_38 : decode cX8_setLevel 38 = .ok (.aload_n 0, 1) := by decide +kernel
theorem dX8_setLevel_39 : decode cX8_setLevel 39 = .ok (.iload_n 1, 1) := by decide +kernel
theorem dX8_setLevel_40 : decode cX8_setLevel 40 = .ok (.iconst 1, 1) := by decide +kernel
theorem dX8_setLevel_41 : decode cX8_setLevel 41 = .ok (.iload_n 2, 1) := by decide +kernel
theorem dX8_setLevel_42 : decode cX8_setLevel 42 = .ok (.invokevirtual 59, 3) := by decide +kernel
theorem dX8_setLevel_45 : decode cX8_setLevel 45 = .ok (.aload_n 0, 1) := by decide +kernel
theorem dX8_setLevel_46 : decode cX8_setLevel 46 = .ok (.iload_n 3, 1) := by decide +kernel
theorem dX8_setLevel_47 : decode cX8_setLevel 47 = .ok (.iconst 0, 1) := by decide +kernel
theorem dX8_setLevel_48 : decode cX8_setLevel 48 = .ok (.invokevirtual 132, 3) := by decide +kernel
theorem dX8_setLevel_51 : decode cX8_setLevel 51 = .ok (.ireturn, 1) := by decide +kernel
theorem dX8_set_0 : decode cX8_set 0 = .ok (.aload_n 0, 1) := by decide +kernel
theorem dX8_set_1 : decode cX8_set 1 = .ok (.invokevirtual 126, 3) := by decide +kernel
theorem dX8_set_4 : decode cX8_set 4 = .ok (.aload_n 0, 1) := by decide +kernel
theorem dX8_set_5 : decode cX8_set 5 = .ok (.iload_n 1, 1) := by decide +kernel
theorem dX8_set_6 : decode cX8_set 6 = .ok (.iload_n 2, 1) := by decide +kernel
theorem dX8_set_7 : decode cX8_set 7 = .ok (.invokevirtual 141, 3) := by decide +kernel
theorem dX8_set_10 : decode cX8_set 10 = .ok (.istore_n 3, 1) := by decide +kernel
theorem dX8_set_11 : decode cX8_set 11 = .ok (.aload_n 0, 1) := by decide +kernel
theorem dX8_set_12 : decode cX8_set 12 = .ok (.aload_n 0, 1) := by decide +kernel
theorem dX8_set_13 : decode cX8_set 13 = .ok (.getfield 91, 3) := by decide +kernel
theorem dX8_set_16 : decode cX8_set 16 = .ok (.iload_n 3, 1) := by decide +kernel
theorem dX8_set_17 : decode cX8_set 17 = .ok (.invokevirtual 132, 3) := by decide +kernel
theorem dX8_set_20 : decode cX8_set 20 = .ok (.ireturn, 1) := by decide +kernel
theorem dX8_publish_0 : decode cX8_publish 0 = .ok (.aload_n 0, 1) := by decide +kernel
theorem dX8_publish_1 : decode cX8_publish 1 = .ok (.invokevirtual 126, 3) := by decide +kernel
theorem dX8_publish_4 : decode cX8_publish 4 = .ok (.aload_n 0, 1) := by decide +kernel
theorem dX8_publish_5 : decode cX8_publish 5 = .ok (.iload_n 1, 1) := by decide +kernel
theorem dX8_publish_6 : decode cX8_publish 6 = .ok (.iload_n 2, 1) := by decide +kernel
theorem dX8_publish_7 : decode cX8_publish 7 = .ok (.iload_n 3, 1) := by decide +kernel
theorem dX8_publish_8 : decode cX8_publish 8 = .ok (.invokevirtual 144, 3) := by decide +kernel
theorem dX8_publish_11 : decode cX8_publish 11 = .ok (.istore 4, 2) := by decide +kernel
theorem dX8_publish_13 : decode cX8_publish 13 = .ok (.aload_n 0, 1) := by decide +kernel
theorem dX8_publish_14 : decode cX8_publish 14 = .ok (.aload_n 0, 1) := by decide +kernel
theorem dX8_publish_15 : decode cX8_publish 15 = .ok (.getfield 91, 3) := by decide +kernel
theorem dX8_publish_18 : decode cX8_publish 18 = .ok (.iload 4, 2) := by decide +kernel
theorem dX8_publish_20 : decode cX8_publish 20 = .ok (.invokevirtual 132, 3) := by decide +kernel
theorem dX8_publish_23 : decode cX8_publish 23 = .ok (.ireturn, 1) := by decide +kernel
theorem dX8_pass_0 : decode cX8_pass 0 = .ok (.aload_n 0, 1) := by decide +kernel
theorem dX8_pass_1 : decode cX8_pass 1 = .ok (.invokevirtual 126, 3) := by decide +kernel
theorem dX8_pass_4 : decode cX8_pass 4 = .ok (.aload_n 0, 1) := by decide +kernel
theorem dX8_pass_5 : decode cX8_pass 5 = .ok (.iload_n 1, 1) := by decide +kernel
theorem dX8_pass_6 : decode cX8_pass 6 = .ok (.invokevirtual 147, 3) := by decide +kernel
theorem dX8_pass_9 : decode cX8_pass 9 = .ok (.istore_n 2, 1) := by decide +kernel
theorem dX8_pass_10 : decode cX8_pass 10 = .ok (.aload_n 0, 1) := by decide +kernel
theorem dX8_pass_11 : decode cX8_pass 11 = .ok (.aload_n 0, 1) := by decide +kernel
theorem dX8_pass_12 : decode cX8_pass 12 = .ok (.getfield 91, 3) := by decide +kernel
theorem dX8_pass_15 : decode cX8_pass 15 = .ok (.iload_n 2, 1) := by decide +kernel
theorem dX8_pass_16 : decode cX8_pass 16 = .ok (.invokevirtual 132, 3) := by decide +kernel
theorem dX8_pass_19 : decode cX8_pass 19 = .ok (.ireturn, 1) := by decide +kernel
theorem dX8_routedTo_0 : decode cX8_routedTo 0 = .ok (.iconst 0, 1) := by decide +kernel
theorem dX8_routedTo_1 : decode cX8_routedTo 1 = .ok (.istore_n 2, 1) := by decide +kernel
theorem dX8_routedTo_2 : decode cX8_routedTo 2 = .ok (.iconst 0, 1) := by decide +kernel
theorem dX8_routedTo_3 : decode cX8_routedTo 3 = .ok (.istore_n 3, 1) := by decide +kernel
theorem dX8_routedTo_4 : decode cX8_routedTo 4 = .ok (.iload_n 3, 1) := by decide +kernel
theorem dX8_routedTo_5 : decode cX8_routedTo 5 = .ok (.aload_n 0, 1) := by decide +kernel
theorem dX8_routedTo_6 : decode cX8_routedTo 6 = .ok (.getfield 7, 3) := by decide +kernel
theorem dX8_routedTo_9 : decode cX8_routedTo 9 = .ok (.iconst 2, 1) := by decide +kernel
theorem dX8_routedTo_10 : decode cX8_routedTo 10 = .ok (.iaload, 1) := by decide +kernel
theorem dX8_routedTo_11 : decode cX8_routedTo 11 = .ok (.if_icmp .ge 22, 3) := by decide +kernel
theorem dX8_routedTo_14 : decode cX8_routedTo 14 = .ok (.iload_n 2, 1) := by decide +kernel
theorem dX8_routedTo_15 : decode cX8_routedTo 15 = .ok (.aload_n 0, 1) := by decide +kernel
theorem dX8_routedTo_16 : decode cX8_routedTo 16 = .ok (.iload_n 3, 1) := by decide +kernel
theorem dX8_routedTo_17 : decode cX8_routedTo 17 = .ok (.iconst 4, 1) := by decide +kernel
theorem dX8_routedTo_18 : decode cX8_routedTo 18 = .ok (.invokevirtual 150, 3) := by decide +kernel
theorem dX8_routedTo_21 : decode cX8_routedTo 21 = .ok (.iload_n 1, 1) := by decide +kernel
theorem dX8_routedTo_22 : decode cX8_routedTo 22 = .ok (.ishr, 1) := by decide +kernel
theorem dX8_routedTo_23 : decode cX8_routedTo 23 = .ok (.iconst 1, 1) := by decide +kernel
theorem dX8_routedTo_24 : decode cX8_routedTo 24 = .ok (.iand, 1) := by decide +kernel
theorem dX8_routedTo_25 : decode cX8_routedTo 25 = .ok (.iadd, 1) := by decide +kernel
theorem dX8_routedTo_26 : decode cX8_routedTo 26 = .ok (.istore_n 2, 1) := by decide +kernel
theorem dX8_routedTo_27 : decode cX8_routedTo 27 = .ok (.iinc 3 1, 3) := by decide +kernel
theorem dX8_routedTo_30 : decode cX8_routedTo 30 = .ok (.goto (-26), 3) := by decide +kernel
theorem dX8_routedTo_33 : decode cX8_routedTo 33 = .ok (.iload_n 2, 1) := by decide +kernel
theorem dX8_routedTo_34 : decode cX8_routedTo 34 = .ok (.ireturn, 1) := by decide +kernel
theorem dX8_told_0 : decode cX8_told 0 = .ok (.iload_n 2, 1) := by decide +kernel
theorem dX8_told_1 : decode cX8_told 1 = .ok (.bipush 7, 2) := by decide +kernel
theorem dX8_told_3 : decode cX8_told 3 = .ok (.if_icmp .ge 10, 3) := by decide +kernel
theorem dX8_told_6 : decode cX8_told 6 = .ok (.aload_n 0, 1) := by decide +kernel
theorem dX8_told_7 : decode cX8_told 7 = .ok (.iload_n 1, 1) := by decide +kernel
theorem dX8_told_8 : decode cX8_told 8 = .ok (.iload_n 2, 1) := by decide +kernel
theorem dX8_told_9 : decode cX8_told 9 = .ok (.invokevirtual 56, 3) := by decide +kernel
theorem dX8_told_12 : decode cX8_told 12 = .ok (.ireturn, 1) := by decide +kernel
theorem dX8_told_13 : decode cX8_told 13 = .ok (.iload_n 2, 1) := by decide +kernel
theorem dX8_told_14 : decode cX8_told 14 = .ok (.bipush 7, 2) := by decide +kernel
theorem dX8_told_16 : decode cX8_told 16 = .ok (.if_icmp .ne 11, 3) := by decide +kernel
theorem dX8_told_19 : decode cX8_told 19 = .ok (.aload_n 0, 1) := by decide +kernel
theorem dX8_told_20 : decode cX8_told 20 = .ok (.iload_n 1, 1) := by decide +kernel
theorem dX8_told_21 : decode cX8_told 21 = .ok (.invokevirtual 153, 3) := by decide +kernel
theorem dX8_told_24 : decode cX8_told 24 = .ok (.goto 11, 3) := by decide +kernel
theorem dX8_told_27 : decode cX8_told 27 = .ok (.aload_n 0, 1) := by decide +kernel
theorem dX8_told_28 : decode cX8_told 28 = .ok (.iload_n 1, 1) := by decide +kernel
theorem dX8_told_29 : decode cX8_told 29 = .ok (.iload_n 2, 1) := by decide +kernel
theorem dX8_told_30 : decode cX8_told 30 = .ok (.iconst 1, 1) := by decide +kernel
theorem dX8_told_31 : decode cX8_told 31 = .ok (.isub, 1) := by decide +kernel
theorem dX8_told_32 : decode cX8_told 32 = .ok (.invokevirtual 56, 3) := by decide +kernel
theorem dX8_told_35 : decode cX8_told 35 = .ok (.ireturn, 1) := by decide +kernel
theorem dX8_subscriber_0 : decode cX8_subscriber 0 = .ok (.aload_n 0, 1) := by decide +kernel
theorem dX8_subscriber_1 : decode cX8_subscriber 1 = .ok (.iload_n 1, 1) := by decide +kernel
theorem dX8_subscriber_2 : decode cX8_subscriber 2 = .ok (.invokevirtual 94, 3) := by decide +kernel
theorem dX8_subscriber_5 : decode cX8_subscriber 5 = .ok (.ifCond .ne 9, 3) := by decide +kernel
theorem dX8_subscriber_8 : decode cX8_subscriber 8 = .ok (.aload_n 0, 1) := by decide +kernel
theorem dX8_subscriber_9 : decode cX8_subscriber 9 = .ok (.iconst 1, 1) := by decide +kernel
theorem dX8_subscriber_10 : decode cX8_subscriber 10 = .ok (.invokevirtual 38, 3) := by decide +kernel
theorem dX8_subscriber_13 : decode cX8_subscriber 13 = .ok (.ireturn, 1) := by decide +kernel
theorem dX8_subscriber_14 : decode cX8_subscriber 14 = .ok (.iload_n 2, 1) := by decide +kernel
theorem dX8_subscriber_15 : decode cX8_subscriber 15 = .ok (.iconst 0, 1) := by decide +kernel
theorem dX8_subscriber_16 : decode cX8_subscriber 16 = .ok (.bipush 11, 2) := by decide +kernel
theorem dX8_subscriber_18 : decode cX8_subscriber 18 = .ok (.invokestatic 48, 3) := by decide +kernel
theorem dX8_subscriber_21 : decode cX8_subscriber 21 = .ok (.ifCond .eq 16, 3) := by decide +kernel
theorem dX8_subscriber_24 : decode cX8_subscriber 24 = .ok (.aload_n 0, 1) := by decide +kernel
theorem dX8_subscriber_25 : decode cX8_subscriber 25 = .ok (.aload_n 0, 1) := by decide +kernel
theorem dX8_subscriber_26 : decode cX8_subscriber 26 = .ok (.iload_n 1, 1) := by decide +kernel
theorem dX8_subscriber_27 : decode cX8_subscriber 27 = .ok (.iload_n 2, 1) := by decide +kernel
theorem dX8_subscriber_28 : decode cX8_subscriber 28 = .ok (.invokevirtual 156, 3) := by decide +kernel
theorem dX8_subscriber_31 : decode cX8_subscriber 31 = .ok (.invokevirtual 45, 3) := by decide +kernel
theorem dX8_subscriber_34 : decode cX8_subscriber 34 = .ok (.goto 8, 3) := by decide +kernel
theorem dX8_subscriber_37 : decode cX8_subscriber 37 = .ok (.aload_n 0, 1) := by decide +kernel
theorem dX8_subscriber_38 : decode cX8_subscriber 38 = .ok (.iconst 2, 1) := by decide +kernel
theorem dX8_subscriber_39 : decode cX8_subscriber 39 = .ok (.invokevirtual 38, 3) := by decide +kernel
theorem dX8_subscriber_42 : decode cX8_subscriber 42 = .ok (.ireturn, 1) := by decide +kernel
theorem dX8_stay_0 : decode cX8_stay 0 = .ok (.aload_n 0, 1) := by decide +kernel
theorem dX8_stay_1 : decode cX8_stay 1 = .ok (.iload_n 1, 1) := by decide +kernel
theorem dX8_stay_2 : decode cX8_stay 2 = .ok (.invokevirtual 94, 3) := by decide +kernel
theorem dX8_stay_5 : decode cX8_stay 5 = .ok (.ifCond .ne 9, 3) := by decide +kernel
theorem dX8_stay_8 : decode cX8_stay 8 = .ok (.aload_n 0, 1) := by decide +kernel
theorem dX8_stay_9 : decode cX8_stay 9 = .ok (.iconst 1, 1) := by decide +kernel
theorem dX8_stay_10 : decode cX8_stay 10 = .ok (.invokevirtual 38, 3) := by decide +kernel
theorem dX8_stay_13 : decode cX8_stay 13 = .ok (.ireturn, 1) := by decide +kernel
theorem dX8_stay_14 : decode cX8_stay 14 = .ok (.iload_n 2, 1) := by decide +kernel
theorem dX8_stay_15 : decode cX8_stay 15 = .ok (.ifCond .lt 12, 3) := by decide +kernel
theorem dX8_stay_18 : decode cX8_stay 18 = .ok (.iload_n 3, 1) := by decide +kernel
theorem dX8_stay_19 : decode cX8_stay 19 = .ok (.iconst 0, 1) := by decide +kernel
theorem dX8_stay_20 : decode cX8_stay 20 = .ok (.iconst 2, 1) := by decide +kernel
theorem dX8_stay_21 : decode cX8_stay 21 = .ok (.invokestatic 48, 3) := by decide +kernel
theorem dX8_stay_24 : decode cX8_stay 24 = .ok (.ifCond .ne 9, 3) := by decide +kernel
theorem dX8_stay_27 : decode cX8_stay 27 = .ok (.aload_n 0, 1) := by decide +kernel
theorem dX8_stay_28 : decode cX8_stay 28 = .ok (.iconst 2, 1) := by decide +kernel
theorem dX8_stay_29 : decode cX8_stay 29 = .ok (.invokevirtual 38, 3) := by decide +kernel
theorem dX8_stay_32 : decode cX8_stay 32 = .ok (.ireturn, 1) := by decide +kernel
theorem dX8_stay_33 : decode cX8_stay 33 = .ok (.aload_n 0, 1) := by decide +kernel
theorem dX8_stay_34 : decode cX8_stay 34 = .ok (.iload_n 1, 1) := by decide +kernel
theorem dX8_stay_35 : decode cX8_stay 35 = .ok (.bipush 11, 2) := by decide +kernel
theorem dX8_stay_37 : decode cX8_stay 37 = .ok (.invokevirtual 56, 3) := by decide +kernel
theorem dX8_stay_40 : decode cX8_stay 40 = .ok (.istore 4, 2) := by decide +kernel
theorem dX8_stay_42 : decode cX8_stay 42 = .ok (.aload_n 0, 1) := by decide +kernel
theorem dX8_stay_43 : decode cX8_stay 43 = .ok (.iload_n 2, 1) := by decide +kernel
theorem dX8_stay_44 : decode cX8_stay 44 = .ok (.iload 4, 2) := by decide +kernel
theorem dX8_stay_46 : decode cX8_stay 46 = .ok (.if_icmp .ge 18, 3) := by decide +kernel
theorem dX8_stay_49 : decode cX8_stay 49 = .ok (.aload_n 0, 1) := by decide +kernel
theorem dX8_stay_50 : decode cX8_stay 50 = .ok (.iload_n 1, 1) := by decide +kernel
theorem dX8_stay_51 : decode cX8_stay 51 = .ok (.iload 4, 2) := by decide +kernel
theorem dX8_stay_53 : decode cX8_stay 53 = .ok (.iconst 1, 1) := by decide +kernel
theorem dX8_stay_54 : decode cX8_stay 54 = .ok (.isub, 1) := by decide +kernel
theorem dX8_stay_55 : decode cX8_stay 55 = .ok (.iload_n 2, 1) := by decide +kernel
theorem dX8_stay_56 : decode cX8_stay 56 = .ok (.isub, 1) := by decide +kernel
theorem dX8_stay_57 : decode cX8_stay 57 = .ok (.iload_n 3, 1) := by decide +kernel
theorem dX8_stay_58 : decode cX8_stay 58 = .ok (.invokevirtual 66, 3) := by decide +kernel
theorem dX8_stay_61 : decode cX8_stay 61 = .ok (.goto 4, 3) := by decide +kernel
theorem dX8_stay_64 : decode cX8_stay 64 = .ok (.iconst (-1), 1) := by decide +kernel
theorem dX8_stay_65 : decode cX8_stay 65 = .ok (.invokevirtual 45, 3) := by decide +kernel
theorem dX8_stay_68 : decode cX8_stay 68 = .ok (.ireturn, 1) := by decide +kernel
theorem dX8_waiting_0 : decode cX8_waiting 0 = .ok (.aload_n 0, 1) := by decide +kernel
theorem dX8_waiting_1 : decode cX8_waiting 1 = .ok (.iload_n 1, 1) := by decide +kernel
theorem dX8_waiting_2 : decode cX8_waiting 2 = .ok (.invokevirtual 94, 3) := by decide +kernel
theorem dX8_waiting_5 : decode cX8_waiting 5 = .ok (.ifCond .ne 9, 3) := by decide +kernel
theorem dX8_waiting_8 : decode cX8_waiting 8 = .ok (.aload_n 0, 1) := by decide +kernel
theorem dX8_waiting_9 : decode cX8_waiting 9 = .ok (.iconst 1, 1) := by decide +kernel
theorem dX8_waiting_10 : decode cX8_waiting 10 = .ok (.invokevirtual 38, 3) := by decide +kernel
theorem dX8_waiting_13 : decode cX8_waiting 13 = .ok (.ireturn, 1) := by decide +kernel
theorem dX8_waiting_14 : decode cX8_waiting 14 = .ok (.iload_n 2, 1) := by decide +kernel
theorem dX8_waiting_15 : decode cX8_waiting 15 = .ok (.ifCond .ge 9, 3) := by decide +kernel
theorem dX8_waiting_18 : decode cX8_waiting 18 = .ok (.aload_n 0, 1) := by decide +kernel
theorem dX8_waiting_19 : decode cX8_waiting 19 = .ok (.iconst 2, 1) := by decide +kernel
theorem dX8_waiting_20 : decode cX8_waiting 20 = .ok (.invokevirtual 38, 3) := by decide +kernel
theorem dX8_waiting_23 : decode cX8_waiting 23 = .ok (.ireturn, 1) := by decide +kernel
theorem dX8_waiting_24 : decode cX8_waiting 24 = .ok (.aload_n 0, 1) := by decide +kernel
theorem dX8_waiting_25 : decode cX8_waiting 25 = .ok (.iload_n 2, 1) := by decide +kernel
theorem dX8_waiting_26 : decode cX8_waiting 26 = .ok (.aload_n 0, 1) := by decide +kernel
theorem dX8_waiting_27 : decode cX8_waiting 27 = .ok (.iload_n 1, 1) := by decide +kernel
theorem dX8_waiting_28 : decode cX8_waiting 28 = .ok (.bipush 6, 2) := by decide +kernel
theorem dX8_waiting_30 : decode cX8_waiting 30 = .ok (.invokevirtual 56, 3) := by decide +kernel
theorem dX8_waiting_33 : decode cX8_waiting 33 = .ok (.if_icmp .ge 15, 3) := by decide +kernel
theorem dX8_waiting_36 : decode cX8_waiting 36 = .ok (.aload_n 0, 1) := by decide +kernel
theorem dX8_waiting_37 : decode cX8_waiting 37 = .ok (.iload_n 1, 1) := by decide +kernel
theorem dX8_waiting_38 : decode cX8_waiting 38 = .ok (.bipush 12, 2) := by decide +kernel
theorem dX8_waiting_40 : decode cX8_waiting 40 = .ok (.iload_n 2, 1) := by decide +kernel
theorem dX8_waiting_41 : decode cX8_waiting 41 = .ok (.iadd, 1) := by decide +kernel
theorem dX8_waiting_42 : decode cX8_waiting 42 = .ok (.invokevirtual 56, 3) := by decide +kernel
theorem dX8_waiting_45 : decode cX8_waiting 45 = .ok (.goto 4, 3) := by decide +kernel
theorem dX8_waiting_48 : decode cX8_waiting 48 = .ok (.iconst (-1), 1) := by decide +kernel
theorem dX8_waiting_49 : decode cX8_waiting 49 = .ok (.invokevirtual 45, 3) := by decide +kernel
theorem dX8_waiting_52 : decode cX8_waiting 52 = .ok (.ireturn, 1) := by decide +kernel
theorem dX8_inBoxes_0 : decode cX8_inBoxes 0 = .ok (.iconst 0, 1) := by decide +kernel
theorem dX8_inBoxes_1 : decode cX8_inBoxes 1 = .ok (.istore_n 2, 1) := by decide +kernel
theorem dX8_inBoxes_2 : decode cX8_inBoxes 2 = .ok (.iconst 0, 1) := by decide +kernel
theorem dX8_inBoxes_3 : decode cX8_inBoxes 3 = .ok (.istore_n 3, 1) := by decide +kernel
theorem dX8_inBoxes_4 : decode cX8_inBoxes 4 = .ok (.iload_n 3, 1) := by decide +kernel
theorem dX8_inBoxes_5 : decode cX8_inBoxes 5 = .ok (.aload_n 0, 1) := by decide +kernel
theorem dX8_inBoxes_6 : decode cX8_inBoxes 6 = .ok (.getfield 7, 3) := by decide +kernel
theorem dX8_inBoxes_9 : decode cX8_inBoxes 9 = .ok (.iconst 1, 1) := by decide +kernel
theorem dX8_inBoxes_10 : decode cX8_inBoxes 10 = .ok (.iaload, 1) := by decide +kernel
theorem dX8_inBoxes_11 : decode cX8_inBoxes 11 = .ok (.if_icmp .ge 52, 3) := by decide +kernel
theorem dX8_inBoxes_14 : decode cX8_inBoxes 14 = .ok (.iconst 0, 1) := by decide +kernel
theorem dX8_inBoxes_15 : decode cX8_inBoxes 15 = .ok (.istore 4, 2) := by decide +kernel
theorem dX8_inBoxes_17 : decode cX8_inBoxes 17 = .ok (.iload 4, 2) := by decide +kernel
theorem dX8_inBoxes_19 : decode cX8_inBoxes 19 = .ok (.aload_n 0, 1) := by decide +kernel
theorem dX8_inBoxes_20 : decode cX8_inBoxes 20 = .ok (.iload_n 3, 1) := by decide +kernel
theorem dX8_inBoxes_21 : decode cX8_inBoxes 21 = .ok (.bipush 6, 2) := by decide +kernel
theorem dX8_inBoxes_23 : decode cX8_inBoxes 23 = .ok (.invokevirtual 56, 3) := by decide +kernel
theorem dX8_inBoxes_26 : decode cX8_inBoxes 26 = .ok (.if_icmp .ge 31, 3) := by decide +kernel
theorem dX8_inBoxes_29 : decode cX8_inBoxes 29 = .ok (.iload_n 2, 1) := by decide +kernel
theorem dX8_inBoxes_30 : decode cX8_inBoxes 30 = .ok (.aload_n 0, 1) := by decide +kernel
theorem dX8_inBoxes_31 : decode cX8_inBoxes 31 = .ok (.iload_n 3, 1) := by decide +kernel
theorem dX8_inBoxes_32 : decode cX8_inBoxes 32 = .ok (.bipush 12, 2) := by decide +kernel
theorem dX8_inBoxes_34 : decode cX8_inBoxes 34 = .ok (.iload 4, 2) := by decide +kernel
theorem dX8_inBoxes_36 : decode cX8_inBoxes 36 = .ok (.iadd, 1) := by decide +kernel
theorem dX8_inBoxes_37 : decode cX8_inBoxes 37 = .ok (.invokevirtual 56, 3) := by decide +kernel
theorem dX8_inBoxes_40 : decode cX8_inBoxes 40 = .ok (.iload_n 1, 1) := by decide +kernel
theorem dX8_inBoxes_41 : decode cX8_inBoxes 41 = .ok (.if_icmp .ne 7, 3) := by decide +kernel
theorem dX8_inBoxes_44 : decode cX8_inBoxes 44 = .ok (.iconst 1, 1) := by decide +kernel
theorem dX8_inBoxes_45 : decode cX8_inBoxes 45 = .ok (.goto 4, 3) := by decide +kernel
theorem dX8_inBoxes_48 : decode cX8_inBoxes 48 = .ok (.iconst 0, 1) := by decide +kernel
theorem dX8_inBoxes_49 : decode cX8_inBoxes 49 = .ok (.iadd, 1) := by decide +kernel
theorem dX8_inBoxes_50 : decode cX8_inBoxes 50 = .ok (.istore_n 2, 1) := by decide +kernel
theorem dX8_inBoxes_51 : decode cX8_inBoxes 51 = .ok (.iinc 4 1, 3) := by decide +kernel
theorem dX8_inBoxes_54 : decode cX8_inBoxes 54 = .ok (.goto (-37), 3) := by decide +kernel
theorem dX8_inBoxes_57 : decode cX8_inBoxes 57 = .ok (.iinc 3 1, 3) := by decide +kernel
theorem dX8_inBoxes_60 : decode cX8_inBoxes 60 = .ok (.goto (-56), 3) := by decide +kernel
theorem dX8_inBoxes_63 : decode cX8_inBoxes 63 = .ok (.iload_n 2, 1) := by decide +kernel
theorem dX8_inBoxes_64 : decode cX8_inBoxes 64 = .ok (.ireturn, 1) := by decide +kernel
theorem dX8_eventTold_0 : decode cX8_eventTold 0 = .ok (.iload_n 2, 1) := by decide +kernel
theorem dX8_eventTold_1 : decode cX8_eventTold 1 = .ok (.bipush 6, 2) := by decide +kernel
theorem dX8_eventTold_3 : decode cX8_eventTold 3 = .ok (.if_icmp .ne 11, 3) := by decide +kernel
theorem dX8_eventTold_6 : decode cX8_eventTold 6 = .ok (.aload_n 0, 1) := by decide +kernel
theorem dX8_eventTold_7 : decode cX8_eventTold 7 = .ok (.iload_n 1, 1) := by decide +kernel
theorem dX8_eventTold_8 : decode cX8_eventTold 8 = .ok (.invokevirtual 159, 3) := by decide +kernel
theorem dX8_eventTold_11 : decode cX8_eventTold 11 = .ok (.goto 9, 3) := by decide +kernel
theorem dX8_eventTold_14 : decode cX8_eventTold 14 = .ok (.aload_n 0, 1) := by decide +kernel
theorem dX8_eventTold_15 : decode cX8_eventTold 15 = .ok (.iload_n 1, 1) := by decide +kernel
theorem dX8_eventTold_16 : decode cX8_eventTold 16 = .ok (.iload_n 2, 1) := by decide +kernel
theorem dX8_eventTold_17 : decode cX8_eventTold 17 = .ok (.invokevirtual 150, 3) := by decide +kernel
theorem dX8_eventTold_20 : decode cX8_eventTold 20 = .ok (.ireturn, 1) := by decide +kernel
theorem dX8_event_0 : decode cX8_event 0 = .ok (.iload_n 1, 1) := by decide +kernel
theorem dX8_event_1 : decode cX8_event 1 = .ok (.iconst 0, 1) := by decide +kernel
theorem dX8_event_2 : decode cX8_event 2 = .ok (.aload_n 0, 1) := by decide +kernel
theorem dX8_event_3 : decode cX8_event 3 = .ok (.getfield 7, 3) := by decide +kernel
theorem dX8_event_6 : decode cX8_event 6 = .ok (.iconst 2, 1) := by decide +kernel
theorem dX8_event_7 : decode cX8_event 7 = .ok (.iaload, 1) := by decide +kernel
theorem dX8_event_8 : decode cX8_event 8 = .ok (.iconst 1, 1) := by decide +kernel
theorem dX8_event_9 : decode cX8_event 9 = .ok (.isub, 1) := by decide +kernel
theorem dX8_event_10 : decode cX8_event 10 = .ok (.invokestatic 48, 3) := by decide +kernel
theorem dX8_event_13 : decode cX8_event 13 = .ok (.ifCond .ne 9, 3) := by decide +kernel
theorem dX8_event_16 : decode cX8_event 16 = .ok (.aload_n 0, 1) := by decide +kernel
theorem dX8_event_17 : decode cX8_event 17 = .ok (.iconst 1, 1) := by decide +kernel
theorem dX8_event_18 : decode cX8_event 18 = .ok (.invokevirtual 38, 3) := by decide +kernel
theorem dX8_event_21 : decode cX8_event 21 = .ok (.ireturn, 1) := by decide +kernel
theorem dX8_event_22 : decode cX8_event 22 = .ok (.iload_n 2, 1) := by decide +kernel
theorem dX8_event_23 : decode cX8_event 23 = .ok (.iconst 0, 1) := by decide +kernel
theorem dX8_event_24 : decode cX8_event 24 = .ok (.bipush 6, 2) := by decide +kernel
theorem dX8_event_26 : decode cX8_event 26 = .ok (.invokestatic 48, 3) := by decide +kernel
theorem dX8_event_29 : decode cX8_event 29 = .ok (.ifCond .eq 16, 3) := by decide +kernel
theorem dX8_event_32 : decode cX8_event 32 = .ok (.aload_n 0, 1) := by decide +kernel
theorem dX8_event_33 : decode cX8_event 33 = .ok (.aload_n 0, 1) := by decide +kernel
theorem dX8_event_34 : decode cX8_event 34 = .ok (.iload_n 1, 1) := by decide +kernel
theorem dX8_event_35 : decode cX8_event 35 = .ok (.iload_n 2, 1) := by decide +kernel
theorem dX8_event_36 : decode cX8_event 36 = .ok (.invokevirtual 162, 3) := by decide +kernel
theorem dX8_event_39 : decode cX8_event 39 = .ok (.invokevirtual 45, 3) := by decide +kernel
theorem dX8_event_42 : decode cX8_event 42 = .ok (.goto 8, 3) := by decide +kernel
theorem dX8_event_45 : decode cX8_event 45 = .ok (.aload_n 0, 1) := by decide +kernel
theorem dX8_event_46 : decode cX8_event 46 = .ok (.iconst 2, 1) := by decide +kernel
theorem dX8_event_47 : decode cX8_event 47 = .ok (.invokevirtual 38, 3) := by decide +kernel
theorem dX8_event_50 : decode cX8_event 50 = .ok (.ireturn, 1) := by decide +kernel
theorem dX8_leafTold_0 : decode cX8_leafTold 0 = .ok (.iload_n 2, 1) := by decide +kernel
theorem dX8_leafTold_1 : decode cX8_leafTold 1 = .ok (.iconst 1, 1) := by decide +kernel
theorem dX8_leafTold_2 : decode cX8_leafTold 2 = .ok (.if_icmp .ne 13, 3) := by decide +kernel
theorem dX8_leafTold_5 : decode cX8_leafTold 5 = .ok (.aload_n 0, 1) := by decide +kernel
theorem dX8_leafTold_6 : decode cX8_leafTold 6 = .ok (.getfield 7, 3) := by decide +kernel
theorem dX8_leafTold_9 : decode cX8_leafTold 9 = .ok (.bipush 8, 2) := by decide +kernel
theorem dX8_leafTold_11 : decode cX8_leafTold 11 = .ok (.iload_n 1, 1) := by decide +kernel
theorem dX8_leafTold_12 : decode cX8_leafTold 12 = .ok (.iadd, 1) := by decide +kernel
theorem dX8_leafTold_13 : decode cX8_leafTold 13 = .ok (.iaload, 1) := by decide +kernel
theorem dX8_leafTold_14 : decode cX8_leafTold 14 = .ok (.ireturn, 1) := by decide +kernel
theorem dX8_leafTold_15 : decode cX8_leafTold 15 = .ok (.iconst 0, 1) := by decide +kernel
theorem dX8_leafTold_16 : decode cX8_leafTold 16 = .ok (.istore_n 3, 1) := by decide +kernel
theorem dX8_leafTold_17 : decode cX8_leafTold 17 = .ok (.iconst 0, 1) := by decide +kernel
theorem dX8_leafTold_18 : decode cX8_leafTold 18 = .ok (.istore 4, 2) := by decide +kernel
theorem dX8_leafTold_20 : decode cX8_leafTold 20 = .ok (.iload 4, 2) := by decide +kernel
theorem dX8_leafTold_22 : decode cX8_leafTold 22 = .ok (.aload_n 0, 1) := by decide +kernel
theorem dX8_leafTold_23 : decode cX8_leafTold 23 = .ok (.getfield 7, 3) := by decide +kernel
theorem dX8_leafTold_26 : decode cX8_leafTold 26 = .ok (.iconst 1, 1) := by decide +kernel
theorem dX8_leafTold_27 : decode cX8_leafTold 27 = .ok (.iaload, 1) := by decide +kernel
theorem dX8_leafTold_28 : decode cX8_leafTold 28 = .ok (.if_icmp .ge 88, 3) := by decide +kernel
theorem dX8_leafTold_31 : decode cX8_leafTold 31 = .ok (.aload_n 0, 1) := by decide +kernel
theorem dX8_leafTold_32 : decode cX8_leafTold 32 = .ok (.iload 4, 2) := by decide +kernel
theorem dX8_leafTold_34 : decode cX8_leafTold 34 = .ok (.iconst 5, 1) := by decide +kernel
theorem dX8_leafTold_35 : decode cX8_leafTold 35 = .ok (.invokevirtual 56, 3) := by decide +kernel
theorem dX8_leafTold_38 : decode cX8_leafTold 38 = .ok (.iconst 1, 1) := by decide +kernel
theorem dX8_leafTold_39 : decode cX8_leafTold 39 = .ok (.if_icmp .ne 7, 3) := by decide +kernel
theorem dX8_leafTold_42 : decode cX8_leafTold 42 = .ok (.iconst 1, 1) := by decide +kernel
theorem dX8_leafTold_43 : decode cX8_leafTold 43 = .ok (.goto 4, 3) := by decide +kernel
theorem dX8_leafTold_46 : decode cX8_leafTold 46 = .ok (.iconst 0, 1) := by decide +kernel
theorem dX8_leafTold_47 : decode cX8_leafTold 47 = .ok (.istore 5, 2) := by decide +kernel
theorem dX8_leafTold_49 : decode cX8_leafTold 49 = .ok (.iload 5, 2) := by decide +kernel
theorem dX8_leafTold_51 : decode cX8_leafTold 51 = .ok (.ifCond .eq 27, 3) := by decide +kernel
theorem dX8_leafTold_54 : decode cX8_leafTold 54 = .ok (.aload_n 0, 1) := by decide +kernel
theorem dX8_leafTold_55 : decode cX8_leafTold 55 = .ok (.iload 4, 2) := by decide +kernel
theorem dX8_leafTold_57 : decode cX8_leafTold 57 = .ok (.iload_n 2, 1) := by decide +kernel
theorem dX8_leafTold_58 : decode cX8_leafTold 58 = .ok (.iconst 3, 1) := by decide +kernel
theorem dX8_leafTold_59 : decode cX8_leafTold 59 = .ok (.if_icmp .ne 7, 3) := by decide +kernel
theorem dX8_leafTold_62 : decode cX8_leafTold 62 = .ok (.iconst 2, 1) := by decide +kernel
theorem dX8_leafTold_63 : decode cX8_leafTold 63 = .ok (.goto 4, 3) := by decide +kernel
theorem dX8_leafTold_66 : decode cX8_leafTold 66 = .ok (.iconst 4, 1) := by decide +kernel
theorem dX8_leafTold_67 : decode cX8_leafTold 67 = .ok (.invokevirtual 56, 3) := by decide +kernel
theorem dX8_leafTold_70 : decode cX8_leafTold 70 = .ok (.iload_n 1, 1) := by decide +kernel
theorem dX8_leafTold_71 : decode cX8_leafTold 71 = .ok (.if_icmp .ne 7, 3) := by decide +kernel
theorem dX8_leafTold_74 : decode cX8_leafTold 74 = .ok (.iconst 1, 1) := by decide +kernel
theorem dX8_leafTold_75 : decode cX8_leafTold 75 = .ok (.goto 4, 3) := by decide +kernel
theorem dX8_leafTold_78 : decode cX8_leafTold 78 = .ok (.iconst 0, 1) := by decide +kernel
theorem dX8_leafTold_79 : decode cX8_leafTold 79 = .ok (.istore 6, 2) := by decide +kernel
theorem dX8_leafTold_81 : decode cX8_leafTold 81 = .ok (.iload_n 3, 1) := by decide +kernel
theorem dX8_leafTold_82 : decode cX8_leafTold 82 = .ok (.iload 6, 2) := by decide +kernel
theorem dX8_leafTold_84 : decode cX8_leafTold 84 = .ok (.ifCond .ne 7, 3) := by decide +kernel
theorem dX8_leafTold_87 : decode cX8_leafTold 87 = .ok (.iconst 0, 1) := by decide +kernel
theorem dX8_leafTold_88 : decode cX8_leafTold 88 = .ok (.goto 20, 3) := by decide +kernel
theorem dX8_leafTold_91 : decode cX8_leafTold 91 = .ok (.iload_n 2, 1) := by decide +kernel
theorem dX8_leafTold_92 : decode cX8_leafTold 92 = .ok (.iconst 2, 1) := by decide +kernel
theorem dX8_leafTold_93 : decode cX8_leafTold 93 = .ok (.if_icmp .ne 14, 3) := by decide +kernel
theorem dX8_leafTold_96 : decode cX8_leafTold 96 = .ok (.aload_n 0, 1) := by decide +kernel
theorem dX8_leafTold_97 : decode cX8_leafTold 97 = .ok (.iload 4, 2) := by decide +kernel
theorem dX8_leafTold_99 : decode cX8_leafTold 99 = .ok (.bipush 6, 2) := by decide +kernel
theorem dX8_leafTold_101 : decode cX8_leafTold 101 = .ok (.invokevirtual 56, 3) := by decide +kernel
theorem dX8_leafTold_104 : decode cX8_leafTold 104 = .ok (.goto 4, 3) := by decide +kernel
theorem dX8_leafTold_107 : decode cX8_leafTold 107 = .ok (.iconst 1, 1) := by decide +kernel
theorem dX8_leafTold_108 : decode cX8_leafTold 108 = .ok (.iadd, 1) := by decide +kernel
theorem dX8_leafTold_109 : decode cX8_leafTold 109 = .ok (.istore_n 3, 1) := by decide +kernel
theorem dX8_leafTold_110 : decode cX8_leafTold 110 = .ok (.iinc 4 1, 3) := by decide +kernel
theorem dX8_leafTold_113 : decode cX8_leafTold 113 = .ok (.goto (-93), 3) := by decide +kernel
theorem dX8_leafTold_116 : decode cX8_leafTold 116 = .ok (.iload_n 3, 1) := by decide +kernel
theorem dX8_leafTold_117 : decode cX8_leafTold 117 = .ok (.ireturn, 1) := by decide +kernel
theorem dX8_leaf_0 : decode cX8_leaf 0 = .ok (.iload_n 1, 1) := by decide +kernel
theorem dX8_leaf_1 : decode cX8_leaf 1 = .ok (.invokestatic 80, 3) := by decide +kernel
theorem dX8_leaf_4 : decode cX8_leaf 4 = .ok (.ifCond .ne 9, 3) := by decide +kernel
theorem dX8_leaf_7 : decode cX8_leaf 7 = .ok (.aload_n 0, 1) := by decide +kernel
theorem dX8_leaf_8 : decode cX8_leaf 8 = .ok (.iconst 1, 1) := by decide +kernel
theorem dX8_leaf_9 : decode cX8_leaf 9 = .ok (.invokevirtual 38, 3) := by decide +kernel
theorem dX8_leaf_12 : decode cX8_leaf 12 = .ok (.ireturn, 1) := by decide +kernel
theorem dX8_leaf_13 : decode cX8_leaf 13 = .ok (.iload_n 2, 1) := by decide +kernel
theorem dX8_leaf_14 : decode cX8_leaf 14 = .ok (.iconst 0, 1) := by decide +kernel
theorem dX8_leaf_15 : decode cX8_leaf 15 = .ok (.iconst 3, 1) := by decide +kernel
theorem dX8_leaf_16 : decode cX8_leaf 16 = .ok (.invokestatic 48, 3) := by decide +kernel
theorem dX8_leaf_19 : decode cX8_leaf 19 = .ok (.ifCond .eq 16, 3) := by decide +kernel
theorem dX8_leaf_22 : decode cX8_leaf 22 = .ok (.aload_n 0, 1) := by decide +kernel
theorem dX8_leaf_23 : decode cX8_leaf 23 = .ok (.aload_n 0, 1) := by decide +kernel
theorem dX8_leaf_24 : decode cX8_leaf 24 = .ok (.iload_n 1, 1) := by decide +kernel
theorem dX8_leaf_25 : decode cX8_leaf 25 = .ok (.iload_n 2, 1) := by decide +kernel
theorem dX8_leaf_26 : decode cX8_leaf 26 = .ok (.invokevirtual 165, 3) := by decide +kernel
theorem dX8_leaf_29 : decode cX8_leaf 29 = .ok (.invokevirtual 45, 3) := by decide +kernel
theorem dX8_leaf_32 : decode cX8_leaf 32 = .ok (.goto 8, 3) := by decide +kernel
theorem dX8_leaf_35 : decode cX8_leaf 35 = .ok (.aload_n 0, 1) := by decide +kernel
theorem dX8_leaf_36 : decode cX8_leaf 36 = .ok (.iconst 2, 1) := by decide +kernel
theorem dX8_leaf_37 : decode cX8_leaf 37 = .ok (.invokevirtual 38, 3) := by decide +kernel
theorem dX8_leaf_40 : decode cX8_leaf 40 = .ok (.ireturn, 1) := by decide +kernel
theorem dX8_sumOf_0 : decode cX8_sumOf 0 = .ok (.iconst 0, 1) := by decide +kernel
theorem dX8_sumOf_1 : decode cX8_sumOf 1 = .ok (.istore_n 2, 1) := by decide +kernel
theorem dX8_sumOf_2 : decode cX8_sumOf 2 = .ok (.iconst 0, 1) := by decide +kernel
theorem dX8_sumOf_3 : decode cX8_sumOf 3 = .ok (.istore_n 3, 1) := by decide +kernel
theorem dX8_sumOf_4 : decode cX8_sumOf 4 = .ok (.iload_n 3, 1) := by decide +kernel
theorem dX8_sumOf_5 : decode cX8_sumOf 5 = .ok (.aload_n 0, 1) := by decide +kernel
theorem dX8_sumOf_6 : decode cX8_sumOf 6 = .ok (.getfield 7, 3) := by decide +kernel
theorem dX8_sumOf_9 : decode cX8_sumOf 9 = .ok (.iconst 1, 1) := by decide +kernel
theorem dX8_sumOf_10 : decode cX8_sumOf 10 = .ok (.iaload, 1) := by decide +kernel
theorem dX8_sumOf_11 : decode cX8_sumOf 11 = .ok (.if_icmp .ge 18, 3) := by decide +kernel
theorem dX8_sumOf_14 : decode cX8_sumOf 14 = .ok (.iload_n 2, 1) := by decide +kernel
theorem dX8_sumOf_15 : decode cX8_sumOf 15 = .ok (.aload_n 0, 1) := by decide +kernel
theorem dX8_sumOf_16 : decode cX8_sumOf 16 = .ok (.iload_n 3, 1) := by decide +kernel
theorem dX8_sumOf_17 : decode cX8_sumOf 17 = .ok (.iload_n 1, 1) := by decide +kernel
theorem dX8_sumOf_18 : decode cX8_sumOf 18 = .ok (.invokevirtual 56, 3) := by decide +kernel
theorem dX8_sumOf_21 : decode cX8_sumOf 21 = .ok (.iadd, 1) := by decide +kernel
theorem dX8_sumOf_22 : decode cX8_sumOf 22 = .ok (.istore_n 2, 1) := by decide +kernel
theorem dX8_sumOf_23 : decode cX8_sumOf 23 = .ok (.iinc 3 1, 3) := by decide +kernel
theorem dX8_sumOf_26 : decode cX8_sumOf 26 = .ok (.goto (-22), 3) := by decide +kernel
theorem dX8_sumOf_29 : decode cX8_sumOf 29 = .ok (.iload_n 2, 1) := by decide +kernel
theorem dX8_sumOf_30 : decode cX8_sumOf 30 = .ok (.ireturn, 1) := by decide +kernel
theorem dX8_wholeTold_0 : decode cX8_wholeTold 0 = .ok (.iload_n 1, 1) := by decide +kernel
theorem dX8_wholeTold_1 : decode cX8_wholeTold 1 = .ok (.tableswitch 139 0 13 #[71, 78, 84, 91, 139, 139, 139, 139, 98, 105, 112, 119, 127, 134], 71) := by decide +kernel
theorem dX8_wholeTold_72 : decode cX8_wholeTold 72 = .ok (.aload_n 0, 1) := by decide +kernel
theorem dX8_wholeTold_73 : decode cX8_wholeTold 73 = .ok (.getfield 7, 3) := by decide +kernel
theorem dX8_wholeTold_76 : decode cX8_wholeTold 76 = .ok (.iconst 1, 1) := by decide +kernel
theorem dX8_wholeTold_77 : decode cX8_wholeTold 77 = .ok (.iaload, 1) := by decide +kernel
theorem dX8_wholeTold_78 : decode cX8_wholeTold 78 = .ok (.ireturn, 1) := by decide +kernel
theorem dX8_wholeTold_79 : decode cX8_wholeTold 79 = .ok (.aload_n 0, 1) := by decide +kernel
theorem dX8_wholeTold_80 : decode cX8_wholeTold 80 = .ok (.iconst 5, 1) := by decide +kernel
theorem dX8_wholeTold_81 : decode cX8_wholeTold 81 = .ok (.invokevirtual 168, 3) := by decide +kernel
theorem dX8_wholeTold_84 : decode cX8_wholeTold 84 = .ok (.ireturn, 1) := by decide +kernel
theorem dX8_wholeTold_85 : decode cX8_wholeTold 85 = .ok (.aload_n 0, 1) := by decide +kernel
theorem dX8_wholeTold_86 : decode cX8_wholeTold 86 = .ok (.getfield 7, 3) := by decide +kernel
theorem dX8_wholeTold_89 : decode cX8_wholeTold 89 = .ok (.iconst 2, 1) := by decide +kernel
theorem dX8_wholeTold_90 : decode cX8_wholeTold 90 = .ok (.iaload, 1) := by decide +kernel
theorem dX8_wholeTold_91 : decode cX8_wholeTold 91 = .ok (.ireturn, 1) := by decide +kernel
theorem dX8_wholeTold_92 : decode cX8_wholeTold 92 = .ok (.aload_n 0, 1) := by decide +kernel
theorem dX8_wholeTold_93 : decode cX8_wholeTold 93 = .ok (.getfield 7, 3) := by decide +kernel
theorem dX8_wholeTold_96 : decode cX8_wholeTold 96 = .ok (.iconst 0, 1) := by decide +kernel
theorem dX8_wholeTold_97 : decode cX8_wholeTold 97 = .ok (.iaload, 1) := by decide +kernel
theorem dX8_wholeTold_98 : decode cX8_wholeTold 98 = .ok (.ireturn, 1) := by decide +kernel
theorem dX8_wholeTold_99 : decode cX8_wholeTold 99 = .ok (.aload_n 0, 1) := by decide +kernel
theorem dX8_wholeTold_100 : decode cX8_wholeTold 100 = .ok (.bipush 6, 2) := by decide +kernel
theorem dX8_wholeTold_102 : decode cX8_wholeTold 102 = .ok (.invokevirtual 168, 3) := by decide +kernel
theorem dX8_wholeTold_105 : decode cX8_wholeTold 105 = .ok (.ireturn, 1) := by decide +kernel
theorem dX8_wholeTold_106 : decode cX8_wholeTold 106 = .ok (.aload_n 0, 1) := by decide +kernel
theorem dX8_wholeTold_107 : decode cX8_wholeTold 107 = .ok (.bipush 7, 2) := by decide +kernel
theorem dX8_wholeTold_109 : decode cX8_wholeTold 109 = .ok (.invokevirtual 168, 3) := by decide +kernel
theorem dX8_wholeTold_112 : decode cX8_wholeTold 112 = .ok (.ireturn, 1) := by decide +kernel
theorem dX8_wholeTold_113 : decode cX8_wholeTold 113 = .ok (.aload_n 0, 1) := by decide +kernel
theorem dX8_wholeTold_114 : decode cX8_wholeTold 114 = .ok (.bipush 8, 2) := by decide +kernel
theorem dX8_wholeTold_116 : decode cX8_wholeTold 116 = .ok (.invokevirtual 168, 3) := by decide +kernel
theorem dX8_wholeTold_119 : decode cX8_wholeTold 119 = .ok (.ireturn, 1) := by decide +kernel
theorem dX8_wholeTold_120 : decode cX8_wholeTold 120 = .ok (.aload_n 0, 1) := by decide +kernel
theorem dX8_wholeTold_121 : decode cX8_wholeTold 121 = .ok (.getfield 7, 3) := by decide +kernel
theorem dX8_wholeTold_124 : decode cX8_wholeTold 124 = .ok (.bipush 7, 2) := by decide +kernel
theorem dX8_wholeTold_126 : decode cX8_wholeTold 126 = .ok (.iaload, 1) := by decide +kernel
theorem dX8_wholeTold_127 : decode cX8_wholeTold 127 = .ok (.ireturn, 1) := by decide +kernel
theorem dX8_wholeTold_128 : decode cX8_wholeTold 128 = .ok (.aload_n 0, 1) := by decide +kernel
theorem dX8_wholeTold_129 : decode cX8_wholeTold 129 = .ok (.bipush 9, 2) := by decide +kernel
theorem dX8_wholeTold_131 : decode cX8_wholeTold 131 = .ok (.invokevirtual 168, 3) := by decide +kernel
theorem dX8_wholeTold_134 : decode cX8_wholeTold 134 = .ok (.ireturn, 1) := by decide +kernel
theorem dX8_wholeTold_135 : decode cX8_wholeTold 135 = .ok (.aload_n 0, 1) := by decide +kernel
theorem dX8_wholeTold_136 : decode cX8_wholeTold 136 = .ok (.getfield 171, 3) := by decide +kernel
theorem dX8_wholeTold_139 : decode cX8_wholeTold 139 = .ok (.ireturn, 1) := by decide +kernel
theorem dX8_wholeTold_140 : decode cX8_wholeTold 140 = .ok (.aload_n 0, 1) := by decide +kernel
theorem dX8_wholeTold_141 : decode cX8_wholeTold 141 = .ok (.iload_n 1, 1) := by decide +kernel
theorem dX8_wholeTold_142 : decode cX8_wholeTold 142 = .ok (.iconst 4, 1) := by decide +kernel
theorem dX8_wholeTold_143 : decode cX8_wholeTold 143 = .ok (.isub, 1) := by decide +kernel
theorem dX8_wholeTold_144 : decode cX8_wholeTold 144 = .ok (.invokevirtual 101, 3) := by decide +kernel
theorem dX8_wholeTold_147 : decode cX8_wholeTold 147 = .ok (.ireturn, 1) := by decide +kernel
theorem dX8_whole_0 : decode cX8_whole 0 = .ok (.iload_n 1, 1) := by decide +kernel
theorem dX8_whole_1 : decode cX8_whole 1 = .ok (.iconst 0, 1) := by decide +kernel
theorem dX8_whole_2 : decode cX8_whole 2 = .ok (.bipush 13, 2) := by decide +kernel
theorem dX8_whole_4 : decode cX8_whole 4 = .ok (.invokestatic 48, 3) := by decide +kernel
theorem dX8_whole_7 : decode cX8_whole 7 = .ok (.ifCond .eq 15, 3) := by decide +kernel
theorem dX8_whole_10 : decode cX8_whole 10 = .ok (.aload_n 0, 1) := by decide +kernel
theorem dX8_whole_11 : decode cX8_whole 11 = .ok (.aload_n 0, 1) := by decide +kernel
theorem dX8_whole_12 : decode cX8_whole 12 = .ok (.iload_n 1, 1) := by decide +kernel
theorem dX8_whole_13 : decode cX8_whole 13 = .ok (.invokevirtual 174, 3) := by decide +kernel
theorem dX8_whole_16 : decode cX8_whole 16 = .ok (.invokevirtual 45, 3) := by decide +kernel
theorem dX8_whole_19 : decode cX8_whole 19 = .ok (.goto 8, 3) := by decide +kernel
theorem dX8_whole_22 : decode cX8_whole 22 = .ok (.aload_n 0, 1) := by decide +kernel
theorem dX8_whole_23 : decode cX8_whole 23 = .ok (.iconst 1, 1) := by decide +kernel
theorem dX8_whole_24 : decode cX8_whole 24 = .ok (.invokevirtual 38, 3) := by decide +kernel
theorem dX8_whole_27 : decode cX8_whole 27 = .ok (.ireturn, 1) := by decide +kernel
theorem dX8_wouldReach_0 : decode cX8_wouldReach 0 = .ok (.iload_n 1, 1) := by decide +kernel
theorem dX8_wouldReach_1 : decode cX8_wouldReach 1 = .ok (.invokestatic 80, 3) := by decide +kernel
theorem dX8_wouldReach_4 : decode cX8_wouldReach 4 = .ok (.ifCond .ne 9, 3) := by decide +kernel
theorem dX8_wouldReach_7 : decode cX8_wouldReach 7 = .ok (.aload_n 0, 1) := by decide +kernel
theorem dX8_wouldReach_8 : decode cX8_wouldReach 8 = .ok (.iconst 1, 1) := by decide +kernel
theorem dX8_wouldReach_9 : decode cX8_wouldReach 9 = .ok (.invokevirtual 38, 3) := by decide +kernel
theorem dX8_wouldReach_12 : decode cX8_wouldReach 12 = .ok (.ireturn, 1) := by decide +kernel
theorem dX8_wouldReach_13 : decode cX8_wouldReach 13 = .ok (.iload_n 2, 1) := by decide +kernel
theorem dX8_wouldReach_14 : decode cX8_wouldReach 14 = .ok (.invokestatic 84, 3) := by decide +kernel
theorem dX8_wouldReach_17 : decode cX8_wouldReach 17 = .ok (.ifCond .eq 7, 3) := by decide +kernel
theorem dX8_wouldReach_20 : decode cX8_wouldReach 20 = .ok (.iload_n 3, 1) := by decide +kernel
theorem dX8_wouldReach_21 : decode cX8_wouldReach 21 = .ok (.ifCond .ge 9, 3) := by decide +kernel
theorem dX8_wouldReach_24 : decode cX8_wouldReach 24 = .ok (.aload_n 0, 1) := by decide +kernel
theorem dX8_wouldReach_25 : decode cX8_wouldReach 25 = .ok (.iconst 2, 1) := by decide +kernel
theorem dX8_wouldReach_26 : decode cX8_wouldReach 26 = .ok (.invokevirtual 38, 3) := by decide +kernel
theorem dX8_wouldReach_29 : decode cX8_wouldReach 29 = .ok (.ireturn, 1) := by decide +kernel
theorem dX8_wouldReach_30 : decode cX8_wouldReach 30 = .ok (.aload_n 0, 1) := by decide +kernel
theorem dX8_wouldReach_31 : decode cX8_wouldReach 31 = .ok (.aload_n 0, 1) := by decide +kernel
theorem dX8_wouldReach_32 : decode cX8_wouldReach 32 = .ok (.iload_n 3, 1) := by decide +kernel
theorem dX8_wouldReach_33 : decode cX8_wouldReach 33 = .ok (.invokevirtual 104, 3) := by decide +kernel
theorem dX8_wouldReach_36 : decode cX8_wouldReach 36 = .ok (.ifCond .eq 7, 3) := by decide +kernel
theorem dX8_wouldReach_39 : decode cX8_wouldReach 39 = .ok (.iconst (-1), 1) := by decide +kernel
theorem dX8_wouldReach_40 : decode cX8_wouldReach 40 = .ok (.goto 17, 3) := by decide +kernel
theorem dX8_wouldReach_43 : decode cX8_wouldReach 43 = .ok (.aload_n 0, 1) := by decide +kernel
theorem dX8_wouldReach_44 : decode cX8_wouldReach 44 = .ok (.iload_n 1, 1) := by decide +kernel
theorem dX8_wouldReach_45 : decode cX8_wouldReach 45 = .ok (.iload_n 2, 1) := by decide +kernel
theorem dX8_wouldReach_46 : decode cX8_wouldReach 46 = .ok (.aload_n 0, 1) := by decide +kernel
theorem dX8_wouldReach_47 : decode cX8_wouldReach 47 = .ok (.getfield 7, 3) := by decide +kernel
theorem dX8_wouldReach_50 : decode cX8_wouldReach 50 = .ok (.iconst 0, 1) := by decide +kernel
theorem dX8_wouldReach_51 : decode cX8_wouldReach 51 = .ok (.iaload, 1) := by decide +kernel
theorem dX8_wouldReach_52 : decode cX8_wouldReach 52 = .ok (.iload_n 3, 1) := by decide +kernel
theorem dX8_wouldReach_53 : decode cX8_wouldReach 53 = .ok (.isub, 1) := by decide +kernel
theorem dX8_wouldReach_54 : decode cX8_wouldReach 54 = .ok (.invokevirtual 107, 3) := by decide +kernel
theorem dX8_wouldReach_57 : decode cX8_wouldReach 57 = .ok (.invokevirtual 45, 3) := by decide +kernel
theorem dX8_wouldReach_60 : decode cX8_wouldReach 60 = .ok (.ireturn, 1) := by decide +kernel
theorem dX8_why_0 : decode cX8_why 0 = .ok (.aload_n 0, 1) := by decide +kernel
theorem dX8_why_1 : decode cX8_why 1 = .ok (.iload_n 1, 1) := by decide +kernel
theorem dX8_why_2 : decode cX8_why 2 = .ok (.iconst 5, 1) := by decide +kernel
theorem dX8_why_3 : decode cX8_why 3 = .ok (.invokevirtual 56, 3) := by decide +kernel
theorem dX8_why_6 : decode cX8_why 6 = .ok (.ifCond .ne 5, 3) := by decide +kernel
theorem dX8_why_9 : decode cX8_why 9 = .ok (.iconst 1, 1) := by decide +kernel
theorem dX8_why_10 : decode cX8_why 10 = .ok (.ireturn, 1) := by decide +kernel
theorem dX8_why_11 : decode cX8_why 11 = .ok (.aload_n 0, 1) := by decide +kernel
theorem dX8_why_12 : decode cX8_why 12 = .ok (.iload_n 1, 1) := by decide +kernel
theorem dX8_why_13 : decode cX8_why 13 = .ok (.iconst 4, 1) := by decide +kernel
theorem dX8_why_14 : decode cX8_why 14 = .ok (.invokevirtual 56, 3) := by decide +kernel
theorem dX8_why_17 : decode cX8_why 17 = .ok (.aload_n 0, 1) := by decide +kernel
theorem dX8_why_18 : decode cX8_why 18 = .ok (.iload_n 1, 1) := by decide +kernel
theorem dX8_why_19 : decode cX8_why 19 = .ok (.iconst 1, 1) := by decide +kernel
theorem dX8_why_20 : decode cX8_why 20 = .ok (.invokevirtual 56, 3) := by decide +kernel
theorem dX8_why_23 : decode cX8_why 23 = .ok (.iload_n 2, 1) := by decide +kernel
theorem dX8_why_24 : decode cX8_why 24 = .ok (.iload_n 3, 1) := by decide +kernel
theorem dX8_why_25 : decode cX8_why 25 = .ok (.invokestatic 73, 3) := by decide +kernel
theorem dX8_why_28 : decode cX8_why 28 = .ok (.ifCond .eq 21, 3) := by decide +kernel
theorem dX8_why_31 : decode cX8_why 31 = .ok (.aload_n 0, 1) := by decide +kernel
theorem dX8_why_32 : decode cX8_why 32 = .ok (.iload_n 1, 1) := by decide +kernel
theorem dX8_why_33 : decode cX8_why 33 = .ok (.bipush 6, 2) := by decide +kernel
theorem dX8_why_35 : decode cX8_why 35 = .ok (.invokevirtual 56, 3) := by decide +kernel
theorem dX8_why_38 : decode cX8_why 38 = .ok (.bipush 12, 2) := by decide +kernel
theorem dX8_why_40 : decode cX8_why 40 = .ok (.if_icmp .ne 7, 3) := by decide +kernel
theorem dX8_why_43 : decode cX8_why 43 = .ok (.iconst 4, 1) := by decide +kernel
theorem dX8_why_44 : decode cX8_why 44 = .ok (.goto 4, 3) := by decide +kernel
theorem dX8_why_47 : decode cX8_why 47 = .ok (.iconst 0, 1) := by decide +kernel
theorem dX8_why_48 : decode cX8_why 48 = .ok (.ireturn, 1) := by decide +kernel
theorem dX8_why_49 : decode cX8_why 49 = .ok (.aload_n 0, 1) := by decide +kernel
theorem dX8_why_50 : decode cX8_why 50 = .ok (.iload_n 1, 1) := by decide +kernel
theorem dX8_why_51 : decode cX8_why 51 = .ok (.iconst 2, 1) := by decide +kernel
theorem dX8_why_52 : decode cX8_why 52 = .ok (.invokevirtual 56, 3) := by decide +kernel
theorem dX8_why_55 : decode cX8_why 55 = .ok (.aload_n 0, 1) := by decide +kernel
theorem dX8_why_56 : decode cX8_why 56 = .ok (.iload_n 1, 1) := by decide +kernel
theorem dX8_why_57 : decode cX8_why 57 = .ok (.iconst 1, 1) := by decide +kernel
theorem dX8_why_58 : decode cX8_why 58 = .ok (.invokevirtual 56, 3) := by decide +kernel
theorem dX8_why_61 : decode cX8_why 61 = .ok (.iload_n 2, 1) := by decide +kernel
theorem dX8_why_62 : decode cX8_why 62 = .ok (.iload_n 3, 1) := by decide +kernel
theorem dX8_why_63 : decode cX8_why 63 = .ok (.invokestatic 73, 3) := by decide +kernel
theorem dX8_why_66 : decode cX8_why 66 = .ok (.ifCond .eq 7, 3) := by decide +kernel
theorem dX8_why_69 : decode cX8_why 69 = .ok (.iconst 2, 1) := by decide +kernel
theorem dX8_why_70 : decode cX8_why 70 = .ok (.goto 4, 3) := by decide +kernel
theorem dX8_why_73 : decode cX8_why 73 = .ok (.iconst 3, 1) := by decide +kernel
theorem dX8_why_74 : decode cX8_why 74 = .ok (.ireturn, 1) := by decide +kernel
theorem dX8_reason_0 : decode cX8_reason 0 = .ok (.aload_n 0, 1) := by decide +kernel
theorem dX8_reason_1 : decode cX8_reason 1 = .ok (.iload_n 1, 1) := by decide +kernel
theorem dX8_reason_2 : decode cX8_reason 2 = .ok (.invokevirtual 94, 3) := by decide +kernel
theorem dX8_reason_5 : decode cX8_reason 5 = .ok (.ifCond .eq 10, 3) := by decide +kernel
theorem dX8_reason_8 : decode cX8_reason 8 = .ok (.iload_n 2, 1) := by decide +kernel
theorem dX8_reason_9 : decode cX8_reason 9 = .ok (.invokestatic 80, 3) := by decide +kernel
theorem dX8_reason_12 : decode cX8_reason 12 = .ok (.ifCond .ne 9, 3) := by decide +kernel
theorem dX8_reason_15 : decode cX8_reason 15 = .ok (.aload_n 0, 1) := by decide +kernel
theorem dX8_reason_16 : decode cX8_reason 16 = .ok (.iconst 1, 1) := by decide +kernel
theorem dX8_reason_17 : decode cX8_reason 17 = .ok (.invokevirtual 38, 3) := by decide +kernel
theorem dX8_reason_20 : decode cX8_reason 20 = .ok (.ireturn, 1) := by decide +kernel
theorem dX8_reason_21 : decode cX8_reason 21 = .ok (.iload_n 3, 1) := by decide +kernel
theorem dX8_reason_22 : decode cX8_reason 22 = .ok (.invokestatic 84, 3) := by decide +kernel
theorem dX8_reason_25 : decode cX8_reason 25 = .ok (.ifCond .eq 17, 3) := by decide +kernel
theorem dX8_reason_28 : decode cX8_reason 28 = .ok (.aload_n 0, 1) := by decide +kernel
theorem dX8_reason_29 : decode cX8_reason 29 = .ok (.aload_n 0, 1) := by decide +kernel
theorem dX8_reason_30 : decode cX8_reason 30 = .ok (.iload_n 1, 1) := by decide +kernel
theorem dX8_reason_31 : decode cX8_reason 31 = .ok (.iload_n 2, 1) := by decide +kernel
theorem dX8_reason_32 : decode cX8_reason 32 = .ok (.iload_n 3, 1) := by decide +kernel
theorem dX8_reason_33 : decode cX8_reason 33 = .ok (.invokevirtual 177, 3) := by decide +kernel
theorem dX8_reason_36 : decode cX8_reason 36 = .ok (.invokevirtual 45, 3) := by decide +kernel
theorem dX8_reason_39 : decode cX8_reason 39 = .ok (.goto 8, 3) := by decide +kernel
theorem dX8_reason_42 : decode cX8_reason 42 = .ok (.aload_n 0, 1) := by decide +kernel
theorem dX8_reason_43 : decode cX8_reason 43 = .ok (.iconst 2, 1) := by decide +kernel
theorem dX8_reason_44 : decode cX8_reason 44 = .ok (.invokevirtual 38, 3) := by decide +kernel
theorem dX8_reason_47 : decode cX8_reason 47 = .ok (.ireturn, 1) := by decide +kernel
theorem dX8_changesIn_0 : decode cX8_changesIn 0 = .ok (.aload_n 0, 1) := by decide +kernel
theorem dX8_changesIn_1 : decode cX8_changesIn 1 = .ok (.iload_n 1, 1) := by decide +kernel
theorem dX8_changesIn_2 : decode cX8_changesIn 2 = .ok (.iconst 5, 1) := by decide +kernel
theorem dX8_changesIn_3 : decode cX8_changesIn 3 = .ok (.invokevirtual 56, 3) := by decide +kernel
theorem dX8_changesIn_6 : decode cX8_changesIn 6 = .ok (.ifCond .ne 5, 3) := by decide +kernel
theorem dX8_changesIn_9 : decode cX8_changesIn 9 = .ok (.iconst (-1), 1) := by decide +kernel
theorem dX8_changesIn_10 : decode cX8_changesIn 10 = .ok (.ireturn, 1) := by decide +kernel
theorem dX8_changesIn_11 : decode cX8_changesIn 11 = .ok (.aload_n 0, 1) := by decide +kernel
theorem dX8_changesIn_12 : decode cX8_changesIn 12 = .ok (.iload_n 1, 1) := by decide +kernel
theorem dX8_changesIn_13 : decode cX8_changesIn 13 = .ok (.iconst 2, 1) := by decide +kernel
theorem dX8_changesIn_14 : decode cX8_changesIn 14 = .ok (.invokevirtual 56, 3) := by decide +kernel
theorem dX8_changesIn_17 : decode cX8_changesIn 17 = .ok (.aload_n 0, 1) := by decide +kernel
theorem dX8_changesIn_18 : decode cX8_changesIn 18 = .ok (.iload_n 1, 1) := by decide +kernel
theorem dX8_changesIn_19 : decode cX8_changesIn 19 = .ok (.iconst 4, 1) := by decide +kernel
theorem dX8_changesIn_20 : decode cX8_changesIn 20 = .ok (.invokevirtual 56, 3) := by decide +kernel
theorem dX8_changesIn_23 : decode cX8_changesIn 23 = .ok (.if_icmp .ne 5, 3) := by decide +kernel
theorem dX8_changesIn_26 : decode cX8_changesIn 26 = .ok (.iconst 0, 1) := by decide +kernel
theorem dX8_changesIn_27 : decode cX8_changesIn 27 = .ok (.ireturn, 1) := by decide +kernel
theorem dX8_changesIn_28 : decode cX8_changesIn 28 = .ok (.aload_n 0, 1) := by decide +kernel
theorem dX8_changesIn_29 : decode cX8_changesIn 29 = .ok (.iload_n 1, 1) := by decide +kernel
theorem dX8_changesIn_30 : decode cX8_changesIn 30 = .ok (.iconst 3, 1) := by decide +kernel
theorem dX8_changesIn_31 : decode cX8_changesIn 31 = .ok (.invokevirtual 56, 3) := by decide +kernel
theorem dX8_changesIn_34 : decode cX8_changesIn 34 = .ok (.aload_n 0, 1) := by decide +kernel
theorem dX8_changesIn_35 : decode cX8_changesIn 35 = .ok (.iload_n 1, 1) := by decide +kernel
theorem dX8_changesIn_36 : decode cX8_changesIn 36 = .ok (.invokevirtual 113, 3) := by decide +kernel
theorem dX8_changesIn_39 : decode cX8_changesIn 39 = .ok (.iadd, 1) := by decide +kernel
theorem dX8_changesIn_40 : decode cX8_changesIn 40 = .ok (.aload_n 0, 1) := by decide +kernel
theorem dX8_changesIn_41 : decode cX8_changesIn 41 = .ok (.getfield 7, 3) := by decide +kernel
theorem dX8_changesIn_44 : decode cX8_changesIn 44 = .ok (.iconst 0, 1) := by decide +kernel
theorem dX8_changesIn_45 : decode cX8_changesIn 45 = .ok (.iaload, 1) := by decide +kernel
theorem dX8_changesIn_46 : decode cX8_changesIn 46 = .ok (.isub, 1) := by decide +kernel
theorem dX8_changesIn_47 : decode cX8_changesIn 47 = .ok (.istore_n 2, 1) := by decide +kernel
theorem dX8_changesIn_48 : decode cX8_changesIn 48 = .ok (.iload_n 2, 1) := by decide +kernel
theorem dX8_changesIn_49 : decode cX8_changesIn 49 = .ok (.ifCond .ge 7, 3) := by decide +kernel
theorem dX8_changesIn_52 : decode cX8_changesIn 52 = .ok (.iconst 1, 1) := by decide +kernel
theorem dX8_changesIn_53 : decode cX8_changesIn 53 = .ok (.goto 6, 3) := by decide +kernel
theorem dX8_changesIn_56 : decode cX8_changesIn 56 = .ok (.iload_n 2, 1) := by decide +kernel
theorem dX8_changesIn_57 : decode cX8_changesIn 57 = .ok (.iconst 1, 1) := by decide +kernel
theorem dX8_changesIn_58 : decode cX8_changesIn 58 = .ok (.iadd, 1) := by decide +kernel
theorem dX8_changesIn_59 : decode cX8_changesIn 59 = .ok (.ireturn, 1) := by decide +kernel
theorem dX8_servedIn_0 : decode cX8_servedIn 0 = .ok (.aload_n 0, 1) := by decide +kernel
theorem dX8_servedIn_1 : decode cX8_servedIn 1 = .ok (.iload_n 1, 1) := by decide +kernel
theorem dX8_servedIn_2 : decode cX8_servedIn 2 = .ok (.invokevirtual 94, 3) := by decide +kernel
theorem dX8_servedIn_5 : decode cX8_servedIn 5 = .ok (.ifCond .eq 15, 3) := by decide +kernel
theorem dX8_servedIn_8 : decode cX8_servedIn 8 = .ok (.aload_n 0, 1) := by decide +kernel
theorem dX8_servedIn_9 : decode cX8_servedIn 9 = .ok (.aload_n 0, 1) := by decide +kernel
theorem dX8_servedIn_10 : decode cX8_servedIn 10 = .ok (.iload_n 1, 1) := by decide +kernel
theorem dX8_servedIn_11 : decode cX8_servedIn 11 = .ok (.invokevirtual 180, 3) := by decide +kernel
theorem dX8_servedIn_14 : decode cX8_servedIn 14 = .ok (.invokevirtual 45, 3) := by decide +kernel
theorem dX8_servedIn_17 : decode cX8_servedIn 17 = .ok (.goto 8, 3) := by decide +kernel
theorem dX8_servedIn_20 : decode cX8_servedIn 20 = .ok (.aload_n 0, 1) := by decide +kernel
theorem dX8_servedIn_21 : decode cX8_servedIn 21 = .ok (.iconst 1, 1) := by decide +kernel
theorem dX8_servedIn_22 : decode cX8_servedIn 22 = .ok (.invokevirtual 38, 3) := by decide +kernel
theorem dX8_servedIn_25 : decode cX8_servedIn 25 = .ok (.ireturn, 1) := by decide +kernel
theorem dX8_emptyIn_0 : decode cX8_emptyIn 0 = .ok (.aload_n 0, 1) := by decide +kernel
theorem dX8_emptyIn_1 : decode cX8_emptyIn 1 = .ok (.iload_n 1, 1) := by decide +kernel
theorem dX8_emptyIn_2 : decode cX8_emptyIn 2 = .ok (.invokevirtual 94, 3) := by decide +kernel
theorem dX8_emptyIn_5 : decode cX8_emptyIn 5 = .ok (.ifCond .ne 9, 3) := by decide +kernel
theorem dX8_emptyIn_8 : decode cX8_emptyIn 8 = .ok (.aload_n 0, 1) := by decide +kernel
theorem dX8_emptyIn_9 : decode cX8_emptyIn 9 = .ok (.iconst 1, 1) := by decide +kernel
theorem dX8_emptyIn_10 : decode cX8_emptyIn 10 = .ok (.invokevirtual 38, 3) := by decide +kernel
theorem dX8_emptyIn_13 : decode cX8_emptyIn 13 = .ok (.ireturn, 1) := by decide +kernel
theorem dX8_emptyIn_14 : decode cX8_emptyIn 14 = .ok (.aload_n 0, 1) := by decide +kernel
theorem dX8_emptyIn_15 : decode cX8_emptyIn 15 = .ok (.invokevirtual 126, 3) := by decide +kernel
theorem dX8_emptyIn_18 : decode cX8_emptyIn 18 = .ok (.iconst 0, 1) := by decide +kernel
theorem dX8_emptyIn_19 : decode cX8_emptyIn 19 = .ok (.istore_n 2, 1) := by decide +kernel
theorem dX8_emptyIn_20 : decode cX8_emptyIn 20 = .ok (.iload_n 2, 1) := by decide +kernel
theorem dX8_emptyIn_21 : decode cX8_emptyIn 21 = .ok (.sipush 200, 3) := by decide +kernel
theorem dX8_emptyIn_24 : decode cX8_emptyIn 24 = .ok (.if_icmp .gt 31, 3) := by decide +kernel
theorem dX8_emptyIn_27 : decode cX8_emptyIn 27 = .ok (.aload_n 0, 1) := by decide +kernel
theorem dX8_emptyIn_28 : decode cX8_emptyIn 28 = .ok (.iload_n 1, 1) := by decide +kernel
theorem dX8_emptyIn_29 : decode cX8_emptyIn 29 = .ok (.bipush 6, 2) := by decide +kernel
theorem dX8_emptyIn_31 : decode cX8_emptyIn 31 = .ok (.invokevirtual 56, 3) := by decide +kernel
theorem dX8_emptyIn_34 : decode cX8_emptyIn 34 = .ok (.ifCond .le 21, 3) := by decide +kernel
theorem dX8_emptyIn_37 : decode cX8_emptyIn 37 = .ok (.iload_n 2, 1) := by decide +kernel
theorem dX8_emptyIn_38 : decode cX8_emptyIn 38 = .ok (.aload_n 0, 1) := by decide +kernel
theorem dX8_emptyIn_39 : decode cX8_emptyIn 39 = .ok (.invokevirtual 122, 3) := by decide +kernel
theorem dX8_emptyIn_42 : decode cX8_emptyIn 42 = .ok (.ifCond .ge 7, 3) := by decide +kernel
theorem dX8_emptyIn_45 : decode cX8_emptyIn 45 = .ok (.iconst 0, 1) := by decide +kernel
theorem dX8_emptyIn_46 : decode cX8_emptyIn 46 = .ok (.goto 4, 3) := by decide +kernel
theorem dX8_emptyIn_49 : decode cX8_emptyIn 49 = .ok (.iconst 1, 1) := by decide +kernel
theorem dX8_emptyIn_50 : decode cX8_emptyIn 50 = .ok (.iadd, 1) := by decide +kernel
theorem dX8_emptyIn_51 : decode cX8_emptyIn 51 = .ok (.istore_n 2, 1) := by decide +kernel
theorem dX8_emptyIn_52 : decode cX8_emptyIn 52 = .ok (.goto (-32), 3) := by decide +kernel
theorem dX8_emptyIn_55 : decode cX8_emptyIn 55 = .ok (.aload_n 0, 1) := by decide +kernel
theorem dX8_emptyIn_56 : decode cX8_emptyIn 56 = .ok (.invokevirtual 35, 3) := by decide +kernel
theorem dX8_emptyIn_59 : decode cX8_emptyIn 59 = .ok (.aload_n 0, 1) := by decide +kernel
theorem dX8_emptyIn_60 : decode cX8_emptyIn 60 = .ok (.iload_n 2, 1) := by decide +kernel
theorem dX8_emptyIn_61 : decode cX8_emptyIn 61 = .ok (.sipush 200, 3) := by decide +kernel
theorem dX8_emptyIn_64 : decode cX8_emptyIn 64 = .ok (.if_icmp .le 7, 3) := by decide +kernel
theorem dX8_emptyIn_67 : decode cX8_emptyIn 67 = .ok (.iconst (-1), 1) := by decide +kernel
theorem dX8_emptyIn_68 : decode cX8_emptyIn 68 = .ok (.goto 4, 3) := by decide +kernel
theorem dX8_emptyIn_71 : decode cX8_emptyIn 71 = .ok (.iload_n 2, 1) := by decide +kernel
theorem dX8_emptyIn_72 : decode cX8_emptyIn 72 = .ok (.invokevirtual 45, 3) := by decide +kernel
theorem dX8_emptyIn_75 : decode cX8_emptyIn 75 = .ok (.ireturn, 1) := by decide +kernel
theorem dX8_coveredBy_0 : decode cX8_coveredBy 0 = .ok (.iconst 0, 1) := by decide +kernel
theorem dX8_coveredBy_1 : decode cX8_coveredBy 1 = .ok (.istore_n 2, 1) := by decide +kernel
theorem dX8_coveredBy_2 : decode cX8_coveredBy 2 = .ok (.iconst 0, 1) := by decide +kernel
theorem dX8_coveredBy_3 : decode cX8_coveredBy 3 = .ok (.istore_n 3, 1) := by decide +kernel
theorem dX8_coveredBy_4 : decode cX8_coveredBy 4 = .ok (.iload_n 3, 1) := by decide +kernel
theorem dX8_coveredBy_5 : decode cX8_coveredBy 5 = .ok (.bipush 16, 2) := by decide +kernel
theorem dX8_coveredBy_7 : decode cX8_coveredBy 7 = .ok (.if_icmp .ge 49, 3) := by decide +kernel
theorem dX8_coveredBy_10 : decode cX8_coveredBy 10 = .ok (.iload_n 2, 1) := by decide +kernel
theorem dX8_coveredBy_11 : decode cX8_coveredBy 11 = .ok (.aload_n 0, 1) := by decide +kernel
theorem dX8_coveredBy_12 : decode cX8_coveredBy 12 = .ok (.iload_n 1, 1) := by decide +kernel
theorem dX8_coveredBy_13 : decode cX8_coveredBy 13 = .ok (.iconst 5, 1) := by decide +kernel
theorem dX8_coveredBy_14 : decode cX8_coveredBy 14 = .ok (.invokevirtual 56, 3) := by decide +kernel
theorem dX8_coveredBy_17 : decode cX8_coveredBy 17 = .ok (.iconst 1, 1) := by decide +kernel
theorem dX8_coveredBy_18 : decode cX8_coveredBy 18 = .ok (.if_icmp .ne 29, 3) := by decide +kernel
theorem dX8_coveredBy_21 : decode cX8_coveredBy 21 = .ok (.aload_n 0, 1) := by decide +kernel
theorem dX8_coveredBy_22 : decode cX8_coveredBy 22 = .ok (.iload_n 1, 1) := by decide +kernel
theorem dX8_coveredBy_23 : decode cX8_coveredBy 23 = .ok (.iconst 4, 1) := by decide +kernel
theorem dX8_coveredBy_24 : decode cX8_coveredBy 24 = .ok (.invokevirtual 56, 3) := by decide +kernel
theorem dX8_coveredBy_27 : decode cX8_coveredBy 27 = .ok (.aload_n 0, 1) := by decide +kernel
theorem dX8_coveredBy_28 : decode cX8_coveredBy 28 = .ok (.iload_n 1, 1) := by decide +kernel
theorem dX8_coveredBy_29 : decode cX8_coveredBy 29 = .ok (.iconst 1, 1) := by decide +kernel
theorem dX8_coveredBy_30 : decode cX8_coveredBy 30 = .ok (.invokevirtual 56, 3) := by decide +kernel
theorem dX8_coveredBy_33 : decode cX8_coveredBy 33 = .ok (.iload_n 3, 1) := by decide +kernel
theorem dX8_coveredBy_34 : decode cX8_coveredBy 34 = .ok (.iconst 2, 1) := by decide +kernel
theorem dX8_coveredBy_35 : decode cX8_coveredBy 35 = .ok (.invokestatic 73, 3) := by decide +kernel
theorem dX8_coveredBy_38 : decode cX8_coveredBy 38 = .ok (.ifCond .eq 9, 3) := by decide +kernel
theorem dX8_coveredBy_41 : decode cX8_coveredBy 41 = .ok (.iconst 1, 1) := by decide +kernel
theorem dX8_coveredBy_42 : decode cX8_coveredBy 42 = .ok (.iload_n 3, 1) := by decide +kernel
theorem dX8_coveredBy_43 : decode cX8_coveredBy 43 = .ok (.ishl, 1) := by decide +kernel
theorem dX8_coveredBy_44 : decode cX8_coveredBy 44 = .ok (.goto 4, 3) := by decide +kernel
theorem dX8_coveredBy_47 : decode cX8_coveredBy 47 = .ok (.iconst 0, 1) := by decide +kernel
theorem dX8_coveredBy_48 : decode cX8_coveredBy 48 = .ok (.ior, 1) := by decide +kernel
theorem dX8_coveredBy_49 : decode cX8_coveredBy 49 = .ok (.istore_n 2, 1) := by decide +kernel
theorem dX8_coveredBy_50 : decode cX8_coveredBy 50 = .ok (.iinc 3 1, 3) := by decide +kernel
theorem dX8_coveredBy_53 : decode cX8_coveredBy 53 = .ok (.goto (-49), 3) := by decide +kernel
theorem dX8_coveredBy_56 : decode cX8_coveredBy 56 = .ok (.iload_n 2, 1) := by decide +kernel
theorem dX8_coveredBy_57 : decode cX8_coveredBy 57 = .ok (.ireturn, 1) := by decide +kernel
theorem dX8_covered_0 : decode cX8_covered 0 = .ok (.aload_n 0, 1) := by decide +kernel
theorem dX8_covered_1 : decode cX8_covered 1 = .ok (.iload_n 1, 1) := by decide +kernel
theorem dX8_covered_2 : decode cX8_covered 2 = .ok (.invokevirtual 94, 3) := by decide +kernel
theorem dX8_covered_5 : decode cX8_covered 5 = .ok (.ifCond .eq 15, 3) := by decide +kernel
theorem dX8_covered_8 : decode cX8_covered 8 = .ok (.aload_n 0, 1) := by decide +kernel
theorem dX8_covered_9 : decode cX8_covered 9 = .ok (.aload_n 0, 1) := by decide +kernel
theorem dX8_covered_10 : decode cX8_covered 10 = .ok (.iload_n 1, 1) := by decide +kernel
theorem dX8_covered_11 : decode cX8_covered 11 = .ok (.invokevirtual 183, 3) := by decide +kernel
theorem dX8_covered_14 : decode cX8_covered 14 = .ok (.invokevirtual 45, 3) := by decide +kernel
theorem dX8_covered_17 : decode cX8_covered 17 = .ok (.goto 8, 3) := by decide +kernel
theorem dX8_covered_20 : decode cX8_covered 20 = .ok (.aload_n 0, 1) := by decide +kernel
theorem dX8_covered_21 : decode cX8_covered 21 = .ok (.iconst 1, 1) := by decide +kernel
theorem dX8_covered_22 : decode cX8_covered 22 = .ok (.invokevirtual 38, 3) := by decide +kernel
theorem dX8_covered_25 : decode cX8_covered 25 = .ok (.ireturn, 1) := by decide +kernel
theorem dX8_busiestLeaf_0 : decode cX8_busiestLeaf 0 = .ok (.iconst (-1), 1) := by decide +kernel
theorem dX8_busiestLeaf_1 : decode cX8_busiestLeaf 1 = .ok (.istore_n 1, 1) := by decide +kernel
theorem dX8_busiestLeaf_2 : decode cX8_busiestLeaf 2 = .ok (.iconst 0, 1) := by decide +kernel
theorem dX8_busiestLeaf_3 : decode cX8_busiestLeaf 3 = .ok (.istore_n 2, 1) := by decide +kernel
theorem dX8_busiestLeaf_4 : decode cX8_busiestLeaf 4 = .ok (.iconst 0, 1) := by decide +kernel
theorem dX8_busiestLeaf_5 : decode cX8_busiestLeaf 5 = .ok (.istore_n 3, 1) := by decide +kernel
theorem dX8_busiestLeaf_6 : decode cX8_busiestLeaf 6 = .ok (.iload_n 3, 1) := by decide +kernel
theorem dX8_busiestLeaf_7 : decode cX8_busiestLeaf 7 = .ok (.bipush 16, 2) := by decide +kernel
theorem dX8_busiestLeaf_9 : decode cX8_busiestLeaf 9 = .ok (.if_icmp .ge 42, 3) := by decide +kernel
theorem dX8_busiestLeaf_12 : decode cX8_busiestLeaf 12 = .ok (.aload_n 0, 1) := by decide +kernel
theorem dX8_busiestLeaf_13 : decode cX8_busiestLeaf 13 = .ok (.iload_n 3, 1) := by decide +kernel
theorem dX8_busiestLeaf_14 : decode cX8_busiestLeaf 14 = .ok (.iconst 2, 1) := by decide +kernel
theorem dX8_busiestLeaf_15 : decode cX8_busiestLeaf 15 = .ok (.invokevirtual 165, 3) := by decide +kernel
theorem dX8_busiestLeaf_18 : decode cX8_busiestLeaf 18 = .ok (.istore 4, 2) := by decide +kernel
theorem dX8_busiestLeaf_20 : decode cX8_busiestLeaf 20 = .ok (.iload 4, 2) := by decide +kernel
theorem dX8_busiestLeaf_22 : decode cX8_busiestLeaf 22 = .ok (.iload_n 2, 1) := by decide +kernel
theorem dX8_busiestLeaf_23 : decode cX8_busiestLeaf 23 = .ok (.if_icmp .le 7, 3) := by decide +kernel
theorem dX8_busiestLeaf_26 : decode cX8_busiestLeaf 26 = .ok (.iload_n 3, 1) := by decide +kernel
theorem dX8_busiestLeaf_27 : decode cX8_busiestLeaf 27 = .ok (.goto 4, 3) := by decide +kernel
theorem dX8_busiestLeaf_30 : decode cX8_busiestLeaf 30 = .ok (.iload_n 1, 1) := by decide +kernel
theorem dX8_busiestLeaf_31 : decode cX8_busiestLeaf 31 = .ok (.istore_n 1, 1) := by decide +kernel
theorem dX8_busiestLeaf_32 : decode cX8_busiestLeaf 32 = .ok (.iload 4, 2) := by decide +kernel
theorem dX8_busiestLeaf_34 : decode cX8_busiestLeaf 34 = .ok (.iload_n 2, 1) := by decide +kernel
theorem dX8_busiestLeaf_35 : decode cX8_busiestLeaf 35 = .ok (.if_icmp .le 8, 3) := by decide +kernel
theorem dX8_busiestLeaf_38 : decode cX8_busiestLeaf 38 = .ok (.iload 4, 2) := by decide +kernel
theorem dX8_busiestLeaf_40 : decode cX8_busiestLeaf 40 = .ok (.goto 4, 3) := by decide +kernel
theorem dX8_busiestLeaf_43 : decode cX8_busiestLeaf 43 = .ok (.iload_n 2, 1) := by decide +kernel
theorem dX8_busiestLeaf_44 : decode cX8_busiestLeaf 44 = .ok (.istore_n 2, 1) := by decide +kernel
theorem dX8_busiestLeaf_45 : decode cX8_busiestLeaf 45 = .ok (.iinc 3 1, 3) := by decide +kernel
theorem dX8_busiestLeaf_48 : decode cX8_busiestLeaf 48 = .ok (.goto (-42), 3) := by decide +kernel
theorem dX8_busiestLeaf_51 : decode cX8_busiestLeaf 51 = .ok (.iload_n 1, 1) := by decide +kernel
theorem dX8_busiestLeaf_52 : decode cX8_busiestLeaf 52 = .ok (.ireturn, 1) := by decide +kernel
theorem dX8_busiest_0 : decode cX8_busiest 0 = .ok (.aload_n 0, 1) := by decide +kernel
theorem dX8_busiest_1 : decode cX8_busiest 1 = .ok (.aload_n 0, 1) := by decide +kernel
theorem dX8_busiest_2 : decode cX8_busiest 2 = .ok (.invokevirtual 186, 3) := by decide +kernel
theorem dX8_busiest_5 : decode cX8_busiest 5 = .ok (.invokevirtual 45, 3) := by decide +kernel
theorem dX8_busiest_8 : decode cX8_busiest 8 = .ok (.ireturn, 1) := by decide +kernel
theorem dX8_type_0 : decode cX8_type 0 = .ok (.iload_n 1, 1) := by decide +kernel
theorem dX8_type_1 : decode cX8_type 1 = .ok (.iconst 0, 1) := by decide +kernel
theorem dX8_type_2 : decode cX8_type 2 = .ok (.bipush 127, 2) := by decide +kernel
theorem dX8_type_4 : decode cX8_type 4 = .ok (.invokestatic 48, 3) := by decide +kernel
theorem dX8_type_7 : decode cX8_type 7 = .ok (.ifCond .ne 9, 3) := by decide +kernel
theorem dX8_type_10 : decode cX8_type 10 = .ok (.aload_n 0, 1) := by decide +kernel
theorem dX8_type_11 : decode cX8_type 11 = .ok (.iconst 1, 1) := by decide +kernel
theorem dX8_type_12 : decode cX8_type 12 = .ok (.invokevirtual 38, 3) := by decide +kernel
theorem dX8_type_15 : decode cX8_type 15 = .ok (.ireturn, 1) := by decide +kernel
theorem dX8_type_16 : decode cX8_type 16 = .ok (.aload_n 0, 1) := by decide +kernel
theorem dX8_type_17 : decode cX8_type 17 = .ok (.getfield 171, 3) := by decide +kernel
theorem dX8_type_20 : decode cX8_type 20 = .ok (.sipush 150, 3) := by decide +kernel
theorem dX8_type_23 : decode cX8_type 23 = .ok (.if_icmp .ne 9, 3) := by decide +kernel
theorem dX8_type_26 : decode cX8_type 26 = .ok (.aload_n 0, 1) := by decide +kernel
theorem dX8_type_27 : decode cX8_type 27 = .ok (.iconst 2, 1) := by decide +kernel
theorem dX8_type_28 : decode cX8_type 28 = .ok (.invokevirtual 38, 3) := by decide +kernel
theorem dX8_type_31 : decode cX8_type 31 = .ok (.ireturn, 1) := by decide +kernel
theorem dX8_type_32 : decode cX8_type 32 = .ok (.aload_n 0, 1) := by decide +kernel
theorem dX8_type_33 : decode cX8_type 33 = .ok (.getfield 22, 3) := by decide +kernel
theorem dX8_type_36 : decode cX8_type 36 = .ok (.aload_n 0, 1) := by decide +kernel
theorem dX8_type_37 : decode cX8_type 37 = .ok (.getfield 171, 3) := by decide +kernel
theorem dX8_type_40 : decode cX8_type 40 = .ok (.iload_n 1, 1) := by decide +kernel
theorem dX8_type_41 : decode cX8_type 41 = .ok (.iastore, 1) := by decide +kernel
theorem dX8_type_42 : decode cX8_type 42 = .ok (.aload_n 0, 1) := by decide +kernel
theorem dX8_type_43 : decode cX8_type 43 = .ok (.dup, 1) := by decide +kernel
theorem dX8_type_44 : decode cX8_type 44 = .ok (.getfield 171, 3) := by decide +kernel
theorem dX8_type_47 : decode cX8_type 47 = .ok (.iconst 1, 1) := by decide +kernel
theorem dX8_type_48 : decode cX8_type 48 = .ok (.iadd, 1) := by decide +kernel
theorem dX8_type_49 : decode cX8_type 49 = .ok (.putfield 171, 3) := by decide +kernel
theorem dX8_type_52 : decode cX8_type 52 = .ok (.aload_n 0, 1) := by decide +kernel
theorem dX8_type_53 : decode cX8_type 53 = .ok (.aload_n 0, 1) := by decide +kernel
theorem dX8_type_54 : decode cX8_type 54 = .ok (.getfield 171, 3) := by decide +kernel
theorem dX8_type_57 : decode cX8_type 57 = .ok (.invokevirtual 45, 3) := by decide +kernel
theorem dX8_type_60 : decode cX8_type 60 = .ok (.ireturn, 1) := by decide +kernel
theorem dX8_clearCommands_0 : decode cX8_clearCommands 0 = .ok (.aload_n 0, 1) := by decide +kernel
theorem dX8_clearCommands_1 : decode cX8_clearCommands 1 = .ok (.getfield 171, 3) := by decide +kernel
theorem dX8_clearCommands_4 : decode cX8_clearCommands 4 = .ok (.istore_n 1, 1) := by decide +kernel
theorem dX8_clearCommands_5 : decode cX8_clearCommands 5 = .ok (.aload_n 0, 1) := by decide +kernel
theorem dX8_clearCommands_6 : decode cX8_clearCommands 6 = .ok (.iconst 0, 1) := by decide +kernel
theorem dX8_clearCommands_7 : decode cX8_clearCommands 7 = .ok (.putfield 171, 3) := by decide +kernel
theorem dX8_clearCommands_10 : decode cX8_clearCommands 10 = .ok (.aload_n 0, 1) := by decide +kernel
theorem dX8_clearCommands_11 : decode cX8_clearCommands 11 = .ok (.iload_n 1, 1) := by decide +kernel
theorem dX8_clearCommands_12 : decode cX8_clearCommands 12 = .ok (.invokevirtual 45, 3) := by decide +kernel
theorem dX8_clearCommands_15 : decode cX8_clearCommands 15 = .ok (.ireturn, 1) := by decide +kernel
theorem dX8_isAt_0 : decode cX8_isAt 0 = .ok (.aload_n 0, 1) := by decide +kernel
theorem dX8_isAt_1 : decode cX8_isAt 1 = .ok (.getfield 189, 3) := by decide +kernel
theorem dX8_isAt_4 : decode cX8_isAt 4 = .ok (.aload_n 0, 1) := by decide +kernel
theorem dX8_isAt_5 : decode cX8_isAt 5 = .ok (.getfield 171, 3) := by decide +kernel
theorem dX8_isAt_8 : decode cX8_isAt 8 = .ok (.if_icmp .ge 24, 3) := by decide +kernel
theorem dX8_isAt_11 : decode cX8_isAt 11 = .ok (.aload_n 0, 1) := by decide +kernel
theorem dX8_isAt_12 : decode cX8_isAt 12 = .ok (.getfield 22, 3) := by decide +kernel
theorem dX8_isAt_15 : decode cX8_isAt 15 = .ok (.aload_n 0, 1) := by decide +kernel
theorem dX8_isAt_16 : decode cX8_isAt 16 = .ok (.getfield 189, 3) := by decide +kernel
theorem dX8_isAt_19 : decode cX8_isAt 19 = .ok (.iaload, 1) := by decide +kernel
theorem dX8_isAt_20 : decode cX8_isAt 20 = .ok (.iload_n 1, 1) := by decide +kernel
theorem dX8_isAt_21 : decode cX8_isAt 21 = .ok (.iload_n 2, 1) := by decide +kernel
theorem dX8_isAt_22 : decode cX8_isAt 22 = .ok (.invokestatic 48, 3) := by decide +kernel
theorem dX8_isAt_25 : decode cX8_isAt 25 = .ok (.ifCond .eq 7, 3) := by decide +kernel
theorem dX8_isAt_28 : decode cX8_isAt 28 = .ok (.iconst 1, 1) := by decide +kernel
theorem dX8_isAt_29 : decode cX8_isAt 29 = .ok (.goto 4, 3) := by decide +kernel
theorem dX8_isAt_32 : decode cX8_isAt 32 = .ok (.iconst 0, 1) := by decide +kernel
theorem dX8_isAt_33 : decode cX8_isAt 33 = .ok (.ireturn, 1) := by decide +kernel
theorem dX8_skips_0 : decode cX8_skips 0 = .ok (.aload_n 0, 1) := by decide +kernel
theorem dX8_skips_1 : decode cX8_skips 1 = .ok (.bipush 32, 2) := by decide +kernel
theorem dX8_skips_3 : decode cX8_skips 3 = .ok (.bipush 32, 2) := by decide +kernel
theorem dX8_skips_5 : decode cX8_skips 5 = .ok (.invokevirtual 192, 3) := by decide +kernel
theorem dX8_skips_8 : decode cX8_skips 8 = .ok (.ifCond .eq 16, 3) := by decide +kernel
theorem dX8_skips_11 : decode cX8_skips 11 = .ok (.aload_n 0, 1) := by decide +kernel
theorem dX8_skips_12 : decode cX8_skips 12 = .ok (.dup, 1) := by decide +kernel
theorem dX8_skips_13 : decode cX8_skips 13 = .ok (.getfield 189, 3) := by decide +kernel
theorem dX8_skips_16 : decode cX8_skips 16 = .ok (.iconst 1, 1) := by decide +kernel
theorem dX8_skips_17 : decode cX8_skips 17 = .ok (.iadd, 1) := by decide +kernel
theorem dX8_skips_18 : decode cX8_skips 18 = .ok (.putfield 189, 3) := by decide +kernel
theorem dX8_skips_21 : decode cX8_skips 21 = .ok (.goto (-21), 3) := by decide +kernel
theorem dX8_skips_24 : decode cX8_skips 24 = .ok (.return_, 1) := by decide +kernel
theorem dX8_wordOf_0 : decode cX8_wordOf 0 = .ok (.iload_n 0, 1) := by decide +kernel
theorem dX8_wordOf_1 : decode cX8_wordOf 1 = .ok (.lookupswitch 71 #[(239, 63), (19636, 67), (343342, 59), (394885, 61), (578868, 69), (5969364, 65)], 59) := by decide +kernel
theorem dX8_wordOf_60 : decode cX8_wordOf 60 = .ok (.iconst 0, 1) := by decide +kernel
theorem dX8_wordOf_61 : decode cX8_wordOf 61 = .ok (.ireturn, 1) := by decide +kernel
theorem dX8_wordOf_62 : decode cX8_wordOf 62 = .ok (.iconst 1, 1) := by decide +kernel
theorem dX8_wordOf_63 : decode cX8_wordOf 63 = .ok (.ireturn, 1) := by decide +kernel
theorem dX8_wordOf_64 : decode cX8_wordOf 64 = .ok (.iconst 2, 1) := by decide +kernel
theorem dX8_wordOf_65 : decode cX8_wordOf 65 = .ok (.ireturn, 1) := by decide +kernel
theorem dX8_wordOf_66 : decode cX8_wordOf 66 = .ok (.iconst 3, 1) := by decide +kernel
theorem dX8_wordOf_67 : decode cX8_wordOf 67 = .ok (.ireturn, 1) := by decide +kernel
theorem dX8_wordOf_68 : decode cX8_wordOf 68 = .ok (.iconst 4, 1) := by decide +kernel
theorem dX8_wordOf_69 : decode cX8_wordOf 69 = .ok (.ireturn, 1) := by decide +kernel
theorem dX8_wordOf_70 : decode cX8_wordOf 70 = .ok (.iconst 5, 1) := by decide +kernel
theorem dX8_wordOf_71 : decode cX8_wordOf 71 = .ok (.ireturn, 1) := by decide +kernel
theorem dX8_wordOf_72 : decode cX8_wordOf 72 = .ok (.iload_n 0, 1) := by decide +kernel
theorem dX8_wordOf_73 : decode cX8_wordOf 73 = .ok (.ldc 196, 2) := by decide +kernel
theorem dX8_wordOf_75 : decode cX8_wordOf 75 = .ok (.if_icmp .ne 8, 3) := by decide +kernel
theorem dX8_wordOf_78 : decode cX8_wordOf 78 = .ok (.bipush 6, 2) := by decide +kernel
theorem dX8_wordOf_80 : decode cX8_wordOf 80 = .ok (.goto 4, 3) := by decide +kernel
theorem dX8_wordOf_83 : decode cX8_wordOf 83 = .ok (.iconst (-1), 1) := by decide +kernel
theorem dX8_wordOf_84 : decode cX8_wordOf 84 = .ok (.ireturn, 1) := by decide +kernel
theorem dX8_takesNumber_0 : decode cX8_takesNumber 0 = .ok (.aload_n 0, 1) := by decide +kernel
theorem dX8_takesNumber_1 : decode cX8_takesNumber 1 = .ok (.bipush 32, 2) := by decide +kernel
theorem dX8_takesNumber_3 : decode cX8_takesNumber 3 = .ok (.bipush 32, 2) := by decide +kernel
theorem dX8_takesNumber_5 : decode cX8_takesNumber 5 = .ok (.invokevirtual 192, 3) := by decide +kernel
theorem dX8_takesNumber_8 : decode cX8_takesNumber 8 = .ok (.ifCond .ne 5, 3) := by decide +kernel
theorem dX8_takesNumber_11 : decode cX8_takesNumber 11 = .ok (.iconst 0, 1) := by decide +kernel
theorem dX8_takesNumber_12 : decode cX8_takesNumber 12 = .ok (.ireturn, 1) := by decide +kernel
theorem dX8_takesNumber_13 : decode cX8_takesNumber 13 = .ok (.aload_n 0, 1) := by decide +kernel
theorem dX8_takesNumber_14 : decode cX8_takesNumber 14 = .ok (.invokevirtual 197, 3) := by decide +kernel
theorem dX8_takesNumber_17 : decode cX8_takesNumber 17 = .ok (.aload_n 0, 1) := by decide +kernel
theorem dX8_takesNumber_18 : decode cX8_takesNumber 18 = .ok (.getfield 189, 3) := by decide +kernel
theorem dX8_takesNumber_21 : decode cX8_takesNumber 21 = .ok (.istore_n 2, 1) := by decide +kernel
theorem dX8_takesNumber_22 : decode cX8_takesNumber 22 = .ok (.aload_n 0, 1) := by decide +kernel
theorem dX8_takesNumber_23 : decode cX8_takesNumber 23 = .ok (.getfield 25, 3) := by decide +kernel
theorem dX8_takesNumber_26 : decode cX8_takesNumber 26 = .ok (.iload_n 1, 1) := by decide +kernel
theorem dX8_takesNumber_27 : decode cX8_takesNumber 27 = .ok (.iconst 0, 1) := by decide +kernel
theorem dX8_takesNumber_28 : decode cX8_takesNumber 28 = .ok (.iastore, 1) := by decide +kernel
theorem dX8_takesNumber_29 : decode cX8_takesNumber 29 = .ok (.aload_n 0, 1) := by decide +kernel
theorem dX8_takesNumber_30 : decode cX8_takesNumber 30 = .ok (.bipush 48, 2) := by decide +kernel
theorem dX8_takesNumber_32 : decode cX8_takesNumber 32 = .ok (.bipush 57, 2) := by decide +kernel
theorem dX8_takesNumber_34 : decode cX8_takesNumber 34 = .ok (.invokevirtual 192, 3) := by decide +kernel
theorem dX8_takesNumber_37 : decode cX8_takesNumber 37 = .ok (.ifCond .eq 54, 3) := by decide +kernel
theorem dX8_takesNumber_40 : decode cX8_takesNumber 40 = .ok (.aload_n 0, 1) := by decide +kernel
theorem dX8_takesNumber_41 : decode cX8_takesNumber 41 = .ok (.getfield 189, 3) := by decide +kernel
theorem dX8_takesNumber_44 : decode cX8_takesNumber 44 = .ok (.iload_n 2, 1) := by decide +kernel
theorem dX8_takesNumber_45 : decode cX8_takesNumber 45 = .ok (.iconst 3, 1) := by decide +kernel
theorem dX8_takesNumber_46 : decode cX8_takesNumber 46 = .ok (.iadd, 1) := by decide +kernel
theorem dX8_takesNumber_47 : decode cX8_takesNumber 47 = .ok (.if_icmp .ge 44, 3) := by decide +kernel
theorem dX8_takesNumber_50 : decode cX8_takesNumber 50 = .ok (.aload_n 0, 1) := by decide +kernel
theorem dX8_takesNumber_51 : decode cX8_takesNumber 51 = .ok (.getfield 25, 3) := by decide +kernel
theorem dX8_takesNumber_54 : decode cX8_takesNumber 54 = .ok (.iload_n 1, 1) := by decide +kernel
theorem dX8_takesNumber_55 : decode cX8_takesNumber 55 = .ok (.bipush 10, 2) := by decide +kernel
theorem dX8_takesNumber_57 : decode cX8_takesNumber 57 = .ok (.aload_n 0, 1) := by decide +kernel
theorem dX8_takesNumber_58 : decode cX8_takesNumber 58 = .ok (.getfield 25, 3) := by decide +kernel
theorem dX8_takesNumber_61 : decode cX8_takesNumber 61 = .ok (.iload_n 1, 1) := by decide +kernel
theorem dX8_takesNumber_62 : decode cX8_takesNumber 62 = .ok (.iaload, 1) := by decide +kernel
theorem dX8_takesNumber_63 : decode cX8_takesNumber 63 = .ok (.imul, 1) := by decide +kernel
theorem dX8_takesNumber_64 : decode cX8_takesNumber 64 = .ok (.aload_n 0, 1) := by decide +kernel
theorem dX8_takesNumber_65 : decode cX8_takesNumber 65 = .ok (.getfield 22, 3) := by decide +kernel
theorem dX8_takesNumber_68 : decode cX8_takesNumber 68 = .ok (.aload_n 0, 1) := by decide +kernel
theorem dX8_takesNumber_69 : decode cX8_takesNumber 69 = .ok (.getfield 189, 3) := by decide +kernel
theorem dX8_takesNumber_72 : decode cX8_takesNumber 72 = .ok (.iaload, 1) := by decide +kernel
theorem dX8_takesNumber_73 : decode cX8_takesNumber 73 = .ok (.iadd, 1) := by decide +kernel
theorem dX8_takesNumber_74 : decode cX8_takesNumber 74 = .ok (.bipush 48, 2) := by decide +kernel
theorem dX8_takesNumber_76 : decode cX8_takesNumber 76 = .ok (.isub, 1) := by decide +kernel
theorem dX8_takesNumber_77 : decode cX8_takesNumber 77 = .ok (.iastore, 1) := by decide +kernel
theorem dX8_takesNumber_78 : decode cX8_takesNumber 78 = .ok (.aload_n 0, 1) := by decide +kernel
theorem dX8_takesNumber_79 : decode cX8_takesNumber 79 = .ok (.dup, 1) := by decide +kernel
theorem dX8_takesNumber_80 : decode cX8_takesNumber 80 = .ok (.getfield 189, 3) := by decide +kernel
theorem dX8_takesNumber_83 : decode cX8_takesNumber 83 = .ok (.iconst 1, 1) := by decide +kernel
theorem dX8_takesNumber_84 : decode cX8_takesNumber 84 = .ok (.iadd, 1) := by decide +kernel
theorem dX8_takesNumber_85 : decode cX8_takesNumber 85 = .ok (.putfield 189, 3) := by decide +kernel
theorem dX8_takesNumber_88 : decode cX8_takesNumber 88 = .ok (.goto (-59), 3) := by decide +kernel
theorem dX8_takesNumber_91 : decode cX8_takesNumber 91 = .ok (.aload_n 0, 1) := by decide +kernel
theorem dX8_takesNumber_92 : decode cX8_takesNumber 92 = .ok (.getfield 189, 3) := by decide +kernel
theorem dX8_takesNumber_95 : decode cX8_takesNumber 95 = .ok (.iload_n 2, 1) := by decide +kernel
theorem dX8_takesNumber_96 : decode cX8_takesNumber 96 = .ok (.if_icmp .le 18, 3) := by decide +kernel
theorem dX8_takesNumber_99 : decode cX8_takesNumber 99 = .ok (.aload_n 0, 1) := by decide +kernel
theorem dX8_takesNumber_100 : decode cX8_takesNumber 100 = .ok (.bipush 48, 2) := by decide +kernel
theorem dX8_takesNumber_102 : decode cX8_takesNumber 102 = .ok (.bipush 57, 2) := by decide +kernel
theorem dX8_takesNumber_104 : decode cX8_takesNumber 104 = .ok (.invokevirtual 192, 3) := by decide +kernel
theorem dX8_takesNumber_107 : decode cX8_takesNumber 107 = .ok (.ifCond .ne 7, 3) := by decide +kernel
theorem dX8_takesNumber_110 : decode cX8_takesNumber 110 = .ok (.iconst 1, 1) := by decide +kernel
theorem dX8_takesNumber_111 : decode cX8_takesNumber 111 = .ok (.goto 4, 3) := by decide +kernel
theorem dX8_takesNumber_114 : decode cX8_takesNumber 114 = .ok (.iconst 0, 1) := by decide +kernel
theorem dX8_takesNumber_115 : decode cX8_takesNumber 115 = .ok (.ireturn, 1) := by decide +kernel
theorem dX8_takesCommand_0 : decode cX8_takesCommand 0 = .ok (.aload_n 0, 1) := by decide +kernel
theorem dX8_takesCommand_1 : decode cX8_takesCommand 1 = .ok (.getfield 189, 3) := by decide +kernel
theorem dX8_takesCommand_4 : decode cX8_takesCommand 4 = .ok (.istore_n 1, 1) := by decide +kernel
theorem dX8_takesCommand_5 : decode cX8_takesCommand 5 = .ok (.iconst 0, 1) := by decide +kernel
theorem dX8_takesCommand_6 : decode cX8_takesCommand 6 = .ok (.istore_n 2, 1) := by decide +kernel
theorem dX8_takesCommand_7 : decode cX8_takesCommand 7 = .ok (.aload_n 0, 1) := by decide +kernel
theorem dX8_takesCommand_8 : decode cX8_takesCommand 8 = .ok (.bipush 97, 2) := by decide +kernel
theorem dX8_takesCommand_10 : decode cX8_takesCommand 10 = .ok (.bipush 122, 2) := by decide +kernel
theorem dX8_takesCommand_12 : decode cX8_takesCommand 12 = .ok (.invokevirtual 192, 3) := by decide +kernel
theorem dX8_takesCommand_15 : decode cX8_takesCommand 15 = .ok (.ifCond .eq 49, 3) := by decide +kernel
theorem dX8_takesCommand_18 : decode cX8_takesCommand 18 = .ok (.aload_n 0, 1) := by decide +kernel
theorem dX8_takesCommand_19 : decode cX8_takesCommand 19 = .ok (.getfield 189, 3) := by decide +kernel
theorem dX8_takesCommand_22 : decode cX8_takesCommand 22 = .ok (.iload_n 1, 1) := by decide +kernel
theorem dX8_takesCommand_23 : decode cX8_takesCommand 23 = .ok (.isub, 1) := by decide +kernel
theorem dX8_takesCommand_24 : decode cX8_takesCommand 24 = .ok (.bipush 6, 2) := by decide +kernel
theorem dX8_takesCommand_26 : decode cX8_takesCommand 26 = .ok (.if_icmp .ge 23, 3) := by decide +kernel
theorem dX8_takesCommand_29 : decode cX8_takesCommand 29 = .ok (.bipush 32, 2) := by decide +kernel
theorem dX8_takesCommand_31 : decode cX8_takesCommand 31 = .ok (.iload_n 2, 1) := by decide +kernel
theorem dX8_takesCommand_32 : decode cX8_takesCommand 32 = .ok (.imul, 1) := by decide +kernel
theorem dX8_takesCommand_33 : decode cX8_takesCommand 33 = .ok (.aload_n 0, 1) := by decide +kernel
theorem dX8_takesCommand_34 : decode cX8_takesCommand 34 = .ok (.getfield 22, 3) := by decide +kernel
theorem dX8_takesCommand_37 : decode cX8_takesCommand 37 = .ok (.aload_n 0, 1) := by decide +kernel
theorem dX8_takesCommand_38 : decode cX8_takesCommand 38 = .ok (.getfield 189, 3) := by decide +kernel
theorem dX8_takesCommand_41 : decode cX8_takesCommand 41 = .ok (.iaload, 1) := by decide +kernel
theorem dX8_takesCommand_42 : decode cX8_takesCommand 42 = .ok (.iadd, 1) := by decide +kernel
theorem dX8_takesCommand_43 : decode cX8_takesCommand 43 = .ok (.bipush 96, 2) := by decide +kernel
theorem dX8_takesCommand_45 : decode cX8_takesCommand 45 = .ok (.isub, 1) := by decide +kernel
theorem dX8_takesCommand_46 : decode cX8_takesCommand 46 = .ok (.goto 4, 3) := by decide +kernel
theorem dX8_takesCommand_49 : decode cX8_takesCommand 49 = .ok (.iconst 0, 1) := by decide +kernel
theorem dX8_takesCommand_50 : decode cX8_takesCommand 50 = .ok (.istore_n 2, 1) := by decide +kernel
theorem dX8_takesCommand_51 : decode cX8_takesCommand 51 = .ok (.aload_n 0, 1) := by decide +kernel
theorem dX8_takesCommand_52 : decode cX8_takesCommand 52 = .ok (.dup, 1) := by decide +kernel
theorem dX8_takesCommand_53 : decode cX8_takesCommand 53 = .ok (.getfield 189, 3) := by decide +kernel
theorem dX8_takesCommand_56 : decode cX8_takesCommand 56 = .ok (.iconst 1, 1) := by decide +kernel
theorem dX8_takesCommand_57 : decode cX8_takesCommand 57 = .ok (.iadd, 1) := by decide +kernel
theorem dX8_takesCommand_58 : decode cX8_takesCommand 58 = .ok (.putfield 189, 3) := by decide +kernel
theorem dX8_takesCommand_61 : decode cX8_takesCommand 61 = .ok (.goto (-54), 3) := by decide +kernel
theorem dX8_takesCommand_64 : decode cX8_takesCommand 64 = .ok (.aload_n 0, 1) := by decide +kernel
theorem dX8_takesCommand_65 : decode cX8_takesCommand 65 = .ok (.aload_n 0, 1) := by decide +kernel
theorem dX8_takesCommand_66 : decode cX8_takesCommand 66 = .ok (.getfield 189, 3) := by decide +kernel
theorem dX8_takesCommand_69 : decode cX8_takesCommand 69 = .ok (.iload_n 1, 1) := by decide +kernel
theorem dX8_takesCommand_70 : decode cX8_takesCommand 70 = .ok (.isub, 1) := by decide +kernel
theorem dX8_takesCommand_71 : decode cX8_takesCommand 71 = .ok (.iconst 5, 1) := by decide +kernel
theorem dX8_takesCommand_72 : decode cX8_takesCommand 72 = .ok (.if_icmp .le 7, 3) := by decide +kernel
theorem dX8_takesCommand_75 : decode cX8_takesCommand 75 = .ok (.iconst (-1), 1) := by decide +kernel
theorem dX8_takesCommand_76 : decode cX8_takesCommand 76 = .ok (.goto 7, 3) := by decide +kernel
theorem dX8_takesCommand_79 : decode cX8_takesCommand 79 = .ok (.iload_n 2, 1) := by decide +kernel
theorem dX8_takesCommand_80 : decode cX8_takesCommand 80 = .ok (.invokestatic 200, 3) := by decide +kernel
theorem dX8_takesCommand_83 : decode cX8_takesCommand 83 = .ok (.putfield 203, 3) := by decide +kernel
theorem dX8_takesCommand_86 : decode cX8_takesCommand 86 = .ok (.aload_n 0, 1) := by decide +kernel
theorem dX8_takesCommand_87 : decode cX8_takesCommand 87 = .ok (.getfield 203, 3) := by decide +kernel
theorem dX8_takesCommand_90 : decode cX8_takesCommand 90 = .ok (.iconst (-1), 1) := by decide +kernel
theorem dX8_takesCommand_91 : decode cX8_takesCommand 91 = .ok (.if_icmp .ne 10, 3) := by decide +kernel
theorem dX8_takesCommand_94 : decode cX8_takesCommand 94 = .ok (.aload_n 0, 1) := by decide +kernel
theorem dX8_takesCommand_95 : decode cX8_takesCommand 95 = .ok (.iload_n 1, 1) := by decide +kernel
theorem dX8_takesCommand_96 : decode cX8_takesCommand 96 = .ok (.putfield 189, 3) := by decide +kernel
theorem dX8_takesCommand_99 : decode cX8_takesCommand 99 = .ok (.iconst 0, 1) := by decide +kernel
theorem dX8_takesCommand_100 : decode cX8_takesCommand 100 = .ok (.ireturn, 1) := by decide +kernel
theorem dX8_takesCommand_101 : decode cX8_takesCommand 101 = .ok (.aload_n 0, 1) := by decide +kernel
theorem dX8_takesCommand_102 : decode cX8_takesCommand 102 = .ok (.getfield 203, 3) := by decide +kernel
theorem dX8_takesCommand_105 : decode cX8_takesCommand 105 = .ok (.iconst 2, 1) := by decide +kernel
theorem dX8_takesCommand_106 : decode cX8_takesCommand 106 = .ok (.if_icmp .ge 7, 3) := by decide +kernel
theorem dX8_takesCommand_109 : decode cX8_takesCommand 109 = .ok (.iconst 3, 1) := by decide +kernel
theorem dX8_takesCommand_110 : decode cX8_takesCommand 110 = .ok (.goto 16, 3) := by decide +kernel
theorem dX8_takesCommand_113 : decode cX8_takesCommand 113 = .ok (.aload_n 0, 1) := by decide +kernel
theorem dX8_takesCommand_114 : decode cX8_takesCommand 114 = .ok (.getfield 203, 3) := by decide +kernel
theorem dX8_takesCommand_117 : decode cX8_takesCommand 117 = .ok (.iconst 5, 1) := by decide +kernel
theorem dX8_takesCommand_118 : decode cX8_takesCommand 118 = .ok (.if_icmp .ge 7, 3) := by decide +kernel
theorem dX8_takesCommand_121 : decode cX8_takesCommand 121 = .ok (.iconst 2, 1) := by decide +kernel
theorem dX8_takesCommand_122 : decode cX8_takesCommand 122 = .ok (.goto 4, 3) := by decide +kernel
theorem dX8_takesCommand_125 : decode cX8_takesCommand 125 = .ok (.iconst 1, 1) := by decide +kernel
theorem dX8_takesCommand_126 : decode cX8_takesCommand 126 = .ok (.istore_n 3, 1) := by decide +kernel
theorem dX8_takesCommand_127 : decode cX8_takesCommand 127 = .ok (.iconst 0, 1) := by decide +kernel
theorem dX8_takesCommand_128 : decode cX8_takesCommand 128 = .ok (.istore 4, 2) := by decide +kernel
theorem dX8_takesCommand_130 : decode cX8_takesCommand 130 = .ok (.iload 4, 2) := by decide +kernel
theorem dX8_takesCommand_132 : decode cX8_takesCommand 132 = .ok (.iload_n 3, 1) := by decide +kernel
theorem dX8_takesCommand_133 : decode cX8_takesCommand 133 = .ok (.if_icmp .ge 20, 3) := by decide +kernel
theorem dX8_takesCommand_136 : decode cX8_takesCommand 136 = .ok (.aload_n 0, 1) := by decide +kernel
theorem dX8_takesCommand_137 : decode cX8_takesCommand 137 = .ok (.iload 4, 2) := by decide +kernel
theorem dX8_takesCommand_139 : decode cX8_takesCommand 139 = .ok (.invokevirtual 206, 3) := by decide +kernel
theorem dX8_takesCommand_142 : decode cX8_takesCommand 142 = .ok (.ifCond .ne 5, 3) := by decide +kernel
theorem dX8_takesCommand_145 : decode cX8_takesCommand 145 = .ok (.iconst 0, 1) := by decide +kernel
theorem dX8_takesCommand_146 : decode cX8_takesCommand 146 = .ok (.ireturn, 1) := by decide +kernel
theorem dX8_takesCommand_147 : decode cX8_takesCommand 147 = .ok (.iinc 4 1, 3) := by decide +kernel
theorem dX8_takesCommand_150 : decode cX8_takesCommand 150 = .ok (.goto (-20), 3) := by decide +kernel
theorem dX8_takesCommand_153 : decode cX8_takesCommand 153 = .ok (.aload_n 0, 1) := by decide +kernel
theorem dX8_takesCommand_154 : decode cX8_takesCommand 154 = .ok (.invokevirtual 197, 3) := by decide +kernel
theorem dX8_takesCommand_157 : decode cX8_takesCommand 157 = .ok (.aload_n 0, 1) := by decide +kernel
theorem dX8_takesCommand_158 : decode cX8_takesCommand 158 = .ok (.bipush 59, 2) := by decide +kernel
theorem dX8_takesCommand_160 : decode cX8_takesCommand 160 = .ok (.bipush 59, 2) := by decide +kernel
theorem dX8_takesCommand_162 : decode cX8_takesCommand 162 = .ok (.invokevirtual 192, 3) := by decide +kernel
theorem dX8_takesCommand_165 : decode cX8_takesCommand 165 = .ok (.ifCond .ne 5, 3) := by decide +kernel
theorem dX8_takesCommand_168 : decode cX8_takesCommand 168 = .ok (.iconst 0, 1) := by decide +kernel
theorem dX8_takesCommand_169 : decode cX8_takesCommand 169 = .ok (.ireturn, 1) := by decide +kernel
theorem dX8_takesCommand_170 : decode cX8_takesCommand 170 = .ok (.aload_n 0, 1) := by decide +kernel
theorem dX8_takesCommand_171 : decode cX8_takesCommand 171 = .ok (.dup, 1) := by decide +kernel
theorem dX8_takesCommand_172 : decode cX8_takesCommand 172 = .ok (.getfield 189, 3) := by decide +kernel
theorem dX8_takesCommand_175 : decode cX8_takesCommand 175 = .ok (.iconst 1, 1) := by decide +kernel
theorem dX8_takesCommand_176 : decode cX8_takesCommand 176 = .ok (.iadd, 1) := by decide +kernel
theorem dX8_takesCommand_177 : decode cX8_takesCommand 177 = .ok (.putfield 189, 3) := by decide +kernel
theorem dX8_takesCommand_180 : decode cX8_takesCommand 180 = .ok (.aload_n 0, 1) := by decide +kernel
theorem dX8_takesCommand_181 : decode cX8_takesCommand 181 = .ok (.invokevirtual 197, 3) := by decide +kernel
theorem dX8_takesCommand_184 : decode cX8_takesCommand 184 = .ok (.iconst 1, 1) := by decide +kernel
theorem dX8_takesCommand_185 : decode cX8_takesCommand 185 = .ok (.ireturn, 1) := by decide +kernel
theorem dX8_carriesOut_0 : decode cX8_carriesOut 0 = .ok (.aload_n 0, 1) := by decide +kernel
theorem dX8_carriesOut_1 : decode cX8_carriesOut 1 = .ok (.getfield 25, 3) := by decide +kernel
theorem dX8_carriesOut_4 : decode cX8_carriesOut 4 = .ok (.iconst 0, 1) := by decide +kernel
theorem dX8_carriesOut_5 : decode cX8_carriesOut 5 = .ok (.iaload, 1) := by decide +kernel
theorem dX8_carriesOut_6 : decode cX8_carriesOut 6 = .ok (.istore_n 1, 1) := by decide +kernel
theorem dX8_carriesOut_7 : decode cX8_carriesOut 7 = .ok (.aload_n 0, 1) := by decide +kernel
theorem dX8_carriesOut_8 : decode cX8_carriesOut 8 = .ok (.getfield 25, 3) := by decide +kernel
theorem dX8_carriesOut_11 : decode cX8_carriesOut 11 = .ok (.iconst 1, 1) := by decide +kernel
theorem dX8_carriesOut_12 : decode cX8_carriesOut 12 = .ok (.iaload, 1) := by decide +kernel
theorem dX8_carriesOut_13 : decode cX8_carriesOut 13 = .ok (.istore_n 2, 1) := by decide +kernel
theorem dX8_carriesOut_14 : decode cX8_carriesOut 14 = .ok (.aload_n 0, 1) := by decide +kernel
theorem dX8_carriesOut_15 : decode cX8_carriesOut 15 = .ok (.getfield 25, 3) := by decide +kernel
theorem dX8_carriesOut_18 : decode cX8_carriesOut 18 = .ok (.iconst 2, 1) := by decide +kernel
theorem dX8_carriesOut_19 : decode cX8_carriesOut 19 = .ok (.iaload, 1) := by decide +kernel
theorem dX8_carriesOut_20 : decode cX8_carriesOut 20 = .ok (.istore_n 3, 1) := by decide +kernel
theorem dX8_carriesOut_21 : decode cX8_carriesOut 21 = .ok (.aload_n 0, 1) := by decide +kernel
theorem dX8_carriesOut_22 : decode cX8_carriesOut 22 = .ok (.getfield 203, 3) := by decide +kernel
theorem dX8_carriesOut_25 : decode cX8_carriesOut 25 = .ok (.tableswitch 83 0 5 #[39, 47, 55, 62, 70, 77], 39) := by decide +kernel
theorem dX8_carriesOut_64 : decode cX8_carriesOut 64 = .ok (.aload_n 0, 1) := by decide +kernel
theorem dX8_carriesOut_65 : decode cX8_carriesOut 65 = .ok (.iload_n 1, 1) := by decide +kernel
theorem dX8_carriesOut_66 : decode cX8_carriesOut 66 = .ok (.iload_n 2, 1) := by decide +kernel
theorem dX8_carriesOut_67 : decode cX8_carriesOut 67 = .ok (.iload_n 3, 1) := by decide +kernel
theorem dX8_carriesOut_68 : decode cX8_carriesOut 68 = .ok (.invokevirtual 129, 3) := by decide +kernel
theorem dX8_carriesOut_71 : decode cX8_carriesOut 71 = .ok (.ireturn, 1) := by decide +kernel
theorem dX8_carriesOut_72 : decode cX8_carriesOut 72 = .ok (.aload_n 0, 1) := by decide +kernel
theorem dX8_carriesOut_73 : decode cX8_carriesOut 73 = .ok (.iload_n 1, 1) := by decide +kernel
theorem dX8_carriesOut_74 : decode cX8_carriesOut 74 = .ok (.iload_n 2, 1) := by decide +kernel
theorem dX8_carriesOut_75 : decode cX8_carriesOut 75 = .ok (.iload_n 3, 1) := by decide +kernel
theorem dX8_carriesOut_76 : decode cX8_carriesOut 76 = .ok (.invokevirtual 144, 3) := by decide +kernel
theorem dX8_carriesOut_79 : decode cX8_carriesOut 79 = .ok (.ireturn, 1) := by decide +kernel
theorem dX8_carriesOut_80 : decode cX8_carriesOut 80 = .ok (.aload_n 0, 1) := by decide +kernel
theorem dX8_carriesOut_81 : decode cX8_carriesOut 81 = .ok (.iload_n 1, 1) := by decide +kernel
theorem dX8_carriesOut_82 : decode cX8_carriesOut 82 = .ok (.iload_n 2, 1) := by decide +kernel
theorem dX8_carriesOut_83 : decode cX8_carriesOut 83 = .ok (.invokevirtual 135, 3) := by decide +kernel
theorem dX8_carriesOut_86 : decode cX8_carriesOut 86 = .ok (.ireturn, 1) := by decide +kernel
theorem dX8_carriesOut_87 : decode cX8_carriesOut 87 = .ok (.aload_n 0, 1) := by decide +kernel
theorem dX8_carriesOut_88 : decode cX8_carriesOut 88 = .ok (.iload_n 1, 1) := by decide +kernel
theorem dX8_carriesOut_89 : decode cX8_carriesOut 89 = .ok (.iload_n 2, 1) := by decide +kernel
theorem dX8_carriesOut_90 : decode cX8_carriesOut 90 = .ok (.iconst 0, 1) := by decide +kernel
theorem dX8_carriesOut_91 : decode cX8_carriesOut 91 = .ok (.invokevirtual 144, 3) := by decide +kernel
theorem dX8_carriesOut_94 : decode cX8_carriesOut 94 = .ok (.ireturn, 1) := by decide +kernel
theorem dX8_carriesOut_95 : decode cX8_carriesOut 95 = .ok (.aload_n 0, 1) := by decide +kernel
theorem dX8_carriesOut_96 : decode cX8_carriesOut 96 = .ok (.iload_n 1, 1) := by decide +kernel
theorem dX8_carriesOut_97 : decode cX8_carriesOut 97 = .ok (.iload_n 2, 1) := by decide +kernel
theorem dX8_carriesOut_98 : decode cX8_carriesOut 98 = .ok (.invokevirtual 141, 3) := by decide +kernel
theorem dX8_carriesOut_101 : decode cX8_carriesOut 101 = .ok (.ireturn, 1) := by decide +kernel
theorem dX8_carriesOut_102 : decode cX8_carriesOut 102 = .ok (.aload_n 0, 1) := by decide +kernel
theorem dX8_carriesOut_103 : decode cX8_carriesOut 103 = .ok (.iload_n 1, 1) := by decide +kernel
theorem dX8_carriesOut_104 : decode cX8_carriesOut 104 = .ok (.invokevirtual 138, 3) := by decide +kernel
theorem dX8_carriesOut_107 : decode cX8_carriesOut 107 = .ok (.ireturn, 1) := by decide +kernel
theorem dX8_carriesOut_108 : decode cX8_carriesOut 108 = .ok (.aload_n 0, 1) := by decide +kernel
theorem dX8_carriesOut_109 : decode cX8_carriesOut 109 = .ok (.iload_n 1, 1) := by decide +kernel
theorem dX8_carriesOut_110 : decode cX8_carriesOut 110 = .ok (.invokevirtual 147, 3) := by decide +kernel
theorem dX8_carriesOut_113 : decode cX8_carriesOut 113 = .ok (.ireturn, 1) := by decide +kernel
theorem dX8_runCommands_0 : decode cX8_runCommands 0 = .ok (.aload_n 0, 1) := by decide +kernel
theorem dX8_runCommands_1 : decode cX8_runCommands 1 = .ok (.iconst 0, 1) := by decide +kernel
theorem dX8_runCommands_2 : decode cX8_runCommands 2 = .ok (.putfield 189, 3) := by decide +kernel
theorem dX8_runCommands_5 : decode cX8_runCommands 5 = .ok (.aload_n 0, 1) := by decide +kernel
theorem dX8_runCommands_6 : decode cX8_runCommands 6 = .ok (.invokevirtual 197, 3) := by decide +kernel
theorem dX8_runCommands_9 : decode cX8_runCommands 9 = .ok (.aload_n 0, 1) := by decide +kernel
theorem dX8_runCommands_10 : decode cX8_runCommands 10 = .ok (.getfield 189, 3) := by decide +kernel
theorem dX8_runCommands_13 : decode cX8_runCommands 13 = .ok (.aload_n 0, 1) := by decide +kernel
theorem dX8_runCommands_14 : decode cX8_runCommands 14 = .ok (.getfield 171, 3) := by decide +kernel
theorem dX8_runCommands_17 : decode cX8_runCommands 17 = .ok (.if_icmp .ge 22, 3) := by decide +kernel
theorem dX8_runCommands_20 : decode cX8_runCommands 20 = .ok (.aload_n 0, 1) := by decide +kernel
theorem dX8_runCommands_21 : decode cX8_runCommands 21 = .ok (.invokevirtual 209, 3) := by decide +kernel
theorem dX8_runCommands_24 : decode cX8_runCommands 24 = .ok (.ifCond .ne (-15), 3) := by decide +kernel
theorem dX8_runCommands_27 : decode cX8_runCommands 27 = .ok (.aload_n 0, 1) := by decide +kernel
theorem dX8_runCommands_28 : decode cX8_runCommands 28 = .ok (.bipush (-10), 2) := by decide +kernel
theorem dX8_runCommands_30 : decode cX8_runCommands 30 = .ok (.aload_n 0, 1) := by decide +kernel
theorem dX8_runCommands_31 : decode cX8_runCommands 31 = .ok (.getfield 189, 3) := by decide +kernel
theorem dX8_runCommands_34 : decode cX8_runCommands 34 = .ok (.isub, 1) := by decide +kernel
theorem dX8_runCommands_35 : decode cX8_runCommands 35 = .ok (.invokevirtual 45, 3) := by decide +kernel
theorem dX8_runCommands_38 : decode cX8_runCommands 38 = .ok (.ireturn, 1) := by decide +kernel
theorem dX8_runCommands_39 : decode cX8_runCommands 39 = .ok (.aload_n 0, 1) := by decide +kernel
theorem dX8_runCommands_40 : decode cX8_runCommands 40 = .ok (.invokevirtual 126, 3) := by decide +kernel
theorem dX8_runCommands_43 : decode cX8_runCommands 43 = .ok (.aload_n 0, 1) := by decide +kernel
theorem dX8_runCommands_44 : decode cX8_runCommands 44 = .ok (.iconst 0, 1) := by decide +kernel
theorem dX8_runCommands_45 : decode cX8_runCommands 45 = .ok (.putfield 189, 3) := by decide +kernel
theorem dX8_runCommands_48 : decode cX8_runCommands 48 = .ok (.aload_n 0, 1) := by decide +kernel
theorem dX8_runCommands_49 : decode cX8_runCommands 49 = .ok (.invokevirtual 197, 3) := by decide +kernel
theorem dX8_runCommands_52 : decode cX8_runCommands 52 = .ok (.iconst 0, 1) := by decide +kernel
theorem dX8_runCommands_53 : decode cX8_runCommands 53 = .ok (.istore_n 1, 1) := by decide +kernel
theorem dX8_runCommands_54 : decode cX8_runCommands 54 = .ok (.iconst 1, 1) := by decide +kernel
theorem dX8_runCommands_55 : decode cX8_runCommands 55 = .ok (.istore_n 2, 1) := by decide +kernel
theorem dX8_runCommands_56 : decode cX8_runCommands 56 = .ok (.iload_n 2, 1) := by decide +kernel
theorem dX8_runCommands_57 : decode cX8_runCommands 57 = .ok (.ifCond .eq 49, 3) := by decide +kernel
theorem dX8_runCommands_60 : decode cX8_runCommands 60 = .ok (.aload_n 0, 1) := by decide +kernel
theorem dX8_runCommands_61 : decode cX8_runCommands 61 = .ok (.getfield 189, 3) := by decide +kernel
theorem dX8_runCommands_64 : decode cX8_runCommands 64 = .ok (.aload_n 0, 1) := by decide +kernel
theorem dX8_runCommands_65 : decode cX8_runCommands 65 = .ok (.getfield 171, 3) := by decide +kernel
theorem dX8_runCommands_68 : decode cX8_runCommands 68 = .ok (.if_icmp .ge 38, 3) := by decide +kernel
theorem dX8_runCommands_71 : decode cX8_runCommands 71 = .ok (.aload_n 0, 1) := by decide +kernel
theorem dX8_runCommands_72 : decode cX8_runCommands 72 = .ok (.invokevirtual 209, 3) := by decide +kernel
theorem dX8_runCommands_75 : decode cX8_runCommands 75 = .ok (.ifCond .eq 14, 3) := by decide +kernel
theorem dX8_runCommands_78 : decode cX8_runCommands 78 = .ok (.aload_n 0, 1) := by decide +kernel
theorem dX8_runCommands_79 : decode cX8_runCommands 79 = .ok (.invokevirtual 213, 3) := by decide +kernel
theorem dX8_runCommands_82 : decode cX8_runCommands 82 = .ok (.ifCond .ne 7, 3) := by decide +kernel
theorem dX8_runCommands_85 : decode cX8_runCommands 85 = .ok (.iconst 1, 1) := by decide +kernel
theorem dX8_runCommands_86 : decode cX8_runCommands 86 = .ok (.goto 4, 3) := by decide +kernel
theorem dX8_runCommands_89 : decode cX8_runCommands 89 = .ok (.iconst 0, 1) := by decide +kernel
theorem dX8_runCommands_90 : decode cX8_runCommands 90 = .ok (.istore_n 2, 1) := by decide +kernel
theorem dX8_runCommands_91 : decode cX8_runCommands 91 = .ok (.iload_n 1, 1) := by decide +kernel
theorem dX8_runCommands_92 : decode cX8_runCommands 92 = .ok (.iload_n 2, 1) := by decide +kernel
theorem dX8_runCommands_93 : decode cX8_runCommands 93 = .ok (.ifCond .eq 7, 3) := by decide +kernel
theorem dX8_runCommands_96 : decode cX8_runCommands 96 = .ok (.iconst 1, 1) := by decide +kernel
theorem dX8_runCommands_97 : decode cX8_runCommands 97 = .ok (.goto 4, 3) := by decide +kernel
theorem dX8_runCommands_100 : decode cX8_runCommands 100 = .ok (.iconst 0, 1) := by decide +kernel
theorem dX8_runCommands_101 : decode cX8_runCommands 101 = .ok (.iadd, 1) := by decide +kernel
theorem dX8_runCommands_102 : decode cX8_runCommands 102 = .ok (.istore_n 1, 1) := by decide +kernel
theorem dX8_runCommands_103 : decode cX8_runCommands 103 = .ok (.goto (-47), 3) := by decide +kernel
theorem dX8_runCommands_106 : decode cX8_runCommands 106 = .ok (.aload_n 0, 1) := by decide +kernel
theorem dX8_runCommands_107 : decode cX8_runCommands 107 = .ok (.iload_n 1, 1) := by decide +kernel
theorem dX8_runCommands_108 : decode cX8_runCommands 108 = .ok (.iconst 0, 1) := by decide +kernel
theorem dX8_runCommands_109 : decode cX8_runCommands 109 = .ok (.invokevirtual 132, 3) := by decide +kernel
theorem dX8_runCommands_112 : decode cX8_runCommands 112 = .ok (.ireturn, 1) := by decide +kernel
theorem dX8_undo_0 : decode cX8_undo 0 = .ok (.aload_n 0, 1) := by decide +kernel
theorem dX8_undo_1 : decode cX8_undo 1 = .ok (.getfield 32, 3) := by decide +kernel
theorem dX8_undo_4 : decode cX8_undo 4 = .ok (.ifCond .ne 9, 3) := by decide +kernel
theorem dX8_undo_7 : decode cX8_undo 7 = .ok (.aload_n 0, 1) := by decide +kernel
theorem dX8_undo_8 : decode cX8_undo 8 = .ok (.iconst 1, 1) := by decide +kernel
theorem dX8_undo_9 : decode cX8_undo 9 = .ok (.invokevirtual 38, 3) := by decide +kernel
theorem dX8_undo_12 : decode cX8_undo 12 = .ok (.ireturn, 1) := by decide +kernel
theorem dX8_undo_13 : decode cX8_undo 13 = .ok (.aload_n 0, 1) := by decide +kernel
theorem dX8_undo_14 : decode cX8_undo 14 = .ok (.dup, 1) := by decide +kernel
theorem dX8_undo_15 : decode cX8_undo 15 = .ok (.getfield 32, 3) := by decide +kernel
theorem dX8_undo_18 : decode cX8_undo 18 = .ok (.iconst 1, 1) := by decide +kernel
theorem dX8_undo_19 : decode cX8_undo 19 = .ok (.isub, 1) := by decide +kernel
theorem dX8_undo_20 : decode cX8_undo 20 = .ok (.putfield 32, 3) := by decide +kernel
theorem dX8_undo_23 : decode cX8_undo 23 = .ok (.iconst 0, 1) := by decide +kernel
theorem dX8_undo_24 : decode cX8_undo 24 = .ok (.istore_n 1, 1) := by decide +kernel
theorem dX8_undo_25 : decode cX8_undo 25 = .ok (.iload_n 1, 1) := by decide +kernel
theorem dX8_undo_26 : decode cX8_undo 26 = .ok (.sipush 816, 3) := by decide +kernel
theorem dX8_undo_29 : decode cX8_undo 29 = .ok (.if_icmp .ge 30, 3) := by decide +kernel
theorem dX8_undo_32 : decode cX8_undo 32 = .ok (.aload_n 0, 1) := by decide +kernel
theorem dX8_undo_33 : decode cX8_undo 33 = .ok (.getfield 7, 3) := by decide +kernel
theorem dX8_undo_36 : decode cX8_undo 36 = .ok (.iload_n 1, 1) := by decide +kernel
theorem dX8_undo_37 : decode cX8_undo 37 = .ok (.aload_n 0, 1) := by decide +kernel
theorem dX8_undo_38 : decode cX8_undo 38 = .ok (.getfield 13, 3) := by decide +kernel
theorem dX8_undo_41 : decode cX8_undo 41 = .ok (.sipush 816, 3) := by decide +kernel
theorem dX8_undo_44 : decode cX8_undo 44 = .ok (.aload_n 0, 1) := by decide +kernel
theorem dX8_undo_45 : decode cX8_undo 45 = .ok (.getfield 32, 3) := by decide +kernel
theorem dX8_undo_48 : decode cX8_undo 48 = .ok (.imul, 1) := by decide +kernel
theorem dX8_undo_49 : decode cX8_undo 49 = .ok (.iload_n 1, 1) := by decide +kernel
theorem dX8_undo_50 : decode cX8_undo 50 = .ok (.iadd, 1) := by decide +kernel
theorem dX8_undo_51 : decode cX8_undo 51 = .ok (.iaload, 1) := by decide +kernel
theorem dX8_undo_52 : decode cX8_undo 52 = .ok (.iastore, 1) := by decide +kernel
theorem dX8_undo_53 : decode cX8_undo 53 = .ok (.iinc 1 1, 3) := by decide +kernel
theorem dX8_undo_56 : decode cX8_undo 56 = .ok (.goto (-31), 3) := by decide +kernel
theorem dX8_undo_59 : decode cX8_undo 59 = .ok (.aload_n 0, 1) := by decide +kernel
theorem dX8_undo_60 : decode cX8_undo 60 = .ok (.aload_n 0, 1) := by decide +kernel
theorem dX8_undo_61 : decode cX8_undo 61 = .ok (.getfield 32, 3) := by decide +kernel
theorem dX8_undo_64 : decode cX8_undo 64 = .ok (.invokevirtual 45, 3) := by decide +kernel
theorem dX8_undo_67 : decode cX8_undo 67 = .ok (.ireturn, 1) := by decide +kernel
theorem dX8_mix_0 : decode cX8_mix 0 = .ok (.aload_n 0, 1) := by decide +kernel
theorem dX8_mix_1 : decode cX8_mix 1 = .ok (.ldc2_w 216, 3) := by decide +kernel
theorem dX8_mix_4 : decode cX8_mix 4 = .ok (.aload_n 0, 1) := by decide +kernel
theorem dX8_mix_5 : decode cX8_mix 5 = .ok (.getfield 218, 3) := by decide +kernel
theorem dX8_mix_8 : decode cX8_mix 8 = .ok (.lmul, 1) := by decide +kernel
theorem dX8_mix_9 : decode cX8_mix 9 = .ok (.iload_n 1, 1) := by decide +kernel
theorem dX8_mix_10 : decode cX8_mix 10 = .ok (.i2l, 1) := by decide +kernel
theorem dX8_mix_11 : decode cX8_mix 11 = .ok (.ladd, 1) := by decide +kernel
theorem dX8_mix_12 : decode cX8_mix 12 = .ok (.putfield 218, 3) := by decide +kernel
theorem dX8_mix_15 : decode cX8_mix 15 = .ok (.return_, 1) := by decide +kernel
theorem dX8_mixOne_0 : decode cX8_mixOne 0 = .ok (.iconst 0, 1) := by decide +kernel
theorem dX8_mixOne_1 : decode cX8_mixOne 1 = .ok (.istore_n 2, 1) := by decide +kernel
theorem dX8_mixOne_2 : decode cX8_mixOne 2 = .ok (.iload_n 2, 1) := by decide +kernel
theorem dX8_mixOne_3 : decode cX8_mixOne 3 = .ok (.bipush 12, 2) := by decide +kernel
theorem dX8_mixOne_5 : decode cX8_mixOne 5 = .ok (.if_icmp .ge 19, 3) := by decide +kernel
theorem dX8_mixOne_8 : decode cX8_mixOne 8 = .ok (.aload_n 0, 1) := by decide +kernel
theorem dX8_mixOne_9 : decode cX8_mixOne 9 = .ok (.aload_n 0, 1) := by decide +kernel
theorem dX8_mixOne_10 : decode cX8_mixOne 10 = .ok (.iload_n 1, 1) := by decide +kernel
theorem dX8_mixOne_11 : decode cX8_mixOne 11 = .ok (.iload_n 2, 1) := by decide +kernel
theorem dX8_mixOne_12 : decode cX8_mixOne 12 = .ok (.invokevirtual 156, 3) := by decide +kernel
theorem dX8_mixOne_15 : decode cX8_mixOne 15 = .ok (.invokevirtual 222, 3) := by decide +kernel
theorem dX8_mixOne_18 : decode cX8_mixOne 18 = .ok (.iinc 2 1, 3) := by decide +kernel
theorem dX8_mixOne_21 : decode cX8_mixOne 21 = .ok (.goto (-19), 3) := by decide +kernel
theorem dX8_mixOne_24 : decode cX8_mixOne 24 = .ok (.aload_n 0, 1) := by decide +kernel
theorem dX8_mixOne_25 : decode cX8_mixOne 25 = .ok (.iload_n 1, 1) := by decide +kernel
theorem dX8_mixOne_26 : decode cX8_mixOne 26 = .ok (.bipush 11, 2) := by decide +kernel
theorem dX8_mixOne_28 : decode cX8_mixOne 28 = .ok (.invokevirtual 56, 3) := by decide +kernel
theorem dX8_mixOne_31 : decode cX8_mixOne 31 = .ok (.iconst 1, 1) := by decide +kernel
theorem dX8_mixOne_32 : decode cX8_mixOne 32 = .ok (.isub, 1) := by decide +kernel
theorem dX8_mixOne_33 : decode cX8_mixOne 33 = .ok (.istore_n 2, 1) := by decide +kernel
theorem dX8_mixOne_34 : decode cX8_mixOne 34 = .ok (.iload_n 2, 1) := by decide +kernel
theorem dX8_mixOne_35 : decode cX8_mixOne 35 = .ok (.ifCond .lt 42, 3) := by decide +kernel
theorem dX8_mixOne_38 : decode cX8_mixOne 38 = .ok (.aload_n 0, 1) := by decide +kernel
theorem dX8_mixOne_39 : decode cX8_mixOne 39 = .ok (.aload_n 0, 1) := by decide +kernel
theorem dX8_mixOne_40 : decode cX8_mixOne 40 = .ok (.iload_n 1, 1) := by decide +kernel
theorem dX8_mixOne_41 : decode cX8_mixOne 41 = .ok (.iload_n 2, 1) := by decide +kernel
theorem dX8_mixOne_42 : decode cX8_mixOne 42 = .ok (.iconst 0, 1) := by decide +kernel
theorem dX8_mixOne_43 : decode cX8_mixOne 43 = .ok (.invokevirtual 66, 3) := by decide +kernel
theorem dX8_mixOne_46 : decode cX8_mixOne 46 = .ok (.invokevirtual 222, 3) := by decide +kernel
theorem dX8_mixOne_49 : decode cX8_mixOne 49 = .ok (.aload_n 0, 1) := by decide +kernel
theorem dX8_mixOne_50 : decode cX8_mixOne 50 = .ok (.aload_n 0, 1) := by decide +kernel
theorem dX8_mixOne_51 : decode cX8_mixOne 51 = .ok (.iload_n 1, 1) := by decide +kernel
theorem dX8_mixOne_52 : decode cX8_mixOne 52 = .ok (.iload_n 2, 1) := by decide +kernel
theorem dX8_mixOne_53 : decode cX8_mixOne 53 = .ok (.iconst 1, 1) := by decide +kernel
theorem dX8_mixOne_54 : decode cX8_mixOne 54 = .ok (.invokevirtual 66, 3) := by decide +kernel
theorem dX8_mixOne_57 : decode cX8_mixOne 57 = .ok (.invokevirtual 222, 3) := by decide +kernel
theorem dX8_mixOne_60 : decode cX8_mixOne 60 = .ok (.aload_n 0, 1) := by decide +kernel
theorem dX8_mixOne_61 : decode cX8_mixOne 61 = .ok (.aload_n 0, 1) := by decide +kernel
theorem dX8_mixOne_62 : decode cX8_mixOne 62 = .ok (.iload_n 1, 1) := by decide +kernel
theorem dX8_mixOne_63 : decode cX8_mixOne 63 = .ok (.iload_n 2, 1) := by decide +kernel
theorem dX8_mixOne_64 : decode cX8_mixOne 64 = .ok (.iconst 2, 1) := by decide +kernel
theorem dX8_mixOne_65 : decode cX8_mixOne 65 = .ok (.invokevirtual 66, 3) := by decide +kernel
theorem dX8_mixOne_68 : decode cX8_mixOne 68 = .ok (.invokevirtual 222, 3) := by decide +kernel
theorem dX8_mixOne_71 : decode cX8_mixOne 71 = .ok (.iinc 2 (-1), 3) := by decide +kernel
theorem dX8_mixOne_74 : decode cX8_mixOne 74 = .ok (.goto (-40), 3) := by decide +kernel
theorem dX8_mixOne_77 : decode cX8_mixOne 77 = .ok (.iconst 0, 1) := by decide +kernel
theorem dX8_mixOne_78 : decode cX8_mixOne 78 = .ok (.istore_n 2, 1) := by decide +kernel
theorem dX8_mixOne_79 : decode cX8_mixOne 79 = .ok (.iload_n 2, 1) := by decide +kernel
theorem dX8_mixOne_80 : decode cX8_mixOne 80 = .ok (.aload_n 0, 1) := by decide +kernel
theorem dX8_mixOne_81 : decode cX8_mixOne 81 = .ok (.iload_n 1, 1) := by decide +kernel
theorem dX8_mixOne_82 : decode cX8_mixOne 82 = .ok (.bipush 6, 2) := by decide +kernel
theorem dX8_mixOne_84 : decode cX8_mixOne 84 = .ok (.invokevirtual 56, 3) := by decide +kernel
theorem dX8_mixOne_87 : decode cX8_mixOne 87 = .ok (.if_icmp .ge 22, 3) := by decide +kernel
theorem dX8_mixOne_90 : decode cX8_mixOne 90 = .ok (.aload_n 0, 1) := by decide +kernel
theorem dX8_mixOne_91 : decode cX8_mixOne 91 = .ok (.aload_n 0, 1) := by decide +kernel
theorem dX8_mixOne_92 : decode cX8_mixOne 92 = .ok (.iload_n 1, 1) := by decide +kernel
theorem dX8_mixOne_93 : decode cX8_mixOne 93 = .ok (.bipush 12, 2) := by decide +kernel
theorem dX8_mixOne_95 : decode cX8_mixOne 95 = .ok (.iload_n 2, 1) := by decide +kernel
theorem dX8_mixOne_96 : decode cX8_mixOne 96 = .ok (.iadd, 1) := by decide +kernel
theorem dX8_mixOne_97 : decode cX8_mixOne 97 = .ok (.invokevirtual 56, 3) := by decide +kernel
theorem dX8_mixOne_100 : decode cX8_mixOne 100 = .ok (.invokevirtual 222, 3) := by decide +kernel
theorem dX8_mixOne_103 : decode cX8_mixOne 103 = .ok (.iinc 2 1, 3) := by decide +kernel
theorem dX8_mixOne_106 : decode cX8_mixOne 106 = .ok (.goto (-27), 3) := by decide +kernel
theorem dX8_mixOne_109 : decode cX8_mixOne 109 = .ok (.aload_n 0, 1) := by decide +kernel
theorem dX8_mixOne_110 : decode cX8_mixOne 110 = .ok (.aload_n 0, 1) := by decide +kernel
theorem dX8_mixOne_111 : decode cX8_mixOne 111 = .ok (.iload_n 1, 1) := by decide +kernel
theorem dX8_mixOne_112 : decode cX8_mixOne 112 = .ok (.invokevirtual 180, 3) := by decide +kernel
theorem dX8_mixOne_115 : decode cX8_mixOne 115 = .ok (.invokevirtual 222, 3) := by decide +kernel
theorem dX8_mixOne_118 : decode cX8_mixOne 118 = .ok (.aload_n 0, 1) := by decide +kernel
theorem dX8_mixOne_119 : decode cX8_mixOne 119 = .ok (.aload_n 0, 1) := by decide +kernel
theorem dX8_mixOne_120 : decode cX8_mixOne 120 = .ok (.iload_n 1, 1) := by decide +kernel
theorem dX8_mixOne_121 : decode cX8_mixOne 121 = .ok (.invokevirtual 183, 3) := by decide +kernel
theorem dX8_mixOne_124 : decode cX8_mixOne 124 = .ok (.invokevirtual 222, 3) := by decide +kernel
theorem dX8_mixOne_127 : decode cX8_mixOne 127 = .ok (.return_, 1) := by decide +kernel
theorem dX8_digest_0 : decode cX8_digest 0 = .ok (.aload_n 0, 1) := by decide +kernel
theorem dX8_digest_1 : decode cX8_digest 1 = .ok (.iconst 0, 1) := by decide +kernel
theorem dX8_digest_2 : decode cX8_digest 2 = .ok (.putfield 28, 3) := by decide +kernel
theorem dX8_digest_5 : decode cX8_digest 5 = .ok (.aload_n 0, 1) := by decide +kernel
theorem dX8_digest_6 : decode cX8_digest 6 = .ok (.ldc2_w 225, 3) := by decide +kernel
theorem dX8_digest_9 : decode cX8_digest 9 = .ok (.putfield 218, 3) := by decide +kernel
theorem dX8_digest_12 : decode cX8_digest 12 = .ok (.aload_n 0, 1) := by decide +kernel
theorem dX8_digest_13 : decode cX8_digest 13 = .ok (.aload_n 0, 1) := by decide +kernel
theorem dX8_digest_14 : decode cX8_digest 14 = .ok (.getfield 32, 3) := by decide +kernel
theorem dX8_digest_17 : decode cX8_digest 17 = .ok (.invokevirtual 222, 3) := by decide +kernel
theorem dX8_digest_20 : decode cX8_digest 20 = .ok (.iconst 0, 1) := by decide +kernel
theorem dX8_digest_21 : decode cX8_digest 21 = .ok (.istore_n 1, 1) := by decide +kernel
theorem dX8_digest_22 : decode cX8_digest 22 = .ok (.iload_n 1, 1) := by decide +kernel
theorem dX8_digest_23 : decode cX8_digest 23 = .ok (.bipush 14, 2) := by decide +kernel
theorem dX8_digest_25 : decode cX8_digest 25 = .ok (.if_icmp .ge 18, 3) := by decide +kernel
theorem dX8_digest_28 : decode cX8_digest 28 = .ok (.aload_n 0, 1) := by decide +kernel
theorem dX8_digest_29 : decode cX8_digest 29 = .ok (.aload_n 0, 1) := by decide +kernel
theorem dX8_digest_30 : decode cX8_digest 30 = .ok (.iload_n 1, 1) := by decide +kernel
theorem dX8_digest_31 : decode cX8_digest 31 = .ok (.invokevirtual 174, 3) := by decide +kernel
theorem dX8_digest_34 : decode cX8_digest 34 = .ok (.invokevirtual 222, 3) := by decide +kernel
theorem dX8_digest_37 : decode cX8_digest 37 = .ok (.iinc 1 1, 3) := by decide +kernel
theorem dX8_digest_40 : decode cX8_digest 40 = .ok (.goto (-18), 3) := by decide +kernel
theorem dX8_digest_43 : decode cX8_digest 43 = .ok (.iconst 0, 1) := by decide +kernel
theorem dX8_digest_44 : decode cX8_digest 44 = .ok (.istore_n 1, 1) := by decide +kernel
theorem dX8_digest_45 : decode cX8_digest 45 = .ok (.iload_n 1, 1) := by decide +kernel
theorem dX8_digest_46 : decode cX8_digest 46 = .ok (.aload_n 0, 1) := by decide +kernel
theorem dX8_digest_47 : decode cX8_digest 47 = .ok (.getfield 7, 3) := by decide +kernel
theorem dX8_digest_50 : decode cX8_digest 50 = .ok (.iconst 1, 1) := by decide +kernel
theorem dX8_digest_51 : decode cX8_digest 51 = .ok (.iaload, 1) := by decide +kernel
theorem dX8_digest_52 : decode cX8_digest 52 = .ok (.if_icmp .ge 14, 3) := by decide +kernel
theorem dX8_digest_55 : decode cX8_digest 55 = .ok (.aload_n 0, 1) := by decide +kernel
theorem dX8_digest_56 : decode cX8_digest 56 = .ok (.iload_n 1, 1) := by decide +kernel
theorem dX8_digest_57 : decode cX8_digest 57 = .ok (.invokevirtual 227, 3) := by decide +kernel
theorem dX8_digest_60 : decode cX8_digest 60 = .ok (.iinc 1 1, 3) := by decide +kernel
theorem dX8_digest_63 : decode cX8_digest 63 = .ok (.goto (-18), 3) := by decide +kernel
theorem dX8_digest_66 : decode cX8_digest 66 = .ok (.iconst 0, 1) := by decide +kernel
theorem dX8_digest_67 : decode cX8_digest 67 = .ok (.istore_n 1, 1) := by decide +kernel
theorem dX8_digest_68 : decode cX8_digest 68 = .ok (.iload_n 1, 1) := by decide +kernel
theorem dX8_digest_69 : decode cX8_digest 69 = .ok (.bipush 7, 2) := by decide +kernel
theorem dX8_digest_71 : decode cX8_digest 71 = .ok (.aload_n 0, 1) := by decide +kernel
theorem dX8_digest_72 : decode cX8_digest 72 = .ok (.getfield 7, 3) := by decide +kernel
theorem dX8_digest_75 : decode cX8_digest 75 = .ok (.iconst 2, 1) := by decide +kernel
theorem dX8_digest_76 : decode cX8_digest 76 = .ok (.iaload, 1) := by decide +kernel
theorem dX8_digest_77 : decode cX8_digest 77 = .ok (.imul, 1) := by decide +kernel
theorem dX8_digest_78 : decode cX8_digest 78 = .ok (.if_icmp .ge 25, 3) := by decide +kernel
theorem dX8_digest_81 : decode cX8_digest 81 = .ok (.aload_n 0, 1) := by decide +kernel
theorem dX8_digest_82 : decode cX8_digest 82 = .ok (.aload_n 0, 1) := by decide +kernel
theorem dX8_digest_83 : decode cX8_digest 83 = .ok (.iload_n 1, 1) := by decide +kernel
theorem dX8_digest_84 : decode cX8_digest 84 = .ok (.bipush 7, 2) := by decide +kernel
theorem dX8_digest_86 : decode cX8_digest 86 = .ok (.idiv, 1) := by decide +kernel
theorem dX8_digest_87 : decode cX8_digest 87 = .ok (.iload_n 1, 1) := by decide +kernel
theorem dX8_digest_88 : decode cX8_digest 88 = .ok (.bipush 7, 2) := by decide +kernel
theorem dX8_digest_90 : decode cX8_digest 90 = .ok (.irem, 1) := by decide +kernel
theorem dX8_digest_91 : decode cX8_digest 91 = .ok (.invokevirtual 162, 3) := by decide +kernel
theorem dX8_digest_94 : decode cX8_digest 94 = .ok (.invokevirtual 222, 3) := by decide +kernel
theorem dX8_digest_97 : decode cX8_digest 97 = .ok (.iinc 1 1, 3) := by decide +kernel
theorem dX8_digest_100 : decode cX8_digest 100 = .ok (.goto (-32), 3) := by decide +kernel
theorem dX8_digest_103 : decode cX8_digest 103 = .ok (.iconst 0, 1) := by decide +kernel
theorem dX8_digest_104 : decode cX8_digest 104 = .ok (.istore_n 1, 1) := by decide +kernel
theorem dX8_digest_105 : decode cX8_digest 105 = .ok (.iload_n 1, 1) := by decide +kernel
theorem dX8_digest_106 : decode cX8_digest 106 = .ok (.bipush 64, 2) := by decide +kernel
theorem dX8_digest_108 : decode cX8_digest 108 = .ok (.if_icmp .ge 23, 3) := by decide +kernel
theorem dX8_digest_111 : decode cX8_digest 111 = .ok (.aload_n 0, 1) := by decide +kernel
theorem dX8_digest_112 : decode cX8_digest 112 = .ok (.aload_n 0, 1) := by decide +kernel
theorem dX8_digest_113 : decode cX8_digest 113 = .ok (.iload_n 1, 1) := by decide +kernel
theorem dX8_digest_114 : decode cX8_digest 114 = .ok (.iconst 4, 1) := by decide +kernel
theorem dX8_digest_115 : decode cX8_digest 115 = .ok (.idiv, 1) := by decide +kernel
theorem dX8_digest_116 : decode cX8_digest 116 = .ok (.iload_n 1, 1) := by decide +kernel
theorem dX8_digest_117 : decode cX8_digest 117 = .ok (.iconst 4, 1) := by decide +kernel
theorem dX8_digest_118 : decode cX8_digest 118 = .ok (.irem, 1) := by decide +kernel
theorem dX8_digest_119 : decode cX8_digest 119 = .ok (.invokevirtual 165, 3) := by decide +kernel
theorem dX8_digest_122 : decode cX8_digest 122 = .ok (.invokevirtual 222, 3) := by decide +kernel
theorem dX8_digest_125 : decode cX8_digest 125 = .ok (.iinc 1 1, 3) := by decide +kernel
theorem dX8_digest_128 : decode cX8_digest 128 = .ok (.goto (-23), 3) := by decide +kernel
theorem dX8_digest_131 : decode cX8_digest 131 = .ok (.aload_n 0, 1) := by decide +kernel
theorem dX8_digest_132 : decode cX8_digest 132 = .ok (.aload_n 0, 1) := by decide +kernel
theorem dX8_digest_133 : decode cX8_digest 133 = .ok (.invokevirtual 186, 3) := by decide +kernel
theorem dX8_digest_136 : decode cX8_digest 136 = .ok (.invokevirtual 222, 3) := by decide +kernel
theorem dX8_digest_139 : decode cX8_digest 139 = .ok (.aload_n 0, 1) := by decide +kernel
theorem dX8_digest_140 : decode cX8_digest 140 = .ok (.getfield 218, 3) := by decide +kernel
theorem dX8_digest_143 : decode cX8_digest 143 = .ok (.lreturn, 1) := by decide +kernel
