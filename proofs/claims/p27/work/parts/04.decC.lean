theorem dX0_init_0 : decode cX0_init 0 = .ok (.aload_n 0, 1) := by decide +kernel
theorem dX0_init_1 : decode cX0_init 1 = .ok (.invokespecial 3, 3) := by decide +kernel
theorem dX0_init_4 : decode cX0_init 4 = .ok (.aload_n 0, 1) := by decide +kernel
theorem dX0_init_5 : decode cX0_init 5 = .ok (.sipush 150, 3) := by decide +kernel
theorem dX0_init_8 : decode cX0_init 8 = .ok (.newarray .int, 2) := by decide +kernel
theorem dX0_init_10 : decode cX0_init 10 = .ok (.putfield 9, 3) := by decide +kernel
theorem dX0_init_13 : decode cX0_init 13 = .ok (.aload_n 0, 1) := by decide +kernel
theorem dX0_init_14 : decode cX0_init 14 = .ok (.iconst 3, 1) := by decide +kernel
theorem dX0_init_15 : decode cX0_init 15 = .ok (.newarray .int, 2) := by decide +kernel
theorem dX0_init_17 : decode cX0_init 17 = .ok (.putfield 15, 3) := by decide +kernel
theorem dX0_init_20 : decode cX0_init 20 = .ok (.return_, 1) := by decide +kernel
theorem dX0_isFull_0 : decode cX0_isFull 0 = .ok (.aload_n 0, 1) := by decide +kernel
theorem dX0_isFull_1 : decode cX0_isFull 1 = .ok (.getfield 18, 3) := by decide +kernel
theorem dX0_isFull_4 : decode cX0_isFull 4 = .ok (.sipush 150, 3) := by decide +kernel
theorem dX0_isFull_7 : decode cX0_isFull 7 = .ok (.if_icmp .lt 7, 3) := by decide +kernel
theorem dX0_isFull_10 : decode cX0_isFull 10 = .ok (.iconst 1, 1) := by decide +kernel
theorem dX0_isFull_11 : decode cX0_isFull 11 = .ok (.goto 4, 3) := by decide +kernel
theorem dX0_isFull_14 : decode cX0_isFull 14 = .ok (.iconst 0, 1) := by decide +kernel
theorem dX0_isFull_15 : decode cX0_isFull 15 = .ok (.ireturn, 1) := by decide +kernel
theorem dX0_append_0 : decode cX0_append 0 = .ok (.aload_n 0, 1) := by decide +kernel
theorem dX0_append_1 : decode cX0_append 1 = .ok (.getfield 18, 3) := by decide +kernel
theorem dX0_append_4 : decode cX0_append 4 = .ok (.sipush 150, 3) := by decide +kernel
theorem dX0_append_7 : decode cX0_append 7 = .ok (.if_icmp .ge 23, 3) := by decide +kernel
theorem dX0_append_10 : decode cX0_append 10 = .ok (.aload_n 0, 1) := by decide +kernel
theorem dX0_append_11 : decode cX0_append 11 = .ok (.getfield 9, 3) := by decide +kernel
theorem dX0_append_14 : decode cX0_append 14 = .ok (.aload_n 0, 1) := by decide +kernel
theorem dX0_append_15 : decode cX0_append 15 = .ok (.getfield 18, 3) := by decide +kernel
theorem dX0_append_18 : decode cX0_append 18 = .ok (.iload_n 1, 1) := by decide +kernel
theorem dX0_append_19 : decode cX0_append 19 = .ok (.iastore, 1) := by decide +kernel
theorem dX0_append_20 : decode cX0_append 20 = .ok (.aload_n 0, 1) := by decide +kernel
theorem dX0_append_21 : decode cX0_append 21 = .ok (.dup, 1) := by decide +kernel
theorem dX0_append_22 : decode cX0_append 22 = .ok (.getfield 18, 3) := by decide +kernel
theorem dX0_append_25 : decode cX0_append 25 = .ok (.iconst 1, 1) := by decide +kernel
theorem dX0_append_26 : decode cX0_append 26 = .ok (.iadd, 1) := by decide +kernel
theorem dX0_append_27 : decode cX0_append 27 = .ok (.putfield 18, 3) := by decide +kernel
theorem dX0_append_30 : decode cX0_append 30 = .ok (.aload_n 0, 1) := by decide +kernel
theorem dX0_append_31 : decode cX0_append 31 = .ok (.getfield 18, 3) := by decide +kernel
theorem dX0_append_34 : decode cX0_append 34 = .ok (.ireturn, 1) := by decide +kernel
theorem dX1_init_0 : decode cX1_init 0 = .ok (.aload_n 0, 1) := by decide +kernel
theorem dX1_init_1 : decode cX1_init 1 = .ok (.invokespecial 3, 3) := by decide +kernel
theorem dX1_init_4 : decode cX1_init 4 = .ok (.aload_n 0, 1) := by decide +kernel
theorem dX1_init_5 : decode cX1_init 5 = .ok (.bipush 60, 2) := by decide +kernel
theorem dX1_init_7 : decode cX1_init 7 = .ok (.newarray .int, 2) := by decide +kernel
theorem dX1_init_9 : decode cX1_init 9 = .ok (.putfield 9, 3) := by decide +kernel
theorem dX1_init_12 : decode cX1_init 12 = .ok (.aload_n 0, 1) := by decide +kernel
theorem dX1_init_13 : decode cX1_init 13 = .ok (.bipush 60, 2) := by decide +kernel
theorem dX1_init_15 : decode cX1_init 15 = .ok (.newarray .int, 2) := by decide +kernel
theorem dX1_init_17 : decode cX1_init 17 = .ok (.putfield 15, 3) := by decide +kernel
theorem dX1_init_20 : decode cX1_init 20 = .ok (.aload_n 0, 1) := by decide +kernel
theorem dX1_init_21 : decode cX1_init 21 = .ok (.bipush 60, 2) := by decide +kernel
theorem dX1_init_23 : decode cX1_init 23 = .ok (.newarray .int, 2) := by decide +kernel
theorem dX1_init_25 : decode cX1_init 25 = .ok (.putfield 18, 3) := by decide +kernel
theorem dX1_init_28 : decode cX1_init 28 = .ok (.aload_n 0, 1) := by decide +kernel
theorem dX1_init_29 : decode cX1_init 29 = .ok (.bipush 60, 2) := by decide +kernel
theorem dX1_init_31 : decode cX1_init 31 = .ok (.newarray .int, 2) := by decide +kernel
theorem dX1_init_33 : decode cX1_init 33 = .ok (.putfield 21, 3) := by decide +kernel
theorem dX1_init_36 : decode cX1_init 36 = .ok (.aload_n 0, 1) := by decide +kernel
theorem dX1_init_37 : decode cX1_init 37 = .ok (.bipush 60, 2) := by decide +kernel
theorem dX1_init_39 : decode cX1_init 39 = .ok (.newarray .int, 2) := by decide +kernel
theorem dX1_init_41 : decode cX1_init 41 = .ok (.putfield 24, 3) := by decide +kernel
theorem dX1_init_44 : decode cX1_init 44 = .ok (.aload_n 0, 1) := by decide +kernel
theorem dX1_init_45 : decode cX1_init 45 = .ok (.bipush 60, 2) := by decide +kernel
theorem dX1_init_47 : decode cX1_init 47 = .ok (.newarray .int, 2) := by decide +kernel
theorem dX1_init_49 : decode cX1_init 49 = .ok (.putfield 27, 3) := by decide +kernel
theorem dX1_init_52 : decode cX1_init 52 = .ok (.return_, 1) := by decide +kernel
theorem dX1_copyFrom_0 : decode cX1_copyFrom 0 = .ok (.aload_n 1, 1) := by decide +kernel
theorem dX1_copyFrom_1 : decode cX1_copyFrom 1 = .ok (.getfield 9, 3) := by decide +kernel
theorem dX1_copyFrom_4 : decode cX1_copyFrom 4 = .ok (.iconst 0, 1) := by decide +kernel
theorem dX1_copyFrom_5 : decode cX1_copyFrom 5 = .ok (.aload_n 0, 1) := by decide +kernel
theorem dX1_copyFrom_6 : decode cX1_copyFrom 6 = .ok (.getfield 9, 3) := by decide +kernel
theorem dX1_copyFrom_9 : decode cX1_copyFrom 9 = .ok (.iconst 0, 1) := by decide +kernel
theorem dX1_copyFrom_10 : decode cX1_copyFrom 10 = .ok (.bipush 60, 2) := by decide +kernel
theorem dX1_copyFrom_12 : decode cX1_copyFrom 12 = .ok (.invokestatic 30, 3) := by decide +kernel
theorem dX1_copyFrom_15 : decode cX1_copyFrom 15 = .ok (.aload_n 1, 1) := by decide +kernel
theorem dX1_copyFrom_16 : decode cX1_copyFrom 16 = .ok (.getfield 15, 3) := by decide +kernel
theorem dX1_copyFrom_19 : decode cX1_copyFrom 19 = .ok (.iconst 0, 1) := by decide +kernel
theorem dX1_copyFrom_20 : decode cX1_copyFrom 20 = .ok (.aload_n 0, 1) := by decide +kernel
theorem dX1_copyFrom_21 : decode cX1_copyFrom 21 = .ok (.getfield 15, 3) := by decide +kernel
theorem dX1_copyFrom_24 : decode cX1_copyFrom 24 = .ok (.iconst 0, 1) := by decide +kernel
theorem dX1_copyFrom_25 : decode cX1_copyFrom 25 = .ok (.bipush 60, 2) := by decide +kernel
theorem dX1_copyFrom_27 : decode cX1_copyFrom 27 = .ok (.invokestatic 30, 3) := by decide +kernel
theorem dX1_copyFrom_30 : decode cX1_copyFrom 30 = .ok (.aload_n 1, 1) := by decide +kernel
theorem dX1_copyFrom_31 : decode cX1_copyFrom 31 = .ok (.getfield 18, 3) := by decide +kernel
theorem dX1_copyFrom_34 : decode cX1_copyFrom 34 = .ok (.iconst 0, 1) := by decide +kernel
theorem dX1_copyFrom_35 : decode cX1_copyFrom 35 = .ok (.aload_n 0, 1) := by decide +kernel
theorem dX1_copyFrom_36 : decode cX1_copyFrom 36 = .ok (.getfield 18, 3) := by decide +kernel
theorem dX1_copyFrom_39 : decode cX1_copyFrom 39 = .ok (.iconst 0, 1) := by decide +kernel
theorem dX1_copyFrom_40 : decode cX1_copyFrom 40 = .ok (.bipush 60, 2) := by decide +kernel
theorem dX1_copyFrom_42 : decode cX1_copyFrom 42 = .ok (.invokestatic 30, 3) := by decide +kernel
theorem dX1_copyFrom_45 : decode cX1_copyFrom 45 = .ok (.aload_n 1, 1) := by decide +kernel
theorem dX1_copyFrom_46 : decode cX1_copyFrom 46 = .ok (.getfield 21, 3) := by decide +kernel
theorem dX1_copyFrom_49 : decode cX1_copyFrom 49 = .ok (.iconst 0, 1) := by decide +kernel
theorem dX1_copyFrom_50 : decode cX1_copyFrom 50 = .ok (.aload_n 0, 1) := by decide +kernel
theorem dX1_copyFrom_51 : decode cX1_copyFrom 51 = .ok (.getfield 21, 3) := by decide +kernel
theorem dX1_copyFrom_54 : decode cX1_copyFrom 54 = .ok (.iconst 0, 1) := by decide +kernel
theorem dX1_copyFrom_55 : decode cX1_copyFrom 55 = .ok (.bipush 60, 2) := by decide +kernel
theorem dX1_copyFrom_57 : decode cX1_copyFrom 57 = .ok (.invokestatic 30, 3) := by decide +kernel
theorem dX1_copyFrom_60 : decode cX1_copyFrom 60 = .ok (.aload_n 1, 1) := by decide +kernel
theorem dX1_copyFrom_61 : decode cX1_copyFrom 61 = .ok (.getfield 24, 3) := by decide +kernel
theorem dX1_copyFrom_64 : decode cX1_copyFrom 64 = .ok (.iconst 0, 1) := by decide +kernel
theorem dX1_copyFrom_65 : decode cX1_copyFrom 65 = .ok (.aload_n 0, 1) := by decide +kernel
theorem dX1_copyFrom_66 : decode cX1_copyFrom 66 = .ok (.getfield 24, 3) := by decide +kernel
theorem dX1_copyFrom_69 : decode cX1_copyFrom 69 = .ok (.iconst 0, 1) := by decide +kernel
theorem dX1_copyFrom_70 : decode cX1_copyFrom 70 = .ok (.bipush 60, 2) := by decide +kernel
theorem dX1_copyFrom_72 : decode cX1_copyFrom 72 = .ok (.invokestatic 30, 3) := by decide +kernel
theorem dX1_copyFrom_75 : decode cX1_copyFrom 75 = .ok (.aload_n 1, 1) := by decide +kernel
theorem dX1_copyFrom_76 : decode cX1_copyFrom 76 = .ok (.getfield 27, 3) := by decide +kernel
theorem dX1_copyFrom_79 : decode cX1_copyFrom 79 = .ok (.iconst 0, 1) := by decide +kernel
theorem dX1_copyFrom_80 : decode cX1_copyFrom 80 = .ok (.aload_n 0, 1) := by decide +kernel
theorem dX1_copyFrom_81 : decode cX1_copyFrom 81 = .ok (.getfield 27, 3) := by decide +kernel
theorem dX1_copyFrom_84 : decode cX1_copyFrom 84 = .ok (.iconst 0, 1) := by decide +kernel
theorem dX1_copyFrom_85 : decode cX1_copyFrom 85 = .ok (.bipush 60, 2) := by decide +kernel
theorem dX1_copyFrom_87 : decode cX1_copyFrom 87 = .ok (.invokestatic 30, 3) := by decide +kernel
theorem dX1_copyFrom_90 : decode cX1_copyFrom 90 = .ok (.aload_n 0, 1) := by decide +kernel
theorem dX1_copyFrom_91 : decode cX1_copyFrom 91 = .ok (.aload_n 1, 1) := by decide +kernel
theorem dX1_copyFrom_92 : decode cX1_copyFrom 92 = .ok (.getfield 36, 3) := by decide +kernel
theorem dX1_copyFrom_95 : decode cX1_copyFrom 95 = .ok (.putfield 36, 3) := by decide +kernel
theorem dX1_copyFrom_98 : decode cX1_copyFrom 98 = .ok (.return_, 1) := by decide +kernel
theorem dX1_add_0 : decode cX1_add 0 = .ok (.aload_n 0, 1) := by decide +kernel
theorem dX1_add_1 : decode cX1_add 1 = .ok (.getfield 36, 3) := by decide +kernel
theorem dX1_add_4 : decode cX1_add 4 = .ok (.bipush 60, 2) := by decide +kernel
theorem dX1_add_6 : decode cX1_add 6 = .ok (.if_icmp .lt 5, 3) := by decide +kernel
theorem dX1_add_9 : decode cX1_add 9 = .ok (.iconst (-1), 1) := by decide +kernel
theorem dX1_add_10 : decode cX1_add 10 = .ok (.ireturn, 1) := by decide +kernel
theorem dX1_add_11 : decode cX1_add 11 = .ok (.aload_n 0, 1) := by decide +kernel
theorem dX1_add_12 : decode cX1_add 12 = .ok (.getfield 36, 3) := by decide +kernel
theorem dX1_add_15 : decode cX1_add 15 = .ok (.istore 6, 2) := by decide +kernel
theorem dX1_add_17 : decode cX1_add 17 = .ok (.aload_n 0, 1) := by decide +kernel
theorem dX1_add_18 : decode cX1_add 18 = .ok (.getfield 9, 3) := by decide +kernel
theorem dX1_add_21 : decode cX1_add 21 = .ok (.iload 6, 2) := by decide +kernel
theorem dX1_add_23 : decode cX1_add 23 = .ok (.iload_n 1, 1) := by decide +kernel
theorem dX1_add_24 : decode cX1_add 24 = .ok (.iastore, 1) := by decide +kernel
theorem dX1_add_25 : decode cX1_add 25 = .ok (.aload_n 0, 1) := by decide +kernel
theorem dX1_add_26 : decode cX1_add 26 = .ok (.getfield 15, 3) := by decide +kernel
theorem dX1_add_29 : decode cX1_add 29 = .ok (.iload 6, 2) := by decide +kernel
theorem dX1_add_31 : decode cX1_add 31 = .ok (.iload_n 2, 1) := by decide +kernel
theorem dX1_add_32 : decode cX1_add 32 = .ok (.iastore, 1) := by decide +kernel
theorem dX1_add_33 : decode cX1_add 33 = .ok (.aload_n 0, 1) := by decide +kernel
theorem dX1_add_34 : decode cX1_add 34 = .ok (.getfield 18, 3) := by decide +kernel
theorem dX1_add_37 : decode cX1_add 37 = .ok (.iload 6, 2) := by decide +kernel
theorem dX1_add_39 : decode cX1_add 39 = .ok (.iload_n 3, 1) := by decide +kernel
theorem dX1_add_40 : decode cX1_add 40 = .ok (.iastore, 1) := by decide +kernel
theorem dX1_add_41 : decode cX1_add 41 = .ok (.aload_n 0, 1) := by decide +kernel
theorem dX1_add_42 : decode cX1_add 42 = .ok (.getfield 21, 3) := by decide +kernel
theorem dX1_add_45 : decode cX1_add 45 = .ok (.iload 6, 2) := by decide +kernel
theorem dX1_add_47 : decode cX1_add 47 = .ok (.iload 4, 2) := by decide +kernel
theorem dX1_add_49 : decode cX1_add 49 = .ok (.iastore, 1) := by decide +kernel
theorem dX1_add_50 : decode cX1_add 50 = .ok (.aload_n 0, 1) := by decide +kernel
theorem dX1_add_51 : decode cX1_add 51 = .ok (.getfield 24, 3) := by decide +kernel
theorem dX1_add_54 : decode cX1_add 54 = .ok (.iload 6, 2) := by decide +kernel
theorem dX1_add_56 : decode cX1_add 56 = .ok (.iload 5, 2) := by decide +kernel
theorem dX1_add_58 : decode cX1_add 58 = .ok (.iastore, 1) := by decide +kernel
theorem dX1_add_59 : decode cX1_add 59 = .ok (.aload_n 0, 1) := by decide +kernel
theorem dX1_add_60 : decode cX1_add 60 = .ok (.dup, 1) := by decide +kernel
theorem dX1_add_61 : decode cX1_add 61 = .ok (.getfield 36, 3) := by decide +kernel
theorem dX1_add_64 : decode cX1_add 64 = .ok (.iconst 1, 1) := by decide +kernel
theorem dX1_add_65 : decode cX1_add 65 = .ok (.iadd, 1) := by decide +kernel
theorem dX1_add_66 : decode cX1_add 66 = .ok (.putfield 36, 3) := by decide +kernel
theorem dX1_add_69 : decode cX1_add 69 = .ok (.iload 6, 2) := by decide +kernel
theorem dX1_add_71 : decode cX1_add 71 = .ok (.ireturn, 1) := by decide +kernel
theorem dX1_markDelivered_0 : decode cX1_markDelivered 0 = .ok (.iload_n 1, 1) := by decide +kernel
theorem dX1_markDelivered_1 : decode cX1_markDelivered 1 = .ok (.ifCond .lt 23, 3) := by decide +kernel
theorem dX1_markDelivered_4 : decode cX1_markDelivered 4 = .ok (.iload_n 1, 1) := by decide +kernel
theorem dX1_markDelivered_5 : decode cX1_markDelivered 5 = .ok (.aload_n 0, 1) := by decide +kernel
theorem dX1_markDelivered_6 : decode cX1_markDelivered 6 = .ok (.getfield 36, 3) := by decide +kernel
theorem dX1_markDelivered_9 : decode cX1_markDelivered 9 = .ok (.if_icmp .ge 15, 3) := by decide +kernel
theorem dX1_markDelivered_12 : decode cX1_markDelivered 12 = .ok (.aload_n 0, 1) := by decide +kernel
theorem dX1_markDelivered_13 : decode cX1_markDelivered 13 = .ok (.getfield 27, 3) := by decide +kernel
theorem dX1_markDelivered_16 : decode cX1_markDelivered 16 = .ok (.iload_n 1, 1) := by decide +kernel
theorem dX1_markDelivered_17 : decode cX1_markDelivered 17 = .ok (.dup2, 1) := by decide +kernel
theorem dX1_markDelivered_18 : decode cX1_markDelivered 18 = .ok (.iaload, 1) := by decide +kernel
theorem dX1_markDelivered_19 : decode cX1_markDelivered 19 = .ok (.iconst 1, 1) := by decide +kernel
theorem dX1_markDelivered_20 : decode cX1_markDelivered 20 = .ok (.iload_n 2, 1) := by decide +kernel
theorem dX1_markDelivered_21 : decode cX1_markDelivered 21 = .ok (.ishl, 1) := by decide +kernel
theorem dX1_markDelivered_22 : decode cX1_markDelivered 22 = .ok (.ior, 1) := by decide +kernel
theorem dX1_markDelivered_23 : decode cX1_markDelivered 23 = .ok (.iastore, 1) := by decide +kernel
theorem dX1_markDelivered_24 : decode cX1_markDelivered 24 = .ok (.return_, 1) := by decide +kernel
theorem dX1_valueOf_0 : decode cX1_valueOf 0 = .ok (.iload_n 2, 1) := by decide +kernel
theorem dX1_valueOf_1 : decode cX1_valueOf 1 = .ok (.tableswitch 70 0 4 #[35, 42, 49, 56, 63], 35) := by decide +kernel
theorem dX1_valueOf_36 : decode cX1_valueOf 36 = .ok (.aload_n 0, 1) := by decide +kernel
theorem dX1_valueOf_37 : decode cX1_valueOf 37 = .ok (.getfield 9, 3) := by decide +kernel
theorem dX1_valueOf_40 : decode cX1_valueOf 40 = .ok (.iload_n 1, 1) := by decide +kernel
theorem dX1_valueOf_41 : decode cX1_valueOf 41 = .ok (.iaload, 1) := by decide +kernel
theorem dX1_valueOf_42 : decode cX1_valueOf 42 = .ok (.ireturn, 1) := by decide +kernel
theorem dX1_valueOf_43 : decode cX1_valueOf 43 = .ok (.aload_n 0, 1) := by decide +kernel
theorem dX1_valueOf_44 : decode cX1_valueOf 44 = .ok (.getfield 15, 3) := by decide +kernel
theorem dX1_valueOf_47 : decode cX1_valueOf 47 = .ok (.iload_n 1, 1) := by decide +kernel
theorem dX1_valueOf_48 : decode cX1_valueOf 48 = .ok (.iaload, 1) := by decide +kernel
theorem dX1_valueOf_49 : decode cX1_valueOf 49 = .ok (.ireturn, 1) := by decide +kernel
theorem dX1_valueOf_50 : decode cX1_valueOf 50 = .ok (.aload_n 0, 1) := by decide +kernel
theorem dX1_valueOf_51 : decode cX1_valueOf 51 = .ok (.getfield 18, 3) := by decide +kernel
theorem dX1_valueOf_54 : decode cX1_valueOf 54 = .ok (.iload_n 1, 1) := by decide +kernel
theorem dX1_valueOf_55 : decode cX1_valueOf 55 = .ok (.iaload, 1) := by decide +kernel
theorem dX1_valueOf_56 : decode cX1_valueOf 56 = .ok (.ireturn, 1) := by decide +kernel
theorem dX1_valueOf_57 : decode cX1_valueOf 57 = .ok (.aload_n 0, 1) := by decide +kernel
theorem dX1_valueOf_58 : decode cX1_valueOf 58 = .ok (.getfield 21, 3) := by decide +kernel
theorem dX1_valueOf_61 : decode cX1_valueOf 61 = .ok (.iload_n 1, 1) := by decide +kernel
theorem dX1_valueOf_62 : decode cX1_valueOf 62 = .ok (.iaload, 1) := by decide +kernel
theorem dX1_valueOf_63 : decode cX1_valueOf 63 = .ok (.ireturn, 1) := by decide +kernel
theorem dX1_valueOf_64 : decode cX1_valueOf 64 = .ok (.aload_n 0, 1) := by decide +kernel
theorem dX1_valueOf_65 : decode cX1_valueOf 65 = .ok (.getfield 24, 3) := by decide +kernel
theorem dX1_valueOf_68 : decode cX1_valueOf 68 = .ok (.iload_n 1, 1) := by decide +kernel
theorem dX1_valueOf_69 : decode cX1_valueOf 69 = .ok (.iaload, 1) := by decide +kernel
theorem dX1_valueOf_70 : decode cX1_valueOf 70 = .ok (.ireturn, 1) := by decide +kernel
theorem dX1_valueOf_71 : decode cX1_valueOf 71 = .ok (.aload_n 0, 1) := by decide +kernel
theorem dX1_valueOf_72 : decode cX1_valueOf 72 = .ok (.getfield 27, 3) := by decide +kernel
theorem dX1_valueOf_75 : decode cX1_valueOf 75 = .ok (.iload_n 1, 1) := by decide +kernel
theorem dX1_valueOf_76 : decode cX1_valueOf 76 = .ok (.iaload, 1) := by decide +kernel
theorem dX1_valueOf_77 : decode cX1_valueOf 77 = .ok (.ireturn, 1) := by decide +kernel
theorem dX2_init_0 : decode cX2_init 0 = .ok (.aload_n 0, 1) := by decide +kernel
theorem dX2_init_1 : decode cX2_init 1 = .ok (.invokespecial 3, 3) := by decide +kernel
theorem dX2_init_4 : decode cX2_init 4 = .ok (.aload_n 0, 1) := by decide +kernel
theorem dX2_init_5 : decode cX2_init 5 = .ok (.bipush 12, 2) := by decide +kernel
theorem dX2_init_7 : decode cX2_init 7 = .ok (.newarray .int, 2) := by decide +kernel
theorem dX2_init_9 : decode cX2_init 9 = .ok (.putfield 9, 3) := by decide +kernel
theorem dX2_init_12 : decode cX2_init 12 = .ok (.return_, 1) := by decide +kernel
theorem dX2_copyFrom_0 : decode cX2_copyFrom 0 = .ok (.aload_n 1, 1) := by decide +kernel
theorem dX2_copyFrom_1 : decode cX2_copyFrom 1 = .ok (.getfield 9, 3) := by decide +kernel
theorem dX2_copyFrom_4 : decode cX2_copyFrom 4 = .ok (.iconst 0, 1) := by decide +kernel
theorem dX2_copyFrom_5 : decode cX2_copyFrom 5 = .ok (.aload_n 0, 1) := by decide +kernel
theorem dX2_copyFrom_6 : decode cX2_copyFrom 6 = .ok (.getfield 9, 3) := by decide +kernel
theorem dX2_copyFrom_9 : decode cX2_copyFrom 9 = .ok (.iconst 0, 1) := by decide +kernel
theorem dX2_copyFrom_10 : decode cX2_copyFrom 10 = .ok (.bipush 12, 2) := by decide +kernel
theorem dX2_copyFrom_12 : decode cX2_copyFrom 12 = .ok (.invokestatic 15, 3) := by decide +kernel
theorem dX2_copyFrom_15 : decode cX2_copyFrom 15 = .ok (.aload_n 0, 1) := by decide +kernel
theorem dX2_copyFrom_16 : decode cX2_copyFrom 16 = .ok (.aload_n 1, 1) := by decide +kernel
theorem dX2_copyFrom_17 : decode cX2_copyFrom 17 = .ok (.getfield 21, 3) := by decide +kernel
theorem dX2_copyFrom_20 : decode cX2_copyFrom 20 = .ok (.putfield 21, 3) := by decide +kernel
theorem dX2_copyFrom_23 : decode cX2_copyFrom 23 = .ok (.return_, 1) := by decide +kernel
theorem dX2_isFull_0 : decode cX2_isFull 0 = .ok (.aload_n 0, 1) := by decide +kernel
theorem dX2_isFull_1 : decode cX2_isFull 1 = .ok (.getfield 21, 3) := by decide +kernel
theorem dX2_isFull_4 : decode cX2_isFull 4 = .ok (.bipush 12, 2) := by decide +kernel
theorem dX2_isFull_6 : decode cX2_isFull 6 = .ok (.if_icmp .lt 7, 3) := by decide +kernel
theorem dX2_isFull_9 : decode cX2_isFull 9 = .ok (.iconst 1, 1) := by decide +kernel
theorem dX2_isFull_10 : decode cX2_isFull 10 = .ok (.goto 4, 3) := by decide +kernel
theorem dX2_isFull_13 : decode cX2_isFull 13 = .ok (.iconst 0, 1) := by decide +kernel
theorem dX2_isFull_14 : decode cX2_isFull 14 = .ok (.ireturn, 1) := by decide +kernel
theorem dX2_add_0 : decode cX2_add 0 = .ok (.aload_n 0, 1) := by decide +kernel
theorem dX2_add_1 : decode cX2_add 1 = .ok (.getfield 21, 3) := by decide +kernel
theorem dX2_add_4 : decode cX2_add 4 = .ok (.bipush 12, 2) := by decide +kernel
theorem dX2_add_6 : decode cX2_add 6 = .ok (.if_icmp .ge 23, 3) := by decide +kernel
theorem dX2_add_9 : decode cX2_add 9 = .ok (.aload_n 0, 1) := by decide +kernel
theorem dX2_add_10 : decode cX2_add 10 = .ok (.getfield 9, 3) := by decide +kernel
theorem dX2_add_13 : decode cX2_add 13 = .ok (.aload_n 0, 1) := by decide +kernel
theorem dX2_add_14 : decode cX2_add 14 = .ok (.getfield 21, 3) := by decide +kernel
theorem dX2_add_17 : decode cX2_add 17 = .ok (.iload_n 1, 1) := by decide +kernel
theorem dX2_add_18 : decode cX2_add 18 = .ok (.iastore, 1) := by decide +kernel
theorem dX2_add_19 : decode cX2_add 19 = .ok (.aload_n 0, 1) := by decide +kernel
theorem dX2_add_20 : decode cX2_add 20 = .ok (.dup, 1) := by decide +kernel
theorem dX2_add_21 : decode cX2_add 21 = .ok (.getfield 21, 3) := by decide +kernel
theorem dX2_add_24 : decode cX2_add 24 = .ok (.iconst 1, 1) := by decide +kernel
theorem dX2_add_25 : decode cX2_add 25 = .ok (.iadd, 1) := by decide +kernel
theorem dX2_add_26 : decode cX2_add 26 = .ok (.putfield 21, 3) := by decide +kernel
theorem dX2_add_29 : decode cX2_add 29 = .ok (.return_, 1) := by decide +kernel
theorem dX2_removeOldest_0 : decode cX2_removeOldest 0 = .ok (.iload_n 1, 1) := by decide +kernel
theorem dX2_removeOldest_1 : decode cX2_removeOldest 1 = .ok (.istore_n 2, 1) := by decide +kernel
theorem dX2_removeOldest_2 : decode cX2_removeOldest 2 = .ok (.iload_n 2, 1) := by decide +kernel
theorem dX2_removeOldest_3 : decode cX2_removeOldest 3 = .ok (.aload_n 0, 1) := by decide +kernel
theorem dX2_removeOldest_4 : decode cX2_removeOldest 4 = .ok (.getfield 21, 3) := by decide +kernel
theorem dX2_removeOldest_7 : decode cX2_removeOldest 7 = .ok (.if_icmp .ge 23, 3) := by decide +kernel
theorem dX2_removeOldest_10 : decode cX2_removeOldest 10 = .ok (.aload_n 0, 1) := by decide +kernel
theorem dX2_removeOldest_11 : decode cX2_removeOldest 11 = .ok (.getfield 9, 3) := by decide +kernel
theorem dX2_removeOldest_14 : decode cX2_removeOldest 14 = .ok (.iload_n 2, 1) := by decide +kernel
theorem dX2_removeOldest_15 : decode cX2_removeOldest 15 = .ok (.iload_n 1, 1) := by decide +kernel
theorem dX2_removeOldest_16 : decode cX2_removeOldest 16 = .ok (.isub, 1) := by decide +kernel
theorem dX2_removeOldest_17 : decode cX2_removeOldest 17 = .ok (.aload_n 0, 1) := by decide +kernel
theorem dX2_removeOldest_18 : decode cX2_removeOldest 18 = .ok (.getfield 9, 3) := by decide +kernel
theorem dX2_removeOldest_21 : decode cX2_removeOldest 21 = .ok (.iload_n 2, 1) := by decide +kernel
theorem dX2_removeOldest_22 : decode cX2_removeOldest 22 = .ok (.iaload, 1) := by decide +kernel
theorem dX2_removeOldest_23 : decode cX2_removeOldest 23 = .ok (.iastore, 1) := by decide +kernel
theorem dX2_removeOldest_24 : decode cX2_removeOldest 24 = .ok (.iinc 2 1, 3) := by decide +kernel
theorem dX2_removeOldest_27 : decode cX2_removeOldest 27 = .ok (.goto (-25), 3) := by decide +kernel
theorem dX2_removeOldest_30 : decode cX2_removeOldest 30 = .ok (.aload_n 0, 1) := by decide +kernel
theorem dX2_removeOldest_31 : decode cX2_removeOldest 31 = .ok (.dup, 1) := by decide +kernel
theorem dX2_removeOldest_32 : decode cX2_removeOldest 32 = .ok (.getfield 21, 3) := by decide +kernel
theorem dX2_removeOldest_35 : decode cX2_removeOldest 35 = .ok (.iload_n 1, 1) := by decide +kernel
theorem dX2_removeOldest_36 : decode cX2_removeOldest 36 = .ok (.isub, 1) := by decide +kernel
theorem dX2_removeOldest_37 : decode cX2_removeOldest 37 = .ok (.putfield 21, 3) := by decide +kernel
theorem dX2_removeOldest_40 : decode cX2_removeOldest 40 = .ok (.return_, 1) := by decide +kernel
theorem dX2_eventAt_0 : decode cX2_eventAt 0 = .ok (.iload_n 1, 1) := by decide +kernel
theorem dX2_eventAt_1 : decode cX2_eventAt 1 = .ok (.aload_n 0, 1) := by decide +kernel
theorem dX2_eventAt_2 : decode cX2_eventAt 2 = .ok (.getfield 21, 3) := by decide +kernel
theorem dX2_eventAt_5 : decode cX2_eventAt 5 = .ok (.if_icmp .ge 12, 3) := by decide +kernel
theorem dX2_eventAt_8 : decode cX2_eventAt 8 = .ok (.aload_n 0, 1) := by decide +kernel
theorem dX2_eventAt_9 : decode cX2_eventAt 9 = .ok (.getfield 9, 3) := by decide +kernel
theorem dX2_eventAt_12 : decode cX2_eventAt 12 = .ok (.iload_n 1, 1) := by decide +kernel
theorem dX2_eventAt_13 : decode cX2_eventAt 13 = .ok (.iaload, 1) := by decide +kernel
theorem dX2_eventAt_14 : decode cX2_eventAt 14 = .ok (.goto 4, 3) := by decide +kernel
theorem dX2_eventAt_17 : decode cX2_eventAt 17 = .ok (.iconst (-1), 1) := by decide +kernel
theorem dX2_eventAt_18 : decode cX2_eventAt 18 = .ok (.ireturn, 1) := by decide +kernel
theorem dX2_holds_0 : decode cX2_holds 0 = .ok (.iconst 0, 1) := by decide +kernel
theorem dX2_holds_1 : decode cX2_holds 1 = .ok (.istore_n 2, 1) := by decide +kernel
theorem dX2_holds_2 : decode cX2_holds 2 = .ok (.iload_n 2, 1) := by decide +kernel
theorem dX2_holds_3 : decode cX2_holds 3 = .ok (.aload_n 0, 1) := by decide +kernel
theorem dX2_holds_4 : decode cX2_holds 4 = .ok (.getfield 21, 3) := by decide +kernel
theorem dX2_holds_7 : decode cX2_holds 7 = .ok (.if_icmp .ge 21, 3) := by decide +kernel
theorem dX2_holds_10 : decode cX2_holds 10 = .ok (.aload_n 0, 1) := by decide +kernel
theorem dX2_holds_11 : decode cX2_holds 11 = .ok (.getfield 9, 3) := by decide +kernel
theorem dX2_holds_14 : decode cX2_holds 14 = .ok (.iload_n 2, 1) := by decide +kernel
theorem dX2_holds_15 : decode cX2_holds 15 = .ok (.iaload, 1) := by decide +kernel
theorem dX2_holds_16 : decode cX2_holds 16 = .ok (.iload_n 1, 1) := by decide +kernel
theorem dX2_holds_17 : decode cX2_holds 17 = .ok (.if_icmp .ne 5, 3) := by decide +kernel
theorem dX2_holds_20 : decode cX2_holds 20 = .ok (.iconst 1, 1) := by decide +kernel
theorem dX2_holds_21 : decode cX2_holds 21 = .ok (.ireturn, 1) := by decide +kernel
theorem dX2_holds_22 : decode cX2_holds 22 = .ok (.iinc 2 1, 3) := by decide +kernel
theorem dX2_holds_25 : decode cX2_holds 25 = .ok (.goto (-23), 3) := by decide +kernel
theorem dX2_holds_28 : decode cX2_holds 28 = .ok (.iconst 0, 1) := by decide +kernel
theorem dX2_holds_29 : decode cX2_holds 29 = .ok (.ireturn, 1) := by decide +kernel
theorem dX3_init_0 : decode cX3_init 0 = .ok (.aload_n 0, 1) := by decide +kernel
theorem dX3_init_1 : decode cX3_init 1 = .ok (.invokespecial 3, 3) := by decide +kernel
theorem dX3_init_4 : decode cX3_init 4 = .ok (.aload_n 0, 1) := by decide +kernel
theorem dX3_init_5 : decode cX3_init 5 = .ok (.bipush 10, 2) := by decide +kernel
theorem dX3_init_7 : decode cX3_init 7 = .ok (.newarray .int, 2) := by decide +kernel
theorem dX3_init_9 : decode cX3_init 9 = .ok (.putfield 9, 3) := by decide +kernel
theorem dX3_init_12 : decode cX3_init 12 = .ok (.aload_n 0, 1) := by decide +kernel
theorem dX3_init_13 : decode cX3_init 13 = .ok (.bipush 10, 2) := by decide +kernel
theorem dX3_init_15 : decode cX3_init 15 = .ok (.newarray .int, 2) := by decide +kernel
theorem dX3_init_17 : decode cX3_init 17 = .ok (.putfield 15, 3) := by decide +kernel
theorem dX3_init_20 : decode cX3_init 20 = .ok (.aload_n 0, 1) := by decide +kernel
theorem dX3_init_21 : decode cX3_init 21 = .ok (.bipush 10, 2) := by decide +kernel
theorem dX3_init_23 : decode cX3_init 23 = .ok (.newarray .int, 2) := by decide +kernel
theorem dX3_init_25 : decode cX3_init 25 = .ok (.putfield 18, 3) := by decide +kernel
theorem dX3_init_28 : decode cX3_init 28 = .ok (.return_, 1) := by decide +kernel
theorem dX3_copyFrom_0 : decode cX3_copyFrom 0 = .ok (.aload_n 1, 1) := by decide +kernel
theorem dX3_copyFrom_1 : decode cX3_copyFrom 1 = .ok (.getfield 9, 3) := by decide +kernel
theorem dX3_copyFrom_4 : decode cX3_copyFrom 4 = .ok (.iconst 0, 1) := by decide +kernel
theorem dX3_copyFrom_5 : decode cX3_copyFrom 5 = .ok (.aload_n 0, 1) := by decide +kernel
theorem dX3_copyFrom_6 : decode cX3_copyFrom 6 = .ok (.getfield 9, 3) := by decide +kernel
theorem dX3_copyFrom_9 : decode cX3_copyFrom 9 = .ok (.iconst 0, 1) := by decide +kernel
theorem dX3_copyFrom_10 : decode cX3_copyFrom 10 = .ok (.bipush 10, 2) := by decide +kernel
theorem dX3_copyFrom_12 : decode cX3_copyFrom 12 = .ok (.invokestatic 21, 3) := by decide +kernel
theorem dX3_copyFrom_15 : decode cX3_copyFrom 15 = .ok (.aload_n 1, 1) := by decide +kernel
theorem dX3_copyFrom_16 : decode cX3_copyFrom 16 = .ok (.getfield 15, 3) := by decide +kernel
theorem dX3_copyFrom_19 : decode cX3_copyFrom 19 = .ok (.iconst 0, 1) := by decide +kernel
theorem dX3_copyFrom_20 : decode cX3_copyFrom 20 = .ok (.aload_n 0, 1) := by decide +kernel
theorem dX3_copyFrom_21 : decode cX3_copyFrom 21 = .ok (.getfield 15, 3) := by decide +kernel
theorem dX3_copyFrom_24 : decode cX3_copyFrom 24 = .ok (.iconst 0, 1) := by decide +kernel
theorem dX3_copyFrom_25 : decode cX3_copyFrom 25 = .ok (.bipush 10, 2) := by decide +kernel
theorem dX3_copyFrom_27 : decode cX3_copyFrom 27 = .ok (.invokestatic 21, 3) := by decide +kernel
theorem dX3_copyFrom_30 : decode cX3_copyFrom 30 = .ok (.aload_n 1, 1) := by decide +kernel
theorem dX3_copyFrom_31 : decode cX3_copyFrom 31 = .ok (.getfield 18, 3) := by decide +kernel
theorem dX3_copyFrom_34 : decode cX3_copyFrom 34 = .ok (.iconst 0, 1) := by decide +kernel
theorem dX3_copyFrom_35 : decode cX3_copyFrom 35 = .ok (.aload_n 0, 1) := by decide +kernel
theorem dX3_copyFrom_36 : decode cX3_copyFrom 36 = .ok (.getfield 18, 3) := by decide +kernel
theorem dX3_copyFrom_39 : decode cX3_copyFrom 39 = .ok (.iconst 0, 1) := by decide +kernel
theorem dX3_copyFrom_40 : decode cX3_copyFrom 40 = .ok (.bipush 10, 2) := by decide +kernel
theorem dX3_copyFrom_42 : decode cX3_copyFrom 42 = .ok (.invokestatic 21, 3) := by decide +kernel
theorem dX3_copyFrom_45 : decode cX3_copyFrom 45 = .ok (.aload_n 0, 1) := by decide +kernel
theorem dX3_copyFrom_46 : decode cX3_copyFrom 46 = .ok (.aload_n 1, 1) := by decide +kernel
theorem dX3_copyFrom_47 : decode cX3_copyFrom 47 = .ok (.getfield 27, 3) := by decide +kernel
theorem dX3_copyFrom_50 : decode cX3_copyFrom 50 = .ok (.putfield 27, 3) := by decide +kernel
theorem dX3_copyFrom_53 : decode cX3_copyFrom 53 = .ok (.return_, 1) := by decide +kernel
theorem dX3_open_0 : decode cX3_open 0 = .ok (.bipush 9, 2) := by decide +kernel
theorem dX3_open_2 : decode cX3_open 2 = .ok (.istore_n 3, 1) := by decide +kernel
theorem dX3_open_3 : decode cX3_open 3 = .ok (.iload_n 3, 1) := by decide +kernel
theorem dX3_open_4 : decode cX3_open 4 = .ok (.ifCond .le 51, 3) := by decide +kernel
theorem dX3_open_7 : decode cX3_open 7 = .ok (.aload_n 0, 1) := by decide +kernel
theorem dX3_open_8 : decode cX3_open 8 = .ok (.getfield 9, 3) := by decide +kernel
theorem dX3_open_11 : decode cX3_open 11 = .ok (.iload_n 3, 1) := by decide +kernel
theorem dX3_open_12 : decode cX3_open 12 = .ok (.aload_n 0, 1) := by decide +kernel
theorem dX3_open_13 : decode cX3_open 13 = .ok (.getfield 9, 3) := by decide +kernel
theorem dX3_open_16 : decode cX3_open 16 = .ok (.iload_n 3, 1) := by decide +kernel
theorem dX3_open_17 : decode cX3_open 17 = .ok (.iconst 1, 1) := by decide +kernel
theorem dX3_open_18 : decode cX3_open 18 = .ok (.isub, 1) := by decide +kernel
theorem dX3_open_19 : decode cX3_open 19 = .ok (.iaload, 1) := by decide +kernel
theorem dX3_open_20 : decode cX3_open 20 = .ok (.iastore, 1) := by decide +kernel
theorem dX3_open_21 : decode cX3_open 21 = .ok (.aload_n 0, 1) := by decide +kernel
theorem dX3_open_22 : decode cX3_open 22 = .ok (.getfield 15, 3) := by decide +kernel
theorem dX3_open_25 : decode cX3_open 25 = .ok (.iload_n 3, 1) := by decide +kernel
theorem dX3_open_26 : decode cX3_open 26 = .ok (.aload_n 0, 1) := by decide +kernel
theorem dX3_open_27 : decode cX3_open 27 = .ok (.getfield 15, 3) := by decide +kernel
theorem dX3_open_30 : decode cX3_open 30 = .ok (.iload_n 3, 1) := by decide +kernel
theorem dX3_open_31 : decode cX3_open 31 = .ok (.iconst 1, 1) := by decide +kernel
theorem dX3_open_32 : decode cX3_open 32 = .ok (.isub, 1) := by decide +kernel
theorem dX3_open_33 : decode cX3_open 33 = .ok (.iaload, 1) := by decide +kernel
theorem dX3_open_34 : decode cX3_open 34 = .ok (.iastore, 1) := by decide +kernel
theorem dX3_open_35 : decode cX3_open 35 = .ok (.aload_n 0, 1) := by decide +kernel
theorem dX3_open_36 : decode cX3_open 36 = .ok (.getfield 18, 3) := by decide +kernel
theorem dX3_open_39 : decode cX3_open 39 = .ok (.iload_n 3, 1) := by decide +kernel
theorem dX3_open_40 : decode cX3_open 40 = .ok (.aload_n 0, 1) := by decide +kernel
theorem dX3_open_41 : decode cX3_open 41 = .ok (.getfield 18, 3) := by decide +kernel
theorem dX3_open_44 : decode cX3_open 44 = .ok (.iload_n 3, 1) := by decide +kernel
theorem dX3_open_45 : decode cX3_open 45 = .ok (.iconst 1, 1) := by decide +kernel
theorem dX3_open_46 : decode cX3_open 46 = .ok (.isub, 1) := by decide +kernel
theorem dX3_open_47 : decode cX3_open 47 = .ok (.iaload, 1) := by decide +kernel
theorem dX3_open_48 : decode cX3_open 48 = .ok (.iastore, 1) := by decide +kernel
theorem dX3_open_49 : decode cX3_open 49 = .ok (.iinc 3 (-1), 3) := by decide +kernel
theorem dX3_open_52 : decode cX3_open 52 = .ok (.goto (-49), 3) := by decide +kernel
theorem dX3_open_55 : decode cX3_open 55 = .ok (.aload_n 0, 1) := by decide +kernel
theorem dX3_open_56 : decode cX3_open 56 = .ok (.getfield 9, 3) := by decide +kernel
theorem dX3_open_59 : decode cX3_open 59 = .ok (.iconst 0, 1) := by decide +kernel
theorem dX3_open_60 : decode cX3_open 60 = .ok (.iload_n 1, 1) := by decide +kernel
theorem dX3_open_61 : decode cX3_open 61 = .ok (.iastore, 1) := by decide +kernel
theorem dX3_open_62 : decode cX3_open 62 = .ok (.aload_n 0, 1) := by decide +kernel
theorem dX3_open_63 : decode cX3_open 63 = .ok (.getfield 15, 3) := by decide +kernel
theorem dX3_open_66 : decode cX3_open 66 = .ok (.iconst 0, 1) := by decide +kernel
theorem dX3_open_67 : decode cX3_open 67 = .ok (.iload_n 2, 1) := by decide +kernel
theorem dX3_open_68 : decode cX3_open 68 = .ok (.iastore, 1) := by decide +kernel
theorem dX3_open_69 : decode cX3_open 69 = .ok (.aload_n 0, 1) := by decide +kernel
theorem dX3_open_70 : decode cX3_open 70 = .ok (.getfield 18, 3) := by decide +kernel
theorem dX3_open_73 : decode cX3_open 73 = .ok (.iconst 0, 1) := by decide +kernel
theorem dX3_open_74 : decode cX3_open 74 = .ok (.iconst (-1), 1) := by decide +kernel
theorem dX3_open_75 : decode cX3_open 75 = .ok (.iastore, 1) := by decide +kernel
theorem dX3_open_76 : decode cX3_open 76 = .ok (.aload_n 0, 1) := by decide +kernel
theorem dX3_open_77 : decode cX3_open 77 = .ok (.getfield 27, 3) := by decide +kernel
theorem dX3_open_80 : decode cX3_open 80 = .ok (.bipush 10, 2) := by decide +kernel
theorem dX3_open_82 : decode cX3_open 82 = .ok (.if_icmp .ge 13, 3) := by decide +kernel
theorem dX3_open_85 : decode cX3_open 85 = .ok (.aload_n 0, 1) := by decide +kernel
theorem dX3_open_86 : decode cX3_open 86 = .ok (.dup, 1) := by decide +kernel
theorem dX3_open_87 : decode cX3_open 87 = .ok (.getfield 27, 3) := by decide +kernel
theorem dX3_open_90 : decode cX3_open 90 = .ok (.iconst 1, 1) := by decide +kernel
theorem dX3_open_91 : decode cX3_open 91 = .ok (.iadd, 1) := by decide +kernel
theorem dX3_open_92 : decode cX3_open 92 = .ok (.putfield 27, 3) := by decide +kernel
theorem dX3_open_95 : decode cX3_open 95 = .ok (.return_, 1) := by decide +kernel
theorem dX3_close_0 : decode cX3_close 0 = .ok (.aload_n 0, 1) := by decide +kernel
theorem dX3_close_1 : decode cX3_close 1 = .ok (.getfield 18, 3) := by decide +kernel
theorem dX3_close_4 : decode cX3_close 4 = .ok (.iconst 0, 1) := by decide +kernel
theorem dX3_close_5 : decode cX3_close 5 = .ok (.iload_n 1, 1) := by decide +kernel
theorem dX3_close_6 : decode cX3_close 6 = .ok (.iastore, 1) := by decide +kernel
theorem dX3_close_7 : decode cX3_close 7 = .ok (.return_, 1) := by decide +kernel
theorem dX3_leafAt_0 : decode cX3_leafAt 0 = .ok (.iconst 0, 1) := by decide +kernel
theorem dX3_leafAt_1 : decode cX3_leafAt 1 = .ok (.istore_n 2, 1) := by decide +kernel
theorem dX3_leafAt_2 : decode cX3_leafAt 2 = .ok (.iload_n 2, 1) := by decide +kernel
theorem dX3_leafAt_3 : decode cX3_leafAt 3 = .ok (.aload_n 0, 1) := by decide +kernel
theorem dX3_leafAt_4 : decode cX3_leafAt 4 = .ok (.getfield 27, 3) := by decide +kernel
theorem dX3_leafAt_7 : decode cX3_leafAt 7 = .ok (.if_icmp .ge 56, 3) := by decide +kernel
theorem dX3_leafAt_10 : decode cX3_leafAt 10 = .ok (.aload_n 0, 1) := by decide +kernel
theorem dX3_leafAt_11 : decode cX3_leafAt 11 = .ok (.getfield 18, 3) := by decide +kernel
theorem dX3_leafAt_14 : decode cX3_leafAt 14 = .ok (.iload_n 2, 1) := by decide +kernel
theorem dX3_leafAt_15 : decode cX3_leafAt 15 = .ok (.iaload, 1) := by decide +kernel
theorem dX3_leafAt_16 : decode cX3_leafAt 16 = .ok (.iconst (-1), 1) := by decide +kernel
theorem dX3_leafAt_17 : decode cX3_leafAt 17 = .ok (.if_icmp .eq 13, 3) := by decide +kernel
theorem dX3_leafAt_20 : decode cX3_leafAt 20 = .ok (.iload_n 1, 1) := by decide +kernel
theorem dX3_leafAt_21 : decode cX3_leafAt 21 = .ok (.aload_n 0, 1) := by decide +kernel
theorem dX3_leafAt_22 : decode cX3_leafAt 22 = .ok (.getfield 18, 3) := by decide +kernel
theorem dX3_leafAt_25 : decode cX3_leafAt 25 = .ok (.iload_n 2, 1) := by decide +kernel
theorem dX3_leafAt_26 : decode cX3_leafAt 26 = .ok (.iaload, 1) := by decide +kernel
theorem dX3_leafAt_27 : decode cX3_leafAt 27 = .ok (.if_icmp .ge 7, 3) := by decide +kernel
theorem dX3_leafAt_30 : decode cX3_leafAt 30 = .ok (.iconst 1, 1) := by decide +kernel
theorem dX3_leafAt_31 : decode cX3_leafAt 31 = .ok (.goto 4, 3) := by decide +kernel
theorem dX3_leafAt_34 : decode cX3_leafAt 34 = .ok (.iconst 0, 1) := by decide +kernel
theorem dX3_leafAt_35 : decode cX3_leafAt 35 = .ok (.istore_n 3, 1) := by decide +kernel
theorem dX3_leafAt_36 : decode cX3_leafAt 36 = .ok (.iload_n 1, 1) := by decide +kernel
theorem dX3_leafAt_37 : decode cX3_leafAt 37 = .ok (.aload_n 0, 1) := by decide +kernel
theorem dX3_leafAt_38 : decode cX3_leafAt 38 = .ok (.getfield 15, 3) := by decide +kernel
theorem dX3_leafAt_41 : decode cX3_leafAt 41 = .ok (.iload_n 2, 1) := by decide +kernel
theorem dX3_leafAt_42 : decode cX3_leafAt 42 = .ok (.iaload, 1) := by decide +kernel
theorem dX3_leafAt_43 : decode cX3_leafAt 43 = .ok (.if_icmp .lt 14, 3) := by decide +kernel
theorem dX3_leafAt_46 : decode cX3_leafAt 46 = .ok (.iload_n 3, 1) := by decide +kernel
theorem dX3_leafAt_47 : decode cX3_leafAt 47 = .ok (.ifCond .eq 10, 3) := by decide +kernel
theorem dX3_leafAt_50 : decode cX3_leafAt 50 = .ok (.aload_n 0, 1) := by decide +kernel
theorem dX3_leafAt_51 : decode cX3_leafAt 51 = .ok (.getfield 9, 3) := by decide +kernel
theorem dX3_leafAt_54 : decode cX3_leafAt 54 = .ok (.iload_n 2, 1) := by decide +kernel
theorem dX3_leafAt_55 : decode cX3_leafAt 55 = .ok (.iaload, 1) := by decide +kernel
theorem dX3_leafAt_56 : decode cX3_leafAt 56 = .ok (.ireturn, 1) := by decide +kernel
theorem dX3_leafAt_57 : decode cX3_leafAt 57 = .ok (.iinc 2 1, 3) := by decide +kernel
theorem dX3_leafAt_60 : decode cX3_leafAt 60 = .ok (.goto (-58), 3) := by decide +kernel
theorem dX3_leafAt_63 : decode cX3_leafAt 63 = .ok (.iconst (-1), 1) := by decide +kernel
theorem dX3_leafAt_64 : decode cX3_leafAt 64 = .ok (.ireturn, 1) := by decide +kernel
theorem dX3_valueOf_0 : decode cX3_valueOf 0 = .ok (.iload_n 1, 1) := by decide +kernel
theorem dX3_valueOf_1 : decode cX3_valueOf 1 = .ok (.aload_n 0, 1) := by decide +kernel
theorem dX3_valueOf_2 : decode cX3_valueOf 2 = .ok (.getfield 27, 3) := by decide +kernel
theorem dX3_valueOf_5 : decode cX3_valueOf 5 = .ok (.if_icmp .lt 5, 3) := by decide +kernel
theorem dX3_valueOf_8 : decode cX3_valueOf 8 = .ok (.iconst (-1), 1) := by decide +kernel
theorem dX3_valueOf_9 : decode cX3_valueOf 9 = .ok (.ireturn, 1) := by decide +kernel
theorem dX3_valueOf_10 : decode cX3_valueOf 10 = .ok (.iload_n 2, 1) := by decide +kernel
theorem dX3_valueOf_11 : decode cX3_valueOf 11 = .ok (.ifCond .ne 10, 3) := by decide +kernel
theorem dX3_valueOf_14 : decode cX3_valueOf 14 = .ok (.aload_n 0, 1) := by decide +kernel
theorem dX3_valueOf_15 : decode cX3_valueOf 15 = .ok (.getfield 9, 3) := by decide +kernel
theorem dX3_valueOf_18 : decode cX3_valueOf 18 = .ok (.iload_n 1, 1) := by decide +kernel
theorem dX3_valueOf_19 : decode cX3_valueOf 19 = .ok (.iaload, 1) := by decide +kernel
theorem dX3_valueOf_20 : decode cX3_valueOf 20 = .ok (.ireturn, 1) := by decide +kernel
theorem dX3_valueOf_21 : decode cX3_valueOf 21 = .ok (.iload_n 2, 1) := by decide +kernel
theorem dX3_valueOf_22 : decode cX3_valueOf 22 = .ok (.iconst 1, 1) := by decide +kernel
theorem dX3_valueOf_23 : decode cX3_valueOf 23 = .ok (.if_icmp .ne 12, 3) := by decide +kernel
theorem dX3_valueOf_26 : decode cX3_valueOf 26 = .ok (.aload_n 0, 1) := by decide +kernel
theorem dX3_valueOf_27 : decode cX3_valueOf 27 = .ok (.getfield 15, 3) := by decide +kernel
theorem dX3_valueOf_30 : decode cX3_valueOf 30 = .ok (.iload_n 1, 1) := by decide +kernel
theorem dX3_valueOf_31 : decode cX3_valueOf 31 = .ok (.iaload, 1) := by decide +kernel
theorem dX3_valueOf_32 : decode cX3_valueOf 32 = .ok (.goto 9, 3) := by decide +kernel
theorem dX3_valueOf_35 : decode cX3_valueOf 35 = .ok (.aload_n 0, 1) := by decide +kernel
theorem dX3_valueOf_36 : decode cX3_valueOf 36 = .ok (.getfield 18, 3) := by decide +kernel
theorem dX3_valueOf_39 : decode cX3_valueOf 39 = .ok (.iload_n 1, 1) := by decide +kernel
theorem dX3_valueOf_40 : decode cX3_valueOf 40 = .ok (.iaload, 1) := by decide +kernel
theorem dX3_valueOf_41 : decode cX3_valueOf 41 = .ok (.ireturn, 1) := by decide +kernel
theorem dX4_init_0 : decode cX4_init 0 = .ok (.aload_n 0, 1) := by decide +kernel
theorem dX4_init_1 : decode cX4_init 1 = .ok (.invokespecial 3, 3) := by decide +kernel
theorem dX4_init_4 : decode cX4_init 4 = .ok (.aload_n 0, 1) := by decide +kernel
theorem dX4_init_5 : decode cX4_init 5 = .ok (.new 9, 3) := by decide +kernel
theorem dX4_init_8 : decode cX4_init 8 = .ok (.dup, 1) := by decide +kernel
theorem dX4_init_9 : decode cX4_init 9 = .ok (.invokespecial 11, 3) := by decide +kernel
theorem dX4_init_12 : decode cX4_init 12 = .ok (.putfield 12, 3) := by decide +kernel
theorem dX4_init_15 : decode cX4_init 15 = .ok (.aload_n 0, 1) := by decide +kernel
theorem dX4_init_16 : decode cX4_init 16 = .ok (.new 18, 3) := by decide +kernel
theorem dX4_init_19 : decode cX4_init 19 = .ok (.dup, 1) := by decide +kernel
theorem dX4_init_20 : decode cX4_init 20 = .ok (.invokespecial 20, 3) := by decide +kernel
theorem dX4_init_23 : decode cX4_init 23 = .ok (.putfield 21, 3) := by decide +kernel
theorem dX4_init_26 : decode cX4_init 26 = .ok (.return_, 1) := by decide +kernel
theorem dX4_copyFrom_0 : decode cX4_copyFrom 0 = .ok (.aload_n 0, 1) := by decide +kernel
theorem dX4_copyFrom_1 : decode cX4_copyFrom 1 = .ok (.getfield 12, 3) := by decide +kernel
theorem dX4_copyFrom_4 : decode cX4_copyFrom 4 = .ok (.aload_n 1, 1) := by decide +kernel
theorem dX4_copyFrom_5 : decode cX4_copyFrom 5 = .ok (.getfield 12, 3) := by decide +kernel
theorem dX4_copyFrom_8 : decode cX4_copyFrom 8 = .ok (.invokevirtual 25, 3) := by decide +kernel
theorem dX4_copyFrom_11 : decode cX4_copyFrom 11 = .ok (.aload_n 0, 1) := by decide +kernel
theorem dX4_copyFrom_12 : decode cX4_copyFrom 12 = .ok (.getfield 21, 3) := by decide +kernel
theorem dX4_copyFrom_15 : decode cX4_copyFrom 15 = .ok (.aload_n 1, 1) := by decide +kernel
theorem dX4_copyFrom_16 : decode cX4_copyFrom 16 = .ok (.getfield 21, 3) := by decide +kernel
theorem dX4_copyFrom_19 : decode cX4_copyFrom 19 = .ok (.invokevirtual 29, 3) := by decide +kernel
theorem dX4_copyFrom_22 : decode cX4_copyFrom 22 = .ok (.aload_n 0, 1) := by decide +kernel
theorem dX4_copyFrom_23 : decode cX4_copyFrom 23 = .ok (.aload_n 1, 1) := by decide +kernel
theorem dX4_copyFrom_24 : decode cX4_copyFrom 24 = .ok (.getfield 32, 3) := by decide +kernel
theorem dX4_copyFrom_27 : decode cX4_copyFrom 27 = .ok (.putfield 32, 3) := by decide +kernel
theorem dX4_copyFrom_30 : decode cX4_copyFrom 30 = .ok (.aload_n 0, 1) := by decide +kernel
theorem dX4_copyFrom_31 : decode cX4_copyFrom 31 = .ok (.aload_n 1, 1) := by decide +kernel
theorem dX4_copyFrom_32 : decode cX4_copyFrom 32 = .ok (.getfield 36, 3) := by decide +kernel
theorem dX4_copyFrom_35 : decode cX4_copyFrom 35 = .ok (.putfield 36, 3) := by decide +kernel
theorem dX4_copyFrom_38 : decode cX4_copyFrom 38 = .ok (.aload_n 0, 1) := by decide +kernel
theorem dX4_copyFrom_39 : decode cX4_copyFrom 39 = .ok (.aload_n 1, 1) := by decide +kernel
theorem dX4_copyFrom_40 : decode cX4_copyFrom 40 = .ok (.getfield 39, 3) := by decide +kernel
theorem dX4_copyFrom_43 : decode cX4_copyFrom 43 = .ok (.putfield 39, 3) := by decide +kernel
theorem dX4_copyFrom_46 : decode cX4_copyFrom 46 = .ok (.aload_n 0, 1) := by decide +kernel
theorem dX4_copyFrom_47 : decode cX4_copyFrom 47 = .ok (.aload_n 1, 1) := by decide +kernel
theorem dX4_copyFrom_48 : decode cX4_copyFrom 48 = .ok (.getfield 42, 3) := by decide +kernel
theorem dX4_copyFrom_51 : decode cX4_copyFrom 51 = .ok (.putfield 42, 3) := by decide +kernel
theorem dX4_copyFrom_54 : decode cX4_copyFrom 54 = .ok (.aload_n 0, 1) := by decide +kernel
theorem dX4_copyFrom_55 : decode cX4_copyFrom 55 = .ok (.aload_n 1, 1) := by decide +kernel
theorem dX4_copyFrom_56 : decode cX4_copyFrom 56 = .ok (.getfield 45, 3) := by decide +kernel
theorem dX4_copyFrom_59 : decode cX4_copyFrom 59 = .ok (.putfield 45, 3) := by decide +kernel
theorem dX4_copyFrom_62 : decode cX4_copyFrom 62 = .ok (.aload_n 0, 1) := by decide +kernel
theorem dX4_copyFrom_63 : decode cX4_copyFrom 63 = .ok (.aload_n 1, 1) := by decide +kernel
theorem dX4_copyFrom_64 : decode cX4_copyFrom 64 = .ok (.getfield 48, 3) := by decide +kernel
theorem dX4_copyFrom_67 : decode cX4_copyFrom 67 = .ok (.putfield 48, 3) := by decide +kernel
theorem dX4_copyFrom_70 : decode cX4_copyFrom 70 = .ok (.aload_n 0, 1) := by decide +kernel
theorem dX4_copyFrom_71 : decode cX4_copyFrom 71 = .ok (.aload_n 1, 1) := by decide +kernel
theorem dX4_copyFrom_72 : decode cX4_copyFrom 72 = .ok (.getfield 52, 3) := by decide +kernel
theorem dX4_copyFrom_75 : decode cX4_copyFrom 75 = .ok (.putfield 52, 3) := by decide +kernel
theorem dX4_copyFrom_78 : decode cX4_copyFrom 78 = .ok (.aload_n 0, 1) := by decide +kernel
theorem dX4_copyFrom_79 : decode cX4_copyFrom 79 = .ok (.aload_n 1, 1) := by decide +kernel
theorem dX4_copyFrom_80 : decode cX4_copyFrom 80 = .ok (.getfield 55, 3) := by decide +kernel
theorem dX4_copyFrom_83 : decode cX4_copyFrom 83 = .ok (.putfield 55, 3) := by decide +kernel
theorem dX4_copyFrom_86 : decode cX4_copyFrom 86 = .ok (.aload_n 0, 1) := by decide +kernel
theorem dX4_copyFrom_87 : decode cX4_copyFrom 87 = .ok (.aload_n 1, 1) := by decide +kernel
theorem dX4_copyFrom_88 : decode cX4_copyFrom 88 = .ok (.getfield 58, 3) := by decide +kernel
theorem dX4_copyFrom_91 : decode cX4_copyFrom 91 = .ok (.putfield 58, 3) := by decide +kernel
theorem dX4_copyFrom_94 : decode cX4_copyFrom 94 = .ok (.aload_n 0, 1) := by decide +kernel
theorem dX4_copyFrom_95 : decode cX4_copyFrom 95 = .ok (.aload_n 1, 1) := by decide +kernel
theorem dX4_copyFrom_96 : decode cX4_copyFrom 96 = .ok (.getfield 61, 3) := by decide +kernel
theorem dX4_copyFrom_99 : decode cX4_copyFrom 99 = .ok (.putfield 61, 3) := by decide +kernel
theorem dX4_copyFrom_102 : decode cX4_copyFrom 102 = .ok (.aload_n 0, 1) := by decide +kernel
theorem dX4_copyFrom_103 : decode cX4_copyFrom 103 = .ok (.aload_n 1, 1) := by decide +kernel
theorem dX4_copyFrom_104 : decode cX4_copyFrom 104 = .ok (.getfield 64, 3) := by decide +kernel
theorem dX4_copyFrom_107 : decode cX4_copyFrom 107 = .ok (.putfield 64, 3) := by decide +kernel
theorem dX4_copyFrom_110 : decode cX4_copyFrom 110 = .ok (.aload_n 0, 1) := by decide +kernel
theorem dX4_copyFrom_111 : decode cX4_copyFrom 111 = .ok (.aload_n 1, 1) := by decide +kernel
theorem dX4_copyFrom_112 : decode cX4_copyFrom 112 = .ok (.getfield 67, 3) := by decide +kernel
theorem dX4_copyFrom_115 : decode cX4_copyFrom 115 = .ok (.putfield 67, 3) := by decide +kernel
theorem dX4_copyFrom_118 : decode cX4_copyFrom 118 = .ok (.return_, 1) := by decide +kernel
theorem dX4_begin_0 : decode cX4_begin 0 = .ok (.aload_n 0, 1) := by decide +kernel
theorem dX4_begin_1 : decode cX4_begin 1 = .ok (.iload_n 1, 1) := by decide +kernel
theorem dX4_begin_2 : decode cX4_begin 2 = .ok (.putfield 32, 3) := by decide +kernel
theorem dX4_begin_5 : decode cX4_begin 5 = .ok (.aload_n 0, 1) := by decide +kernel
theorem dX4_begin_6 : decode cX4_begin 6 = .ok (.iload_n 2, 1) := by decide +kernel
theorem dX4_begin_7 : decode cX4_begin 7 = .ok (.putfield 36, 3) := by decide +kernel
theorem dX4_begin_10 : decode cX4_begin 10 = .ok (.aload_n 0, 1) := by decide +kernel
theorem dX4_begin_11 : decode cX4_begin 11 = .ok (.iload_n 3, 1) := by decide +kernel
theorem dX4_begin_12 : decode cX4_begin 12 = .ok (.putfield 39, 3) := by decide +kernel
theorem dX4_begin_15 : decode cX4_begin 15 = .ok (.aload_n 0, 1) := by decide +kernel
theorem dX4_begin_16 : decode cX4_begin 16 = .ok (.iload 4, 2) := by decide +kernel
theorem dX4_begin_18 : decode cX4_begin 18 = .ok (.putfield 42, 3) := by decide +kernel
theorem dX4_begin_21 : decode cX4_begin 21 = .ok (.aload_n 0, 1) := by decide +kernel
theorem dX4_begin_22 : decode cX4_begin 22 = .ok (.iload_n 3, 1) := by decide +kernel
theorem dX4_begin_23 : decode cX4_begin 23 = .ok (.putfield 45, 3) := by decide +kernel
theorem dX4_begin_26 : decode cX4_begin 26 = .ok (.aload_n 0, 1) := by decide +kernel
theorem dX4_begin_27 : decode cX4_begin 27 = .ok (.iconst 1, 1) := by decide +kernel
theorem dX4_begin_28 : decode cX4_begin 28 = .ok (.putfield 48, 3) := by decide +kernel
theorem dX4_begin_31 : decode cX4_begin 31 = .ok (.aload_n 0, 1) := by decide +kernel
theorem dX4_begin_32 : decode cX4_begin 32 = .ok (.getfield 12, 3) := by decide +kernel
theorem dX4_begin_35 : decode cX4_begin 35 = .ok (.iload_n 3, 1) := by decide +kernel
theorem dX4_begin_36 : decode cX4_begin 36 = .ok (.iload 4, 2) := by decide +kernel
theorem dX4_begin_38 : decode cX4_begin 38 = .ok (.invokevirtual 70, 3) := by decide +kernel
theorem dX4_begin_41 : decode cX4_begin 41 = .ok (.return_, 1) := by decide +kernel
theorem dX4_canGoTo_0 : decode cX4_canGoTo 0 = .ok (.aload_n 0, 1) := by decide +kernel
theorem dX4_canGoTo_1 : decode cX4_canGoTo 1 = .ok (.getfield 48, 3) := by decide +kernel
theorem dX4_canGoTo_4 : decode cX4_canGoTo 4 = .ok (.ifCond .eq 23, 3) := by decide +kernel
theorem dX4_canGoTo_7 : decode cX4_canGoTo 7 = .ok (.aload_n 0, 1) := by decide +kernel
theorem dX4_canGoTo_8 : decode cX4_canGoTo 8 = .ok (.getfield 32, 3) := by decide +kernel
theorem dX4_canGoTo_11 : decode cX4_canGoTo 11 = .ok (.iconst 2, 1) := by decide +kernel
theorem dX4_canGoTo_12 : decode cX4_canGoTo 12 = .ok (.if_icmp .eq 15, 3) := by decide +kernel
theorem dX4_canGoTo_15 : decode cX4_canGoTo 15 = .ok (.aload_n 0, 1) := by decide +kernel
theorem dX4_canGoTo_16 : decode cX4_canGoTo 16 = .ok (.getfield 39, 3) := by decide +kernel
theorem dX4_canGoTo_19 : decode cX4_canGoTo 19 = .ok (.iload_n 1, 1) := by decide +kernel
theorem dX4_canGoTo_20 : decode cX4_canGoTo 20 = .ok (.if_icmp .eq 7, 3) := by decide +kernel
theorem dX4_canGoTo_23 : decode cX4_canGoTo 23 = .ok (.iconst 1, 1) := by decide +kernel
theorem dX4_canGoTo_24 : decode cX4_canGoTo 24 = .ok (.goto 4, 3) := by decide +kernel
theorem dX4_canGoTo_27 : decode cX4_canGoTo 27 = .ok (.iconst 0, 1) := by decide +kernel
theorem dX4_canGoTo_28 : decode cX4_canGoTo 28 = .ok (.ireturn, 1) := by decide +kernel
theorem dX4_goTo_0 : decode cX4_goTo 0 = .ok (.aload_n 0, 1) := by decide +kernel
theorem dX4_goTo_1 : decode cX4_goTo 1 = .ok (.getfield 39, 3) := by decide +kernel
theorem dX4_goTo_4 : decode cX4_goTo 4 = .ok (.istore_n 3, 1) := by decide +kernel
theorem dX4_goTo_5 : decode cX4_goTo 5 = .ok (.aload_n 0, 1) := by decide +kernel
theorem dX4_goTo_6 : decode cX4_goTo 6 = .ok (.iload_n 1, 1) := by decide +kernel
theorem dX4_goTo_7 : decode cX4_goTo 7 = .ok (.putfield 39, 3) := by decide +kernel
theorem dX4_goTo_10 : decode cX4_goTo 10 = .ok (.aload_n 0, 1) := by decide +kernel
theorem dX4_goTo_11 : decode cX4_goTo 11 = .ok (.iload_n 2, 1) := by decide +kernel
theorem dX4_goTo_12 : decode cX4_goTo 12 = .ok (.putfield 42, 3) := by decide +kernel
theorem dX4_goTo_15 : decode cX4_goTo 15 = .ok (.iload_n 3, 1) := by decide +kernel
theorem dX4_goTo_16 : decode cX4_goTo 16 = .ok (.ireturn, 1) := by decide +kernel
theorem dX4_quit_0 : decode cX4_quit 0 = .ok (.aload_n 0, 1) := by decide +kernel
theorem dX4_quit_1 : decode cX4_quit 1 = .ok (.getfield 21, 3) := by decide +kernel
theorem dX4_quit_4 : decode cX4_quit 4 = .ok (.getfield 74, 3) := by decide +kernel
theorem dX4_quit_7 : decode cX4_quit 7 = .ok (.istore_n 2, 1) := by decide +kernel
theorem dX4_quit_8 : decode cX4_quit 8 = .ok (.aload_n 0, 1) := by decide +kernel
theorem dX4_quit_9 : decode cX4_quit 9 = .ok (.getfield 21, 3) := by decide +kernel
theorem dX4_quit_12 : decode cX4_quit 12 = .ok (.iload_n 2, 1) := by decide +kernel
theorem dX4_quit_13 : decode cX4_quit 13 = .ok (.invokevirtual 77, 3) := by decide +kernel
theorem dX4_quit_16 : decode cX4_quit 16 = .ok (.aload_n 0, 1) := by decide +kernel
theorem dX4_quit_17 : decode cX4_quit 17 = .ok (.dup, 1) := by decide +kernel
theorem dX4_quit_18 : decode cX4_quit 18 = .ok (.getfield 61, 3) := by decide +kernel
theorem dX4_quit_21 : decode cX4_quit 21 = .ok (.iload_n 2, 1) := by decide +kernel
theorem dX4_quit_22 : decode cX4_quit 22 = .ok (.iadd, 1) := by decide +kernel
theorem dX4_quit_23 : decode cX4_quit 23 = .ok (.putfield 61, 3) := by decide +kernel
theorem dX4_quit_26 : decode cX4_quit 26 = .ok (.aload_n 0, 1) := by decide +kernel
theorem dX4_quit_27 : decode cX4_quit 27 = .ok (.getfield 12, 3) := by decide +kernel
theorem dX4_quit_30 : decode cX4_quit 30 = .ok (.iload_n 1, 1) := by decide +kernel
theorem dX4_quit_31 : decode cX4_quit 31 = .ok (.invokevirtual 81, 3) := by decide +kernel
theorem dX4_quit_34 : decode cX4_quit 34 = .ok (.aload_n 0, 1) := by decide +kernel
theorem dX4_quit_35 : decode cX4_quit 35 = .ok (.iconst 0, 1) := by decide +kernel
theorem dX4_quit_36 : decode cX4_quit 36 = .ok (.putfield 48, 3) := by decide +kernel
theorem dX4_quit_39 : decode cX4_quit 39 = .ok (.iload_n 2, 1) := by decide +kernel
theorem dX4_quit_40 : decode cX4_quit 40 = .ok (.ireturn, 1) := by decide +kernel
theorem dX4_relevel_0 : decode cX4_relevel 0 = .ok (.aload_n 0, 1) := by decide +kernel
theorem dX4_relevel_1 : decode cX4_relevel 1 = .ok (.getfield 36, 3) := by decide +kernel
theorem dX4_relevel_4 : decode cX4_relevel 4 = .ok (.istore_n 2, 1) := by decide +kernel
theorem dX4_relevel_5 : decode cX4_relevel 5 = .ok (.aload_n 0, 1) := by decide +kernel
theorem dX4_relevel_6 : decode cX4_relevel 6 = .ok (.iload_n 1, 1) := by decide +kernel
theorem dX4_relevel_7 : decode cX4_relevel 7 = .ok (.putfield 36, 3) := by decide +kernel
theorem dX4_relevel_10 : decode cX4_relevel 10 = .ok (.iload_n 2, 1) := by decide +kernel
theorem dX4_relevel_11 : decode cX4_relevel 11 = .ok (.ireturn, 1) := by decide +kernel
theorem dX4_dwellTime_0 : decode cX4_dwellTime 0 = .ok (.aload_n 0, 1) := by decide +kernel
theorem dX4_dwellTime_1 : decode cX4_dwellTime 1 = .ok (.getfield 32, 3) := by decide +kernel
theorem dX4_dwellTime_4 : decode cX4_dwellTime 4 = .ok (.ifCond .ne 7, 3) := by decide +kernel
theorem dX4_dwellTime_7 : decode cX4_dwellTime 7 = .ok (.iload_n 1, 1) := by decide +kernel
theorem dX4_dwellTime_8 : decode cX4_dwellTime 8 = .ok (.goto 6, 3) := by decide +kernel
theorem dX4_dwellTime_11 : decode cX4_dwellTime 11 = .ok (.iload_n 1, 1) := by decide +kernel
theorem dX4_dwellTime_12 : decode cX4_dwellTime 12 = .ok (.iconst 2, 1) := by decide +kernel
theorem dX4_dwellTime_13 : decode cX4_dwellTime 13 = .ok (.idiv, 1) := by decide +kernel
theorem dX4_dwellTime_14 : decode cX4_dwellTime 14 = .ok (.ireturn, 1) := by decide +kernel
theorem dX4_isDue_0 : decode cX4_isDue 0 = .ok (.aload_n 0, 1) := by decide +kernel
theorem dX4_isDue_1 : decode cX4_isDue 1 = .ok (.getfield 48, 3) := by decide +kernel
theorem dX4_isDue_4 : decode cX4_isDue 4 = .ok (.ifCond .eq 32, 3) := by decide +kernel
theorem dX4_isDue_7 : decode cX4_isDue 7 = .ok (.aload_n 0, 1) := by decide +kernel
theorem dX4_isDue_8 : decode cX4_isDue 8 = .ok (.getfield 39, 3) := by decide +kernel
theorem dX4_isDue_11 : decode cX4_isDue 11 = .ok (.aload_n 0, 1) := by decide +kernel
theorem dX4_isDue_12 : decode cX4_isDue 12 = .ok (.getfield 45, 3) := by decide +kernel
theorem dX4_isDue_15 : decode cX4_isDue 15 = .ok (.if_icmp .eq 21, 3) := by decide +kernel
theorem dX4_isDue_18 : decode cX4_isDue 18 = .ok (.iload_n 1, 1) := by decide +kernel
theorem dX4_isDue_19 : decode cX4_isDue 19 = .ok (.aload_n 0, 1) := by decide +kernel
theorem dX4_isDue_20 : decode cX4_isDue 20 = .ok (.getfield 42, 3) := by decide +kernel
theorem dX4_isDue_23 : decode cX4_isDue 23 = .ok (.isub, 1) := by decide +kernel
theorem dX4_isDue_24 : decode cX4_isDue 24 = .ok (.aload_n 0, 1) := by decide +kernel
theorem dX4_isDue_25 : decode cX4_isDue 25 = .ok (.iload_n 2, 1) := by decide +kernel
theorem dX4_isDue_26 : decode cX4_isDue 26 = .ok (.invokevirtual 84, 3) := by decide +kernel
theorem dX4_isDue_29 : decode cX4_isDue 29 = .ok (.if_icmp .lt 7, 3) := by decide +kernel
theorem dX4_isDue_32 : decode cX4_isDue 32 = .ok (.iconst 1, 1) := by decide +kernel
theorem dX4_isDue_33 : decode cX4_isDue 33 = .ok (.goto 4, 3) := by decide +kernel
theorem dX4_isDue_36 : decode cX4_isDue 36 = .ok (.iconst 0, 1) := by decide +kernel
theorem dX4_isDue_37 : decode cX4_isDue 37 = .ok (.ireturn, 1) := by decide +kernel
theorem dX4_handOver_0 : decode cX4_handOver 0 = .ok (.aload_n 0, 1) := by decide +kernel
theorem dX4_handOver_1 : decode cX4_handOver 1 = .ok (.getfield 12, 3) := by decide +kernel
theorem dX4_handOver_4 : decode cX4_handOver 4 = .ok (.iload_n 1, 1) := by decide +kernel
theorem dX4_handOver_5 : decode cX4_handOver 5 = .ok (.invokevirtual 81, 3) := by decide +kernel
theorem dX4_handOver_8 : decode cX4_handOver 8 = .ok (.aload_n 0, 1) := by decide +kernel
theorem dX4_handOver_9 : decode cX4_handOver 9 = .ok (.getfield 12, 3) := by decide +kernel
theorem dX4_handOver_12 : decode cX4_handOver 12 = .ok (.aload_n 0, 1) := by decide +kernel
theorem dX4_handOver_13 : decode cX4_handOver 13 = .ok (.getfield 39, 3) := by decide +kernel
theorem dX4_handOver_16 : decode cX4_handOver 16 = .ok (.iload_n 1, 1) := by decide +kernel
theorem dX4_handOver_17 : decode cX4_handOver 17 = .ok (.invokevirtual 70, 3) := by decide +kernel
theorem dX4_handOver_20 : decode cX4_handOver 20 = .ok (.aload_n 0, 1) := by decide +kernel
theorem dX4_handOver_21 : decode cX4_handOver 21 = .ok (.aload_n 0, 1) := by decide +kernel
theorem dX4_handOver_22 : decode cX4_handOver 22 = .ok (.getfield 39, 3) := by decide +kernel
theorem dX4_handOver_25 : decode cX4_handOver 25 = .ok (.putfield 45, 3) := by decide +kernel
theorem dX4_handOver_28 : decode cX4_handOver 28 = .ok (.aload_n 0, 1) := by decide +kernel
theorem dX4_handOver_29 : decode cX4_handOver 29 = .ok (.dup, 1) := by decide +kernel
theorem dX4_handOver_30 : decode cX4_handOver 30 = .ok (.getfield 64, 3) := by decide +kernel
theorem dX4_handOver_33 : decode cX4_handOver 33 = .ok (.iconst 1, 1) := by decide +kernel
theorem dX4_handOver_34 : decode cX4_handOver 34 = .ok (.iadd, 1) := by decide +kernel
theorem dX4_handOver_35 : decode cX4_handOver 35 = .ok (.putfield 64, 3) := by decide +kernel
theorem dX4_handOver_38 : decode cX4_handOver 38 = .ok (.aload_n 0, 1) := by decide +kernel
theorem dX4_handOver_39 : decode cX4_handOver 39 = .ok (.getfield 21, 3) := by decide +kernel
theorem dX4_handOver_42 : decode cX4_handOver 42 = .ok (.getfield 74, 3) := by decide +kernel
theorem dX4_handOver_45 : decode cX4_handOver 45 = .ok (.ifCond .le 10, 3) := by decide +kernel
theorem dX4_handOver_48 : decode cX4_handOver 48 = .ok (.aload_n 0, 1) := by decide +kernel
theorem dX4_handOver_49 : decode cX4_handOver 49 = .ok (.iload_n 1, 1) := by decide +kernel
theorem dX4_handOver_50 : decode cX4_handOver 50 = .ok (.iload_n 2, 1) := by decide +kernel
theorem dX4_handOver_51 : decode cX4_handOver 51 = .ok (.iadd, 1) := by decide +kernel
theorem dX4_handOver_52 : decode cX4_handOver 52 = .ok (.putfield 67, 3) := by decide +kernel
theorem dX4_handOver_55 : decode cX4_handOver 55 = .ok (.return_, 1) := by decide +kernel
theorem dX4_getsFrom_0 : decode cX4_getsFrom 0 = .ok (.aload_n 0, 1) := by decide +kernel
theorem dX4_getsFrom_1 : decode cX4_getsFrom 1 = .ok (.getfield 12, 3) := by decide +kernel
theorem dX4_getsFrom_4 : decode cX4_getsFrom 4 = .ok (.iload_n 2, 1) := by decide +kernel
theorem dX4_getsFrom_5 : decode cX4_getsFrom 5 = .ok (.invokevirtual 88, 3) := by decide +kernel
theorem dX4_getsFrom_8 : decode cX4_getsFrom 8 = .ok (.istore_n 3, 1) := by decide +kernel
theorem dX4_getsFrom_9 : decode cX4_getsFrom 9 = .ok (.aload_n 0, 1) := by decide +kernel
theorem dX4_getsFrom_10 : decode cX4_getsFrom 10 = .ok (.getfield 48, 3) := by decide +kernel
theorem dX4_getsFrom_13 : decode cX4_getsFrom 13 = .ok (.ifCond .eq 25, 3) := by decide +kernel
theorem dX4_getsFrom_16 : decode cX4_getsFrom 16 = .ok (.iload_n 3, 1) := by decide +kernel
theorem dX4_getsFrom_17 : decode cX4_getsFrom 17 = .ok (.iconst (-1), 1) := by decide +kernel
theorem dX4_getsFrom_18 : decode cX4_getsFrom 18 = .ok (.if_icmp .eq 20, 3) := by decide +kernel
theorem dX4_getsFrom_21 : decode cX4_getsFrom 21 = .ok (.iload_n 3, 1) := by decide +kernel
theorem dX4_getsFrom_22 : decode cX4_getsFrom 22 = .ok (.aload_n 0, 1) := by decide +kernel
theorem dX4_getsFrom_23 : decode cX4_getsFrom 23 = .ok (.getfield 36, 3) := by decide +kernel
theorem dX4_getsFrom_26 : decode cX4_getsFrom 26 = .ok (.invokestatic 91, 3) := by decide +kernel
theorem dX4_getsFrom_29 : decode cX4_getsFrom 29 = .ok (.iload_n 1, 1) := by decide +kernel
theorem dX4_getsFrom_30 : decode cX4_getsFrom 30 = .ok (.iand, 1) := by decide +kernel
theorem dX4_getsFrom_31 : decode cX4_getsFrom 31 = .ok (.ifCond .eq 7, 3) := by decide +kernel
theorem dX4_getsFrom_34 : decode cX4_getsFrom 34 = .ok (.iconst 1, 1) := by decide +kernel
theorem dX4_getsFrom_35 : decode cX4_getsFrom 35 = .ok (.goto 4, 3) := by decide +kernel
theorem dX4_getsFrom_38 : decode cX4_getsFrom 38 = .ok (.iconst 0, 1) := by decide +kernel
theorem dX4_getsFrom_39 : decode cX4_getsFrom 39 = .ok (.ireturn, 1) := by decide +kernel
theorem dX4_receive_0 : decode cX4_receive 0 = .ok (.aload_n 0, 1) := by decide +kernel
theorem dX4_receive_1 : decode cX4_receive 1 = .ok (.dup, 1) := by decide +kernel
theorem dX4_receive_2 : decode cX4_receive 2 = .ok (.getfield 52, 3) := by decide +kernel
theorem dX4_receive_5 : decode cX4_receive 5 = .ok (.iconst 1, 1) := by decide +kernel
theorem dX4_receive_6 : decode cX4_receive 6 = .ok (.iadd, 1) := by decide +kernel
theorem dX4_receive_7 : decode cX4_receive 7 = .ok (.putfield 52, 3) := by decide +kernel
theorem dX4_receive_10 : decode cX4_receive 10 = .ok (.aload_n 0, 1) := by decide +kernel
theorem dX4_receive_11 : decode cX4_receive 11 = .ok (.getfield 21, 3) := by decide +kernel
theorem dX4_receive_14 : decode cX4_receive 14 = .ok (.invokevirtual 95, 3) := by decide +kernel
theorem dX4_receive_17 : decode cX4_receive 17 = .ok (.ifCond .eq 16, 3) := by decide +kernel
theorem dX4_receive_20 : decode cX4_receive 20 = .ok (.aload_n 0, 1) := by decide +kernel
theorem dX4_receive_21 : decode cX4_receive 21 = .ok (.dup, 1) := by decide +kernel
theorem dX4_receive_22 : decode cX4_receive 22 = .ok (.getfield 58, 3) := by decide +kernel
theorem dX4_receive_25 : decode cX4_receive 25 = .ok (.iconst 1, 1) := by decide +kernel
theorem dX4_receive_26 : decode cX4_receive 26 = .ok (.iadd, 1) := by decide +kernel
theorem dX4_receive_27 : decode cX4_receive 27 = .ok (.putfield 58, 3) := by decide +kernel
theorem dX4_receive_30 : decode cX4_receive 30 = .ok (.goto 11, 3) := by decide +kernel
theorem dX4_receive_33 : decode cX4_receive 33 = .ok (.aload_n 0, 1) := by decide +kernel
theorem dX4_receive_34 : decode cX4_receive 34 = .ok (.getfield 21, 3) := by decide +kernel
theorem dX4_receive_37 : decode cX4_receive 37 = .ok (.iload_n 1, 1) := by decide +kernel
theorem dX4_receive_38 : decode cX4_receive 38 = .ok (.invokevirtual 99, 3) := by decide +kernel
theorem dX4_receive_41 : decode cX4_receive 41 = .ok (.return_, 1) := by decide +kernel
theorem dX4_reasonAgainst_0 : decode cX4_reasonAgainst 0 = .ok (.aload_n 0, 1) := by decide +kernel
theorem dX4_reasonAgainst_1 : decode cX4_reasonAgainst 1 = .ok (.getfield 48, 3) := by decide +kernel
theorem dX4_reasonAgainst_4 : decode cX4_reasonAgainst 4 = .ok (.ifCond .ne 5, 3) := by decide +kernel
theorem dX4_reasonAgainst_7 : decode cX4_reasonAgainst 7 = .ok (.iconst 1, 1) := by decide +kernel
theorem dX4_reasonAgainst_8 : decode cX4_reasonAgainst 8 = .ok (.ireturn, 1) := by decide +kernel
theorem dX4_reasonAgainst_9 : decode cX4_reasonAgainst 9 = .ok (.aload_n 0, 1) := by decide +kernel
theorem dX4_reasonAgainst_10 : decode cX4_reasonAgainst 10 = .ok (.getfield 45, 3) := by decide +kernel
theorem dX4_reasonAgainst_13 : decode cX4_reasonAgainst 13 = .ok (.aload_n 0, 1) := by decide +kernel
theorem dX4_reasonAgainst_14 : decode cX4_reasonAgainst 14 = .ok (.getfield 36, 3) := by decide +kernel
theorem dX4_reasonAgainst_17 : decode cX4_reasonAgainst 17 = .ok (.invokestatic 91, 3) := by decide +kernel
theorem dX4_reasonAgainst_20 : decode cX4_reasonAgainst 20 = .ok (.iload_n 1, 1) := by decide +kernel
theorem dX4_reasonAgainst_21 : decode cX4_reasonAgainst 21 = .ok (.iand, 1) := by decide +kernel
theorem dX4_reasonAgainst_22 : decode cX4_reasonAgainst 22 = .ok (.ifCond .ne 25, 3) := by decide +kernel
theorem dX4_reasonAgainst_25 : decode cX4_reasonAgainst 25 = .ok (.aload_n 0, 1) := by decide +kernel
theorem dX4_reasonAgainst_26 : decode cX4_reasonAgainst 26 = .ok (.getfield 39, 3) := by decide +kernel
theorem dX4_reasonAgainst_29 : decode cX4_reasonAgainst 29 = .ok (.aload_n 0, 1) := by decide +kernel
theorem dX4_reasonAgainst_30 : decode cX4_reasonAgainst 30 = .ok (.getfield 36, 3) := by decide +kernel
theorem dX4_reasonAgainst_33 : decode cX4_reasonAgainst 33 = .ok (.invokestatic 91, 3) := by decide +kernel
theorem dX4_reasonAgainst_36 : decode cX4_reasonAgainst 36 = .ok (.iload_n 1, 1) := by decide +kernel
theorem dX4_reasonAgainst_37 : decode cX4_reasonAgainst 37 = .ok (.iand, 1) := by decide +kernel
theorem dX4_reasonAgainst_38 : decode cX4_reasonAgainst 38 = .ok (.ifCond .eq 7, 3) := by decide +kernel
theorem dX4_reasonAgainst_41 : decode cX4_reasonAgainst 41 = .ok (.iconst 2, 1) := by decide +kernel
theorem dX4_reasonAgainst_42 : decode cX4_reasonAgainst 42 = .ok (.goto 4, 3) := by decide +kernel
theorem dX4_reasonAgainst_45 : decode cX4_reasonAgainst 45 = .ok (.iconst 3, 1) := by decide +kernel
theorem dX4_reasonAgainst_46 : decode cX4_reasonAgainst 46 = .ok (.ireturn, 1) := by decide +kernel
theorem dX4_reasonAgainst_47 : decode cX4_reasonAgainst 47 = .ok (.aload_n 0, 1) := by decide +kernel
theorem dX4_reasonAgainst_48 : decode cX4_reasonAgainst 48 = .ok (.getfield 21, 3) := by decide +kernel
theorem dX4_reasonAgainst_51 : decode cX4_reasonAgainst 51 = .ok (.invokevirtual 95, 3) := by decide +kernel
theorem dX4_reasonAgainst_54 : decode cX4_reasonAgainst 54 = .ok (.ifCond .eq 7, 3) := by decide +kernel
theorem dX4_reasonAgainst_57 : decode cX4_reasonAgainst 57 = .ok (.iconst 4, 1) := by decide +kernel
theorem dX4_reasonAgainst_58 : decode cX4_reasonAgainst 58 = .ok (.goto 4, 3) := by decide +kernel
theorem dX4_reasonAgainst_61 : decode cX4_reasonAgainst 61 = .ok (.iconst 0, 1) := by decide +kernel
theorem dX4_reasonAgainst_62 : decode cX4_reasonAgainst 62 = .ok (.ireturn, 1) := by decide +kernel
theorem dX4_coverage_0 : decode cX4_coverage 0 = .ok (.aload_n 0, 1) := by decide +kernel
theorem dX4_coverage_1 : decode cX4_coverage 1 = .ok (.getfield 48, 3) := by decide +kernel
theorem dX4_coverage_4 : decode cX4_coverage 4 = .ok (.ifCond .eq 17, 3) := by decide +kernel
theorem dX4_coverage_7 : decode cX4_coverage 7 = .ok (.aload_n 0, 1) := by decide +kernel
theorem dX4_coverage_8 : decode cX4_coverage 8 = .ok (.getfield 45, 3) := by decide +kernel
theorem dX4_coverage_11 : decode cX4_coverage 11 = .ok (.aload_n 0, 1) := by decide +kernel
theorem dX4_coverage_12 : decode cX4_coverage 12 = .ok (.getfield 36, 3) := by decide +kernel
theorem dX4_coverage_15 : decode cX4_coverage 15 = .ok (.invokestatic 91, 3) := by decide +kernel
theorem dX4_coverage_18 : decode cX4_coverage 18 = .ok (.goto 4, 3) := by decide +kernel
theorem dX4_coverage_21 : decode cX4_coverage 21 = .ok (.iconst 0, 1) := by decide +kernel
theorem dX4_coverage_22 : decode cX4_coverage 22 = .ok (.ireturn, 1) := by decide +kernel
theorem dX4_valueOf_0 : decode cX4_valueOf 0 = .ok (.iload_n 1, 1) := by decide +kernel
theorem dX4_valueOf_1 : decode cX4_valueOf 1 = .ok (.tableswitch 143 0 12 #[67, 72, 77, 82, 87, 92, 105, 113, 118, 123, 128, 133, 138], 67) := by decide +kernel
theorem dX4_valueOf_68 : decode cX4_valueOf 68 = .ok (.aload_n 0, 1) := by decide +kernel
theorem dX4_valueOf_69 : decode cX4_valueOf 69 = .ok (.getfield 32, 3) := by decide +kernel
theorem dX4_valueOf_72 : decode cX4_valueOf 72 = .ok (.ireturn, 1) := by decide +kernel
theorem dX4_valueOf_73 : decode cX4_valueOf 73 = .ok (.aload_n 0, 1) := by decide +kernel
theorem dX4_valueOf_74 : decode cX4_valueOf 74 = .ok (.getfield 36, 3) := by decide +kernel
theorem dX4_valueOf_77 : decode cX4_valueOf 77 = .ok (.ireturn, 1) := by decide +kernel
theorem dX4_valueOf_78 : decode cX4_valueOf 78 = .ok (.aload_n 0, 1) := by decide +kernel
theorem dX4_valueOf_79 : decode cX4_valueOf 79 = .ok (.getfield 39, 3) := by decide +kernel
theorem dX4_valueOf_82 : decode cX4_valueOf 82 = .ok (.ireturn, 1) := by decide +kernel
theorem dX4_valueOf_83 : decode cX4_valueOf 83 = .ok (.aload_n 0, 1) := by decide +kernel
theorem dX4_valueOf_84 : decode cX4_valueOf 84 = .ok (.getfield 42, 3) := by decide +kernel
theorem dX4_valueOf_87 : decode cX4_valueOf 87 = .ok (.ireturn, 1) := by decide +kernel
theorem dX4_valueOf_88 : decode cX4_valueOf 88 = .ok (.aload_n 0, 1) := by decide +kernel
theorem dX4_valueOf_89 : decode cX4_valueOf 89 = .ok (.getfield 45, 3) := by decide +kernel
theorem dX4_valueOf_92 : decode cX4_valueOf 92 = .ok (.ireturn, 1) := by decide +kernel
theorem dX4_valueOf_93 : decode cX4_valueOf 93 = .ok (.aload_n 0, 1) := by decide +kernel
theorem dX4_valueOf_94 : decode cX4_valueOf 94 = .ok (.getfield 48, 3) := by decide +kernel
theorem dX4_valueOf_97 : decode cX4_valueOf 97 = .ok (.ifCond .eq 7, 3) := by decide +kernel
theorem dX4_valueOf_100 : decode cX4_valueOf 100 = .ok (.iconst 1, 1) := by decide +kernel
theorem dX4_valueOf_101 : decode cX4_valueOf 101 = .ok (.goto 4, 3) := by decide +kernel
theorem dX4_valueOf_104 : decode cX4_valueOf 104 = .ok (.iconst 0, 1) := by decide +kernel
theorem dX4_valueOf_105 : decode cX4_valueOf 105 = .ok (.ireturn, 1) := by decide +kernel
theorem dX4_valueOf_106 : decode cX4_valueOf 106 = .ok (.aload_n 0, 1) := by decide +kernel
theorem dX4_valueOf_107 : decode cX4_valueOf 107 = .ok (.getfield 21, 3) := by decide +kernel
theorem dX4_valueOf_110 : decode cX4_valueOf 110 = .ok (.getfield 74, 3) := by decide +kernel
theorem dX4_valueOf_113 : decode cX4_valueOf 113 = .ok (.ireturn, 1) := by decide +kernel
theorem dX4_valueOf_114 : decode cX4_valueOf 114 = .ok (.aload_n 0, 1) := by decide +kernel
theorem dX4_valueOf_115 : decode cX4_valueOf 115 = .ok (.getfield 52, 3) := by decide +kernel
theorem dX4_valueOf_118 : decode cX4_valueOf 118 = .ok (.ireturn, 1) := by decide +kernel
theorem dX4_valueOf_119 : decode cX4_valueOf 119 = .ok (.aload_n 0, 1) := by decide +kernel
theorem dX4_valueOf_120 : decode cX4_valueOf 120 = .ok (.getfield 55, 3) := by decide +kernel
theorem dX4_valueOf_123 : decode cX4_valueOf 123 = .ok (.ireturn, 1) := by decide +kernel
theorem dX4_valueOf_124 : decode cX4_valueOf 124 = .ok (.aload_n 0, 1) := by decide +kernel
theorem dX4_valueOf_125 : decode cX4_valueOf 125 = .ok (.getfield 58, 3) := by decide +kernel
theorem dX4_valueOf_128 : decode cX4_valueOf 128 = .ok (.ireturn, 1) := by decide +kernel
theorem dX4_valueOf_129 : decode cX4_valueOf 129 = .ok (.aload_n 0, 1) := by decide +kernel
theorem dX4_valueOf_130 : decode cX4_valueOf 130 = .ok (.getfield 64, 3) := by decide +kernel
theorem dX4_valueOf_133 : decode cX4_valueOf 133 = .ok (.ireturn, 1) := by decide +kernel
theorem dX4_valueOf_134 : decode cX4_valueOf 134 = .ok (.aload_n 0, 1) := by decide +kernel
theorem dX4_valueOf_135 : decode cX4_valueOf 135 = .ok (.getfield 67, 3) := by decide +kernel
theorem dX4_valueOf_138 : decode cX4_valueOf 138 = .ok (.ireturn, 1) := by decide +kernel
theorem dX4_valueOf_139 : decode cX4_valueOf 139 = .ok (.aload_n 0, 1) := by decide +kernel
theorem dX4_valueOf_140 : decode cX4_valueOf 140 = .ok (.getfield 61, 3) := by decide +kernel
theorem dX4_valueOf_143 : decode cX4_valueOf 143 = .ok (.ireturn, 1) := by decide +kernel
theorem dX4_valueOf_144 : decode cX4_valueOf 144 = .ok (.iconst (-1), 1) := by decide +kernel
theorem dX4_valueOf_145 : decode cX4_valueOf 145 = .ok (.ireturn, 1) := by decide +kernel
theorem dX5_init_0 : decode cX5_init 0 = .ok (.aload_n 0, 1) := by decide +kernel
theorem dX5_init_1 : decode cX5_init 1 = .ok (.invokespecial 3, 3) := by decide +kernel
theorem dX5_init_4 : decode cX5_init 4 = .ok (.aload_n 0, 1) := by decide +kernel
theorem dX5_init_5 : decode cX5_init 5 = .ok (.iconst 4, 1) := by decide +kernel
theorem dX5_init_6 : decode cX5_init 6 = .ok (.anewarray 9, 3) := by decide +kernel
theorem dX5_init_9 : decode cX5_init 9 = .ok (.putfield 11, 3) := by decide +kernel
theorem dX5_init_12 : decode cX5_init 12 = .ok (.iconst 0, 1) := by decide +kernel
theorem dX5_init_13 : decode cX5_init 13 = .ok (.istore_n 1, 1) := by decide +kernel
theorem dX5_init_14 : decode cX5_init 14 = .ok (.iload_n 1, 1) := by decide +kernel
theorem dX5_init_15 : decode cX5_init 15 = .ok (.iconst 4, 1) := by decide +kernel
theorem dX5_init_16 : decode cX5_init 16 = .ok (.if_icmp .ge 22, 3) := by decide +kernel
theorem dX5_init_19 : decode cX5_init 19 = .ok (.aload_n 0, 1) := by decide +kernel
theorem dX5_init_20 : decode cX5_init 20 = .ok (.getfield 11, 3) := by decide +kernel
theorem dX5_init_23 : decode cX5_init 23 = .ok (.iload_n 1, 1) := by decide +kernel
theorem dX5_init_24 : decode cX5_init 24 = .ok (.new 9, 3) := by decide +kernel
theorem dX5_init_27 : decode cX5_init 27 = .ok (.dup, 1) := by decide +kernel
theorem dX5_init_28 : decode cX5_init 28 = .ok (.invokespecial 17, 3) := by decide +kernel
theorem dX5_init_31 : decode cX5_init 31 = .ok (.aastore, 1) := by decide +kernel
theorem dX5_init_32 : decode cX5_init 32 = .ok (.iinc 1 1, 3) := by decide +kernel
theorem dX5_init_35 : decode cX5_init 35 = .ok (.goto (-21), 3) := by decide +kernel
theorem dX5_init_38 : decode cX5_init 38 = .ok (.return_, 1) := by decide +kernel
theorem dX5_keep_0 : decode cX5_keep 0 = .ok (.aload_n 0, 1) := by decide +kernel
theorem dX5_keep_1 : decode cX5_keep 1 = .ok (.getfield 11, 3) := by decide +kernel
theorem dX5_keep_4 : decode cX5_keep 4 = .ok (.aload_n 0, 1) := by decide +kernel
theorem dX5_keep_5 : decode cX5_keep 5 = .ok (.getfield 18, 3) := by decide +kernel
theorem dX5_keep_8 : decode cX5_keep 8 = .ok (.aaload, 1) := by decide +kernel
theorem dX5_keep_9 : decode cX5_keep 9 = .ok (.aload_n 1, 1) := by decide +kernel
theorem dX5_keep_10 : decode cX5_keep 10 = .ok (.invokevirtual 22, 3) := by decide +kernel
theorem dX5_keep_13 : decode cX5_keep 13 = .ok (.aload_n 0, 1) := by decide +kernel
theorem dX5_keep_14 : decode cX5_keep 14 = .ok (.aload_n 0, 1) := by decide +kernel
theorem dX5_keep_15 : decode cX5_keep 15 = .ok (.getfield 18, 3) := by decide +kernel
theorem dX5_keep_18 : decode cX5_keep 18 = .ok (.iconst 1, 1) := by decide +kernel
theorem dX5_keep_19 : decode cX5_keep 19 = .ok (.iadd, 1) := by decide +kernel
theorem dX5_keep_20 : decode cX5_keep 20 = .ok (.iconst 4, 1) := by decide +kernel
theorem dX5_keep_21 : decode cX5_keep 21 = .ok (.irem, 1) := by decide +kernel
theorem dX5_keep_22 : decode cX5_keep 22 = .ok (.putfield 18, 3) := by decide +kernel
theorem dX5_keep_25 : decode cX5_keep 25 = .ok (.aload_n 0, 1) := by decide +kernel
theorem dX5_keep_26 : decode cX5_keep 26 = .ok (.aload_n 0, 1) := by decide +kernel
theorem dX5_keep_27 : decode cX5_keep 27 = .ok (.getfield 26, 3) := by decide +kernel
theorem dX5_keep_30 : decode cX5_keep 30 = .ok (.iconst 1, 1) := by decide +kernel
theorem dX5_keep_31 : decode cX5_keep 31 = .ok (.iadd, 1) := by decide +kernel
theorem dX5_keep_32 : decode cX5_keep 32 = .ok (.iconst 4, 1) := by decide +kernel
theorem dX5_keep_33 : decode cX5_keep 33 = .ok (.invokestatic 29, 3) := by decide +kernel
theorem dX5_keep_36 : decode cX5_keep 36 = .ok (.putfield 26, 3) := by decide +kernel
theorem dX5_keep_39 : decode cX5_keep 39 = .ok (.return_, 1) := by decide +kernel
theorem dX5_restoreTo_0 : decode cX5_restoreTo 0 = .ok (.aload_n 0, 1) := by decide +kernel
theorem dX5_restoreTo_1 : decode cX5_restoreTo 1 = .ok (.aload_n 0, 1) := by decide +kernel
theorem dX5_restoreTo_2 : decode cX5_restoreTo 2 = .ok (.getfield 18, 3) := by decide +kernel
theorem dX5_restoreTo_5 : decode cX5_restoreTo 5 = .ok (.iconst 4, 1) := by decide +kernel
theorem dX5_restoreTo_6 : decode cX5_restoreTo 6 = .ok (.iadd, 1) := by decide +kernel
theorem dX5_restoreTo_7 : decode cX5_restoreTo 7 = .ok (.iconst 1, 1) := by decide +kernel
theorem dX5_restoreTo_8 : decode cX5_restoreTo 8 = .ok (.isub, 1) := by decide +kernel
theorem dX5_restoreTo_9 : decode cX5_restoreTo 9 = .ok (.iconst 4, 1) := by decide +kernel
theorem dX5_restoreTo_10 : decode cX5_restoreTo 10 = .ok (.irem, 1) := by decide +kernel
theorem dX5_restoreTo_11 : decode cX5_restoreTo 11 = .ok (.putfield 18, 3) := by decide +kernel
theorem dX5_restoreTo_14 : decode cX5_restoreTo 14 = .ok (.aload_n 1, 1) := by decide +kernel
theorem dX5_restoreTo_15 : decode cX5_restoreTo 15 = .ok (.aload_n 0, 1) := by decide +kernel
theorem dX5_restoreTo_16 : decode cX5_restoreTo 16 = .ok (.getfield 11, 3) := by decide +kernel
theorem dX5_restoreTo_19 : decode cX5_restoreTo 19 = .ok (.aload_n 0, 1) := by decide +kernel
theorem dX5_restoreTo_20 : decode cX5_restoreTo 20 = .ok (.getfield 18, 3) := by decide +kernel
theorem dX5_restoreTo_23 : decode cX5_restoreTo 23 = .ok (.aaload, 1) := by decide +kernel
theorem dX5_restoreTo_24 : decode cX5_restoreTo 24 = .ok (.invokevirtual 22, 3) := by decide +kernel
theorem dX5_restoreTo_27 : decode cX5_restoreTo 27 = .ok (.aload_n 0, 1) := by decide +kernel
theorem dX5_restoreTo_28 : decode cX5_restoreTo 28 = .ok (.dup, 1) := by decide +kernel
theorem dX5_restoreTo_29 : decode cX5_restoreTo 29 = .ok (.getfield 26, 3) := by decide +kernel
theorem dX5_restoreTo_32 : decode cX5_restoreTo 32 = .ok (.iconst 1, 1) := by decide +kernel
theorem dX5_restoreTo_33 : decode cX5_restoreTo 33 = .ok (.isub, 1) := by decide +kernel
theorem dX5_restoreTo_34 : decode cX5_restoreTo 34 = .ok (.putfield 26, 3) := by decide +kernel
theorem dX5_restoreTo_37 : decode cX5_restoreTo 37 = .ok (.aload_n 0, 1) := by decide +kernel
theorem dX5_restoreTo_38 : decode cX5_restoreTo 38 = .ok (.getfield 26, 3) := by decide +kernel
theorem dX5_restoreTo_41 : decode cX5_restoreTo 41 = .ok (.ireturn, 1) := by decide +kernel
theorem dX6_init_0 : decode cX6_init 0 = .ok (.aload_n 0, 1) := by decide +kernel
theorem dX6_init_1 : decode cX6_init 1 = .ok (.invokespecial 3, 3) := by decide +kernel
theorem dX6_init_4 : decode cX6_init 4 = .ok (.aload_n 0, 1) := by decide +kernel
theorem dX6_init_5 : decode cX6_init 5 = .ok (.iconst 4, 1) := by decide +kernel
theorem dX6_init_6 : decode cX6_init 6 = .ok (.newarray .int, 2) := by decide +kernel
theorem dX6_init_8 : decode cX6_init 8 = .ok (.dup, 1) := by decide +kernel
theorem dX6_init_9 : decode cX6_init 9 = .ok (.iconst 0, 1) := by decide +kernel
theorem dX6_init_10 : decode cX6_init 10 = .ok (.iconst 3, 1) := by decide +kernel
theorem dX6_init_11 : decode cX6_init 11 = .ok (.iastore, 1) := by decide +kernel
theorem dX6_init_12 : decode cX6_init 12 = .ok (.dup, 1) := by decide +kernel
theorem dX6_init_13 : decode cX6_init 13 = .ok (.iconst 1, 1) := by decide +kernel
theorem dX6_init_14 : decode cX6_init 14 = .ok (.iconst 2, 1) := by decide +kernel
theorem dX6_init_15 : decode cX6_init 15 = .ok (.iastore, 1) := by decide +kernel
theorem dX6_init_16 : decode cX6_init 16 = .ok (.dup, 1) := by decide +kernel
theorem dX6_init_17 : decode cX6_init 17 = .ok (.iconst 2, 1) := by decide +kernel
theorem dX6_init_18 : decode cX6_init 18 = .ok (.iconst 2, 1) := by decide +kernel
theorem dX6_init_19 : decode cX6_init 19 = .ok (.iastore, 1) := by decide +kernel
theorem dX6_init_20 : decode cX6_init 20 = .ok (.dup, 1) := by decide +kernel
theorem dX6_init_21 : decode cX6_init 21 = .ok (.iconst 3, 1) := by decide +kernel
theorem dX6_init_22 : decode cX6_init 22 = .ok (.bipush 8, 2) := by decide +kernel
theorem dX6_init_24 : decode cX6_init 24 = .ok (.iastore, 1) := by decide +kernel
theorem dX6_init_25 : decode cX6_init 25 = .ok (.putfield 9, 3) := by decide +kernel
theorem dX6_init_28 : decode cX6_init 28 = .ok (.aload_n 0, 1) := by decide +kernel
theorem dX6_init_29 : decode cX6_init 29 = .ok (.bipush 8, 2) := by decide +kernel
theorem dX6_init_31 : decode cX6_init 31 = .ok (.anewarray 15, 3) := by decide +kernel
theorem dX6_init_34 : decode cX6_init 34 = .ok (.putfield 17, 3) := by decide +kernel
theorem dX6_init_37 : decode cX6_init 37 = .ok (.aload_n 0, 1) := by decide +kernel
theorem dX6_init_38 : decode cX6_init 38 = .ok (.new 21, 3) := by decide +kernel
theorem dX6_init_41 : decode cX6_init 41 = .ok (.dup, 1) := by decide +kernel
theorem dX6_init_42 : decode cX6_init 42 = .ok (.invokespecial 23, 3) := by decide +kernel
theorem dX6_init_45 : decode cX6_init 45 = .ok (.putfield 24, 3) := by decide +kernel
theorem dX6_init_48 : decode cX6_init 48 = .ok (.aload_n 0, 1) := by decide +kernel
theorem dX6_init_49 : decode cX6_init 49 = .ok (.bipush 16, 2) := by decide +kernel
theorem dX6_init_51 : decode cX6_init 51 = .ok (.newarray .int, 2) := by decide +kernel
theorem dX6_init_53 : decode cX6_init 53 = .ok (.putfield 28, 3) := by decide +kernel
theorem dX6_init_56 : decode cX6_init 56 = .ok (.aload_n 0, 1) := by decide +kernel
theorem dX6_init_57 : decode cX6_init 57 = .ok (.bipush 16, 2) := by decide +kernel
theorem dX6_init_59 : decode cX6_init 59 = .ok (.newarray .int, 2) := by decide +kernel
theorem dX6_init_61 : decode cX6_init 61 = .ok (.putfield 31, 3) := by decide +kernel
theorem dX6_init_64 : decode cX6_init 64 = .ok (.iconst 0, 1) := by decide +kernel
theorem dX6_init_65 : decode cX6_init 65 = .ok (.istore_n 1, 1) := by decide +kernel
theorem dX6_init_66 : decode cX6_init 66 = .ok (.iload_n 1, 1) := by decide +kernel
theorem dX6_init_67 : decode cX6_init 67 = .ok (.bipush 8, 2) := by decide +kernel
theorem dX6_init_69 : decode cX6_init 69 = .ok (.if_icmp .ge 22, 3) := by decide +kernel
theorem dX6_init_72 : decode cX6_init 72 = .ok (.aload_n 0, 1) := by decide +kernel
theorem dX6_init_73 : decode cX6_init 73 = .ok (.getfield 17, 3) := by decide +kernel
theorem dX6_init_76 : decode cX6_init 76 = .ok (.iload_n 1, 1) := by decide +kernel
theorem dX6_init_77 : decode cX6_init 77 = .ok (.new 15, 3) := by decide +kernel
theorem dX6_init_80 : decode cX6_init 80 = .ok (.dup, 1) := by decide +kernel
theorem dX6_init_81 : decode cX6_init 81 = .ok (.invokespecial 34, 3) := by decide +kernel
theorem dX6_init_84 : decode cX6_init 84 = .ok (.aastore, 1) := by decide +kernel
theorem dX6_init_85 : decode cX6_init 85 = .ok (.iinc 1 1, 3) := by decide +kernel
theorem dX6_init_88 : decode cX6_init 88 = .ok (.goto (-22), 3) := by decide +kernel
theorem dX6_init_91 : decode cX6_init 91 = .ok (.return_, 1) := by decide +kernel
theorem dX6_copyFrom_0 : decode cX6_copyFrom 0 = .ok (.aload_n 1, 1) := by decide +kernel
theorem dX6_copyFrom_1 : decode cX6_copyFrom 1 = .ok (.getfield 9, 3) := by decide +kernel
theorem dX6_copyFrom_4 : decode cX6_copyFrom 4 = .ok (.iconst 0, 1) := by decide +kernel
theorem dX6_copyFrom_5 : decode cX6_copyFrom 5 = .ok (.aload_n 0, 1) := by decide +kernel
theorem dX6_copyFrom_6 : decode cX6_copyFrom 6 = .ok (.getfield 9, 3) := by decide +kernel
theorem dX6_copyFrom_9 : decode cX6_copyFrom 9 = .ok (.iconst 0, 1) := by decide +kernel
theorem dX6_copyFrom_10 : decode cX6_copyFrom 10 = .ok (.iconst 4, 1) := by decide +kernel
theorem dX6_copyFrom_11 : decode cX6_copyFrom 11 = .ok (.invokestatic 35, 3) := by decide +kernel
theorem dX6_copyFrom_14 : decode cX6_copyFrom 14 = .ok (.iconst 0, 1) := by decide +kernel
theorem dX6_copyFrom_15 : decode cX6_copyFrom 15 = .ok (.istore_n 2, 1) := by decide +kernel
theorem dX6_copyFrom_16 : decode cX6_copyFrom 16 = .ok (.iload_n 2, 1) := by decide +kernel
theorem dX6_copyFrom_17 : decode cX6_copyFrom 17 = .ok (.bipush 8, 2) := by decide +kernel
theorem dX6_copyFrom_19 : decode cX6_copyFrom 19 = .ok (.if_icmp .ge 24, 3) := by decide +kernel
theorem dX6_copyFrom_22 : decode cX6_copyFrom 22 = .ok (.aload_n 0, 1) := by decide +kernel
theorem dX6_copyFrom_23 : decode cX6_copyFrom 23 = .ok (.getfield 17, 3) := by decide +kernel
theorem dX6_copyFrom_26 : decode cX6_copyFrom 26 = .ok (.iload_n 2, 1) := by decide +kernel
theorem dX6_copyFrom_27 : decode cX6_copyFrom 27 = .ok (.aaload, 1) := by decide +kernel
theorem dX6_copyFrom_28 : decode cX6_copyFrom 28 = .ok (.aload_n 1, 1) := by decide +kernel
theorem dX6_copyFrom_29 : decode cX6_copyFrom 29 = .ok (.getfield 17, 3) := by decide +kernel
theorem dX6_copyFrom_32 : decode cX6_copyFrom 32 = .ok (.iload_n 2, 1) := by decide +kernel
theorem dX6_copyFrom_33 : decode cX6_copyFrom 33 = .ok (.aaload, 1) := by decide +kernel
theorem dX6_copyFrom_34 : decode cX6_copyFrom 34 = .ok (.invokevirtual 41, 3) := by decide +kernel
theorem dX6_copyFrom_37 : decode cX6_copyFrom 37 = .ok (.iinc 2 1, 3) := by decide +kernel
theorem dX6_copyFrom_40 : decode cX6_copyFrom 40 = .ok (.goto (-24), 3) := by decide +kernel
theorem dX6_copyFrom_43 : decode cX6_copyFrom 43 = .ok (.aload_n 0, 1) := by decide +kernel
theorem dX6_copyFrom_44 : decode cX6_copyFrom 44 = .ok (.getfield 24, 3) := by decide +kernel
theorem dX6_copyFrom_47 : decode cX6_copyFrom 47 = .ok (.aload_n 1, 1) := by decide +kernel
theorem dX6_copyFrom_48 : decode cX6_copyFrom 48 = .ok (.getfield 24, 3) := by decide +kernel
theorem dX6_copyFrom_51 : decode cX6_copyFrom 51 = .ok (.invokevirtual 45, 3) := by decide +kernel
theorem dX6_copyFrom_54 : decode cX6_copyFrom 54 = .ok (.aload_n 1, 1) := by decide +kernel
theorem dX6_copyFrom_55 : decode cX6_copyFrom 55 = .ok (.getfield 28, 3) := by decide +kernel
theorem dX6_copyFrom_58 : decode cX6_copyFrom 58 = .ok (.iconst 0, 1) := by decide +kernel
theorem dX6_copyFrom_59 : decode cX6_copyFrom 59 = .ok (.aload_n 0, 1) := by decide +kernel
theorem dX6_copyFrom_60 : decode cX6_copyFrom 60 = .ok (.getfield 28, 3) := by decide +kernel
theorem dX6_copyFrom_63 : decode cX6_copyFrom 63 = .ok (.iconst 0, 1) := by decide +kernel
theorem dX6_copyFrom_64 : decode cX6_copyFrom 64 = .ok (.bipush 16, 2) := by decide +kernel
theorem dX6_copyFrom_66 : decode cX6_copyFrom 66 = .ok (.invokestatic 35, 3) := by decide +kernel
theorem dX6_copyFrom_69 : decode cX6_copyFrom 69 = .ok (.aload_n 0, 1) := by decide +kernel
theorem dX6_copyFrom_70 : decode cX6_copyFrom 70 = .ok (.aload_n 1, 1) := by decide +kernel
theorem dX6_copyFrom_71 : decode cX6_copyFrom 71 = .ok (.getfield 48, 3) := by decide +kernel
theorem dX6_copyFrom_74 : decode cX6_copyFrom 74 = .ok (.putfield 48, 3) := by decide +kernel
theorem dX6_copyFrom_77 : decode cX6_copyFrom 77 = .ok (.aload_n 0, 1) := by decide +kernel
theorem dX6_copyFrom_78 : decode cX6_copyFrom 78 = .ok (.aload_n 1, 1) := by decide +kernel
theorem dX6_copyFrom_79 : decode cX6_copyFrom 79 = .ok (.getfield 52, 3) := by decide +kernel
theorem dX6_copyFrom_82 : decode cX6_copyFrom 82 = .ok (.putfield 52, 3) := by decide +kernel
theorem dX6_copyFrom_85 : decode cX6_copyFrom 85 = .ok (.return_, 1) := by decide +kernel
theorem dX6_isSubscriber_0 : decode cX6_isSubscriber 0 = .ok (.iload_n 1, 1) := by decide +kernel
theorem dX6_isSubscriber_1 : decode cX6_isSubscriber 1 = .ok (.aload_n 0, 1) := by decide +kernel
theorem dX6_isSubscriber_2 : decode cX6_isSubscriber 2 = .ok (.getfield 48, 3) := by decide +kernel
theorem dX6_isSubscriber_5 : decode cX6_isSubscriber 5 = .ok (.invokestatic 55, 3) := by decide +kernel
theorem dX6_isSubscriber_8 : decode cX6_isSubscriber 8 = .ok (.ireturn, 1) := by decide +kernel
theorem dX6_against_0 : decode cX6_against 0 = .ok (.iload_n 1, 1) := by decide +kernel
theorem dX6_against_1 : decode cX6_against 1 = .ok (.tableswitch 106 0 7 #[47, 56, 63, 69, 77, 86, 93, 99], 47) := by decide +kernel
theorem dX6_against_48 : decode cX6_against 48 = .ok (.aload_n 0, 1) := by decide +kernel
theorem dX6_against_49 : decode cX6_against 49 = .ok (.iload_n 2, 1) := by decide +kernel
theorem dX6_against_50 : decode cX6_against 50 = .ok (.iload_n 3, 1) := by decide +kernel
theorem dX6_against_51 : decode cX6_against 51 = .ok (.iload 4, 2) := by decide +kernel
theorem dX6_against_53 : decode cX6_against 53 = .ok (.invokevirtual 59, 3) := by decide +kernel
theorem dX6_against_56 : decode cX6_against 56 = .ok (.ireturn, 1) := by decide +kernel
theorem dX6_against_57 : decode cX6_against 57 = .ok (.aload_n 0, 1) := by decide +kernel
theorem dX6_against_58 : decode cX6_against 58 = .ok (.iload_n 2, 1) := by decide +kernel
theorem dX6_against_59 : decode cX6_against 59 = .ok (.iload_n 3, 1) := by decide +kernel
theorem dX6_against_60 : decode cX6_against 60 = .ok (.invokevirtual 63, 3) := by decide +kernel
theorem dX6_against_63 : decode cX6_against 63 = .ok (.ireturn, 1) := by decide +kernel
theorem dX6_against_64 : decode cX6_against 64 = .ok (.aload_n 0, 1) := by decide +kernel
theorem dX6_against_65 : decode cX6_against 65 = .ok (.iload_n 2, 1) := by decide +kernel
theorem dX6_against_66 : decode cX6_against 66 = .ok (.invokevirtual 67, 3) := by decide +kernel
theorem dX6_against_69 : decode cX6_against 69 = .ok (.ireturn, 1) := by decide +kernel
theorem dX6_against_70 : decode cX6_against 70 = .ok (.aload_n 0, 1) := by decide +kernel
theorem dX6_against_71 : decode cX6_against 71 = .ok (.iload_n 2, 1) := by decide +kernel
theorem dX6_against_72 : decode cX6_against 72 = .ok (.iload_n 3, 1) := by decide +kernel
theorem dX6_against_73 : decode cX6_against 73 = .ok (.iconst 0, 1) := by decide +kernel
theorem dX6_against_74 : decode cX6_against 74 = .ok (.invokevirtual 71, 3) := by decide +kernel
theorem dX6_against_77 : decode cX6_against 77 = .ok (.ireturn, 1) := by decide +kernel
theorem dX6_against_78 : decode cX6_against 78 = .ok (.aload_n 0, 1) := by decide +kernel
theorem dX6_against_79 : decode cX6_against 79 = .ok (.iload_n 2, 1) := by decide +kernel
theorem dX6_against_80 : decode cX6_against 80 = .ok (.iload_n 3, 1) := by decide +kernel
theorem dX6_against_81 : decode cX6_against 81 = .ok (.iload 4, 2) := by decide +kernel
theorem dX6_against_83 : decode cX6_against 83 = .ok (.invokevirtual 71, 3) := by decide +kernel
theorem dX6_against_86 : decode cX6_against 86 = .ok (.ireturn, 1) := by decide +kernel
theorem dX6_against_87 : decode cX6_against 87 = .ok (.aload_n 0, 1) := by decide +kernel
theorem dX6_against_88 : decode cX6_against 88 = .ok (.iload_n 2, 1) := by decide +kernel
theorem dX6_against_89 : decode cX6_against 89 = .ok (.iload_n 3, 1) := by decide +kernel
theorem dX6_against_90 : decode cX6_against 90 = .ok (.invokevirtual 74, 3) := by decide +kernel
theorem dX6_against_93 : decode cX6_against 93 = .ok (.ireturn, 1) := by decide +kernel
theorem dX6_against_94 : decode cX6_against 94 = .ok (.aload_n 0, 1) := by decide +kernel
theorem dX6_against_95 : decode cX6_against 95 = .ok (.iload_n 2, 1) := by decide +kernel
theorem dX6_against_96 : decode cX6_against 96 = .ok (.invokevirtual 77, 3) := by decide +kernel
theorem dX6_against_99 : decode cX6_against 99 = .ok (.ireturn, 1) := by decide +kernel
theorem dX6_against_100 : decode cX6_against 100 = .ok (.aload_n 0, 1) := by decide +kernel
theorem dX6_against_101 : decode cX6_against 101 = .ok (.iload_n 2, 1) := by decide +kernel
theorem dX6_against_102 : decode cX6_against 102 = .ok (.iload_n 3, 1) := by decide +kernel
theorem dX6_against_103 : decode cX6_against 103 = .ok (.invokevirtual 80, 3) := by decide +kernel
theorem dX6_against_106 : decode cX6_against 106 = .ok (.ireturn, 1) := by decide +kernel
theorem dX6_against_107 : decode cX6_against 107 = .ok (.iconst 2, 1) := by decide +kernel
theorem dX6_against_108 : decode cX6_against 108 = .ok (.ireturn, 1) := by decide +kernel
theorem dX6_perform_0 : decode cX6_perform 0 = .ok (.iload_n 1, 1) := by decide +kernel
theorem dX6_perform_1 : decode cX6_perform 1 = .ok (.tableswitch 126 0 7 #[47, 56, 71, 85, 93, 102, 109, 115], 47) := by decide +kernel
theorem dX6_perform_48 : decode cX6_perform 48 = .ok (.aload_n 0, 1) := by decide +kernel
theorem dX6_perform_49 : decode cX6_perform 49 = .ok (.iload_n 2, 1) := by decide +kernel
theorem dX6_perform_50 : decode cX6_perform 50 = .ok (.iload_n 3, 1) := by decide +kernel
theorem dX6_perform_51 : decode cX6_perform 51 = .ok (.iload 4, 2) := by decide +kernel
theorem dX6_perform_53 : decode cX6_perform 53 = .ok (.invokevirtual 83, 3) := by decide +kernel
theorem dX6_perform_56 : decode cX6_perform 56 = .ok (.ireturn, 1) := by decide +kernel
theorem dX6_perform_57 : decode cX6_perform 57 = .ok (.aload_n 0, 1) := by decide +kernel
theorem dX6_perform_58 : decode cX6_perform 58 = .ok (.getfield 17, 3) := by decide +kernel
theorem dX6_perform_61 : decode cX6_perform 61 = .ok (.iload_n 2, 1) := by decide +kernel
theorem dX6_perform_62 : decode cX6_perform 62 = .ok (.aaload, 1) := by decide +kernel
theorem dX6_perform_63 : decode cX6_perform 63 = .ok (.iload_n 3, 1) := by decide +kernel
theorem dX6_perform_64 : decode cX6_perform 64 = .ok (.aload_n 0, 1) := by decide +kernel
theorem dX6_perform_65 : decode cX6_perform 65 = .ok (.getfield 52, 3) := by decide +kernel
theorem dX6_perform_68 : decode cX6_perform 68 = .ok (.invokevirtual 86, 3) := by decide +kernel
theorem dX6_perform_71 : decode cX6_perform 71 = .ok (.ireturn, 1) := by decide +kernel
theorem dX6_perform_72 : decode cX6_perform 72 = .ok (.aload_n 0, 1) := by decide +kernel
theorem dX6_perform_73 : decode cX6_perform 73 = .ok (.getfield 17, 3) := by decide +kernel
theorem dX6_perform_76 : decode cX6_perform 76 = .ok (.iload_n 2, 1) := by decide +kernel
theorem dX6_perform_77 : decode cX6_perform 77 = .ok (.aaload, 1) := by decide +kernel
theorem dX6_perform_78 : decode cX6_perform 78 = .ok (.aload_n 0, 1) := by decide +kernel
theorem dX6_perform_79 : decode cX6_perform 79 = .ok (.getfield 52, 3) := by decide +kernel
theorem dX6_perform_82 : decode cX6_perform 82 = .ok (.invokevirtual 89, 3) := by decide +kernel
theorem dX6_perform_85 : decode cX6_perform 85 = .ok (.ireturn, 1) := by decide +kernel
theorem dX6_perform_86 : decode cX6_perform 86 = .ok (.aload_n 0, 1) := by decide +kernel
theorem dX6_perform_87 : decode cX6_perform 87 = .ok (.iload_n 2, 1) := by decide +kernel
theorem dX6_perform_88 : decode cX6_perform 88 = .ok (.iload_n 3, 1) := by decide +kernel
theorem dX6_perform_89 : decode cX6_perform 89 = .ok (.iconst 0, 1) := by decide +kernel
theorem dX6_perform_90 : decode cX6_perform 90 = .ok (.invokevirtual 92, 3) := by decide +kernel
theorem dX6_perform_93 : decode cX6_perform 93 = .ok (.ireturn, 1) := by decide +kernel
theorem dX6_perform_94 : decode cX6_perform 94 = .ok (.aload_n 0, 1) := by decide +kernel
theorem dX6_perform_95 : decode cX6_perform 95 = .ok (.iload_n 2, 1) := by decide +kernel
theorem dX6_perform_96 : decode cX6_perform 96 = .ok (.iload_n 3, 1) := by decide +kernel
theorem dX6_perform_97 : decode cX6_perform 97 = .ok (.iload 4, 2) := by decide +kernel
theorem dX6_perform_99 : decode cX6_perform 99 = .ok (.invokevirtual 92, 3) := by decide +kernel
theorem dX6_perform_102 : decode cX6_perform 102 = .ok (.ireturn, 1) := by decide +kernel
theorem dX6_perform_103 : decode cX6_perform 103 = .ok (.aload_n 0, 1) := by decide +kernel
theorem dX6_perform_104 : decode cX6_perform 104 = .ok (.iload_n 2, 1) := by decide +kernel
theorem dX6_perform_105 : decode cX6_perform 105 = .ok (.iload_n 3, 1) := by decide +kernel
theorem dX6_perform_106 : decode cX6_perform 106 = .ok (.invokevirtual 95, 3) := by decide +kernel
theorem dX6_perform_109 : decode cX6_perform 109 = .ok (.ireturn, 1) := by decide +kernel
theorem dX6_perform_110 : decode cX6_perform 110 = .ok (.aload_n 0, 1) := by decide +kernel
theorem dX6_perform_111 : decode cX6_perform 111 = .ok (.iload_n 2, 1) := by decide +kernel
theorem dX6_perform_112 : decode cX6_perform 112 = .ok (.invokevirtual 98, 3) := by decide +kernel
theorem dX6_perform_115 : decode cX6_perform 115 = .ok (.ireturn, 1) := by decide +kernel
theorem dX6_perform_116 : decode cX6_perform 116 = .ok (.aload_n 0, 1) := by decide +kernel
theorem dX6_perform_117 : decode cX6_perform 117 = .ok (.getfield 17, 3) := by decide +kernel
theorem dX6_perform_120 : decode cX6_perform 120 = .ok (.iload_n 2, 1) := by decide +kernel
theorem dX6_perform_121 : decode cX6_perform 121 = .ok (.aaload, 1) := by decide +kernel
theorem dX6_perform_122 : decode cX6_perform 122 = .ok (.iload_n 3, 1) := by decide +kernel
theorem dX6_perform_123 : decode cX6_perform 123 = .ok (.invokevirtual 101, 3) := by decide +kernel
theorem dX6_perform_126 : decode cX6_perform 126 = .ok (.ireturn, 1) := by decide +kernel
theorem dX6_perform_127 : decode cX6_perform 127 = .ok (.iconst (-1), 1) := by decide +kernel
theorem dX6_perform_128 : decode cX6_perform 128 = .ok (.ireturn, 1) := by decide +kernel
theorem dX6_againstJoining_0 : decode cX6_againstJoining 0 = .ok (.iload_n 3, 1) := by decide +kernel
theorem dX6_againstJoining_1 : decode cX6_againstJoining 1 = .ok (.bipush 16, 2) := by decide +kernel
theorem dX6_againstJoining_3 : decode cX6_againstJoining 3 = .ok (.invokestatic 55, 3) := by decide +kernel
theorem dX6_againstJoining_6 : decode cX6_againstJoining 6 = .ok (.ifCond .ne 5, 3) := by decide +kernel
theorem dX6_againstJoining_9 : decode cX6_againstJoining 9 = .ok (.iconst 1, 1) := by decide +kernel
theorem dX6_againstJoining_10 : decode cX6_againstJoining 10 = .ok (.ireturn, 1) := by decide +kernel
theorem dX6_againstJoining_11 : decode cX6_againstJoining 11 = .ok (.iload_n 1, 1) := by decide +kernel
theorem dX6_againstJoining_12 : decode cX6_againstJoining 12 = .ok (.iconst 3, 1) := by decide +kernel
theorem dX6_againstJoining_13 : decode cX6_againstJoining 13 = .ok (.invokestatic 55, 3) := by decide +kernel
theorem dX6_againstJoining_16 : decode cX6_againstJoining 16 = .ok (.ifCond .eq 11, 3) := by decide +kernel
theorem dX6_againstJoining_19 : decode cX6_againstJoining 19 = .ok (.iload_n 2, 1) := by decide +kernel
theorem dX6_againstJoining_20 : decode cX6_againstJoining 20 = .ok (.iconst 3, 1) := by decide +kernel
theorem dX6_againstJoining_21 : decode cX6_againstJoining 21 = .ok (.invokestatic 55, 3) := by decide +kernel
theorem dX6_againstJoining_24 : decode cX6_againstJoining 24 = .ok (.ifCond .ne 5, 3) := by decide +kernel
theorem dX6_againstJoining_27 : decode cX6_againstJoining 27 = .ok (.iconst 2, 1) := by decide +kernel
theorem dX6_againstJoining_28 : decode cX6_againstJoining 28 = .ok (.ireturn, 1) := by decide +kernel
theorem dX6_againstJoining_29 : decode cX6_againstJoining 29 = .ok (.aload_n 0, 1) := by decide +kernel
theorem dX6_againstJoining_30 : decode cX6_againstJoining 30 = .ok (.getfield 48, 3) := by decide +kernel
theorem dX6_againstJoining_33 : decode cX6_againstJoining 33 = .ok (.bipush 8, 2) := by decide +kernel
theorem dX6_againstJoining_35 : decode cX6_againstJoining 35 = .ok (.if_icmp .ge 7, 3) := by decide +kernel
theorem dX6_againstJoining_38 : decode cX6_againstJoining 38 = .ok (.iconst 0, 1) := by decide +kernel
theorem dX6_againstJoining_39 : decode cX6_againstJoining 39 = .ok (.goto 4, 3) := by decide +kernel
theorem dX6_againstJoining_42 : decode cX6_againstJoining 42 = .ok (.iconst 3, 1) := by decide +kernel
theorem dX6_againstJoining_43 : decode cX6_againstJoining 43 = .ok (.ireturn, 1) := by decide +kernel
theorem dX6_join_0 : decode cX6_join 0 = .ok (.aload_n 0, 1) := by decide +kernel
theorem dX6_join_1 : decode cX6_join 1 = .ok (.getfield 48, 3) := by decide +kernel
theorem dX6_join_4 : decode cX6_join 4 = .ok (.istore 4, 2) := by decide +kernel
theorem dX6_join_6 : decode cX6_join 6 = .ok (.aload_n 0, 1) := by decide +kernel
theorem dX6_join_7 : decode cX6_join 7 = .ok (.getfield 17, 3) := by decide +kernel
theorem dX6_join_10 : decode cX6_join 10 = .ok (.iload 4, 2) := by decide +kernel
theorem dX6_join_12 : decode cX6_join 12 = .ok (.aaload, 1) := by decide +kernel
theorem dX6_join_13 : decode cX6_join 13 = .ok (.iload_n 1, 1) := by decide +kernel
theorem dX6_join_14 : decode cX6_join 14 = .ok (.iload_n 2, 1) := by decide +kernel
theorem dX6_join_15 : decode cX6_join 15 = .ok (.iload_n 3, 1) := by decide +kernel
theorem dX6_join_16 : decode cX6_join 16 = .ok (.aload_n 0, 1) := by decide +kernel
theorem dX6_join_17 : decode cX6_join 17 = .ok (.getfield 52, 3) := by decide +kernel
theorem dX6_join_20 : decode cX6_join 20 = .ok (.invokevirtual 104, 3) := by decide +kernel
theorem dX6_join_23 : decode cX6_join 23 = .ok (.aload_n 0, 1) := by decide +kernel
theorem dX6_join_24 : decode cX6_join 24 = .ok (.dup, 1) := by decide +kernel
theorem dX6_join_25 : decode cX6_join 25 = .ok (.getfield 48, 3) := by decide +kernel
theorem dX6_join_28 : decode cX6_join 28 = .ok (.iconst 1, 1) := by decide +kernel
theorem dX6_join_29 : decode cX6_join 29 = .ok (.iadd, 1) := by decide +kernel
theorem dX6_join_30 : decode cX6_join 30 = .ok (.putfield 48, 3) := by decide +kernel
theorem dX6_join_33 : decode cX6_join 33 = .ok (.iload 4, 2) := by decide +kernel
theorem dX6_join_35 : decode cX6_join 35 = .ok (.ireturn, 1) := by decide +kernel
theorem dX6_againstMoving_0 : decode cX6_againstMoving 0 = .ok (.aload_n 0, 1) := by decide +kernel
theorem dX6_againstMoving_1 : decode cX6_againstMoving 1 = .ok (.iload_n 1, 1) := by decide +kernel
theorem dX6_againstMoving_2 : decode cX6_againstMoving 2 = .ok (.invokevirtual 108, 3) := by decide +kernel
theorem dX6_againstMoving_5 : decode cX6_againstMoving 5 = .ok (.ifCond .eq 12, 3) := by decide +kernel
theorem dX6_againstMoving_8 : decode cX6_againstMoving 8 = .ok (.iload_n 2, 1) := by decide +kernel
theorem dX6_againstMoving_9 : decode cX6_againstMoving 9 = .ok (.bipush 16, 2) := by decide +kernel
theorem dX6_againstMoving_11 : decode cX6_againstMoving 11 = .ok (.invokestatic 55, 3) := by decide +kernel
theorem dX6_againstMoving_14 : decode cX6_againstMoving 14 = .ok (.ifCond .ne 5, 3) := by decide +kernel
theorem dX6_againstMoving_17 : decode cX6_againstMoving 17 = .ok (.iconst 1, 1) := by decide +kernel
theorem dX6_againstMoving_18 : decode cX6_againstMoving 18 = .ok (.ireturn, 1) := by decide +kernel
theorem dX6_againstMoving_19 : decode cX6_againstMoving 19 = .ok (.aload_n 0, 1) := by decide +kernel
theorem dX6_againstMoving_20 : decode cX6_againstMoving 20 = .ok (.getfield 17, 3) := by decide +kernel
theorem dX6_againstMoving_23 : decode cX6_againstMoving 23 = .ok (.iload_n 1, 1) := by decide +kernel
theorem dX6_againstMoving_24 : decode cX6_againstMoving 24 = .ok (.aaload, 1) := by decide +kernel
theorem dX6_againstMoving_25 : decode cX6_againstMoving 25 = .ok (.iload_n 2, 1) := by decide +kernel
theorem dX6_againstMoving_26 : decode cX6_againstMoving 26 = .ok (.invokevirtual 112, 3) := by decide +kernel
theorem dX6_againstMoving_29 : decode cX6_againstMoving 29 = .ok (.ifCond .eq 7, 3) := by decide +kernel
theorem dX6_againstMoving_32 : decode cX6_againstMoving 32 = .ok (.iconst 0, 1) := by decide +kernel
theorem dX6_againstMoving_33 : decode cX6_againstMoving 33 = .ok (.goto 4, 3) := by decide +kernel
theorem dX6_againstMoving_36 : decode cX6_againstMoving 36 = .ok (.iconst 3, 1) := by decide +kernel
theorem dX6_againstMoving_37 : decode cX6_againstMoving 37 = .ok (.ireturn, 1) := by decide +kernel
theorem dX6_againstLeaving_0 : decode cX6_againstLeaving 0 = .ok (.aload_n 0, 1) := by decide +kernel
theorem dX6_againstLeaving_1 : decode cX6_againstLeaving 1 = .ok (.iload_n 1, 1) := by decide +kernel
theorem dX6_againstLeaving_2 : decode cX6_againstLeaving 2 = .ok (.invokevirtual 108, 3) := by decide +kernel
theorem dX6_againstLeaving_5 : decode cX6_againstLeaving 5 = .ok (.ifCond .ne 5, 3) := by decide +kernel
theorem dX6_againstLeaving_8 : decode cX6_againstLeaving 8 = .ok (.iconst 1, 1) := by decide +kernel
theorem dX6_againstLeaving_9 : decode cX6_againstLeaving 9 = .ok (.ireturn, 1) := by decide +kernel
theorem dX6_againstLeaving_10 : decode cX6_againstLeaving 10 = .ok (.aload_n 0, 1) := by decide +kernel
theorem dX6_againstLeaving_11 : decode cX6_againstLeaving 11 = .ok (.getfield 17, 3) := by decide +kernel
theorem dX6_againstLeaving_14 : decode cX6_againstLeaving 14 = .ok (.iload_n 1, 1) := by decide +kernel
theorem dX6_againstLeaving_15 : decode cX6_againstLeaving 15 = .ok (.aaload, 1) := by decide +kernel
theorem dX6_againstLeaving_16 : decode cX6_againstLeaving 16 = .ok (.getfield 115, 3) := by decide +kernel
theorem dX6_againstLeaving_19 : decode cX6_againstLeaving 19 = .ok (.ifCond .eq 7, 3) := by decide +kernel
theorem dX6_againstLeaving_22 : decode cX6_againstLeaving 22 = .ok (.iconst 0, 1) := by decide +kernel
theorem dX6_againstLeaving_23 : decode cX6_againstLeaving 23 = .ok (.goto 4, 3) := by decide +kernel
theorem dX6_againstLeaving_26 : decode cX6_againstLeaving 26 = .ok (.iconst 3, 1) := by decide +kernel
theorem dX6_againstLeaving_27 : decode cX6_againstLeaving 27 = .ok (.ireturn, 1) := by decide +kernel
theorem dX6_againstRelevelling_0 : decode cX6_againstRelevelling 0 = .ok (.aload_n 0, 1) := by decide +kernel
theorem dX6_againstRelevelling_1 : decode cX6_againstRelevelling 1 = .ok (.iload_n 1, 1) := by decide +kernel
theorem dX6_againstRelevelling_2 : decode cX6_againstRelevelling 2 = .ok (.invokevirtual 108, 3) := by decide +kernel
theorem dX6_againstRelevelling_5 : decode cX6_againstRelevelling 5 = .ok (.ifCond .ne 5, 3) := by decide +kernel
theorem dX6_againstRelevelling_8 : decode cX6_againstRelevelling 8 = .ok (.iconst 1, 1) := by decide +kernel
theorem dX6_againstRelevelling_9 : decode cX6_againstRelevelling 9 = .ok (.ireturn, 1) := by decide +kernel
theorem dX6_againstRelevelling_10 : decode cX6_againstRelevelling 10 = .ok (.iload_n 2, 1) := by decide +kernel
theorem dX6_againstRelevelling_11 : decode cX6_againstRelevelling 11 = .ok (.iconst 3, 1) := by decide +kernel
theorem dX6_againstRelevelling_12 : decode cX6_againstRelevelling 12 = .ok (.invokestatic 55, 3) := by decide +kernel
theorem dX6_againstRelevelling_15 : decode cX6_againstRelevelling 15 = .ok (.ifCond .eq 7, 3) := by decide +kernel
theorem dX6_againstRelevelling_18 : decode cX6_againstRelevelling 18 = .ok (.iconst 0, 1) := by decide +kernel
theorem dX6_againstRelevelling_19 : decode cX6_againstRelevelling 19 = .ok (.goto 4, 3) := by decide +kernel
theorem dX6_againstRelevelling_22 : decode cX6_againstRelevelling 22 = .ok (.iconst 2, 1) := by decide +kernel
theorem dX6_againstRelevelling_23 : decode cX6_againstRelevelling 23 = .ok (.ireturn, 1) := by decide +kernel
theorem dX6_againstSetting_0 : decode cX6_againstSetting 0 = .ok (.iload_n 1, 1) := by decide +kernel
theorem dX6_againstSetting_1 : decode cX6_againstSetting 1 = .ok (.iconst 4, 1) := by decide +kernel
theorem dX6_againstSetting_2 : decode cX6_againstSetting 2 = .ok (.invokestatic 55, 3) := by decide +kernel
theorem dX6_againstSetting_5 : decode cX6_againstSetting 5 = .ok (.ifCond .ne 5, 3) := by decide +kernel
theorem dX6_againstSetting_8 : decode cX6_againstSetting 8 = .ok (.iconst 2, 1) := by decide +kernel
theorem dX6_againstSetting_9 : decode cX6_againstSetting 9 = .ok (.ireturn, 1) := by decide +kernel
theorem dX6_againstSetting_10 : decode cX6_againstSetting 10 = .ok (.iload_n 2, 1) := by decide +kernel
theorem dX6_againstSetting_11 : decode cX6_againstSetting 11 = .ok (.getstatic 119, 3) := by decide +kernel
theorem dX6_againstSetting_14 : decode cX6_againstSetting 14 = .ok (.iload_n 1, 1) := by decide +kernel
theorem dX6_againstSetting_15 : decode cX6_againstSetting 15 = .ok (.iaload, 1) := by decide +kernel
theorem dX6_againstSetting_16 : decode cX6_againstSetting 16 = .ok (.if_icmp .lt 16, 3) := by decide +kernel
theorem dX6_againstSetting_19 : decode cX6_againstSetting 19 = .ok (.iload_n 2, 1) := by decide +kernel
theorem dX6_againstSetting_20 : decode cX6_againstSetting 20 = .ok (.getstatic 122, 3) := by decide +kernel
theorem dX6_againstSetting_23 : decode cX6_againstSetting 23 = .ok (.iload_n 1, 1) := by decide +kernel
theorem dX6_againstSetting_24 : decode cX6_againstSetting 24 = .ok (.iaload, 1) := by decide +kernel
theorem dX6_againstSetting_25 : decode cX6_againstSetting 25 = .ok (.if_icmp .gt 7, 3) := by decide +kernel
theorem dX6_againstSetting_28 : decode cX6_againstSetting 28 = .ok (.iconst 1, 1) := by decide +kernel
theorem dX6_againstSetting_29 : decode cX6_againstSetting 29 = .ok (.goto 4, 3) := by decide +kernel
theorem dX6_againstSetting_32 : decode cX6_againstSetting 32 = .ok (.iconst 0, 1) := by decide +kernel
theorem dX6_againstSetting_33 : decode cX6_againstSetting 33 = .ok (.istore_n 3, 1) := by decide +kernel
theorem dX6_againstSetting_34 : decode cX6_againstSetting 34 = .ok (.iload_n 3, 1) := by decide +kernel
theorem dX6_againstSetting_35 : decode cX6_againstSetting 35 = .ok (.ifCond .eq 7, 3) := by decide +kernel
theorem dX6_againstSetting_38 : decode cX6_againstSetting 38 = .ok (.iconst 0, 1) := by decide +kernel
theorem dX6_againstSetting_39 : decode cX6_againstSetting 39 = .ok (.goto 4, 3) := by decide +kernel
theorem dX6_againstSetting_42 : decode cX6_againstSetting 42 = .ok (.iconst 2, 1) := by decide +kernel
theorem dX6_againstSetting_43 : decode cX6_againstSetting 43 = .ok (.ireturn, 1) := by decide +kernel
theorem dX6_changeSetting_0 : decode cX6_changeSetting 0 = .ok (.aload_n 0, 1) := by decide +kernel
theorem dX6_changeSetting_1 : decode cX6_changeSetting 1 = .ok (.getfield 9, 3) := by decide +kernel
theorem dX6_changeSetting_4 : decode cX6_changeSetting 4 = .ok (.iload_n 1, 1) := by decide +kernel
theorem dX6_changeSetting_5 : decode cX6_changeSetting 5 = .ok (.iaload, 1) := by decide +kernel
theorem dX6_changeSetting_6 : decode cX6_changeSetting 6 = .ok (.istore_n 3, 1) := by decide +kernel
theorem dX6_changeSetting_7 : decode cX6_changeSetting 7 = .ok (.aload_n 0, 1) := by decide +kernel
theorem dX6_changeSetting_8 : decode cX6_changeSetting 8 = .ok (.getfield 9, 3) := by decide +kernel
theorem dX6_changeSetting_11 : decode cX6_changeSetting 11 = .ok (.iload_n 1, 1) := by decide +kernel
theorem dX6_changeSetting_12 : decode cX6_changeSetting 12 = .ok (.iload_n 2, 1) := by decide +kernel
theorem dX6_changeSetting_13 : decode cX6_changeSetting 13 = .ok (.iastore, 1) := by decide +kernel
theorem dX6_changeSetting_14 : decode cX6_changeSetting 14 = .ok (.iload_n 3, 1) := by decide +kernel
theorem dX6_changeSetting_15 : decode cX6_changeSetting 15 = .ok (.ireturn, 1) := by decide +kernel
theorem dX6_againstPublishing_0 : decode cX6_againstPublishing 0 = .ok (.iload_n 1, 1) := by decide +kernel
theorem dX6_againstPublishing_1 : decode cX6_againstPublishing 1 = .ok (.bipush 16, 2) := by decide +kernel
theorem dX6_againstPublishing_3 : decode cX6_againstPublishing 3 = .ok (.invokestatic 55, 3) := by decide +kernel
theorem dX6_againstPublishing_6 : decode cX6_againstPublishing 6 = .ok (.ifCond .ne 5, 3) := by decide +kernel
theorem dX6_againstPublishing_9 : decode cX6_againstPublishing 9 = .ok (.iconst 1, 1) := by decide +kernel
theorem dX6_againstPublishing_10 : decode cX6_againstPublishing 10 = .ok (.ireturn, 1) := by decide +kernel
theorem dX6_againstPublishing_11 : decode cX6_againstPublishing 11 = .ok (.iload_n 2, 1) := by decide +kernel
theorem dX6_againstPublishing_12 : decode cX6_againstPublishing 12 = .ok (.iconst 3, 1) := by decide +kernel
theorem dX6_againstPublishing_13 : decode cX6_againstPublishing 13 = .ok (.invokestatic 55, 3) := by decide +kernel
theorem dX6_againstPublishing_16 : decode cX6_againstPublishing 16 = .ok (.ifCond .eq 7, 3) := by decide +kernel
theorem dX6_againstPublishing_19 : decode cX6_againstPublishing 19 = .ok (.iload_n 3, 1) := by decide +kernel
theorem dX6_againstPublishing_20 : decode cX6_againstPublishing 20 = .ok (.ifCond .ge 5, 3) := by decide +kernel
theorem dX6_againstPublishing_23 : decode cX6_againstPublishing 23 = .ok (.iconst 2, 1) := by decide +kernel
theorem dX6_againstPublishing_24 : decode cX6_againstPublishing 24 = .ok (.ireturn, 1) := by decide +kernel
theorem dX6_againstPublishing_25 : decode cX6_againstPublishing 25 = .ok (.aload_n 0, 1) := by decide +kernel
theorem dX6_againstPublishing_26 : decode cX6_againstPublishing 26 = .ok (.getfield 24, 3) := by decide +kernel
theorem dX6_againstPublishing_29 : decode cX6_againstPublishing 29 = .ok (.getfield 125, 3) := by decide +kernel
theorem dX6_againstPublishing_32 : decode cX6_againstPublishing 32 = .ok (.bipush 60, 2) := by decide +kernel
theorem dX6_againstPublishing_34 : decode cX6_againstPublishing 34 = .ok (.if_icmp .ge 15, 3) := by decide +kernel
theorem dX6_againstPublishing_37 : decode cX6_againstPublishing 37 = .ok (.aload_n 0, 1) := by decide +kernel
theorem dX6_againstPublishing_38 : decode cX6_againstPublishing 38 = .ok (.iload_n 3, 1) := by decide +kernel
theorem dX6_againstPublishing_39 : decode cX6_againstPublishing 39 = .ok (.invokevirtual 128, 3) := by decide +kernel
theorem dX6_againstPublishing_42 : decode cX6_againstPublishing 42 = .ok (.ifCond .ne 7, 3) := by decide +kernel
theorem dX6_againstPublishing_45 : decode cX6_againstPublishing 45 = .ok (.iconst 0, 1) := by decide +kernel
theorem dX6_againstPublishing_46 : decode cX6_againstPublishing 46 = .ok (.goto 4, 3) := by decide +kernel
theorem dX6_againstPublishing_49 : decode cX6_againstPublishing 49 = .ok (.iconst 3, 1) := by decide +kernel
theorem dX6_againstPublishing_50 : decode cX6_againstPublishing 50 = .ok (.ireturn, 1) := by decide +kernel
theorem dX6_isTooLate_0 : decode cX6_isTooLate 0 = .ok (.iload_n 1, 1) := by decide +kernel
theorem dX6_isTooLate_1 : decode cX6_isTooLate 1 = .ok (.aload_n 0, 1) := by decide +kernel
theorem dX6_isTooLate_2 : decode cX6_isTooLate 2 = .ok (.getfield 9, 3) := by decide +kernel
theorem dX6_isTooLate_5 : decode cX6_isTooLate 5 = .ok (.iconst 3, 1) := by decide +kernel
theorem dX6_isTooLate_6 : decode cX6_isTooLate 6 = .ok (.iaload, 1) := by decide +kernel
theorem dX6_isTooLate_7 : decode cX6_isTooLate 7 = .ok (.if_icmp .gt 11, 3) := by decide +kernel
theorem dX6_isTooLate_10 : decode cX6_isTooLate 10 = .ok (.iload_n 1, 1) := by decide +kernel
theorem dX6_isTooLate_11 : decode cX6_isTooLate 11 = .ok (.aload_n 0, 1) := by decide +kernel
theorem dX6_isTooLate_12 : decode cX6_isTooLate 12 = .ok (.getfield 52, 3) := by decide +kernel
theorem dX6_isTooLate_15 : decode cX6_isTooLate 15 = .ok (.if_icmp .le 7, 3) := by decide +kernel
theorem dX6_isTooLate_18 : decode cX6_isTooLate 18 = .ok (.iconst 1, 1) := by decide +kernel
theorem dX6_isTooLate_19 : decode cX6_isTooLate 19 = .ok (.goto 4, 3) := by decide +kernel
theorem dX6_isTooLate_22 : decode cX6_isTooLate 22 = .ok (.iconst 0, 1) := by decide +kernel
theorem dX6_isTooLate_23 : decode cX6_isTooLate 23 = .ok (.ireturn, 1) := by decide +kernel
theorem dX6_publishEvent_0 : decode cX6_publishEvent 0 = .ok (.aload_n 0, 1) := by decide +kernel
theorem dX6_publishEvent_1 : decode cX6_publishEvent 1 = .ok (.getfield 52, 3) := by decide +kernel
theorem dX6_publishEvent_4 : decode cX6_publishEvent 4 = .ok (.iload_n 3, 1) := by decide +kernel
theorem dX6_publishEvent_5 : decode cX6_publishEvent 5 = .ok (.isub, 1) := by decide +kernel
theorem dX6_publishEvent_6 : decode cX6_publishEvent 6 = .ok (.istore 4, 2) := by decide +kernel
theorem dX6_publishEvent_8 : decode cX6_publishEvent 8 = .ok (.aload_n 0, 1) := by decide +kernel
theorem dX6_publishEvent_9 : decode cX6_publishEvent 9 = .ok (.iload_n 1, 1) := by decide +kernel
theorem dX6_publishEvent_10 : decode cX6_publishEvent 10 = .ok (.iload_n 2, 1) := by decide +kernel
theorem dX6_publishEvent_11 : decode cX6_publishEvent 11 = .ok (.iload 4, 2) := by decide +kernel
theorem dX6_publishEvent_13 : decode cX6_publishEvent 13 = .ok (.invokevirtual 131, 3) := by decide +kernel
theorem dX6_publishEvent_16 : decode cX6_publishEvent 16 = .ok (.istore 5, 2) := by decide +kernel
theorem dX6_publishEvent_18 : decode cX6_publishEvent 18 = .ok (.aload_n 0, 1) := by decide +kernel
theorem dX6_publishEvent_19 : decode cX6_publishEvent 19 = .ok (.getfield 24, 3) := by decide +kernel
theorem dX6_publishEvent_22 : decode cX6_publishEvent 22 = .ok (.iload_n 1, 1) := by decide +kernel
theorem dX6_publishEvent_23 : decode cX6_publishEvent 23 = .ok (.iload_n 2, 1) := by decide +kernel
theorem dX6_publishEvent_24 : decode cX6_publishEvent 24 = .ok (.iload 4, 2) := by decide +kernel
theorem dX6_publishEvent_26 : decode cX6_publishEvent 26 = .ok (.aload_n 0, 1) := by decide +kernel
theorem dX6_publishEvent_27 : decode cX6_publishEvent 27 = .ok (.getfield 52, 3) := by decide +kernel
theorem dX6_publishEvent_30 : decode cX6_publishEvent 30 = .ok (.iload 5, 2) := by decide +kernel
theorem dX6_publishEvent_32 : decode cX6_publishEvent 32 = .ok (.invokevirtual 134, 3) := by decide +kernel
theorem dX6_publishEvent_35 : decode cX6_publishEvent 35 = .ok (.istore 6, 2) := by decide +kernel
theorem dX6_publishEvent_37 : decode cX6_publishEvent 37 = .ok (.iconst 0, 1) := by decide +kernel
theorem dX6_publishEvent_38 : decode cX6_publishEvent 38 = .ok (.istore 7, 2) := by decide +kernel
theorem dX6_publishEvent_40 : decode cX6_publishEvent 40 = .ok (.iload 7, 2) := by decide +kernel
theorem dX6_publishEvent_42 : decode cX6_publishEvent 42 = .ok (.aload_n 0, 1) := by decide +kernel
theorem dX6_publishEvent_43 : decode cX6_publishEvent 43 = .ok (.getfield 48, 3) := by decide +kernel
theorem dX6_publishEvent_46 : decode cX6_publishEvent 46 = .ok (.if_icmp .ge 32, 3) := by decide +kernel
theorem dX6_publishEvent_49 : decode cX6_publishEvent 49 = .ok (.iload 5, 2) := by decide +kernel
theorem dX6_publishEvent_51 : decode cX6_publishEvent 51 = .ok (.iload 7, 2) := by decide +kernel
theorem dX6_publishEvent_53 : decode cX6_publishEvent 53 = .ok (.ishr, 1) := by decide +kernel
theorem dX6_publishEvent_54 : decode cX6_publishEvent 54 = .ok (.iconst 1, 1) := by decide +kernel
theorem dX6_publishEvent_55 : decode cX6_publishEvent 55 = .ok (.iand, 1) := by decide +kernel
theorem dX6_publishEvent_56 : decode cX6_publishEvent 56 = .ok (.iconst 1, 1) := by decide +kernel
theorem dX6_publishEvent_57 : decode cX6_publishEvent 57 = .ok (.if_icmp .ne 15, 3) := by decide +kernel
theorem dX6_publishEvent_60 : decode cX6_publishEvent 60 = .ok (.aload_n 0, 1) := by decide +kernel
theorem dX6_publishEvent_61 : decode cX6_publishEvent 61 = .ok (.getfield 17, 3) := by decide +kernel
theorem dX6_publishEvent_64 : decode cX6_publishEvent 64 = .ok (.iload 7, 2) := by decide +kernel
theorem dX6_publishEvent_66 : decode cX6_publishEvent 66 = .ok (.aaload, 1) := by decide +kernel
theorem dX6_publishEvent_67 : decode cX6_publishEvent 67 = .ok (.iload 6, 2) := by decide +kernel
theorem dX6_publishEvent_69 : decode cX6_publishEvent 69 = .ok (.invokevirtual 138, 3) := by decide +kernel
theorem dX6_publishEvent_72 : decode cX6_publishEvent 72 = .ok (.iinc 7 1, 3) := by decide +kernel
theorem dX6_publishEvent_75 : decode cX6_publishEvent 75 = .ok (.goto (-35), 3) := by decide +kernel
theorem dX6_publishEvent_78 : decode cX6_publishEvent 78 = .ok (.iload 6, 2) := by decide +kernel
theorem dX6_publishEvent_80 : decode cX6_publishEvent 80 = .ok (.ireturn, 1) := by decide +kernel
theorem dX6_reachedBy_0 : decode cX6_reachedBy 0 = .ok (.iload_n 1, 1) := by decide +kernel
theorem dX6_reachedBy_1 : decode cX6_reachedBy 1 = .ok (.iload_n 2, 1) := by decide +kernel
theorem dX6_reachedBy_2 : decode cX6_reachedBy 2 = .ok (.invokestatic 142, 3) := by decide +kernel
theorem dX6_reachedBy_5 : decode cX6_reachedBy 5 = .ok (.istore 4, 2) := by decide +kernel
theorem dX6_reachedBy_7 : decode cX6_reachedBy 7 = .ok (.iconst 0, 1) := by decide +kernel
theorem dX6_reachedBy_8 : decode cX6_reachedBy 8 = .ok (.istore 5, 2) := by decide +kernel
theorem dX6_reachedBy_10 : decode cX6_reachedBy 10 = .ok (.iconst 0, 1) := by decide +kernel
theorem dX6_reachedBy_11 : decode cX6_reachedBy 11 = .ok (.istore 6, 2) := by decide +kernel
theorem dX6_reachedBy_13 : decode cX6_reachedBy 13 = .ok (.iload 6, 2) := by decide +kernel
theorem dX6_reachedBy_15 : decode cX6_reachedBy 15 = .ok (.aload_n 0, 1) := by decide +kernel
theorem dX6_reachedBy_16 : decode cX6_reachedBy 16 = .ok (.getfield 48, 3) := by decide +kernel
theorem dX6_reachedBy_19 : decode cX6_reachedBy 19 = .ok (.if_icmp .ge 34, 3) := by decide +kernel
theorem dX6_reachedBy_22 : decode cX6_reachedBy 22 = .ok (.aload_n 0, 1) := by decide +kernel
theorem dX6_reachedBy_23 : decode cX6_reachedBy 23 = .ok (.getfield 17, 3) := by decide +kernel
theorem dX6_reachedBy_26 : decode cX6_reachedBy 26 = .ok (.iload 6, 2) := by decide +kernel
theorem dX6_reachedBy_28 : decode cX6_reachedBy 28 = .ok (.aaload, 1) := by decide +kernel
theorem dX6_reachedBy_29 : decode cX6_reachedBy 29 = .ok (.iload 4, 2) := by decide +kernel
theorem dX6_reachedBy_31 : decode cX6_reachedBy 31 = .ok (.iload_n 3, 1) := by decide +kernel
theorem dX6_reachedBy_32 : decode cX6_reachedBy 32 = .ok (.invokevirtual 145, 3) := by decide +kernel
theorem dX6_reachedBy_35 : decode cX6_reachedBy 35 = .ok (.ifCond .eq 12, 3) := by decide +kernel
theorem dX6_reachedBy_38 : decode cX6_reachedBy 38 = .ok (.iload 5, 2) := by decide +kernel
theorem dX6_reachedBy_40 : decode cX6_reachedBy 40 = .ok (.iconst 1, 1) := by decide +kernel
theorem dX6_reachedBy_41 : decode cX6_reachedBy 41 = .ok (.iload 6, 2) := by decide +kernel
theorem dX6_reachedBy_43 : decode cX6_reachedBy 43 = .ok (.ishl, 1) := by decide +kernel
theorem dX6_reachedBy_44 : decode cX6_reachedBy 44 = .ok (.ior, 1) := by decide +kernel
theorem dX6_reachedBy_45 : decode cX6_reachedBy 45 = .ok (.istore 5, 2) := by decide +kernel
theorem dX6_reachedBy_47 : decode cX6_reachedBy 47 = .ok (.iinc 6 1, 3) := by decide +kernel
theorem dX6_reachedBy_50 : decode cX6_reachedBy 50 = .ok (.goto (-37), 3) := by decide +kernel
theorem dX6_reachedBy_53 : decode cX6_reachedBy 53 = .ok (.iload 5, 2) := by decide +kernel
theorem dX6_reachedBy_55 : decode cX6_reachedBy 55 = .ok (.ireturn, 1) := by decide +kernel
theorem dX6_againstPassing_0 : decode cX6_againstPassing 0 = .ok (.iload_n 1, 1) := by decide +kernel
theorem dX6_againstPassing_1 : decode cX6_againstPassing 1 = .ok (.iconst 1, 1) := by decide +kernel
theorem dX6_againstPassing_2 : decode cX6_againstPassing 2 = .ok (.if_icmp .lt 9, 3) := by decide +kernel
theorem dX6_againstPassing_5 : decode cX6_againstPassing 5 = .ok (.iload_n 1, 1) := by decide +kernel
theorem dX6_againstPassing_6 : decode cX6_againstPassing 6 = .ok (.bipush 50, 2) := by decide +kernel
theorem dX6_againstPassing_8 : decode cX6_againstPassing 8 = .ok (.if_icmp .le 5, 3) := by decide +kernel
theorem dX6_againstPassing_11 : decode cX6_againstPassing 11 = .ok (.iconst 2, 1) := by decide +kernel
theorem dX6_againstPassing_12 : decode cX6_againstPassing 12 = .ok (.ireturn, 1) := by decide +kernel
theorem dX6_againstPassing_13 : decode cX6_againstPassing 13 = .ok (.aload_n 0, 1) := by decide +kernel
theorem dX6_againstPassing_14 : decode cX6_againstPassing 14 = .ok (.getfield 52, 3) := by decide +kernel
theorem dX6_againstPassing_17 : decode cX6_againstPassing 17 = .ok (.iload_n 1, 1) := by decide +kernel
theorem dX6_againstPassing_18 : decode cX6_againstPassing 18 = .ok (.iadd, 1) := by decide +kernel
theorem dX6_againstPassing_19 : decode cX6_againstPassing 19 = .ok (.sipush 9999, 3) := by decide +kernel
theorem dX6_againstPassing_22 : decode cX6_againstPassing 22 = .ok (.if_icmp .gt 7, 3) := by decide +kernel
theorem dX6_againstPassing_25 : decode cX6_againstPassing 25 = .ok (.iconst 0, 1) := by decide +kernel
theorem dX6_againstPassing_26 : decode cX6_againstPassing 26 = .ok (.goto 4, 3) := by decide +kernel
theorem dX6_againstPassing_29 : decode cX6_againstPassing 29 = .ok (.iconst 3, 1) := by decide +kernel
theorem dX6_againstPassing_30 : decode cX6_againstPassing 30 = .ok (.ireturn, 1) := by decide +kernel
theorem dX6_passTicks_0 : decode cX6_passTicks 0 = .ok (.iconst 0, 1) := by decide +kernel
theorem dX6_passTicks_1 : decode cX6_passTicks 1 = .ok (.istore_n 2, 1) := by decide +kernel
theorem dX6_passTicks_2 : decode cX6_passTicks 2 = .ok (.iconst 0, 1) := by decide +kernel
theorem dX6_passTicks_3 : decode cX6_passTicks 3 = .ok (.istore_n 3, 1) := by decide +kernel
theorem dX6_passTicks_4 : decode cX6_passTicks 4 = .ok (.iload_n 3, 1) := by decide +kernel
theorem dX6_passTicks_5 : decode cX6_passTicks 5 = .ok (.iload_n 1, 1) := by decide +kernel
theorem dX6_passTicks_6 : decode cX6_passTicks 6 = .ok (.if_icmp .ge 16, 3) := by decide +kernel
theorem dX6_passTicks_9 : decode cX6_passTicks 9 = .ok (.iload_n 2, 1) := by decide +kernel
theorem dX6_passTicks_10 : decode cX6_passTicks 10 = .ok (.aload_n 0, 1) := by decide +kernel
theorem dX6_passTicks_11 : decode cX6_passTicks 11 = .ok (.invokevirtual 148, 3) := by decide +kernel
theorem dX6_passTicks_14 : decode cX6_passTicks 14 = .ok (.iadd, 1) := by decide +kernel
theorem dX6_passTicks_15 : decode cX6_passTicks 15 = .ok (.istore_n 2, 1) := by decide +kernel
theorem dX6_passTicks_16 : decode cX6_passTicks 16 = .ok (.iinc 3 1, 3) := by decide +kernel
theorem dX6_passTicks_19 : decode cX6_passTicks 19 = .ok (.goto (-15), 3) := by decide +kernel
theorem dX6_passTicks_22 : decode cX6_passTicks 22 = .ok (.iload_n 2, 1) := by decide +kernel
theorem dX6_passTicks_23 : decode cX6_passTicks 23 = .ok (.ireturn, 1) := by decide +kernel
theorem dX6_passTick_0 : decode cX6_passTick 0 = .ok (.iconst 0, 1) := by decide +kernel
theorem dX6_passTick_1 : decode cX6_passTick 1 = .ok (.istore_n 1, 1) := by decide +kernel
theorem dX6_passTick_2 : decode cX6_passTick 2 = .ok (.iload_n 1, 1) := by decide +kernel
theorem dX6_passTick_3 : decode cX6_passTick 3 = .ok (.aload_n 0, 1) := by decide +kernel
theorem dX6_passTick_4 : decode cX6_passTick 4 = .ok (.getfield 48, 3) := by decide +kernel
theorem dX6_passTick_7 : decode cX6_passTick 7 = .ok (.if_icmp .ge 47, 3) := by decide +kernel
theorem dX6_passTick_10 : decode cX6_passTick 10 = .ok (.aload_n 0, 1) := by decide +kernel
theorem dX6_passTick_11 : decode cX6_passTick 11 = .ok (.getfield 17, 3) := by decide +kernel
theorem dX6_passTick_14 : decode cX6_passTick 14 = .ok (.iload_n 1, 1) := by decide +kernel
theorem dX6_passTick_15 : decode cX6_passTick 15 = .ok (.aaload, 1) := by decide +kernel
theorem dX6_passTick_16 : decode cX6_passTick 16 = .ok (.astore_n 2, 1) := by decide +kernel
theorem dX6_passTick_17 : decode cX6_passTick 17 = .ok (.aload_n 2, 1) := by decide +kernel
theorem dX6_passTick_18 : decode cX6_passTick 18 = .ok (.aload_n 0, 1) := by decide +kernel
theorem dX6_passTick_19 : decode cX6_passTick 19 = .ok (.getfield 52, 3) := by decide +kernel
theorem dX6_passTick_22 : decode cX6_passTick 22 = .ok (.aload_n 0, 1) := by decide +kernel
theorem dX6_passTick_23 : decode cX6_passTick 23 = .ok (.getfield 9, 3) := by decide +kernel
theorem dX6_passTick_26 : decode cX6_passTick 26 = .ok (.iconst 0, 1) := by decide +kernel
theorem dX6_passTick_27 : decode cX6_passTick 27 = .ok (.iaload, 1) := by decide +kernel
theorem dX6_passTick_28 : decode cX6_passTick 28 = .ok (.invokevirtual 152, 3) := by decide +kernel
theorem dX6_passTick_31 : decode cX6_passTick 31 = .ok (.ifCond .eq 17, 3) := by decide +kernel
theorem dX6_passTick_34 : decode cX6_passTick 34 = .ok (.aload_n 2, 1) := by decide +kernel
theorem dX6_passTick_35 : decode cX6_passTick 35 = .ok (.aload_n 0, 1) := by decide +kernel
theorem dX6_passTick_36 : decode cX6_passTick 36 = .ok (.getfield 52, 3) := by decide +kernel
theorem dX6_passTick_39 : decode cX6_passTick 39 = .ok (.aload_n 0, 1) := by decide +kernel
theorem dX6_passTick_40 : decode cX6_passTick 40 = .ok (.getfield 9, 3) := by decide +kernel
theorem dX6_passTick_43 : decode cX6_passTick 43 = .ok (.iconst 2, 1) := by decide +kernel
theorem dX6_passTick_44 : decode cX6_passTick 44 = .ok (.iaload, 1) := by decide +kernel
theorem dX6_passTick_45 : decode cX6_passTick 45 = .ok (.invokevirtual 155, 3) := by decide +kernel
theorem dX6_passTick_48 : decode cX6_passTick 48 = .ok (.iinc 1 1, 3) := by decide +kernel
theorem dX6_passTick_51 : decode cX6_passTick 51 = .ok (.goto (-49), 3) := by decide +kernel
theorem dX6_passTick_54 : decode cX6_passTick 54 = .ok (.iconst 0, 1) := by decide +kernel
theorem dX6_passTick_55 : decode cX6_passTick 55 = .ok (.istore_n 1, 1) := by decide +kernel
theorem dX6_passTick_56 : decode cX6_passTick 56 = .ok (.iload_n 1, 1) := by decide +kernel
theorem dX6_passTick_57 : decode cX6_passTick 57 = .ok (.bipush 16, 2) := by decide +kernel
theorem dX6_passTick_59 : decode cX6_passTick 59 = .ok (.if_icmp .ge 16, 3) := by decide +kernel
theorem dX6_passTick_62 : decode cX6_passTick 62 = .ok (.aload_n 0, 1) := by decide +kernel
theorem dX6_passTick_63 : decode cX6_passTick 63 = .ok (.getfield 31, 3) := by decide +kernel
theorem dX6_passTick_66 : decode cX6_passTick 66 = .ok (.iload_n 1, 1) := by decide +kernel
theorem dX6_passTick_67 : decode cX6_passTick 67 = .ok (.iconst 0, 1) := by decide +kernel
theorem dX6_passTick_68 : decode cX6_passTick 68 = .ok (.iastore, 1) := by decide +kernel
theorem dX6_passTick_69 : decode cX6_passTick 69 = .ok (.iinc 1 1, 3) := by decide +kernel
theorem dX6_passTick_72 : decode cX6_passTick 72 = .ok (.goto (-16), 3) := by decide +kernel
theorem dX6_passTick_75 : decode cX6_passTick 75 = .ok (.iconst 0, 1) := by decide +kernel
theorem dX6_passTick_76 : decode cX6_passTick 76 = .ok (.istore_n 1, 1) := by decide +kernel
theorem dX6_passTick_77 : decode cX6_passTick 77 = .ok (.iconst 0, 1) := by decide +kernel
theorem dX6_passTick_78 : decode cX6_passTick 78 = .ok (.istore_n 2, 1) := by decide +kernel
theorem dX6_passTick_79 : decode cX6_passTick 79 = .ok (.iload_n 2, 1) := by decide +kernel
theorem dX6_passTick_80 : decode cX6_passTick 80 = .ok (.aload_n 0, 1) := by decide +kernel
theorem dX6_passTick_81 : decode cX6_passTick 81 = .ok (.getfield 48, 3) := by decide +kernel
theorem dX6_passTick_84 : decode cX6_passTick 84 = .ok (.if_icmp .ge 17, 3) := by decide +kernel
theorem dX6_passTick_87 : decode cX6_passTick 87 = .ok (.iload_n 1, 1) := by decide +kernel
theorem dX6_passTick_88 : decode cX6_passTick 88 = .ok (.aload_n 0, 1) := by decide +kernel
theorem dX6_passTick_89 : decode cX6_passTick 89 = .ok (.iload_n 2, 1) := by decide +kernel
theorem dX6_passTick_90 : decode cX6_passTick 90 = .ok (.invokevirtual 159, 3) := by decide +kernel
theorem dX6_passTick_93 : decode cX6_passTick 93 = .ok (.iadd, 1) := by decide +kernel
theorem dX6_passTick_94 : decode cX6_passTick 94 = .ok (.istore_n 1, 1) := by decide +kernel
theorem dX6_passTick_95 : decode cX6_passTick 95 = .ok (.iinc 2 1, 3) := by decide +kernel
theorem dX6_passTick_98 : decode cX6_passTick 98 = .ok (.goto (-19), 3) := by decide +kernel
theorem dX6_passTick_101 : decode cX6_passTick 101 = .ok (.aload_n 0, 1) := by decide +kernel
theorem dX6_passTick_102 : decode cX6_passTick 102 = .ok (.dup, 1) := by decide +kernel
theorem dX6_passTick_103 : decode cX6_passTick 103 = .ok (.getfield 52, 3) := by decide +kernel
theorem dX6_passTick_106 : decode cX6_passTick 106 = .ok (.iconst 1, 1) := by decide +kernel
theorem dX6_passTick_107 : decode cX6_passTick 107 = .ok (.iadd, 1) := by decide +kernel
theorem dX6_passTick_108 : decode cX6_passTick 108 = .ok (.putfield 52, 3) := by decide +kernel
theorem dX6_passTick_111 : decode cX6_passTick 111 = .ok (.iload_n 1, 1) := by decide +kernel
theorem dX6_passTick_112 : decode cX6_passTick 112 = .ok (.ireturn, 1) := by decide +kernel
theorem dX6_deliverTo_0 : decode cX6_deliverTo 0 = .ok (.aload_n 0, 1) := by decide +kernel
theorem dX6_deliverTo_1 : decode cX6_deliverTo 1 = .ok (.getfield 17, 3) := by decide +kernel
theorem dX6_deliverTo_4 : decode cX6_deliverTo 4 = .ok (.iload_n 1, 1) := by decide +kernel
theorem dX6_deliverTo_5 : decode cX6_deliverTo 5 = .ok (.aaload, 1) := by decide +kernel
theorem dX6_deliverTo_6 : decode cX6_deliverTo 6 = .ok (.astore_n 2, 1) := by decide +kernel
theorem dX6_deliverTo_7 : decode cX6_deliverTo 7 = .ok (.aload_n 2, 1) := by decide +kernel
theorem dX6_deliverTo_8 : decode cX6_deliverTo 8 = .ok (.getfield 115, 3) := by decide +kernel
theorem dX6_deliverTo_11 : decode cX6_deliverTo 11 = .ok (.ifCond .eq 14, 3) := by decide +kernel
theorem dX6_deliverTo_14 : decode cX6_deliverTo 14 = .ok (.aload_n 0, 1) := by decide +kernel
theorem dX6_deliverTo_15 : decode cX6_deliverTo 15 = .ok (.getfield 52, 3) := by decide +kernel
theorem dX6_deliverTo_18 : decode cX6_deliverTo 18 = .ok (.aload_n 2, 1) := by decide +kernel
theorem dX6_deliverTo_19 : decode cX6_deliverTo 19 = .ok (.getfield 162, 3) := by decide +kernel
theorem dX6_deliverTo_22 : decode cX6_deliverTo 22 = .ok (.if_icmp .ge 5, 3) := by decide +kernel
theorem dX6_deliverTo_25 : decode cX6_deliverTo 25 = .ok (.iconst 0, 1) := by decide +kernel
theorem dX6_deliverTo_26 : decode cX6_deliverTo 26 = .ok (.ireturn, 1) := by decide +kernel
theorem dX6_deliverTo_27 : decode cX6_deliverTo 27 = .ok (.aload_n 0, 1) := by decide +kernel
theorem dX6_deliverTo_28 : decode cX6_deliverTo 28 = .ok (.getfield 9, 3) := by decide +kernel
theorem dX6_deliverTo_31 : decode cX6_deliverTo 31 = .ok (.iconst 1, 1) := by decide +kernel
theorem dX6_deliverTo_32 : decode cX6_deliverTo 32 = .ok (.iaload, 1) := by decide +kernel
theorem dX6_deliverTo_33 : decode cX6_deliverTo 33 = .ok (.aload_n 0, 1) := by decide +kernel
theorem dX6_deliverTo_34 : decode cX6_deliverTo 34 = .ok (.getfield 31, 3) := by decide +kernel
theorem dX6_deliverTo_37 : decode cX6_deliverTo 37 = .ok (.aload_n 2, 1) := by decide +kernel
theorem dX6_deliverTo_38 : decode cX6_deliverTo 38 = .ok (.getfield 165, 3) := by decide +kernel
theorem dX6_deliverTo_41 : decode cX6_deliverTo 41 = .ok (.iaload, 1) := by decide +kernel
theorem dX6_deliverTo_42 : decode cX6_deliverTo 42 = .ok (.isub, 1) := by decide +kernel
theorem dX6_deliverTo_43 : decode cX6_deliverTo 43 = .ok (.istore_n 3, 1) := by decide +kernel
theorem dX6_deliverTo_44 : decode cX6_deliverTo 44 = .ok (.aload_n 2, 1) := by decide +kernel
theorem dX6_deliverTo_45 : decode cX6_deliverTo 45 = .ok (.getfield 168, 3) := by decide +kernel
theorem dX6_deliverTo_48 : decode cX6_deliverTo 48 = .ok (.getfield 172, 3) := by decide +kernel
theorem dX6_deliverTo_51 : decode cX6_deliverTo 51 = .ok (.iload_n 3, 1) := by decide +kernel
theorem dX6_deliverTo_52 : decode cX6_deliverTo 52 = .ok (.invokestatic 177, 3) := by decide +kernel
theorem dX6_deliverTo_55 : decode cX6_deliverTo 55 = .ok (.istore 4, 2) := by decide +kernel
theorem dX6_deliverTo_57 : decode cX6_deliverTo 57 = .ok (.iconst 0, 1) := by decide +kernel
theorem dX6_deliverTo_58 : decode cX6_deliverTo 58 = .ok (.istore 5, 2) := by decide +kernel
theorem dX6_deliverTo_60 : decode cX6_deliverTo 60 = .ok (.iload 5, 2) := by decide +kernel
theorem dX6_deliverTo_62 : decode cX6_deliverTo 62 = .ok (.iload 4, 2) := by decide +kernel
theorem dX6_deliverTo_64 : decode cX6_deliverTo 64 = .ok (.if_icmp .ge 26, 3) := by decide +kernel
theorem dX6_deliverTo_67 : decode cX6_deliverTo 67 = .ok (.aload_n 0, 1) := by decide +kernel
theorem dX6_deliverTo_68 : decode cX6_deliverTo 68 = .ok (.getfield 24, 3) := by decide +kernel
theorem dX6_deliverTo_71 : decode cX6_deliverTo 71 = .ok (.aload_n 2, 1) := by decide +kernel
theorem dX6_deliverTo_72 : decode cX6_deliverTo 72 = .ok (.getfield 168, 3) := by decide +kernel
theorem dX6_deliverTo_75 : decode cX6_deliverTo 75 = .ok (.iload 5, 2) := by decide +kernel
theorem dX6_deliverTo_77 : decode cX6_deliverTo 77 = .ok (.invokevirtual 182, 3) := by decide +kernel
theorem dX6_deliverTo_80 : decode cX6_deliverTo 80 = .ok (.iload_n 1, 1) := by decide +kernel
theorem dX6_deliverTo_81 : decode cX6_deliverTo 81 = .ok (.invokevirtual 185, 3) := by decide +kernel
theorem dX6_deliverTo_84 : decode cX6_deliverTo 84 = .ok (.iinc 5 1, 3) := by decide +kernel
theorem dX6_deliverTo_87 : decode cX6_deliverTo 87 = .ok (.goto (-27), 3) := by decide +kernel
theorem dX6_deliverTo_90 : decode cX6_deliverTo 90 = .ok (.aload_n 2, 1) := by decide +kernel
theorem dX6_deliverTo_91 : decode cX6_deliverTo 91 = .ok (.getfield 168, 3) := by decide +kernel
theorem dX6_deliverTo_94 : decode cX6_deliverTo 94 = .ok (.iload 4, 2) := by decide +kernel
theorem dX6_deliverTo_96 : decode cX6_deliverTo 96 = .ok (.invokevirtual 188, 3) := by decide +kernel
theorem dX6_deliverTo_99 : decode cX6_deliverTo 99 = .ok (.aload_n 2, 1) := by decide +kernel
theorem dX6_deliverTo_100 : decode cX6_deliverTo 100 = .ok (.dup, 1) := by decide +kernel
theorem dX6_deliverTo_101 : decode cX6_deliverTo 101 = .ok (.getfield 191, 3) := by decide +kernel
theorem dX6_deliverTo_104 : decode cX6_deliverTo 104 = .ok (.iload 4, 2) := by decide +kernel
theorem dX6_deliverTo_106 : decode cX6_deliverTo 106 = .ok (.iadd, 1) := by decide +kernel
theorem dX6_deliverTo_107 : decode cX6_deliverTo 107 = .ok (.putfield 191, 3) := by decide +kernel
theorem dX6_deliverTo_110 : decode cX6_deliverTo 110 = .ok (.aload_n 0, 1) := by decide +kernel
theorem dX6_deliverTo_111 : decode cX6_deliverTo 111 = .ok (.getfield 31, 3) := by decide +kernel
theorem dX6_deliverTo_114 : decode cX6_deliverTo 114 = .ok (.aload_n 2, 1) := by decide +kernel
theorem dX6_deliverTo_115 : decode cX6_deliverTo 115 = .ok (.getfield 165, 3) := by decide +kernel
theorem dX6_deliverTo_118 : decode cX6_deliverTo 118 = .ok (.dup2, 1) := by decide +kernel
theorem dX6_deliverTo_119 : decode cX6_deliverTo 119 = .ok (.iaload, 1) := by decide +kernel
theorem dX6_deliverTo_120 : decode cX6_deliverTo 120 = .ok (.iload 4, 2) := by decide +kernel
theorem dX6_deliverTo_122 : decode cX6_deliverTo 122 = .ok (.iadd, 1) := by decide +kernel
theorem dX6_deliverTo_123 : decode cX6_deliverTo 123 = .ok (.iastore, 1) := by decide +kernel
theorem dX6_deliverTo_124 : decode cX6_deliverTo 124 = .ok (.aload_n 0, 1) := by decide +kernel
theorem dX6_deliverTo_125 : decode cX6_deliverTo 125 = .ok (.getfield 28, 3) := by decide +kernel
theorem dX6_deliverTo_128 : decode cX6_deliverTo 128 = .ok (.aload_n 2, 1) := by decide +kernel
theorem dX6_deliverTo_129 : decode cX6_deliverTo 129 = .ok (.getfield 165, 3) := by decide +kernel
theorem dX6_deliverTo_132 : decode cX6_deliverTo 132 = .ok (.dup2, 1) := by decide +kernel
theorem dX6_deliverTo_133 : decode cX6_deliverTo 133 = .ok (.iaload, 1) := by decide +kernel
theorem dX6_deliverTo_134 : decode cX6_deliverTo 134 = .ok (.iload 4, 2) := by decide +kernel
theorem dX6_deliverTo_136 : decode cX6_deliverTo 136 = .ok (.iadd, 1) := by decide +kernel
theorem dX6_deliverTo_137 : decode cX6_deliverTo 137 = .ok (.iastore, 1) := by decide +kernel
theorem dX6_deliverTo_138 : decode cX6_deliverTo 138 = .ok (.iload 4, 2) := by decide +kernel
theorem dX6_deliverTo_140 : decode cX6_deliverTo 140 = .ok (.ireturn, 1) := by decide +kernel
theorem dX6_ticksUntilServed_0 : decode cX6_ticksUntilServed 0 = .ok (.aload_n 0, 1) := by decide +kernel
theorem dX6_ticksUntilServed_1 : decode cX6_ticksUntilServed 1 = .ok (.getfield 17, 3) := by decide +kernel
theorem dX6_ticksUntilServed_4 : decode cX6_ticksUntilServed 4 = .ok (.iload_n 1, 1) := by decide +kernel
theorem dX6_ticksUntilServed_5 : decode cX6_ticksUntilServed 5 = .ok (.aaload, 1) := by decide +kernel
theorem dX6_ticksUntilServed_6 : decode cX6_ticksUntilServed 6 = .ok (.astore_n 2, 1) := by decide +kernel
theorem dX6_ticksUntilServed_7 : decode cX6_ticksUntilServed 7 = .ok (.aload_n 2, 1) := by decide +kernel
theorem dX6_ticksUntilServed_8 : decode cX6_ticksUntilServed 8 = .ok (.getfield 115, 3) := by decide +kernel
theorem dX6_ticksUntilServed_11 : decode cX6_ticksUntilServed 11 = .ok (.ifCond .ne 5, 3) := by decide +kernel
theorem dX6_ticksUntilServed_14 : decode cX6_ticksUntilServed 14 = .ok (.iconst (-1), 1) := by decide +kernel
theorem dX6_ticksUntilServed_15 : decode cX6_ticksUntilServed 15 = .ok (.ireturn, 1) := by decide +kernel
theorem dX6_ticksUntilServed_16 : decode cX6_ticksUntilServed 16 = .ok (.aload_n 2, 1) := by decide +kernel
theorem dX6_ticksUntilServed_17 : decode cX6_ticksUntilServed 17 = .ok (.getfield 194, 3) := by decide +kernel
theorem dX6_ticksUntilServed_20 : decode cX6_ticksUntilServed 20 = .ok (.aload_n 2, 1) := by decide +kernel
theorem dX6_ticksUntilServed_21 : decode cX6_ticksUntilServed 21 = .ok (.getfield 165, 3) := by decide +kernel
theorem dX6_ticksUntilServed_24 : decode cX6_ticksUntilServed 24 = .ok (.if_icmp .ne 5, 3) := by decide +kernel
theorem dX6_ticksUntilServed_27 : decode cX6_ticksUntilServed 27 = .ok (.iconst 0, 1) := by decide +kernel
theorem dX6_ticksUntilServed_28 : decode cX6_ticksUntilServed 28 = .ok (.ireturn, 1) := by decide +kernel
theorem dX6_ticksUntilServed_29 : decode cX6_ticksUntilServed 29 = .ok (.aload_n 2, 1) := by decide +kernel
theorem dX6_ticksUntilServed_30 : decode cX6_ticksUntilServed 30 = .ok (.getfield 197, 3) := by decide +kernel
theorem dX6_ticksUntilServed_33 : decode cX6_ticksUntilServed 33 = .ok (.aload_n 2, 1) := by decide +kernel
theorem dX6_ticksUntilServed_34 : decode cX6_ticksUntilServed 34 = .ok (.aload_n 0, 1) := by decide +kernel
theorem dX6_ticksUntilServed_35 : decode cX6_ticksUntilServed 35 = .ok (.getfield 9, 3) := by decide +kernel
theorem dX6_ticksUntilServed_38 : decode cX6_ticksUntilServed 38 = .ok (.iconst 0, 1) := by decide +kernel
theorem dX6_ticksUntilServed_39 : decode cX6_ticksUntilServed 39 = .ok (.iaload, 1) := by decide +kernel
theorem dX6_ticksUntilServed_40 : decode cX6_ticksUntilServed 40 = .ok (.invokevirtual 200, 3) := by decide +kernel
theorem dX6_ticksUntilServed_43 : decode cX6_ticksUntilServed 43 = .ok (.iadd, 1) := by decide +kernel
theorem dX6_ticksUntilServed_44 : decode cX6_ticksUntilServed 44 = .ok (.istore_n 3, 1) := by decide +kernel
theorem dX6_ticksUntilServed_45 : decode cX6_ticksUntilServed 45 = .ok (.iload_n 3, 1) := by decide +kernel
theorem dX6_ticksUntilServed_46 : decode cX6_ticksUntilServed 46 = .ok (.aload_n 0, 1) := by decide +kernel
theorem dX6_ticksUntilServed_47 : decode cX6_ticksUntilServed 47 = .ok (.getfield 52, 3) := by decide +kernel
theorem dX6_ticksUntilServed_50 : decode cX6_ticksUntilServed 50 = .ok (.invokestatic 203, 3) := by decide +kernel
theorem dX6_ticksUntilServed_53 : decode cX6_ticksUntilServed 53 = .ok (.aload_n 0, 1) := by decide +kernel
theorem dX6_ticksUntilServed_54 : decode cX6_ticksUntilServed 54 = .ok (.getfield 52, 3) := by decide +kernel
theorem dX6_ticksUntilServed_57 : decode cX6_ticksUntilServed 57 = .ok (.isub, 1) := by decide +kernel
theorem dX6_ticksUntilServed_58 : decode cX6_ticksUntilServed 58 = .ok (.iconst 1, 1) := by decide +kernel
theorem dX6_ticksUntilServed_59 : decode cX6_ticksUntilServed 59 = .ok (.iadd, 1) := by decide +kernel
theorem dX6_ticksUntilServed_60 : decode cX6_ticksUntilServed 60 = .ok (.ireturn, 1) := by decide +kernel
theorem dX6_passUntilEmpty_0 : decode cX6_passUntilEmpty 0 = .ok (.aload_n 0, 1) := by decide +kernel
theorem dX6_passUntilEmpty_1 : decode cX6_passUntilEmpty 1 = .ok (.getfield 17, 3) := by decide +kernel
theorem dX6_passUntilEmpty_4 : decode cX6_passUntilEmpty 4 = .ok (.iload_n 1, 1) := by decide +kernel
theorem dX6_passUntilEmpty_5 : decode cX6_passUntilEmpty 5 = .ok (.aaload, 1) := by decide +kernel
theorem dX6_passUntilEmpty_6 : decode cX6_passUntilEmpty 6 = .ok (.getfield 168, 3) := by decide +kernel
theorem dX6_passUntilEmpty_9 : decode cX6_passUntilEmpty 9 = .ok (.astore_n 2, 1) := by decide +kernel
theorem dX6_passUntilEmpty_10 : decode cX6_passUntilEmpty 10 = .ok (.iconst 0, 1) := by decide +kernel
theorem dX6_passUntilEmpty_11 : decode cX6_passUntilEmpty 11 = .ok (.istore_n 3, 1) := by decide +kernel
theorem dX6_passUntilEmpty_12 : decode cX6_passUntilEmpty 12 = .ok (.iload_n 3, 1) := by decide +kernel
theorem dX6_passUntilEmpty_13 : decode cX6_passUntilEmpty 13 = .ok (.sipush 200, 3) := by decide +kernel
theorem dX6_passUntilEmpty_16 : decode cX6_passUntilEmpty 16 = .ok (.if_icmp .ge 23, 3) := by decide +kernel
theorem dX6_passUntilEmpty_19 : decode cX6_passUntilEmpty 19 = .ok (.aload_n 2, 1) := by decide +kernel
theorem dX6_passUntilEmpty_20 : decode cX6_passUntilEmpty 20 = .ok (.getfield 172, 3) := by decide +kernel
theorem dX6_passUntilEmpty_23 : decode cX6_passUntilEmpty 23 = .ok (.ifCond .ne 5, 3) := by decide +kernel
theorem dX6_passUntilEmpty_26 : decode cX6_passUntilEmpty 26 = .ok (.iload_n 3, 1) := by decide +kernel
theorem dX6_passUntilEmpty_27 : decode cX6_passUntilEmpty 27 = .ok (.ireturn, 1) := by decide +kernel
theorem dX6_passUntilEmpty_28 : decode cX6_passUntilEmpty 28 = .ok (.aload_n 0, 1) := by decide +kernel
theorem dX6_passUntilEmpty_29 : decode cX6_passUntilEmpty 29 = .ok (.invokevirtual 148, 3) := by decide +kernel
theorem dX6_passUntilEmpty_32 : decode cX6_passUntilEmpty 32 = .ok (.pop, 1) := by decide +kernel
theorem dX6_passUntilEmpty_33 : decode cX6_passUntilEmpty 33 = .ok (.iinc 3 1, 3) := by decide +kernel
theorem dX6_passUntilEmpty_36 : decode cX6_passUntilEmpty 36 = .ok (.goto (-24), 3) := by decide +kernel
theorem dX6_passUntilEmpty_39 : decode cX6_passUntilEmpty 39 = .ok (.aload_n 2, 1) := by decide +kernel
theorem dX6_passUntilEmpty_40 : decode cX6_passUntilEmpty 40 = .ok (.getfield 172, 3) := by decide +kernel
theorem dX6_passUntilEmpty_43 : decode cX6_passUntilEmpty 43 = .ok (.ifCond .ne 9, 3) := by decide +kernel
theorem dX6_passUntilEmpty_46 : decode cX6_passUntilEmpty 46 = .ok (.sipush 200, 3) := by decide +kernel
theorem dX6_passUntilEmpty_49 : decode cX6_passUntilEmpty 49 = .ok (.goto 4, 3) := by decide +kernel
theorem dX6_passUntilEmpty_52 : decode cX6_passUntilEmpty 52 = .ok (.iconst (-1), 1) := by decide +kernel
theorem dX6_passUntilEmpty_53 : decode cX6_passUntilEmpty 53 = .ok (.ireturn, 1) := by decide +kernel
theorem dX6_busiestLeaf_0 : decode cX6_busiestLeaf 0 = .ok (.iconst (-1), 1) := by decide +kernel
theorem dX6_busiestLeaf_1 : decode cX6_busiestLeaf 1 = .ok (.istore_n 1, 1) := by decide +kernel
theorem dX6_busiestLeaf_2 : decode cX6_busiestLeaf 2 = .ok (.iconst 0, 1) := by decide +kernel
theorem dX6_busiestLeaf_3 : decode cX6_busiestLeaf 3 = .ok (.istore_n 2, 1) := by decide +kernel
theorem dX6_busiestLeaf_4 : decode cX6_busiestLeaf 4 = .ok (.iconst 0, 1) := by decide +kernel
theorem dX6_busiestLeaf_5 : decode cX6_busiestLeaf 5 = .ok (.istore_n 3, 1) := by decide +kernel
theorem dX6_busiestLeaf_6 : decode cX6_busiestLeaf 6 = .ok (.iload_n 3, 1) := by decide +kernel
theorem dX6_busiestLeaf_7 : decode cX6_busiestLeaf 7 = .ok (.bipush 16, 2) := by decide +kernel
theorem dX6_busiestLeaf_9 : decode cX6_busiestLeaf 9 = .ok (.if_icmp .ge 27, 3) := by decide +kernel
theorem dX6_busiestLeaf_12 : decode cX6_busiestLeaf 12 = .ok (.aload_n 0, 1) := by decide +kernel
theorem dX6_busiestLeaf_13 : decode cX6_busiestLeaf 13 = .ok (.iload_n 3, 1) := by decide +kernel
theorem dX6_busiestLeaf_14 : decode cX6_busiestLeaf 14 = .ok (.invokevirtual 206, 3) := by decide +kernel
theorem dX6_busiestLeaf_17 : decode cX6_busiestLeaf 17 = .ok (.istore 4, 2) := by decide +kernel
theorem dX6_busiestLeaf_19 : decode cX6_busiestLeaf 19 = .ok (.iload 4, 2) := by decide +kernel
theorem dX6_busiestLeaf_21 : decode cX6_busiestLeaf 21 = .ok (.iload_n 2, 1) := by decide +kernel
theorem dX6_busiestLeaf_22 : decode cX6_busiestLeaf 22 = .ok (.if_icmp .le 8, 3) := by decide +kernel
theorem dX6_busiestLeaf_25 : decode cX6_busiestLeaf 25 = .ok (.iload_n 3, 1) := by decide +kernel
theorem dX6_busiestLeaf_26 : decode cX6_busiestLeaf 26 = .ok (.istore_n 1, 1) := by decide +kernel
theorem dX6_busiestLeaf_27 : decode cX6_busiestLeaf 27 = .ok (.iload 4, 2) := by decide +kernel
theorem dX6_busiestLeaf_29 : decode cX6_busiestLeaf 29 = .ok (.istore_n 2, 1) := by decide +kernel
theorem dX6_busiestLeaf_30 : decode cX6_busiestLeaf 30 = .ok (.iinc 3 1, 3) := by decide +kernel
theorem dX6_busiestLeaf_33 : decode cX6_busiestLeaf 33 = .ok (.goto (-27), 3) := by decide +kernel
theorem dX6_busiestLeaf_36 : decode cX6_busiestLeaf 36 = .ok (.iload_n 1, 1) := by decide +kernel
theorem dX6_busiestLeaf_37 : decode cX6_busiestLeaf 37 = .ok (.ireturn, 1) := by decide +kernel
theorem dX6_valueOfEvent_0 : decode cX6_valueOfEvent 0 = .ok (.iload_n 2, 1) := by decide +kernel
theorem dX6_valueOfEvent_1 : decode cX6_valueOfEvent 1 = .ok (.bipush 6, 2) := by decide +kernel
theorem dX6_valueOfEvent_3 : decode cX6_valueOfEvent 3 = .ok (.if_icmp .ge 15, 3) := by decide +kernel
theorem dX6_valueOfEvent_6 : decode cX6_valueOfEvent 6 = .ok (.aload_n 0, 1) := by decide +kernel
theorem dX6_valueOfEvent_7 : decode cX6_valueOfEvent 7 = .ok (.getfield 24, 3) := by decide +kernel
theorem dX6_valueOfEvent_10 : decode cX6_valueOfEvent 10 = .ok (.iload_n 1, 1) := by decide +kernel
theorem dX6_valueOfEvent_11 : decode cX6_valueOfEvent 11 = .ok (.iload_n 2, 1) := by decide +kernel
theorem dX6_valueOfEvent_12 : decode cX6_valueOfEvent 12 = .ok (.invokevirtual 209, 3) := by decide +kernel
theorem dX6_valueOfEvent_15 : decode cX6_valueOfEvent 15 = .ok (.goto 8, 3) := by decide +kernel
theorem dX6_valueOfEvent_18 : decode cX6_valueOfEvent 18 = .ok (.aload_n 0, 1) := by decide +kernel
theorem dX6_valueOfEvent_19 : decode cX6_valueOfEvent 19 = .ok (.iload_n 1, 1) := by decide +kernel
theorem dX6_valueOfEvent_20 : decode cX6_valueOfEvent 20 = .ok (.invokevirtual 212, 3) := by decide +kernel
theorem dX6_valueOfEvent_23 : decode cX6_valueOfEvent 23 = .ok (.ireturn, 1) := by decide +kernel
theorem dX6_inboxesWith_0 : decode cX6_inboxesWith 0 = .ok (.iconst 0, 1) := by decide +kernel
theorem dX6_inboxesWith_1 : decode cX6_inboxesWith 1 = .ok (.istore_n 2, 1) := by decide +kernel
theorem dX6_inboxesWith_2 : decode cX6_inboxesWith 2 = .ok (.iconst 0, 1) := by decide +kernel
theorem dX6_inboxesWith_3 : decode cX6_inboxesWith 3 = .ok (.istore_n 3, 1) := by decide +kernel
theorem dX6_inboxesWith_4 : decode cX6_inboxesWith 4 = .ok (.iload_n 3, 1) := by decide +kernel
theorem dX6_inboxesWith_5 : decode cX6_inboxesWith 5 = .ok (.aload_n 0, 1) := by decide +kernel
theorem dX6_inboxesWith_6 : decode cX6_inboxesWith 6 = .ok (.getfield 48, 3) := by decide +kernel
theorem dX6_inboxesWith_9 : decode cX6_inboxesWith 9 = .ok (.if_icmp .ge 28, 3) := by decide +kernel
theorem dX6_inboxesWith_12 : decode cX6_inboxesWith 12 = .ok (.aload_n 0, 1) := by decide +kernel
theorem dX6_inboxesWith_13 : decode cX6_inboxesWith 13 = .ok (.getfield 17, 3) := by decide +kernel
theorem dX6_inboxesWith_16 : decode cX6_inboxesWith 16 = .ok (.iload_n 3, 1) := by decide +kernel
theorem dX6_inboxesWith_17 : decode cX6_inboxesWith 17 = .ok (.aaload, 1) := by decide +kernel
theorem dX6_inboxesWith_18 : decode cX6_inboxesWith 18 = .ok (.getfield 168, 3) := by decide +kernel
theorem dX6_inboxesWith_21 : decode cX6_inboxesWith 21 = .ok (.iload_n 1, 1) := by decide +kernel
theorem dX6_inboxesWith_22 : decode cX6_inboxesWith 22 = .ok (.invokevirtual 215, 3) := by decide +kernel
theorem dX6_inboxesWith_25 : decode cX6_inboxesWith 25 = .ok (.ifCond .eq 6, 3) := by decide +kernel
theorem dX6_inboxesWith_28 : decode cX6_inboxesWith 28 = .ok (.iinc 2 1, 3) := by decide +kernel
theorem dX6_inboxesWith_31 : decode cX6_inboxesWith 31 = .ok (.iinc 3 1, 3) := by decide +kernel
theorem dX6_inboxesWith_34 : decode cX6_inboxesWith 34 = .ok (.goto (-30), 3) := by decide +kernel
theorem dX6_inboxesWith_37 : decode cX6_inboxesWith 37 = .ok (.iload_n 2, 1) := by decide +kernel
theorem dX6_inboxesWith_38 : decode cX6_inboxesWith 38 = .ok (.ireturn, 1) := by decide +kernel
theorem dX6_valueOfLeaf_0 : decode cX6_valueOfLeaf 0 = .ok (.iload_n 2, 1) := by decide +kernel
theorem dX6_valueOfLeaf_1 : decode cX6_valueOfLeaf 1 = .ok (.tableswitch 46 0 2 #[27, 33, 40], 27) := by decide +kernel
theorem dX6_valueOfLeaf_28 : decode cX6_valueOfLeaf 28 = .ok (.aload_n 0, 1) := by decide +kernel
theorem dX6_valueOfLeaf_29 : decode cX6_valueOfLeaf 29 = .ok (.iload_n 1, 1) := by decide +kernel
theorem dX6_valueOfLeaf_30 : decode cX6_valueOfLeaf 30 = .ok (.invokevirtual 218, 3) := by decide +kernel
theorem dX6_valueOfLeaf_33 : decode cX6_valueOfLeaf 33 = .ok (.ireturn, 1) := by decide +kernel
theorem dX6_valueOfLeaf_34 : decode cX6_valueOfLeaf 34 = .ok (.aload_n 0, 1) := by decide +kernel
theorem dX6_valueOfLeaf_35 : decode cX6_valueOfLeaf 35 = .ok (.getfield 28, 3) := by decide +kernel
theorem dX6_valueOfLeaf_38 : decode cX6_valueOfLeaf 38 = .ok (.iload_n 1, 1) := by decide +kernel
theorem dX6_valueOfLeaf_39 : decode cX6_valueOfLeaf 39 = .ok (.iaload, 1) := by decide +kernel
theorem dX6_valueOfLeaf_40 : decode cX6_valueOfLeaf 40 = .ok (.ireturn, 1) := by decide +kernel
theorem dX6_valueOfLeaf_41 : decode cX6_valueOfLeaf 41 = .ok (.aload_n 0, 1) := by decide +kernel
theorem dX6_valueOfLeaf_42 : decode cX6_valueOfLeaf 42 = .ok (.iload_n 1, 1) := by decide +kernel
theorem dX6_valueOfLeaf_43 : decode cX6_valueOfLeaf 43 = .ok (.invokevirtual 206, 3) := by decide +kernel
theorem dX6_valueOfLeaf_46 : decode cX6_valueOfLeaf 46 = .ok (.ireturn, 1) := by decide +kernel
theorem dX6_valueOfLeaf_47 : decode cX6_valueOfLeaf 47 = .ok (.aload_n 0, 1) := by decide +kernel
theorem dX6_valueOfLeaf_48 : decode cX6_valueOfLeaf 48 = .ok (.iload_n 1, 1) := by decide +kernel
theorem dX6_valueOfLeaf_49 : decode cX6_valueOfLeaf 49 = .ok (.invokevirtual 221, 3) := by decide +kernel
theorem dX6_valueOfLeaf_52 : decode cX6_valueOfLeaf 52 = .ok (.ireturn, 1) := by decide +kernel
theorem dX6_servedBy_0 : decode cX6_servedBy 0 = .ok (.iconst 0, 1) := by decide +kernel
theorem dX6_servedBy_1 : decode cX6_servedBy 1 = .ok (.istore_n 2, 1) := by decide +kernel
theorem dX6_servedBy_2 : decode cX6_servedBy 2 = .ok (.iconst 0, 1) := by decide +kernel
theorem dX6_servedBy_3 : decode cX6_servedBy 3 = .ok (.istore_n 3, 1) := by decide +kernel
theorem dX6_servedBy_4 : decode cX6_servedBy 4 = .ok (.iload_n 3, 1) := by decide +kernel
theorem dX6_servedBy_5 : decode cX6_servedBy 5 = .ok (.aload_n 0, 1) := by decide +kernel
theorem dX6_servedBy_6 : decode cX6_servedBy 6 = .ok (.getfield 48, 3) := by decide +kernel
theorem dX6_servedBy_9 : decode cX6_servedBy 9 = .ok (.if_icmp .ge 37, 3) := by decide +kernel
theorem dX6_servedBy_12 : decode cX6_servedBy 12 = .ok (.aload_n 0, 1) := by decide +kernel
theorem dX6_servedBy_13 : decode cX6_servedBy 13 = .ok (.getfield 17, 3) := by decide +kernel
theorem dX6_servedBy_16 : decode cX6_servedBy 16 = .ok (.iload_n 3, 1) := by decide +kernel
theorem dX6_servedBy_17 : decode cX6_servedBy 17 = .ok (.aaload, 1) := by decide +kernel
theorem dX6_servedBy_18 : decode cX6_servedBy 18 = .ok (.astore 4, 2) := by decide +kernel
theorem dX6_servedBy_20 : decode cX6_servedBy 20 = .ok (.aload 4, 2) := by decide +kernel
theorem dX6_servedBy_22 : decode cX6_servedBy 22 = .ok (.getfield 115, 3) := by decide +kernel
theorem dX6_servedBy_25 : decode cX6_servedBy 25 = .ok (.ifCond .eq 15, 3) := by decide +kernel
theorem dX6_servedBy_28 : decode cX6_servedBy 28 = .ok (.aload 4, 2) := by decide +kernel
theorem dX6_servedBy_30 : decode cX6_servedBy 30 = .ok (.getfield 165, 3) := by decide +kernel
theorem dX6_servedBy_33 : decode cX6_servedBy 33 = .ok (.iload_n 1, 1) := by decide +kernel
theorem dX6_servedBy_34 : decode cX6_servedBy 34 = .ok (.if_icmp .ne 6, 3) := by decide +kernel
theorem dX6_servedBy_37 : decode cX6_servedBy 37 = .ok (.iinc 2 1, 3) := by decide +kernel
theorem dX6_servedBy_40 : decode cX6_servedBy 40 = .ok (.iinc 3 1, 3) := by decide +kernel
theorem dX6_servedBy_43 : decode cX6_servedBy 43 = .ok (.goto (-39), 3) := by decide +kernel
theorem dX6_servedBy_46 : decode cX6_servedBy 46 = .ok (.iload_n 2, 1) := by decide +kernel
theorem dX6_servedBy_47 : decode cX6_servedBy 47 = .ok (.ireturn, 1) := by decide +kernel
theorem dX6_standingIn_0 : decode cX6_standingIn 0 = .ok (.iconst 0, 1) := by decide +kernel
theorem dX6_standingIn_1 : decode cX6_standingIn 1 = .ok (.istore_n 2, 1) := by decide +kernel
theorem dX6_standingIn_2 : decode cX6_standingIn 2 = .ok (.iconst 0, 1) := by decide +kernel
theorem dX6_standingIn_3 : decode cX6_standingIn 3 = .ok (.istore_n 3, 1) := by decide +kernel
theorem dX6_standingIn_4 : decode cX6_standingIn 4 = .ok (.iload_n 3, 1) := by decide +kernel
theorem dX6_standingIn_5 : decode cX6_standingIn 5 = .ok (.aload_n 0, 1) := by decide +kernel
theorem dX6_standingIn_6 : decode cX6_standingIn 6 = .ok (.getfield 48, 3) := by decide +kernel
theorem dX6_standingIn_9 : decode cX6_standingIn 9 = .ok (.if_icmp .ge 37, 3) := by decide +kernel
theorem dX6_standingIn_12 : decode cX6_standingIn 12 = .ok (.aload_n 0, 1) := by decide +kernel
theorem dX6_standingIn_13 : decode cX6_standingIn 13 = .ok (.getfield 17, 3) := by decide +kernel
theorem dX6_standingIn_16 : decode cX6_standingIn 16 = .ok (.iload_n 3, 1) := by decide +kernel
theorem dX6_standingIn_17 : decode cX6_standingIn 17 = .ok (.aaload, 1) := by decide +kernel
theorem dX6_standingIn_18 : decode cX6_standingIn 18 = .ok (.astore 4, 2) := by decide +kernel
theorem dX6_standingIn_20 : decode cX6_standingIn 20 = .ok (.aload 4, 2) := by decide +kernel
theorem dX6_standingIn_22 : decode cX6_standingIn 22 = .ok (.getfield 115, 3) := by decide +kernel
theorem dX6_standingIn_25 : decode cX6_standingIn 25 = .ok (.ifCond .eq 15, 3) := by decide +kernel
theorem dX6_standingIn_28 : decode cX6_standingIn 28 = .ok (.aload 4, 2) := by decide +kernel
theorem dX6_standingIn_30 : decode cX6_standingIn 30 = .ok (.getfield 194, 3) := by decide +kernel
theorem dX6_standingIn_33 : decode cX6_standingIn 33 = .ok (.iload_n 1, 1) := by decide +kernel
theorem dX6_standingIn_34 : decode cX6_standingIn 34 = .ok (.if_icmp .ne 6, 3) := by decide +kernel
theorem dX6_standingIn_37 : decode cX6_standingIn 37 = .ok (.iinc 2 1, 3) := by decide +kernel
theorem dX6_standingIn_40 : decode cX6_standingIn 40 = .ok (.iinc 3 1, 3) := by decide +kernel
theorem dX6_standingIn_43 : decode cX6_standingIn 43 = .ok (.goto (-39), 3) := by decide +kernel
theorem dX6_standingIn_46 : decode cX6_standingIn 46 = .ok (.iload_n 2, 1) := by decide +kernel
theorem dX6_standingIn_47 : decode cX6_standingIn 47 = .ok (.ireturn, 1) := by decide +kernel
theorem dX6_waitingIn_0 : decode cX6_waitingIn 0 = .ok (.iconst 0, 1) := by decide +kernel
theorem dX6_waitingIn_1 : decode cX6_waitingIn 1 = .ok (.istore_n 2, 1) := by decide +kernel
theorem dX6_waitingIn_2 : decode cX6_waitingIn 2 = .ok (.iconst 0, 1) := by decide +kernel
theorem dX6_waitingIn_3 : decode cX6_waitingIn 3 = .ok (.istore_n 3, 1) := by decide +kernel
theorem dX6_waitingIn_4 : decode cX6_waitingIn 4 = .ok (.iload_n 3, 1) := by decide +kernel
theorem dX6_waitingIn_5 : decode cX6_waitingIn 5 = .ok (.aload_n 0, 1) := by decide +kernel
theorem dX6_waitingIn_6 : decode cX6_waitingIn 6 = .ok (.getfield 48, 3) := by decide +kernel
theorem dX6_waitingIn_9 : decode cX6_waitingIn 9 = .ok (.if_icmp .ge 37, 3) := by decide +kernel
theorem dX6_waitingIn_12 : decode cX6_waitingIn 12 = .ok (.aload_n 0, 1) := by decide +kernel
theorem dX6_waitingIn_13 : decode cX6_waitingIn 13 = .ok (.getfield 17, 3) := by decide +kernel
theorem dX6_waitingIn_16 : decode cX6_waitingIn 16 = .ok (.iload_n 3, 1) := by decide +kernel
theorem dX6_waitingIn_17 : decode cX6_waitingIn 17 = .ok (.aaload, 1) := by decide +kernel
theorem dX6_waitingIn_18 : decode cX6_waitingIn 18 = .ok (.getfield 165, 3) := by decide +kernel
theorem dX6_waitingIn_21 : decode cX6_waitingIn 21 = .ok (.iload_n 1, 1) := by decide +kernel
theorem dX6_waitingIn_22 : decode cX6_waitingIn 22 = .ok (.if_icmp .ne 18, 3) := by decide +kernel
theorem dX6_waitingIn_25 : decode cX6_waitingIn 25 = .ok (.iload_n 2, 1) := by decide +kernel
theorem dX6_waitingIn_26 : decode cX6_waitingIn 26 = .ok (.aload_n 0, 1) := by decide +kernel
theorem dX6_waitingIn_27 : decode cX6_waitingIn 27 = .ok (.getfield 17, 3) := by decide +kernel
theorem dX6_waitingIn_30 : decode cX6_waitingIn 30 = .ok (.iload_n 3, 1) := by decide +kernel
theorem dX6_waitingIn_31 : decode cX6_waitingIn 31 = .ok (.aaload, 1) := by decide +kernel
theorem dX6_waitingIn_32 : decode cX6_waitingIn 32 = .ok (.getfield 168, 3) := by decide +kernel
theorem dX6_waitingIn_35 : decode cX6_waitingIn 35 = .ok (.getfield 172, 3) := by decide +kernel
theorem dX6_waitingIn_38 : decode cX6_waitingIn 38 = .ok (.iadd, 1) := by decide +kernel
theorem dX6_waitingIn_39 : decode cX6_waitingIn 39 = .ok (.istore_n 2, 1) := by decide +kernel
theorem dX6_waitingIn_40 : decode cX6_waitingIn 40 = .ok (.iinc 3 1, 3) := by decide +kernel
theorem dX6_waitingIn_43 : decode cX6_waitingIn 43 = .ok (.goto (-39), 3) := by decide +kernel
theorem dX6_waitingIn_46 : decode cX6_waitingIn 46 = .ok (.iload_n 2, 1) := by decide +kernel
theorem dX6_waitingIn_47 : decode cX6_waitingIn 47 = .ok (.ireturn, 1) := by decide +kernel
theorem dX6_valueOfWhole_0 : decode cX6_valueOfWhole 0 = .ok (.iload_n 1, 1) := by decide +kernel
theorem dX6_valueOfWhole_1 : decode cX6_valueOfWhole 1 = .ok (.tableswitch 124 0 11 #[63, 68, 74, 82, 87, 87, 87, 87, 96, 103, 110, 117], 63) := by decide +kernel
theorem dX6_valueOfWhole_64 : decode cX6_valueOfWhole 64 = .ok (.aload_n 0, 1) := by decide +kernel
theorem dX6_valueOfWhole_65 : decode cX6_valueOfWhole 65 = .ok (.getfield 48, 3) := by decide +kernel
theorem dX6_valueOfWhole_68 : decode cX6_valueOfWhole 68 = .ok (.ireturn, 1) := by decide +kernel
theorem dX6_valueOfWhole_69 : decode cX6_valueOfWhole 69 = .ok (.aload_n 0, 1) := by decide +kernel
theorem dX6_valueOfWhole_70 : decode cX6_valueOfWhole 70 = .ok (.iconst 5, 1) := by decide +kernel
theorem dX6_valueOfWhole_71 : decode cX6_valueOfWhole 71 = .ok (.invokevirtual 224, 3) := by decide +kernel
theorem dX6_valueOfWhole_74 : decode cX6_valueOfWhole 74 = .ok (.ireturn, 1) := by decide +kernel
theorem dX6_valueOfWhole_75 : decode cX6_valueOfWhole 75 = .ok (.aload_n 0, 1) := by decide +kernel
theorem dX6_valueOfWhole_76 : decode cX6_valueOfWhole 76 = .ok (.getfield 24, 3) := by decide +kernel
theorem dX6_valueOfWhole_79 : decode cX6_valueOfWhole 79 = .ok (.getfield 125, 3) := by decide +kernel
theorem dX6_valueOfWhole_82 : decode cX6_valueOfWhole 82 = .ok (.ireturn, 1) := by decide +kernel
theorem dX6_valueOfWhole_83 : decode cX6_valueOfWhole 83 = .ok (.aload_n 0, 1) := by decide +kernel
theorem dX6_valueOfWhole_84 : decode cX6_valueOfWhole 84 = .ok (.getfield 52, 3) := by decide +kernel
theorem dX6_valueOfWhole_87 : decode cX6_valueOfWhole 87 = .ok (.ireturn, 1) := by decide +kernel
theorem dX6_valueOfWhole_88 : decode cX6_valueOfWhole 88 = .ok (.aload_n 0, 1) := by decide +kernel
theorem dX6_valueOfWhole_89 : decode cX6_valueOfWhole 89 = .ok (.getfield 9, 3) := by decide +kernel
theorem dX6_valueOfWhole_92 : decode cX6_valueOfWhole 92 = .ok (.iload_n 1, 1) := by decide +kernel
theorem dX6_valueOfWhole_93 : decode cX6_valueOfWhole 93 = .ok (.iconst 4, 1) := by decide +kernel
theorem dX6_valueOfWhole_94 : decode cX6_valueOfWhole 94 = .ok (.isub, 1) := by decide +kernel
theorem dX6_valueOfWhole_95 : decode cX6_valueOfWhole 95 = .ok (.iaload, 1) := by decide +kernel
theorem dX6_valueOfWhole_96 : decode cX6_valueOfWhole 96 = .ok (.ireturn, 1) := by decide +kernel
theorem dX6_valueOfWhole_97 : decode cX6_valueOfWhole 97 = .ok (.aload_n 0, 1) := by decide +kernel
theorem dX6_valueOfWhole_98 : decode cX6_valueOfWhole 98 = .ok (.bipush 6, 2) := by decide +kernel
theorem dX6_valueOfWhole_100 : decode cX6_valueOfWhole 100 = .ok (.invokevirtual 224, 3) := by decide +kernel
theorem dX6_valueOfWhole_103 : decode cX6_valueOfWhole 103 = .ok (.ireturn, 1) := by decide +kernel
theorem dX6_valueOfWhole_104 : decode cX6_valueOfWhole 104 = .ok (.aload_n 0, 1) := by decide +kernel
theorem dX6_valueOfWhole_105 : decode cX6_valueOfWhole 105 = .ok (.bipush 8, 2) := by decide +kernel
theorem dX6_valueOfWhole_107 : decode cX6_valueOfWhole 107 = .ok (.invokevirtual 224, 3) := by decide +kernel
theorem dX6_valueOfWhole_110 : decode cX6_valueOfWhole 110 = .ok (.ireturn, 1) := by decide +kernel
theorem dX6_valueOfWhole_111 : decode cX6_valueOfWhole 111 = .ok (.aload_n 0, 1) := by decide +kernel
theorem dX6_valueOfWhole_112 : decode cX6_valueOfWhole 112 = .ok (.bipush 9, 2) := by decide +kernel
theorem dX6_valueOfWhole_114 : decode cX6_valueOfWhole 114 = .ok (.invokevirtual 224, 3) := by decide +kernel
theorem dX6_valueOfWhole_117 : decode cX6_valueOfWhole 117 = .ok (.ireturn, 1) := by decide +kernel
theorem dX6_valueOfWhole_118 : decode cX6_valueOfWhole 118 = .ok (.aload_n 0, 1) := by decide +kernel
theorem dX6_valueOfWhole_119 : decode cX6_valueOfWhole 119 = .ok (.bipush 12, 2) := by decide +kernel
theorem dX6_valueOfWhole_121 : decode cX6_valueOfWhole 121 = .ok (.invokevirtual 224, 3) := by decide +kernel
theorem dX6_valueOfWhole_124 : decode cX6_valueOfWhole 124 = .ok (.ireturn, 1) := by decide +kernel
theorem dX6_valueOfWhole_125 : decode cX6_valueOfWhole 125 = .ok (.aload_n 0, 1) := by decide +kernel
theorem dX6_valueOfWhole_126 : decode cX6_valueOfWhole 126 = .ok (.bipush 10, 2) := by decide +kernel
theorem dX6_valueOfWhole_128 : decode cX6_valueOfWhole 128 = .ok (.invokevirtual 224, 3) := by decide +kernel
theorem dX6_valueOfWhole_131 : decode cX6_valueOfWhole 131 = .ok (.ireturn, 1) := by decide +kernel
theorem dX6_sumOf_0 : decode cX6_sumOf 0 = .ok (.iconst 0, 1) := by decide +kernel
theorem dX6_sumOf_1 : decode cX6_sumOf 1 = .ok (.istore_n 2, 1) := by decide +kernel
theorem dX6_sumOf_2 : decode cX6_sumOf 2 = .ok (.iconst 0, 1) := by decide +kernel
theorem dX6_sumOf_3 : decode cX6_sumOf 3 = .ok (.istore_n 3, 1) := by decide +kernel
theorem dX6_sumOf_4 : decode cX6_sumOf 4 = .ok (.iload_n 3, 1) := by decide +kernel
theorem dX6_sumOf_5 : decode cX6_sumOf 5 = .ok (.aload_n 0, 1) := by decide +kernel
theorem dX6_sumOf_6 : decode cX6_sumOf 6 = .ok (.getfield 48, 3) := by decide +kernel
theorem dX6_sumOf_9 : decode cX6_sumOf 9 = .ok (.if_icmp .ge 22, 3) := by decide +kernel
theorem dX6_sumOf_12 : decode cX6_sumOf 12 = .ok (.iload_n 2, 1) := by decide +kernel
theorem dX6_sumOf_13 : decode cX6_sumOf 13 = .ok (.aload_n 0, 1) := by decide +kernel
theorem dX6_sumOf_14 : decode cX6_sumOf 14 = .ok (.getfield 17, 3) := by decide +kernel
theorem dX6_sumOf_17 : decode cX6_sumOf 17 = .ok (.iload_n 3, 1) := by decide +kernel
theorem dX6_sumOf_18 : decode cX6_sumOf 18 = .ok (.aaload, 1) := by decide +kernel
theorem dX6_sumOf_19 : decode cX6_sumOf 19 = .ok (.iload_n 1, 1) := by decide +kernel
theorem dX6_sumOf_20 : decode cX6_sumOf 20 = .ok (.invokevirtual 227, 3) := by decide +kernel
theorem dX6_sumOf_23 : decode cX6_sumOf 23 = .ok (.iadd, 1) := by decide +kernel
theorem dX6_sumOf_24 : decode cX6_sumOf 24 = .ok (.istore_n 2, 1) := by decide +kernel
theorem dX6_sumOf_25 : decode cX6_sumOf 25 = .ok (.iinc 3 1, 3) := by decide +kernel
theorem dX6_sumOf_28 : decode cX6_sumOf 28 = .ok (.goto (-24), 3) := by decide +kernel
theorem dX6_sumOf_31 : decode cX6_sumOf 31 = .ok (.iload_n 2, 1) := by decide +kernel
theorem dX6_sumOf_32 : decode cX6_sumOf 32 = .ok (.ireturn, 1) := by decide +kernel
theorem dX7_init_0 : decode cX7_init 0 = .ok (.aload_n 0, 1) := by decide +kernel
theorem dX7_init_1 : decode cX7_init 1 = .ok (.invokespecial 1, 3) := by decide +kernel
theorem dX7_init_4 : decode cX7_init 4 = .ok (.aload_n 0, 1) := by decide +kernel
theorem dX7_init_5 : decode cX7_init 5 = .ok (.new 7, 3) := by decide +kernel
theorem dX7_init_8 : decode cX7_init 8 = .ok (.dup, 1) := by decide +kernel
theorem dX7_init_9 : decode cX7_init 9 = .ok (.invokespecial 9, 3) := by decide +kernel
theorem dX7_init_12 : decode cX7_init 12 = .ok (.putfield 10, 3) := by decide +kernel
theorem dX7_init_15 : decode cX7_init 15 = .ok (.aload_n 0, 1) := by decide +kernel
theorem dX7_init_16 : decode cX7_init 16 = .ok (.new 7, 3) := by decide +kernel
theorem dX7_init_19 : decode cX7_init 19 = .ok (.dup, 1) := by decide +kernel
theorem dX7_init_20 : decode cX7_init 20 = .ok (.invokespecial 9, 3) := by decide +kernel
theorem dX7_init_23 : decode cX7_init 23 = .ok (.putfield 16, 3) := by decide +kernel
theorem dX7_init_26 : decode cX7_init 26 = .ok (.aload_n 0, 1) := by decide +kernel
theorem dX7_init_27 : decode cX7_init 27 = .ok (.new 19, 3) := by decide +kernel
theorem dX7_init_30 : decode cX7_init 30 = .ok (.dup, 1) := by decide +kernel
theorem dX7_init_31 : decode cX7_init 31 = .ok (.invokespecial 21, 3) := by decide +kernel
theorem dX7_init_34 : decode cX7_init 34 = .ok (.putfield 22, 3) := by decide +kernel
theorem dX7_init_37 : decode cX7_init 37 = .ok (.aload_n 0, 1) := by decide +kernel
theorem dX7_init_38 : decode cX7_init 38 = .ok (.new 26, 3) := by decide +kernel
theorem dX7_init_41 : decode cX7_init 41 = .ok (.dup, 1) := by decide +kernel
theorem dX7_init_42 : decode cX7_init 42 = .ok (.invokespecial 28, 3) := by decide +kernel
theorem dX7_init_45 : decode cX7_init 45 = .ok (.putfield 29, 3) := by decide +kernel
theorem dX7_init_48 : decode cX7_init 48 = .ok (.return_, 1) := by decide +kernel
theorem dX7_subscribe_0 : decode cX7_subscribe 0 = .ok (.aload_n 0, 1) := by decide +kernel
theorem dX7_subscribe_1 : decode cX7_subscribe 1 = .ok (.iconst 0, 1) := by decide +kernel
theorem dX7_subscribe_2 : decode cX7_subscribe 2 = .ok (.iload_n 1, 1) := by decide +kernel
theorem dX7_subscribe_3 : decode cX7_subscribe 3 = .ok (.iload_n 2, 1) := by decide +kernel
theorem dX7_subscribe_4 : decode cX7_subscribe 4 = .ok (.iload_n 3, 1) := by decide +kernel
theorem dX7_subscribe_5 : decode cX7_subscribe 5 = .ok (.invokevirtual 33, 3) := by decide +kernel
theorem dX7_subscribe_8 : decode cX7_subscribe 8 = .ok (.ireturn, 1) := by decide +kernel
theorem dX7_move_0 : decode cX7_move 0 = .ok (.aload_n 0, 1) := by decide +kernel
theorem dX7_move_1 : decode cX7_move 1 = .ok (.iconst 1, 1) := by decide +kernel
theorem dX7_move_2 : decode cX7_move 2 = .ok (.iload_n 1, 1) := by decide +kernel
theorem dX7_move_3 : decode cX7_move 3 = .ok (.iload_n 2, 1) := by decide +kernel
theorem dX7_move_4 : decode cX7_move 4 = .ok (.iconst 0, 1) := by decide +kernel
theorem dX7_move_5 : decode cX7_move 5 = .ok (.invokevirtual 33, 3) := by decide +kernel
theorem dX7_move_8 : decode cX7_move 8 = .ok (.ireturn, 1) := by decide +kernel
theorem dX7_leave_0 : decode cX7_leave 0 = .ok (.aload_n 0, 1) := by decide +kernel
theorem dX7_leave_1 : decode cX7_leave 1 = .ok (.iconst 2, 1) := by decide +kernel
theorem dX7_leave_2 : decode cX7_leave 2 = .ok (.iload_n 1, 1) := by decide +kernel
theorem dX7_leave_3 : decode cX7_leave 3 = .ok (.iconst 0, 1) := by decide +kernel
theorem dX7_leave_4 : decode cX7_leave 4 = .ok (.iconst 0, 1) := by decide +kernel
theorem dX7_leave_5 : decode cX7_leave 5 = .ok (.invokevirtual 33, 3) := by decide +kernel
theorem dX7_leave_8 : decode cX7_leave 8 = .ok (.ireturn, 1) := by decide +kernel
theorem dX7_setLevel_0 : decode cX7_setLevel 0 = .ok (.aload_n 0, 1) := by decide +kernel
theorem dX7_setLevel_1 : decode cX7_setLevel 1 = .ok (.bipush 7, 2) := by decide +kernel
theorem dX7_setLevel_3 : decode cX7_setLevel 3 = .ok (.iload_n 1, 1) := by decide +kernel
theorem dX7_setLevel_4 : decode cX7_setLevel 4 = .ok (.iload_n 2, 1) := by decide +kernel
theorem dX7_setLevel_5 : decode cX7_setLevel 5 = .ok (.iconst 0, 1) := by decide +kernel
theorem dX7_setLevel_6 : decode cX7_setLevel 6 = .ok (.invokevirtual 33, 3) := by decide +kernel
theorem dX7_setLevel_9 : decode cX7_setLevel 9 = .ok (.ireturn, 1) := by decide +kernel
theorem dX7_set_0 : decode cX7_set 0 = .ok (.aload_n 0, 1) := by decide +kernel
theorem dX7_set_1 : decode cX7_set 1 = .ok (.iconst 5, 1) := by decide +kernel
theorem dX7_set_2 : decode cX7_set 2 = .ok (.iload_n 1, 1) := by decide +kernel
theorem dX7_set_3 : decode cX7_set 3 = .ok (.iload_n 2, 1) := by decide +kernel
theorem dX7_set_4 : decode cX7_set 4 = .ok (.iconst 0, 1) := by decide +kernel
theorem dX7_set_5 : decode cX7_set 5 = .ok (.invokevirtual 33, 3) := by decide +kernel
theorem dX7_set_8 : decode cX7_set 8 = .ok (.ireturn, 1) := by decide +kernel
theorem dX7_publish_0 : decode cX7_publish 0 = .ok (.aload_n 0, 1) := by decide +kernel
theorem dX7_publish_1 : decode cX7_publish 1 = .ok (.iconst 4, 1) := by decide +kernel
theorem dX7_publish_2 : decode cX7_publish 2 = .ok (.iload_n 1, 1) := by decide +kernel
theorem dX7_publish_3 : decode cX7_publish 3 = .ok (.iload_n 2, 1) := by decide +kernel
theorem dX7_publish_4 : decode cX7_publish 4 = .ok (.iload_n 3, 1) := by decide +kernel
theorem dX7_publish_5 : decode cX7_publish 5 = .ok (.invokevirtual 33, 3) := by decide +kernel
theorem dX7_publish_8 : decode cX7_publish 8 = .ok (.ireturn, 1) := by decide +kernel
theorem dX7_pass_0 : decode cX7_pass 0 = .ok (.aload_n 0, 1) := by decide +kernel
theorem dX7_pass_1 : decode cX7_pass 1 = .ok (.bipush 6, 2) := by decide +kernel
theorem dX7_pass_3 : decode cX7_pass 3 = .ok (.iload_n 1, 1) := by decide +kernel
theorem dX7_pass_4 : decode cX7_pass 4 = .ok (.iconst 0, 1) := by decide +kernel
theorem dX7_pass_5 : decode cX7_pass 5 = .ok (.iconst 0, 1) := by decide +kernel
theorem dX7_pass_6 : decode cX7_pass 6 = .ok (.invokevirtual 33, 3) := by decide +kernel
theorem dX7_pass_9 : decode cX7_pass 9 = .ok (.ireturn, 1) := by decide +kernel
theorem dX7_subscriber_0 : decode cX7_subscriber 0 = .ok (.aload_n 0, 1) := by decide +kernel
theorem dX7_subscriber_1 : decode cX7_subscriber 1 = .ok (.getfield 10, 3) := by decide +kernel
theorem dX7_subscriber_4 : decode cX7_subscriber 4 = .ok (.iload_n 1, 1) := by decide +kernel
theorem dX7_subscriber_5 : decode cX7_subscriber 5 = .ok (.invokevirtual 37, 3) := by decide +kernel
theorem dX7_subscriber_8 : decode cX7_subscriber 8 = .ok (.invokestatic 41, 3) := by decide +kernel
theorem dX7_subscriber_11 : decode cX7_subscriber 11 = .ok (.iload_n 2, 1) := by decide +kernel
theorem dX7_subscriber_12 : decode cX7_subscriber 12 = .ok (.bipush 12, 2) := by decide +kernel
theorem dX7_subscriber_14 : decode cX7_subscriber 14 = .ok (.invokestatic 45, 3) := by decide +kernel
theorem dX7_subscriber_17 : decode cX7_subscriber 17 = .ok (.invokestatic 49, 3) := by decide +kernel
theorem dX7_subscriber_20 : decode cX7_subscriber 20 = .ok (.aload_n 0, 1) := by decide +kernel
theorem dX7_subscriber_21 : decode cX7_subscriber 21 = .ok (.getfield 10, 3) := by decide +kernel
theorem dX7_subscriber_24 : decode cX7_subscriber 24 = .ok (.getfield 52, 3) := by decide +kernel
theorem dX7_subscriber_27 : decode cX7_subscriber 27 = .ok (.iload_n 1, 1) := by decide +kernel
theorem dX7_subscriber_28 : decode cX7_subscriber 28 = .ok (.aaload, 1) := by decide +kernel
theorem dX7_subscriber_29 : decode cX7_subscriber 29 = .ok (.iload_n 2, 1) := by decide +kernel
theorem dX7_subscriber_30 : decode cX7_subscriber 30 = .ok (.invokevirtual 56, 3) := by decide +kernel
theorem dX7_subscriber_33 : decode cX7_subscriber 33 = .ok (.ireturn, 1) := by decide +kernel
theorem dX7_stay_0 : decode cX7_stay 0 = .ok (.aload_n 0, 1) := by decide +kernel
theorem dX7_stay_1 : decode cX7_stay 1 = .ok (.getfield 10, 3) := by decide +kernel
theorem dX7_stay_4 : decode cX7_stay 4 = .ok (.iload_n 1, 1) := by decide +kernel
theorem dX7_stay_5 : decode cX7_stay 5 = .ok (.invokevirtual 37, 3) := by decide +kernel
theorem dX7_stay_8 : decode cX7_stay 8 = .ok (.invokestatic 41, 3) := by decide +kernel
theorem dX7_stay_11 : decode cX7_stay 11 = .ok (.iload_n 2, 1) := by decide +kernel
theorem dX7_stay_12 : decode cX7_stay 12 = .ok (.ifCond .lt 15, 3) := by decide +kernel
theorem dX7_stay_15 : decode cX7_stay 15 = .ok (.iload_n 3, 1) := by decide +kernel
theorem dX7_stay_16 : decode cX7_stay 16 = .ok (.iconst 3, 1) := by decide +kernel
theorem dX7_stay_17 : decode cX7_stay 17 = .ok (.invokestatic 45, 3) := by decide +kernel
theorem dX7_stay_20 : decode cX7_stay 20 = .ok (.ifCond .eq 7, 3) := by decide +kernel
theorem dX7_stay_23 : decode cX7_stay 23 = .ok (.iconst 1, 1) := by decide +kernel
theorem dX7_stay_24 : decode cX7_stay 24 = .ok (.goto 4, 3) := by decide +kernel
theorem dX7_stay_27 : decode cX7_stay 27 = .ok (.iconst 0, 1) := by decide +kernel
theorem dX7_stay_28 : decode cX7_stay 28 = .ok (.invokestatic 49, 3) := by decide +kernel
theorem dX7_stay_31 : decode cX7_stay 31 = .ok (.aload_n 0, 1) := by decide +kernel
theorem dX7_stay_32 : decode cX7_stay 32 = .ok (.getfield 10, 3) := by decide +kernel
theorem dX7_stay_35 : decode cX7_stay 35 = .ok (.getfield 52, 3) := by decide +kernel
theorem dX7_stay_38 : decode cX7_stay 38 = .ok (.iload_n 1, 1) := by decide +kernel
theorem dX7_stay_39 : decode cX7_stay 39 = .ok (.aaload, 1) := by decide +kernel
theorem dX7_stay_40 : decode cX7_stay 40 = .ok (.getfield 62, 3) := by decide +kernel
theorem dX7_stay_43 : decode cX7_stay 43 = .ok (.iload_n 2, 1) := by decide +kernel
theorem dX7_stay_44 : decode cX7_stay 44 = .ok (.iload_n 3, 1) := by decide +kernel
theorem dX7_stay_45 : decode cX7_stay 45 = .ok (.invokevirtual 66, 3) := by decide +kernel
theorem dX7_stay_48 : decode cX7_stay 48 = .ok (.ireturn, 1) := by decide +kernel
theorem dX7_waiting_0 : decode cX7_waiting 0 = .ok (.aload_n 0, 1) := by decide +kernel
theorem dX7_waiting_1 : decode cX7_waiting 1 = .ok (.getfield 10, 3) := by decide +kernel
theorem dX7_waiting_4 : decode cX7_waiting 4 = .ok (.iload_n 1, 1) := by decide +kernel
theorem dX7_waiting_5 : decode cX7_waiting 5 = .ok (.invokevirtual 37, 3) := by decide +kernel
theorem dX7_waiting_8 : decode cX7_waiting 8 = .ok (.invokestatic 41, 3) := by decide +kernel
theorem dX7_waiting_11 : decode cX7_waiting 11 = .ok (.iload_n 2, 1) := by decide +kernel
theorem dX7_waiting_12 : decode cX7_waiting 12 = .ok (.ifCond .lt 7, 3) := by decide +kernel
theorem dX7_waiting_15 : decode cX7_waiting 15 = .ok (.iconst 1, 1) := by decide +kernel
theorem dX7_waiting_16 : decode cX7_waiting 16 = .ok (.goto 4, 3) := by decide +kernel
theorem dX7_waiting_19 : decode cX7_waiting 19 = .ok (.iconst 0, 1) := by decide +kernel
theorem dX7_waiting_20 : decode cX7_waiting 20 = .ok (.invokestatic 49, 3) := by decide +kernel
theorem dX7_waiting_23 : decode cX7_waiting 23 = .ok (.aload_n 0, 1) := by decide +kernel
theorem dX7_waiting_24 : decode cX7_waiting 24 = .ok (.getfield 10, 3) := by decide +kernel
theorem dX7_waiting_27 : decode cX7_waiting 27 = .ok (.getfield 52, 3) := by decide +kernel
theorem dX7_waiting_30 : decode cX7_waiting 30 = .ok (.iload_n 1, 1) := by decide +kernel
theorem dX7_waiting_31 : decode cX7_waiting 31 = .ok (.aaload, 1) := by decide +kernel
theorem dX7_waiting_32 : decode cX7_waiting 32 = .ok (.getfield 71, 3) := by decide +kernel
theorem dX7_waiting_35 : decode cX7_waiting 35 = .ok (.iload_n 2, 1) := by decide +kernel
theorem dX7_waiting_36 : decode cX7_waiting 36 = .ok (.invokevirtual 75, 3) := by decide +kernel
theorem dX7_waiting_39 : decode cX7_waiting 39 = .ok (.ireturn, 1) := by decide +kernel
theorem dX7_event_0 : decode cX7_event 0 = .ok (.iload_n 1, 1) := by decide +kernel
theorem dX7_event_1 : decode cX7_event 1 = .ok (.aload_n 0, 1) := by decide +kernel
theorem dX7_event_2 : decode cX7_event 2 = .ok (.getfield 10, 3) := by decide +kernel
theorem dX7_event_5 : decode cX7_event 5 = .ok (.getfield 80, 3) := by decide +kernel
theorem dX7_event_8 : decode cX7_event 8 = .ok (.getfield 84, 3) := by decide +kernel
theorem dX7_event_11 : decode cX7_event 11 = .ok (.invokestatic 45, 3) := by decide +kernel
theorem dX7_event_14 : decode cX7_event 14 = .ok (.invokestatic 41, 3) := by decide +kernel
theorem dX7_event_17 : decode cX7_event 17 = .ok (.iload_n 2, 1) := by decide +kernel
theorem dX7_event_18 : decode cX7_event 18 = .ok (.bipush 7, 2) := by decide +kernel
theorem dX7_event_20 : decode cX7_event 20 = .ok (.invokestatic 45, 3) := by decide +kernel
theorem dX7_event_23 : decode cX7_event 23 = .ok (.invokestatic 49, 3) := by decide +kernel
theorem dX7_event_26 : decode cX7_event 26 = .ok (.aload_n 0, 1) := by decide +kernel
theorem dX7_event_27 : decode cX7_event 27 = .ok (.getfield 10, 3) := by decide +kernel
theorem dX7_event_30 : decode cX7_event 30 = .ok (.iload_n 1, 1) := by decide +kernel
theorem dX7_event_31 : decode cX7_event 31 = .ok (.iload_n 2, 1) := by decide +kernel
theorem dX7_event_32 : decode cX7_event 32 = .ok (.invokevirtual 90, 3) := by decide +kernel
theorem dX7_event_35 : decode cX7_event 35 = .ok (.ireturn, 1) := by decide +kernel
theorem dX7_leaf_0 : decode cX7_leaf 0 = .ok (.iload_n 1, 1) := by decide +kernel
theorem dX7_leaf_1 : decode cX7_leaf 1 = .ok (.bipush 16, 2) := by decide +kernel
theorem dX7_leaf_3 : decode cX7_leaf 3 = .ok (.invokestatic 45, 3) := by decide +kernel
theorem dX7_leaf_6 : decode cX7_leaf 6 = .ok (.invokestatic 41, 3) := by decide +kernel
theorem dX7_leaf_9 : decode cX7_leaf 9 = .ok (.iload_n 2, 1) := by decide +kernel
theorem dX7_leaf_10 : decode cX7_leaf 10 = .ok (.iconst 4, 1) := by decide +kernel
theorem dX7_leaf_11 : decode cX7_leaf 11 = .ok (.invokestatic 45, 3) := by decide +kernel
theorem dX7_leaf_14 : decode cX7_leaf 14 = .ok (.invokestatic 49, 3) := by decide +kernel
theorem dX7_leaf_17 : decode cX7_leaf 17 = .ok (.aload_n 0, 1) := by decide +kernel
theorem dX7_leaf_18 : decode cX7_leaf 18 = .ok (.getfield 10, 3) := by decide +kernel
theorem dX7_leaf_21 : decode cX7_leaf 21 = .ok (.iload_n 1, 1) := by decide +kernel
theorem dX7_leaf_22 : decode cX7_leaf 22 = .ok (.iload_n 2, 1) := by decide +kernel
theorem dX7_leaf_23 : decode cX7_leaf 23 = .ok (.invokevirtual 93, 3) := by decide +kernel
theorem dX7_leaf_26 : decode cX7_leaf 26 = .ok (.ireturn, 1) := by decide +kernel
theorem dX7_whole_0 : decode cX7_whole 0 = .ok (.iload_n 1, 1) := by decide +kernel
theorem dX7_whole_1 : decode cX7_whole 1 = .ok (.bipush 14, 2) := by decide +kernel
theorem dX7_whole_3 : decode cX7_whole 3 = .ok (.invokestatic 45, 3) := by decide +kernel
theorem dX7_whole_6 : decode cX7_whole 6 = .ok (.invokestatic 49, 3) := by decide +kernel
theorem dX7_whole_9 : decode cX7_whole 9 = .ok (.aload_n 0, 1) := by decide +kernel
theorem dX7_whole_10 : decode cX7_whole 10 = .ok (.iload_n 1, 1) := by decide +kernel
theorem dX7_whole_11 : decode cX7_whole 11 = .ok (.invokevirtual 96, 3) := by decide +kernel
theorem dX7_whole_14 : decode cX7_whole 14 = .ok (.ireturn, 1) := by decide +kernel
theorem dX7_wouldReach_0 : decode cX7_wouldReach 0 = .ok (.iload_n 1, 1) := by decide +kernel
theorem dX7_wouldReach_1 : decode cX7_wouldReach 1 = .ok (.bipush 16, 2) := by decide +kernel
theorem dX7_wouldReach_3 : decode cX7_wouldReach 3 = .ok (.invokestatic 45, 3) := by decide +kernel
theorem dX7_wouldReach_6 : decode cX7_wouldReach 6 = .ok (.invokestatic 41, 3) := by decide +kernel
theorem dX7_wouldReach_9 : decode cX7_wouldReach 9 = .ok (.iload_n 2, 1) := by decide +kernel
theorem dX7_wouldReach_10 : decode cX7_wouldReach 10 = .ok (.iconst 3, 1) := by decide +kernel
theorem dX7_wouldReach_11 : decode cX7_wouldReach 11 = .ok (.invokestatic 45, 3) := by decide +kernel
theorem dX7_wouldReach_14 : decode cX7_wouldReach 14 = .ok (.ifCond .eq 11, 3) := by decide +kernel
theorem dX7_wouldReach_17 : decode cX7_wouldReach 17 = .ok (.iload_n 3, 1) := by decide +kernel
theorem dX7_wouldReach_18 : decode cX7_wouldReach 18 = .ok (.ifCond .lt 7, 3) := by decide +kernel
theorem dX7_wouldReach_21 : decode cX7_wouldReach 21 = .ok (.iconst 1, 1) := by decide +kernel
theorem dX7_wouldReach_22 : decode cX7_wouldReach 22 = .ok (.goto 4, 3) := by decide +kernel
theorem dX7_wouldReach_25 : decode cX7_wouldReach 25 = .ok (.iconst 0, 1) := by decide +kernel
theorem dX7_wouldReach_26 : decode cX7_wouldReach 26 = .ok (.invokestatic 49, 3) := by decide +kernel
theorem dX7_wouldReach_29 : decode cX7_wouldReach 29 = .ok (.aload_n 0, 1) := by decide +kernel
theorem dX7_wouldReach_30 : decode cX7_wouldReach 30 = .ok (.getfield 10, 3) := by decide +kernel
theorem dX7_wouldReach_33 : decode cX7_wouldReach 33 = .ok (.iload_n 3, 1) := by decide +kernel
theorem dX7_wouldReach_34 : decode cX7_wouldReach 34 = .ok (.invokevirtual 99, 3) := by decide +kernel
theorem dX7_wouldReach_37 : decode cX7_wouldReach 37 = .ok (.ifCond .eq 7, 3) := by decide +kernel
theorem dX7_wouldReach_40 : decode cX7_wouldReach 40 = .ok (.iconst (-1), 1) := by decide +kernel
theorem dX7_wouldReach_41 : decode cX7_wouldReach 41 = .ok (.goto 21, 3) := by decide +kernel
theorem dX7_wouldReach_44 : decode cX7_wouldReach 44 = .ok (.aload_n 0, 1) := by decide +kernel
theorem dX7_wouldReach_45 : decode cX7_wouldReach 45 = .ok (.getfield 10, 3) := by decide +kernel
theorem dX7_wouldReach_48 : decode cX7_wouldReach 48 = .ok (.iload_n 1, 1) := by decide +kernel
theorem dX7_wouldReach_49 : decode cX7_wouldReach 49 = .ok (.iload_n 2, 1) := by decide +kernel
theorem dX7_wouldReach_50 : decode cX7_wouldReach 50 = .ok (.aload_n 0, 1) := by decide +kernel
theorem dX7_wouldReach_51 : decode cX7_wouldReach 51 = .ok (.getfield 10, 3) := by decide +kernel
theorem dX7_wouldReach_54 : decode cX7_wouldReach 54 = .ok (.getfield 102, 3) := by decide +kernel
theorem dX7_wouldReach_57 : decode cX7_wouldReach 57 = .ok (.iload_n 3, 1) := by decide +kernel
theorem dX7_wouldReach_58 : decode cX7_wouldReach 58 = .ok (.isub, 1) := by decide +kernel
theorem dX7_wouldReach_59 : decode cX7_wouldReach 59 = .ok (.invokevirtual 105, 3) := by decide +kernel
theorem dX7_wouldReach_62 : decode cX7_wouldReach 62 = .ok (.ireturn, 1) := by decide +kernel
theorem dX7_reason_0 : decode cX7_reason 0 = .ok (.aload_n 0, 1) := by decide +kernel
theorem dX7_reason_1 : decode cX7_reason 1 = .ok (.getfield 10, 3) := by decide +kernel
theorem dX7_reason_4 : decode cX7_reason 4 = .ok (.iload_n 1, 1) := by decide +kernel
theorem dX7_reason_5 : decode cX7_reason 5 = .ok (.invokevirtual 37, 3) := by decide +kernel
theorem dX7_reason_8 : decode cX7_reason 8 = .ok (.ifCond .eq 16, 3) := by decide +kernel
theorem dX7_reason_11 : decode cX7_reason 11 = .ok (.iload_n 2, 1) := by decide +kernel
theorem dX7_reason_12 : decode cX7_reason 12 = .ok (.bipush 16, 2) := by decide +kernel
theorem dX7_reason_14 : decode cX7_reason 14 = .ok (.invokestatic 45, 3) := by decide +kernel
theorem dX7_reason_17 : decode cX7_reason 17 = .ok (.ifCond .eq 7, 3) := by decide +kernel
theorem dX7_reason_20 : decode cX7_reason 20 = .ok (.iconst 1, 1) := by decide +kernel
theorem dX7_reason_21 : decode cX7_reason 21 = .ok (.goto 4, 3) := by decide +kernel
theorem dX7_reason_24 : decode cX7_reason 24 = .ok (.iconst 0, 1) := by decide +kernel
theorem dX7_reason_25 : decode cX7_reason 25 = .ok (.invokestatic 41, 3) := by decide +kernel
theorem dX7_reason_28 : decode cX7_reason 28 = .ok (.iload_n 3, 1) := by decide +kernel
theorem dX7_reason_29 : decode cX7_reason 29 = .ok (.iconst 3, 1) := by decide +kernel
theorem dX7_reason_30 : decode cX7_reason 30 = .ok (.invokestatic 45, 3) := by decide +kernel
theorem dX7_reason_33 : decode cX7_reason 33 = .ok (.invokestatic 49, 3) := by decide +kernel
theorem dX7_reason_36 : decode cX7_reason 36 = .ok (.aload_n 0, 1) := by decide +kernel
theorem dX7_reason_37 : decode cX7_reason 37 = .ok (.getfield 10, 3) := by decide +kernel
theorem dX7_reason_40 : decode cX7_reason 40 = .ok (.getfield 52, 3) := by decide +kernel
theorem dX7_reason_43 : decode cX7_reason 43 = .ok (.iload_n 1, 1) := by decide +kernel
theorem dX7_reason_44 : decode cX7_reason 44 = .ok (.aaload, 1) := by decide +kernel
theorem dX7_reason_45 : decode cX7_reason 45 = .ok (.iload_n 2, 1) := by decide +kernel
theorem dX7_reason_46 : decode cX7_reason 46 = .ok (.iload_n 3, 1) := by decide +kernel
theorem dX7_reason_47 : decode cX7_reason 47 = .ok (.invokestatic 109, 3) := by decide +kernel
theorem dX7_reason_50 : decode cX7_reason 50 = .ok (.invokevirtual 112, 3) := by decide +kernel
theorem dX7_reason_53 : decode cX7_reason 53 = .ok (.ireturn, 1) := by decide +kernel
theorem dX7_servedIn_0 : decode cX7_servedIn 0 = .ok (.aload_n 0, 1) := by decide +kernel
theorem dX7_servedIn_1 : decode cX7_servedIn 1 = .ok (.getfield 10, 3) := by decide +kernel
theorem dX7_servedIn_4 : decode cX7_servedIn 4 = .ok (.iload_n 1, 1) := by decide +kernel
theorem dX7_servedIn_5 : decode cX7_servedIn 5 = .ok (.invokevirtual 37, 3) := by decide +kernel
theorem dX7_servedIn_8 : decode cX7_servedIn 8 = .ok (.invokestatic 41, 3) := by decide +kernel
theorem dX7_servedIn_11 : decode cX7_servedIn 11 = .ok (.aload_n 0, 1) := by decide +kernel
theorem dX7_servedIn_12 : decode cX7_servedIn 12 = .ok (.getfield 10, 3) := by decide +kernel
theorem dX7_servedIn_15 : decode cX7_servedIn 15 = .ok (.iload_n 1, 1) := by decide +kernel
theorem dX7_servedIn_16 : decode cX7_servedIn 16 = .ok (.invokevirtual 115, 3) := by decide +kernel
theorem dX7_servedIn_19 : decode cX7_servedIn 19 = .ok (.ireturn, 1) := by decide +kernel
theorem dX7_emptyIn_0 : decode cX7_emptyIn 0 = .ok (.aload_n 0, 1) := by decide +kernel
theorem dX7_emptyIn_1 : decode cX7_emptyIn 1 = .ok (.getfield 10, 3) := by decide +kernel
theorem dX7_emptyIn_4 : decode cX7_emptyIn 4 = .ok (.iload_n 1, 1) := by decide +kernel
theorem dX7_emptyIn_5 : decode cX7_emptyIn 5 = .ok (.invokevirtual 37, 3) := by decide +kernel
theorem dX7_emptyIn_8 : decode cX7_emptyIn 8 = .ok (.invokestatic 41, 3) := by decide +kernel
theorem dX7_emptyIn_11 : decode cX7_emptyIn 11 = .ok (.aload_n 0, 1) := by decide +kernel
theorem dX7_emptyIn_12 : decode cX7_emptyIn 12 = .ok (.getfield 16, 3) := by decide +kernel
theorem dX7_emptyIn_15 : decode cX7_emptyIn 15 = .ok (.aload_n 0, 1) := by decide +kernel
theorem dX7_emptyIn_16 : decode cX7_emptyIn 16 = .ok (.getfield 10, 3) := by decide +kernel
theorem dX7_emptyIn_19 : decode cX7_emptyIn 19 = .ok (.invokevirtual 118, 3) := by decide +kernel
theorem dX7_emptyIn_22 : decode cX7_emptyIn 22 = .ok (.aload_n 0, 1) := by decide +kernel
theorem dX7_emptyIn_23 : decode cX7_emptyIn 23 = .ok (.getfield 16, 3) := by decide +kernel
theorem dX7_emptyIn_26 : decode cX7_emptyIn 26 = .ok (.iload_n 1, 1) := by decide +kernel
theorem dX7_emptyIn_27 : decode cX7_emptyIn 27 = .ok (.invokevirtual 122, 3) := by decide +kernel
theorem dX7_emptyIn_30 : decode cX7_emptyIn 30 = .ok (.ireturn, 1) := by decide +kernel
theorem dX7_covered_0 : decode cX7_covered 0 = .ok (.aload_n 0, 1) := by decide +kernel
theorem dX7_covered_1 : decode cX7_covered 1 = .ok (.getfield 10, 3) := by decide +kernel
theorem dX7_covered_4 : decode cX7_covered 4 = .ok (.iload_n 1, 1) := by decide +kernel
theorem dX7_covered_5 : decode cX7_covered 5 = .ok (.invokevirtual 37, 3) := by decide +kernel
theorem dX7_covered_8 : decode cX7_covered 8 = .ok (.invokestatic 41, 3) := by decide +kernel
theorem dX7_covered_11 : decode cX7_covered 11 = .ok (.aload_n 0, 1) := by decide +kernel
theorem dX7_covered_12 : decode cX7_covered 12 = .ok (.getfield 10, 3) := by decide +kernel
theorem dX7_covered_15 : decode cX7_covered 15 = .ok (.getfield 52, 3) := by decide +kernel
theorem dX7_covered_18 : decode cX7_covered 18 = .ok (.iload_n 1, 1) := by decide +kernel
theorem dX7_covered_19 : decode cX7_covered 19 = .ok (.aaload, 1) := by decide +kernel
theorem dX7_covered_20 : decode cX7_covered 20 = .ok (.invokevirtual 125, 3) := by decide +kernel
theorem dX7_covered_23 : decode cX7_covered 23 = .ok (.ireturn, 1) := by decide +kernel
theorem dX7_busiest_0 : decode cX7_busiest 0 = .ok (.aload_n 0, 1) := by decide +kernel
theorem dX7_busiest_1 : decode cX7_busiest 1 = .ok (.getfield 10, 3) := by decide +kernel
theorem dX7_busiest_4 : decode cX7_busiest 4 = .ok (.invokevirtual 129, 3) := by decide +kernel
theorem dX7_busiest_7 : decode cX7_busiest 7 = .ok (.ireturn, 1) := by decide +kernel
theorem dX7_type_0 : decode cX7_type 0 = .ok (.iload_n 1, 1) := by decide +kernel
theorem dX7_type_1 : decode cX7_type 1 = .ok (.sipush 128, 3) := by decide +kernel
theorem dX7_type_4 : decode cX7_type 4 = .ok (.invokestatic 45, 3) := by decide +kernel
theorem dX7_type_7 : decode cX7_type 7 = .ok (.invokestatic 49, 3) := by decide +kernel
theorem dX7_type_10 : decode cX7_type 10 = .ok (.aload_n 0, 1) := by decide +kernel
theorem dX7_type_11 : decode cX7_type 11 = .ok (.getfield 29, 3) := by decide +kernel
theorem dX7_type_14 : decode cX7_type 14 = .ok (.invokevirtual 132, 3) := by decide +kernel
theorem dX7_type_17 : decode cX7_type 17 = .ok (.ifCond .ne 7, 3) := by decide +kernel
theorem dX7_type_20 : decode cX7_type 20 = .ok (.iconst 1, 1) := by decide +kernel
theorem dX7_type_21 : decode cX7_type 21 = .ok (.goto 4, 3) := by decide +kernel
theorem dX7_type_24 : decode cX7_type 24 = .ok (.iconst 0, 1) := by decide +kernel
theorem dX7_type_25 : decode cX7_type 25 = .ok (.invokestatic 136, 3) := by decide +kernel
theorem dX7_type_28 : decode cX7_type 28 = .ok (.aload_n 0, 1) := by decide +kernel
theorem dX7_type_29 : decode cX7_type 29 = .ok (.getfield 29, 3) := by decide +kernel
theorem dX7_type_32 : decode cX7_type 32 = .ok (.iload_n 1, 1) := by decide +kernel
theorem dX7_type_33 : decode cX7_type 33 = .ok (.invokevirtual 139, 3) := by decide +kernel
theorem dX7_type_36 : decode cX7_type 36 = .ok (.ireturn, 1) := by decide +kernel
theorem dX7_undo_0 : decode cX7_undo 0 = .ok (.aload_n 0, 1) := by decide +kernel
theorem dX7_undo_1 : decode cX7_undo 1 = .ok (.getfield 22, 3) := by decide +kernel
theorem dX7_undo_4 : decode cX7_undo 4 = .ok (.getfield 154, 3) := by decide +kernel
theorem dX7_undo_7 : decode cX7_undo 7 = .ok (.ifCond .le 7, 3) := by decide +kernel
theorem dX7_undo_10 : decode cX7_undo 10 = .ok (.iconst 1, 1) := by decide +kernel
theorem dX7_undo_11 : decode cX7_undo 11 = .ok (.goto 4, 3) := by decide +kernel
theorem dX7_undo_14 : decode cX7_undo 14 = .ok (.iconst 0, 1) := by decide +kernel
theorem dX7_undo_15 : decode cX7_undo 15 = .ok (.invokestatic 136, 3) := by decide +kernel
theorem dX7_undo_18 : decode cX7_undo 18 = .ok (.aload_n 0, 1) := by decide +kernel
theorem dX7_undo_19 : decode cX7_undo 19 = .ok (.getfield 22, 3) := by decide +kernel
theorem dX7_undo_22 : decode cX7_undo 22 = .ok (.aload_n 0, 1) := by decide +kernel
theorem dX7_undo_23 : decode cX7_undo 23 = .ok (.getfield 10, 3) := by decide +kernel
theorem dX7_undo_26 : decode cX7_undo 26 = .ok (.invokevirtual 155, 3) := by decide +kernel
theorem dX7_undo_29 : decode cX7_undo 29 = .ok (.ireturn, 1) := by decide +kernel
theorem dX7_valueOfWhole_0 : decode cX7_valueOfWhole 0 = .ok (.iload_n 1, 1) := by decide +kernel
theorem dX7_valueOfWhole_1 : decode cX7_valueOfWhole 1 = .ok (.bipush 13, 2) := by decide +kernel
theorem dX7_valueOfWhole_3 : decode cX7_valueOfWhole 3 = .ok (.if_icmp .ne 13, 3) := by decide +kernel
theorem dX7_valueOfWhole_6 : decode cX7_valueOfWhole 6 = .ok (.aload_n 0, 1) := by decide +kernel
theorem dX7_valueOfWhole_7 : decode cX7_valueOfWhole 7 = .ok (.getfield 29, 3) := by decide +kernel
theorem dX7_valueOfWhole_10 : decode cX7_valueOfWhole 10 = .ok (.getfield 177, 3) := by decide +kernel
theorem dX7_valueOfWhole_13 : decode cX7_valueOfWhole 13 = .ok (.goto 11, 3) := by decide +kernel
theorem dX7_valueOfWhole_16 : decode cX7_valueOfWhole 16 = .ok (.aload_n 0, 1) := by decide +kernel
theorem dX7_valueOfWhole_17 : decode cX7_valueOfWhole 17 = .ok (.getfield 10, 3) := by decide +kernel
theorem dX7_valueOfWhole_20 : decode cX7_valueOfWhole 20 = .ok (.iload_n 1, 1) := by decide +kernel
theorem dX7_valueOfWhole_21 : decode cX7_valueOfWhole 21 = .ok (.invokevirtual 180, 3) := by decide +kernel
theorem dX7_valueOfWhole_24 : decode cX7_valueOfWhole 24 = .ok (.ireturn, 1) := by decide +kernel
theorem dX7_act_0 : decode cX7_act 0 = .ok (.aload_n 0, 1) := by decide +kernel
theorem dX7_act_1 : decode cX7_act 1 = .ok (.getfield 10, 3) := by decide +kernel
theorem dX7_act_4 : decode cX7_act 4 = .ok (.iload_n 1, 1) := by decide +kernel
theorem dX7_act_5 : decode cX7_act 5 = .ok (.iload_n 2, 1) := by decide +kernel
theorem dX7_act_6 : decode cX7_act 6 = .ok (.iload_n 3, 1) := by decide +kernel
theorem dX7_act_7 : decode cX7_act 7 = .ok (.iload 4, 2) := by decide +kernel
theorem dX7_act_9 : decode cX7_act 9 = .ok (.invokevirtual 181, 3) := by decide +kernel
theorem dX7_act_12 : decode cX7_act 12 = .ok (.istore 5, 2) := by decide +kernel
theorem dX7_act_14 : decode cX7_act 14 = .ok (.iload 5, 2) := by decide +kernel
theorem dX7_act_16 : decode cX7_act 16 = .ok (.iconst 1, 1) := by decide +kernel
theorem dX7_act_17 : decode cX7_act 17 = .ok (.if_icmp .eq 7, 3) := by decide +kernel
theorem dX7_act_20 : decode cX7_act 20 = .ok (.iconst 1, 1) := by decide +kernel
theorem dX7_act_21 : decode cX7_act 21 = .ok (.goto 4, 3) := by decide +kernel
theorem dX7_act_24 : decode cX7_act 24 = .ok (.iconst 0, 1) := by decide +kernel
theorem dX7_act_25 : decode cX7_act 25 = .ok (.invokestatic 41, 3) := by decide +kernel
theorem dX7_act_28 : decode cX7_act 28 = .ok (.iload 5, 2) := by decide +kernel
theorem dX7_act_30 : decode cX7_act 30 = .ok (.iconst 2, 1) := by decide +kernel
theorem dX7_act_31 : decode cX7_act 31 = .ok (.if_icmp .eq 7, 3) := by decide +kernel
theorem dX7_act_34 : decode cX7_act 34 = .ok (.iconst 1, 1) := by decide +kernel
theorem dX7_act_35 : decode cX7_act 35 = .ok (.goto 4, 3) := by decide +kernel
theorem dX7_act_38 : decode cX7_act 38 = .ok (.iconst 0, 1) := by decide +kernel
theorem dX7_act_39 : decode cX7_act 39 = .ok (.invokestatic 49, 3) := by decide +kernel
theorem dX7_act_42 : decode cX7_act 42 = .ok (.iload 5, 2) := by decide +kernel
theorem dX7_act_44 : decode cX7_act 44 = .ok (.iconst 3, 1) := by decide +kernel
theorem dX7_act_45 : decode cX7_act 45 = .ok (.if_icmp .eq 7, 3) := by decide +kernel
theorem dX7_act_48 : decode cX7_act 48 = .ok (.iconst 1, 1) := by decide +kernel
theorem dX7_act_49 : decode cX7_act 49 = .ok (.goto 4, 3) := by decide +kernel
theorem dX7_act_52 : decode cX7_act 52 = .ok (.iconst 0, 1) := by decide +kernel
theorem dX7_act_53 : decode cX7_act 53 = .ok (.invokestatic 136, 3) := by decide +kernel
theorem dX7_act_56 : decode cX7_act 56 = .ok (.aload_n 0, 1) := by decide +kernel
theorem dX7_act_57 : decode cX7_act 57 = .ok (.getfield 22, 3) := by decide +kernel
theorem dX7_act_60 : decode cX7_act 60 = .ok (.aload_n 0, 1) := by decide +kernel
theorem dX7_act_61 : decode cX7_act 61 = .ok (.getfield 10, 3) := by decide +kernel
theorem dX7_act_64 : decode cX7_act 64 = .ok (.invokevirtual 148, 3) := by decide +kernel
theorem dX7_act_67 : decode cX7_act 67 = .ok (.aload_n 0, 1) := by decide +kernel
theorem dX7_act_68 : decode cX7_act 68 = .ok (.getfield 10, 3) := by decide +kernel
theorem dX7_act_71 : decode cX7_act 71 = .ok (.iload_n 1, 1) := by decide +kernel
theorem dX7_act_72 : decode cX7_act 72 = .ok (.iload_n 2, 1) := by decide +kernel
theorem dX7_act_73 : decode cX7_act 73 = .ok (.iload_n 3, 1) := by decide +kernel
theorem dX7_act_74 : decode cX7_act 74 = .ok (.iload 4, 2) := by decide +kernel
theorem dX7_act_76 : decode cX7_act 76 = .ok (.invokevirtual 184, 3) := by decide +kernel
theorem dX7_act_79 : decode cX7_act 79 = .ok (.ireturn, 1) := by decide +kernel
theorem dX7_needIndex_0 : decode cX7_needIndex 0 = .ok (.iload_n 0, 1) := by decide +kernel
theorem dX7_needIndex_1 : decode cX7_needIndex 1 = .ok (.ifCond .ne 11, 3) := by decide +kernel
theorem dX7_needIndex_4 : decode cX7_needIndex 4 = .ok (.new 200, 3) := by decide +kernel
theorem dX7_needIndex_7 : decode cX7_needIndex 7 = .ok (.dup, 1) := by decide +kernel
theorem dX7_needIndex_8 : decode cX7_needIndex 8 = .ok (.invokespecial 202, 3) := by decide +kernel
theorem dX7_needIndex_11 : decode cX7_needIndex 11 = .ok (.athrow, 1) := by decide +kernel
theorem dX7_needIndex_12 : decode cX7_needIndex 12 = .ok (.return_, 1) := by decide +kernel
theorem dX7_needArgument_0 : decode cX7_needArgument 0 = .ok (.iload_n 0, 1) := by decide +kernel
theorem dX7_needArgument_1 : decode cX7_needArgument 1 = .ok (.ifCond .ne 11, 3) := by decide +kernel
theorem dX7_needArgument_4 : decode cX7_needArgument 4 = .ok (.new 203, 3) := by decide +kernel
theorem dX7_needArgument_7 : decode cX7_needArgument 7 = .ok (.dup, 1) := by decide +kernel
theorem dX7_needArgument_8 : decode cX7_needArgument 8 = .ok (.invokespecial 205, 3) := by decide +kernel
theorem dX7_needArgument_11 : decode cX7_needArgument 11 = .ok (.athrow, 1) := by decide +kernel
theorem dX7_needArgument_12 : decode cX7_needArgument 12 = .ok (.return_, 1) := by decide +kernel
theorem dX7_needState_0 : decode cX7_needState 0 = .ok (.iload_n 0, 1) := by decide +kernel
theorem dX7_needState_1 : decode cX7_needState 1 = .ok (.ifCond .ne 11, 3) := by decide +kernel
theorem dX7_needState_4 : decode cX7_needState 4 = .ok (.new 206, 3) := by decide +kernel
theorem dX7_needState_7 : decode cX7_needState 7 = .ok (.dup, 1) := by decide +kernel
theorem dX7_needState_8 : decode cX7_needState 8 = .ok (.invokespecial 208, 3) := by decide +kernel
theorem dX7_needState_11 : decode cX7_needState 11 = .ok (.athrow, 1) := by decide +kernel
theorem dX7_needState_12 : decode cX7_needState 12 = .ok (.return_, 1) := by decide +kernel
theorem dX7_isBelow_0 : decode cX7_isBelow 0 = .ok (.iload_n 0, 1) := by decide +kernel
theorem dX7_isBelow_1 : decode cX7_isBelow 1 = .ok (.ifCond .lt 12, 3) := by decide +kernel
theorem dX7_isBelow_4 : decode cX7_isBelow 4 = .ok (.iload_n 0, 1) := by decide +kernel
theorem dX7_isBelow_5 : decode cX7_isBelow 5 = .ok (.iload_n 1, 1) := by decide +kernel
theorem dX7_isBelow_6 : decode cX7_isBelow 6 = .ok (.if_icmp .ge 7, 3) := by decide +kernel
theorem dX7_isBelow_9 : decode cX7_isBelow 9 = .ok (.iconst 1, 1) := by decide +kernel
theorem dX7_isBelow_10 : decode cX7_isBelow 10 = .ok (.goto 4, 3) := by decide +kernel
theorem dX7_isBelow_13 : decode cX7_isBelow 13 = .ok (.iconst 0, 1) := by decide +kernel
theorem dX7_isBelow_14 : decode cX7_isBelow 14 = .ok (.ireturn, 1) := by decide +kernel
theorem dX7_areaOf_0 : decode cX7_areaOf 0 = .ok (.iload_n 1, 1) := by decide +kernel
theorem dX7_areaOf_1 : decode cX7_areaOf 1 = .ok (.ifCond .ne 6, 3) := by decide +kernel
theorem dX7_areaOf_4 : decode cX7_areaOf 4 = .ok (.ldc 209, 2) := by decide +kernel
theorem dX7_areaOf_6 : decode cX7_areaOf 6 = .ok (.ireturn, 1) := by decide +kernel
theorem dX7_areaOf_7 : decode cX7_areaOf 7 = .ok (.iload_n 1, 1) := by decide +kernel
theorem dX7_areaOf_8 : decode cX7_areaOf 8 = .ok (.iconst 2, 1) := by decide +kernel
theorem dX7_areaOf_9 : decode cX7_areaOf 9 = .ok (.if_icmp .ne 7, 3) := by decide +kernel
theorem dX7_areaOf_12 : decode cX7_areaOf 12 = .ok (.iconst 1, 1) := by decide +kernel
theorem dX7_areaOf_13 : decode cX7_areaOf 13 = .ok (.iload_n 0, 1) := by decide +kernel
theorem dX7_areaOf_14 : decode cX7_areaOf 14 = .ok (.ishl, 1) := by decide +kernel
theorem dX7_areaOf_15 : decode cX7_areaOf 15 = .ok (.ireturn, 1) := by decide +kernel
theorem dX7_areaOf_16 : decode cX7_areaOf 16 = .ok (.iload_n 0, 1) := by decide +kernel
theorem dX7_areaOf_17 : decode cX7_areaOf 17 = .ok (.iconst 4, 1) := by decide +kernel
theorem dX7_areaOf_18 : decode cX7_areaOf 18 = .ok (.irem, 1) := by decide +kernel
theorem dX7_areaOf_19 : decode cX7_areaOf 19 = .ok (.iconst 2, 1) := by decide +kernel
theorem dX7_areaOf_20 : decode cX7_areaOf 20 = .ok (.idiv, 1) := by decide +kernel
theorem dX7_areaOf_21 : decode cX7_areaOf 21 = .ok (.iconst 2, 1) := by decide +kernel
theorem dX7_areaOf_22 : decode cX7_areaOf 22 = .ok (.imul, 1) := by decide +kernel
theorem dX7_areaOf_23 : decode cX7_areaOf 23 = .ok (.istore_n 2, 1) := by decide +kernel
theorem dX7_areaOf_24 : decode cX7_areaOf 24 = .ok (.iload_n 0, 1) := by decide +kernel
theorem dX7_areaOf_25 : decode cX7_areaOf 25 = .ok (.iconst 4, 1) := by decide +kernel
theorem dX7_areaOf_26 : decode cX7_areaOf 26 = .ok (.idiv, 1) := by decide +kernel
theorem dX7_areaOf_27 : decode cX7_areaOf 27 = .ok (.iconst 2, 1) := by decide +kernel
theorem dX7_areaOf_28 : decode cX7_areaOf 28 = .ok (.idiv, 1) := by decide +kernel
theorem dX7_areaOf_29 : decode cX7_areaOf 29 = .ok (.iconst 2, 1) := by decide +kernel
theorem dX7_areaOf_30 : decode cX7_areaOf 30 = .ok (.imul, 1) := by decide +kernel
theorem dX7_areaOf_31 : decode cX7_areaOf 31 = .ok (.istore_n 3, 1) := by decide +kernel
theorem dX7_areaOf_32 : decode cX7_areaOf 32 = .ok (.iconst 3, 1) := by decide +kernel
theorem dX7_areaOf_33 : decode cX7_areaOf 33 = .ok (.iload_n 2, 1) := by decide +kernel
theorem dX7_areaOf_34 : decode cX7_areaOf 34 = .ok (.ishl, 1) := by decide +kernel
theorem dX7_areaOf_35 : decode cX7_areaOf 35 = .ok (.istore 4, 2) := by decide +kernel
theorem dX7_areaOf_37 : decode cX7_areaOf 37 = .ok (.iload 4, 2) := by decide +kernel
theorem dX7_areaOf_39 : decode cX7_areaOf 39 = .ok (.iload 4, 2) := by decide +kernel
theorem dX7_areaOf_41 : decode cX7_areaOf 41 = .ok (.iconst 4, 1) := by decide +kernel
theorem dX7_areaOf_42 : decode cX7_areaOf 42 = .ok (.ishl, 1) := by decide +kernel
theorem dX7_areaOf_43 : decode cX7_areaOf 43 = .ok (.ior, 1) := by decide +kernel
theorem dX7_areaOf_44 : decode cX7_areaOf 44 = .ok (.iconst 4, 1) := by decide +kernel
theorem dX7_areaOf_45 : decode cX7_areaOf 45 = .ok (.iload_n 3, 1) := by decide +kernel
theorem dX7_areaOf_46 : decode cX7_areaOf 46 = .ok (.imul, 1) := by decide +kernel
theorem dX7_areaOf_47 : decode cX7_areaOf 47 = .ok (.ishl, 1) := by decide +kernel
theorem dX7_areaOf_48 : decode cX7_areaOf 48 = .ok (.ireturn, 1) := by decide +kernel
