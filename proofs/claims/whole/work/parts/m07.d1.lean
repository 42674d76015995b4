theorem dX0_init_0 : decode cX0_init 0 = .ok (.aload_n 0, 1) := by decide +kernel
theorem dX0_init_1 : decode cX0_init 1 = .ok (.invokespecial 1, 3) := by decide +kernel
theorem dX0_init_4 : decode cX0_init 4 = .ok (.aload_n 0, 1) := by decide +kernel
theorem dX0_init_5 : decode cX0_init 5 = .ok (.iload_n 1, 1) := by decide +kernel
theorem dX0_init_6 : decode cX0_init 6 = .ok (.putfield 7, 3) := by decide +kernel
theorem dX0_init_9 : decode cX0_init 9 = .ok (.aload_n 0, 1) := by decide +kernel
theorem dX0_init_10 : decode cX0_init 10 = .ok (.new 13, 3) := by decide +kernel
theorem dX0_init_13 : decode cX0_init 13 = .ok (.dup, 1) := by decide +kernel
theorem dX0_init_14 : decode cX0_init 14 = .ok (.iload_n 1, 1) := by decide +kernel
theorem dX0_init_15 : decode cX0_init 15 = .ok (.invokespecial 15, 3) := by decide +kernel
theorem dX0_init_18 : decode cX0_init 18 = .ok (.putfield 18, 3) := by decide +kernel
theorem dX0_init_21 : decode cX0_init 21 = .ok (.aload_n 0, 1) := by decide +kernel
theorem dX0_init_22 : decode cX0_init 22 = .ok (.new 13, 3) := by decide +kernel
theorem dX0_init_25 : decode cX0_init 25 = .ok (.dup, 1) := by decide +kernel
theorem dX0_init_26 : decode cX0_init 26 = .ok (.iload_n 1, 1) := by decide +kernel
theorem dX0_init_27 : decode cX0_init 27 = .ok (.invokespecial 15, 3) := by decide +kernel
theorem dX0_init_30 : decode cX0_init 30 = .ok (.putfield 22, 3) := by decide +kernel
theorem dX0_init_33 : decode cX0_init 33 = .ok (.aload_n 0, 1) := by decide +kernel
theorem dX0_init_34 : decode cX0_init 34 = .ok (.new 13, 3) := by decide +kernel
theorem dX0_init_37 : decode cX0_init 37 = .ok (.dup, 1) := by decide +kernel
theorem dX0_init_38 : decode cX0_init 38 = .ok (.iload_n 1, 1) := by decide +kernel
theorem dX0_init_39 : decode cX0_init 39 = .ok (.invokespecial 15, 3) := by decide +kernel
theorem dX0_init_42 : decode cX0_init 42 = .ok (.putfield 25, 3) := by decide +kernel
theorem dX0_init_45 : decode cX0_init 45 = .ok (.return_, 1) := by decide +kernel
theorem dX0_isFull_0 : decode cX0_isFull 0 = .ok (.aload_n 0, 1) := by decide +kernel
theorem dX0_isFull_1 : decode cX0_isFull 1 = .ok (.getfield 28, 3) := by decide +kernel
theorem dX0_isFull_4 : decode cX0_isFull 4 = .ok (.aload_n 0, 1) := by decide +kernel
theorem dX0_isFull_5 : decode cX0_isFull 5 = .ok (.getfield 7, 3) := by decide +kernel
theorem dX0_isFull_8 : decode cX0_isFull 8 = .ok (.if_icmp .lt 7, 3) := by decide +kernel
theorem dX0_isFull_11 : decode cX0_isFull 11 = .ok (.iconst 1, 1) := by decide +kernel
theorem dX0_isFull_12 : decode cX0_isFull 12 = .ok (.goto 4, 3) := by decide +kernel
theorem dX0_isFull_15 : decode cX0_isFull 15 = .ok (.iconst 0, 1) := by decide +kernel
theorem dX0_isFull_16 : decode cX0_isFull 16 = .ok (.ireturn, 1) := by decide +kernel
theorem dX0_add_0 : decode cX0_add 0 = .ok (.aload_n 0, 1) := by decide +kernel
theorem dX0_add_1 : decode cX0_add 1 = .ok (.getfield 28, 3) := by decide +kernel
theorem dX0_add_4 : decode cX0_add 4 = .ok (.istore 4, 2) := by decide +kernel
theorem dX0_add_6 : decode cX0_add 6 = .ok (.aload_n 0, 1) := by decide +kernel
theorem dX0_add_7 : decode cX0_add 7 = .ok (.getfield 18, 3) := by decide +kernel
theorem dX0_add_10 : decode cX0_add 10 = .ok (.iload 4, 2) := by decide +kernel
theorem dX0_add_12 : decode cX0_add 12 = .ok (.iload_n 1, 1) := by decide +kernel
theorem dX0_add_13 : decode cX0_add 13 = .ok (.invokevirtual 31, 3) := by decide +kernel
theorem dX0_add_16 : decode cX0_add 16 = .ok (.aload_n 0, 1) := by decide +kernel
theorem dX0_add_17 : decode cX0_add 17 = .ok (.getfield 22, 3) := by decide +kernel
theorem dX0_add_20 : decode cX0_add 20 = .ok (.iload 4, 2) := by decide +kernel
theorem dX0_add_22 : decode cX0_add 22 = .ok (.iload_n 2, 1) := by decide +kernel
theorem dX0_add_23 : decode cX0_add 23 = .ok (.invokevirtual 31, 3) := by decide +kernel
theorem dX0_add_26 : decode cX0_add 26 = .ok (.aload_n 0, 1) := by decide +kernel
theorem dX0_add_27 : decode cX0_add 27 = .ok (.getfield 25, 3) := by decide +kernel
theorem dX0_add_30 : decode cX0_add 30 = .ok (.iload 4, 2) := by decide +kernel
theorem dX0_add_32 : decode cX0_add 32 = .ok (.iload_n 3, 1) := by decide +kernel
theorem dX0_add_33 : decode cX0_add 33 = .ok (.invokevirtual 31, 3) := by decide +kernel
theorem dX0_add_36 : decode cX0_add 36 = .ok (.aload_n 0, 1) := by decide +kernel
theorem dX0_add_37 : decode cX0_add 37 = .ok (.dup, 1) := by decide +kernel
theorem dX0_add_38 : decode cX0_add 38 = .ok (.getfield 28, 3) := by decide +kernel
theorem dX0_add_41 : decode cX0_add 41 = .ok (.iconst 1, 1) := by decide +kernel
theorem dX0_add_42 : decode cX0_add 42 = .ok (.iadd, 1) := by decide +kernel
theorem dX0_add_43 : decode cX0_add 43 = .ok (.putfield 28, 3) := by decide +kernel
theorem dX0_add_46 : decode cX0_add 46 = .ok (.iload 4, 2) := by decide +kernel
theorem dX0_add_48 : decode cX0_add 48 = .ok (.ireturn, 1) := by decide +kernel
theorem dX1_init_0 : decode cX1_init 0 = .ok (.aload_n 0, 1) := by decide +kernel
theorem dX1_init_1 : decode cX1_init 1 = .ok (.invokespecial 1, 3) := by decide +kernel
theorem dX1_init_4 : decode cX1_init 4 = .ok (.aload_n 0, 1) := by decide +kernel
theorem dX1_init_5 : decode cX1_init 5 = .ok (.iload_n 1, 1) := by decide +kernel
theorem dX1_init_6 : decode cX1_init 6 = .ok (.ifCond .ge 7, 3) := by decide +kernel
theorem dX1_init_9 : decode cX1_init 9 = .ok (.iconst 0, 1) := by decide +kernel
theorem dX1_init_10 : decode cX1_init 10 = .ok (.goto 4, 3) := by decide +kernel
theorem dX1_init_13 : decode cX1_init 13 = .ok (.iload_n 1, 1) := by decide +kernel
theorem dX1_init_14 : decode cX1_init 14 = .ok (.newarray .int, 2) := by decide +kernel
theorem dX1_init_16 : decode cX1_init 16 = .ok (.putfield 7, 3) := by decide +kernel
theorem dX1_init_19 : decode cX1_init 19 = .ok (.return_, 1) := by decide +kernel
theorem dX1_get_0 : decode cX1_get 0 = .ok (.iload_n 1, 1) := by decide +kernel
theorem dX1_get_1 : decode cX1_get 1 = .ok (.ifCond .lt 21, 3) := by decide +kernel
theorem dX1_get_4 : decode cX1_get 4 = .ok (.iload_n 1, 1) := by decide +kernel
theorem dX1_get_5 : decode cX1_get 5 = .ok (.aload_n 0, 1) := by decide +kernel
theorem dX1_get_6 : decode cX1_get 6 = .ok (.getfield 7, 3) := by decide +kernel
theorem dX1_get_9 : decode cX1_get 9 = .ok (.arraylength, 1) := by decide +kernel
theorem dX1_get_10 : decode cX1_get 10 = .ok (.if_icmp .ge 12, 3) := by decide +kernel
theorem dX1_get_13 : decode cX1_get 13 = .ok (.aload_n 0, 1) := by decide +kernel
theorem dX1_get_14 : decode cX1_get 14 = .ok (.getfield 7, 3) := by decide +kernel
theorem dX1_get_17 : decode cX1_get 17 = .ok (.iload_n 1, 1) := by decide +kernel
theorem dX1_get_18 : decode cX1_get 18 = .ok (.iaload, 1) := by decide +kernel
theorem dX1_get_19 : decode cX1_get 19 = .ok (.goto 4, 3) := by decide +kernel
theorem dX1_get_22 : decode cX1_get 22 = .ok (.iconst 0, 1) := by decide +kernel
theorem dX1_get_23 : decode cX1_get 23 = .ok (.ireturn, 1) := by decide +kernel
theorem dX1_put_0 : decode cX1_put 0 = .ok (.iload_n 1, 1) := by decide +kernel
theorem dX1_put_1 : decode cX1_put 1 = .ok (.ifCond .lt 19, 3) := by decide +kernel
theorem dX1_put_4 : decode cX1_put 4 = .ok (.iload_n 1, 1) := by decide +kernel
theorem dX1_put_5 : decode cX1_put 5 = .ok (.aload_n 0, 1) := by decide +kernel
theorem dX1_put_6 : decode cX1_put 6 = .ok (.getfield 7, 3) := by decide +kernel
theorem dX1_put_9 : decode cX1_put 9 = .ok (.arraylength, 1) := by decide +kernel
theorem dX1_put_10 : decode cX1_put 10 = .ok (.if_icmp .ge 10, 3) := by decide +kernel
theorem dX1_put_13 : decode cX1_put 13 = .ok (.aload_n 0, 1) := by decide +kernel
theorem dX1_put_14 : decode cX1_put 14 = .ok (.getfield 7, 3) := by decide +kernel
theorem dX1_put_17 : decode cX1_put 17 = .ok (.iload_n 1, 1) := by decide +kernel
theorem dX1_put_18 : decode cX1_put 18 = .ok (.iload_n 2, 1) := by decide +kernel
theorem dX1_put_19 : decode cX1_put 19 = .ok (.iastore, 1) := by decide +kernel
theorem dX1_put_20 : decode cX1_put 20 = .ok (.return_, 1) := by decide +kernel
theorem dX1_increase_0 : decode cX1_increase 0 = .ok (.aload_n 0, 1) := by decide +kernel
theorem dX1_increase_1 : decode cX1_increase 1 = .ok (.iload_n 1, 1) := by decide +kernel
theorem dX1_increase_2 : decode cX1_increase 2 = .ok (.aload_n 0, 1) := by decide +kernel
theorem dX1_increase_3 : decode cX1_increase 3 = .ok (.iload_n 1, 1) := by decide +kernel
theorem dX1_increase_4 : decode cX1_increase 4 = .ok (.invokevirtual 13, 3) := by decide +kernel
theorem dX1_increase_7 : decode cX1_increase 7 = .ok (.iconst 1, 1) := by decide +kernel
theorem dX1_increase_8 : decode cX1_increase 8 = .ok (.iadd, 1) := by decide +kernel
theorem dX1_increase_9 : decode cX1_increase 9 = .ok (.invokevirtual 17, 3) := by decide +kernel
theorem dX1_increase_12 : decode cX1_increase 12 = .ok (.return_, 1) := by decide +kernel
theorem dX1_sum_0 : decode cX1_sum 0 = .ok (.iconst 0, 1) := by decide +kernel
theorem dX1_sum_1 : decode cX1_sum 1 = .ok (.istore_n 2, 1) := by decide +kernel
theorem dX1_sum_2 : decode cX1_sum 2 = .ok (.iconst 0, 1) := by decide +kernel
theorem dX1_sum_3 : decode cX1_sum 3 = .ok (.istore_n 3, 1) := by decide +kernel
theorem dX1_sum_4 : decode cX1_sum 4 = .ok (.iload_n 3, 1) := by decide +kernel
theorem dX1_sum_5 : decode cX1_sum 5 = .ok (.iload_n 1, 1) := by decide +kernel
theorem dX1_sum_6 : decode cX1_sum 6 = .ok (.if_icmp .ge 17, 3) := by decide +kernel
theorem dX1_sum_9 : decode cX1_sum 9 = .ok (.iload_n 2, 1) := by decide +kernel
theorem dX1_sum_10 : decode cX1_sum 10 = .ok (.aload_n 0, 1) := by decide +kernel
theorem dX1_sum_11 : decode cX1_sum 11 = .ok (.iload_n 3, 1) := by decide +kernel
theorem dX1_sum_12 : decode cX1_sum 12 = .ok (.invokevirtual 13, 3) := by decide +kernel
theorem dX1_sum_15 : decode cX1_sum 15 = .ok (.iadd, 1) := by decide +kernel
theorem dX1_sum_16 : decode cX1_sum 16 = .ok (.istore_n 2, 1) := by decide +kernel
theorem dX1_sum_17 : decode cX1_sum 17 = .ok (.iinc 3 1, 3) := by decide +kernel
theorem dX1_sum_20 : decode cX1_sum 20 = .ok (.goto (-16), 3) := by decide +kernel
theorem dX1_sum_23 : decode cX1_sum 23 = .ok (.iload_n 2, 1) := by decide +kernel
theorem dX1_sum_24 : decode cX1_sum 24 = .ok (.ireturn, 1) := by decide +kernel
theorem dX1_clearAll_0 : decode cX1_clearAll 0 = .ok (.iconst 0, 1) := by decide +kernel
theorem dX1_clearAll_1 : decode cX1_clearAll 1 = .ok (.istore_n 1, 1) := by decide +kernel
theorem dX1_clearAll_2 : decode cX1_clearAll 2 = .ok (.iload_n 1, 1) := by decide +kernel
theorem dX1_clearAll_3 : decode cX1_clearAll 3 = .ok (.aload_n 0, 1) := by decide +kernel
theorem dX1_clearAll_4 : decode cX1_clearAll 4 = .ok (.getfield 7, 3) := by decide +kernel
theorem dX1_clearAll_7 : decode cX1_clearAll 7 = .ok (.arraylength, 1) := by decide +kernel
theorem dX1_clearAll_8 : decode cX1_clearAll 8 = .ok (.if_icmp .ge 16, 3) := by decide +kernel
theorem dX1_clearAll_11 : decode cX1_clearAll 11 = .ok (.aload_n 0, 1) := by decide +kernel
theorem dX1_clearAll_12 : decode cX1_clearAll 12 = .ok (.getfield 7, 3) := by decide +kernel
theorem dX1_clearAll_15 : decode cX1_clearAll 15 = .ok (.iload_n 1, 1) := by decide +kernel
theorem dX1_clearAll_16 : decode cX1_clearAll 16 = .ok (.iconst 0, 1) := by decide +kernel
theorem dX1_clearAll_17 : decode cX1_clearAll 17 = .ok (.iastore, 1) := by decide +kernel
theorem dX1_clearAll_18 : decode cX1_clearAll 18 = .ok (.iinc 1 1, 3) := by decide +kernel
theorem dX1_clearAll_21 : decode cX1_clearAll 21 = .ok (.goto (-19), 3) := by decide +kernel
theorem dX1_clearAll_24 : decode cX1_clearAll 24 = .ok (.return_, 1) := by decide +kernel
theorem dX2_init_0 : decode cX2_init 0 = .ok (.aload_n 0, 1) := by decide +kernel
theorem dX2_init_1 : decode cX2_init 1 = .ok (.invokespecial 3, 3) := by decide +kernel
theorem dX2_init_4 : decode cX2_init 4 = .ok (.aload_n 0, 1) := by decide +kernel
theorem dX2_init_5 : decode cX2_init 5 = .ok (.new 9, 3) := by decide +kernel
theorem dX2_init_8 : decode cX2_init 8 = .ok (.dup, 1) := by decide +kernel
theorem dX2_init_9 : decode cX2_init 9 = .ok (.iconst 1, 1) := by decide +kernel
theorem dX2_init_10 : decode cX2_init 10 = .ok (.bipush 60, 2) := by decide +kernel
theorem dX2_init_12 : decode cX2_init 12 = .ok (.invokespecial 11, 3) := by decide +kernel
theorem dX2_init_15 : decode cX2_init 15 = .ok (.putfield 14, 3) := by decide +kernel
theorem dX2_init_18 : decode cX2_init 18 = .ok (.aload_n 0, 1) := by decide +kernel
theorem dX2_init_19 : decode cX2_init 19 = .ok (.new 20, 3) := by decide +kernel
theorem dX2_init_22 : decode cX2_init 22 = .ok (.dup, 1) := by decide +kernel
theorem dX2_init_23 : decode cX2_init 23 = .ok (.sipush 6000, 3) := by decide +kernel
theorem dX2_init_26 : decode cX2_init 26 = .ok (.invokespecial 22, 3) := by decide +kernel
theorem dX2_init_29 : decode cX2_init 29 = .ok (.putfield 25, 3) := by decide +kernel
theorem dX2_init_32 : decode cX2_init 32 = .ok (.aload_n 0, 1) := by decide +kernel
theorem dX2_init_33 : decode cX2_init 33 = .ok (.new 20, 3) := by decide +kernel
theorem dX2_init_36 : decode cX2_init 36 = .ok (.dup, 1) := by decide +kernel
theorem dX2_init_37 : decode cX2_init 37 = .ok (.sipush 6000, 3) := by decide +kernel
theorem dX2_init_40 : decode cX2_init 40 = .ok (.invokespecial 22, 3) := by decide +kernel
theorem dX2_init_43 : decode cX2_init 43 = .ok (.putfield 29, 3) := by decide +kernel
theorem dX2_init_46 : decode cX2_init 46 = .ok (.aload_n 0, 1) := by decide +kernel
theorem dX2_init_47 : decode cX2_init 47 = .ok (.new 32, 3) := by decide +kernel
theorem dX2_init_50 : decode cX2_init 50 = .ok (.dup, 1) := by decide +kernel
theorem dX2_init_51 : decode cX2_init 51 = .ok (.sipush 6000, 3) := by decide +kernel
theorem dX2_init_54 : decode cX2_init 54 = .ok (.invokespecial 34, 3) := by decide +kernel
theorem dX2_init_57 : decode cX2_init 57 = .ok (.putfield 35, 3) := by decide +kernel
theorem dX2_init_60 : decode cX2_init 60 = .ok (.aload_n 0, 1) := by decide +kernel
theorem dX2_init_61 : decode cX2_init 61 = .ok (.new 20, 3) := by decide +kernel
theorem dX2_init_64 : decode cX2_init 64 = .ok (.dup, 1) := by decide +kernel
theorem dX2_init_65 : decode cX2_init 65 = .ok (.sipush 3000, 3) := by decide +kernel
theorem dX2_init_68 : decode cX2_init 68 = .ok (.invokespecial 22, 3) := by decide +kernel
theorem dX2_init_71 : decode cX2_init 71 = .ok (.putfield 39, 3) := by decide +kernel
theorem dX2_init_74 : decode cX2_init 74 = .ok (.aload_n 0, 1) := by decide +kernel
theorem dX2_init_75 : decode cX2_init 75 = .ok (.aload_n 1, 1) := by decide +kernel
theorem dX2_init_76 : decode cX2_init 76 = .ok (.putfield 42, 3) := by decide +kernel
theorem dX2_init_79 : decode cX2_init 79 = .ok (.aload_n 0, 1) := by decide +kernel
theorem dX2_init_80 : decode cX2_init 80 = .ok (.aload_n 2, 1) := by decide +kernel
theorem dX2_init_81 : decode cX2_init 81 = .ok (.putfield 46, 3) := by decide +kernel
theorem dX2_init_84 : decode cX2_init 84 = .ok (.aload_n 0, 1) := by decide +kernel
theorem dX2_init_85 : decode cX2_init 85 = .ok (.aload_n 3, 1) := by decide +kernel
theorem dX2_init_86 : decode cX2_init 86 = .ok (.putfield 49, 3) := by decide +kernel
theorem dX2_init_89 : decode cX2_init 89 = .ok (.return_, 1) := by decide +kernel
theorem dX2_prepare_0 : decode cX2_prepare 0 = .ok (.aload_n 0, 1) := by decide +kernel
theorem dX2_prepare_1 : decode cX2_prepare 1 = .ok (.getfield 14, 3) := by decide +kernel
theorem dX2_prepare_4 : decode cX2_prepare 4 = .ok (.iconst 0, 1) := by decide +kernel
theorem dX2_prepare_5 : decode cX2_prepare 5 = .ok (.aload_n 1, 1) := by decide +kernel
theorem dX2_prepare_6 : decode cX2_prepare 6 = .ok (.iload_n 2, 1) := by decide +kernel
theorem dX2_prepare_7 : decode cX2_prepare 7 = .ok (.invokevirtual 52, 3) := by decide +kernel
theorem dX2_prepare_10 : decode cX2_prepare 10 = .ok (.aload_n 0, 1) := by decide +kernel
theorem dX2_prepare_11 : decode cX2_prepare 11 = .ok (.aload_n 0, 1) := by decide +kernel
theorem dX2_prepare_12 : decode cX2_prepare 12 = .ok (.getfield 14, 3) := by decide +kernel
theorem dX2_prepare_15 : decode cX2_prepare 15 = .ok (.iconst 0, 1) := by decide +kernel
theorem dX2_prepare_16 : decode cX2_prepare 16 = .ok (.invokevirtual 56, 3) := by decide +kernel
theorem dX2_prepare_19 : decode cX2_prepare 19 = .ok (.putfield 60, 3) := by decide +kernel
theorem dX2_prepare_22 : decode cX2_prepare 22 = .ok (.aload_n 0, 1) := by decide +kernel
theorem dX2_prepare_23 : decode cX2_prepare 23 = .ok (.iload_n 3, 1) := by decide +kernel
theorem dX2_prepare_24 : decode cX2_prepare 24 = .ok (.putfield 63, 3) := by decide +kernel
theorem dX2_prepare_27 : decode cX2_prepare 27 = .ok (.aload_n 0, 1) := by decide +kernel
theorem dX2_prepare_28 : decode cX2_prepare 28 = .ok (.iload 4, 2) := by decide +kernel
theorem dX2_prepare_30 : decode cX2_prepare 30 = .ok (.putfield 66, 3) := by decide +kernel
theorem dX2_prepare_33 : decode cX2_prepare 33 = .ok (.aload_n 0, 1) := by decide +kernel
theorem dX2_prepare_34 : decode cX2_prepare 34 = .ok (.iconst (-1), 1) := by decide +kernel
theorem dX2_prepare_35 : decode cX2_prepare 35 = .ok (.putfield 70, 3) := by decide +kernel
theorem dX2_prepare_38 : decode cX2_prepare 38 = .ok (.aload_n 0, 1) := by decide +kernel
theorem dX2_prepare_39 : decode cX2_prepare 39 = .ok (.iconst 0, 1) := by decide +kernel
theorem dX2_prepare_40 : decode cX2_prepare 40 = .ok (.putfield 73, 3) := by decide +kernel
theorem dX2_prepare_43 : decode cX2_prepare 43 = .ok (.aload_n 0, 1) := by decide +kernel
theorem dX2_prepare_44 : decode cX2_prepare 44 = .ok (.getfield 25, 3) := by decide +kernel
theorem dX2_prepare_47 : decode cX2_prepare 47 = .ok (.iconst 0, 1) := by decide +kernel
theorem dX2_prepare_48 : decode cX2_prepare 48 = .ok (.putfield 76, 3) := by decide +kernel
theorem dX2_prepare_51 : decode cX2_prepare 51 = .ok (.aload_n 0, 1) := by decide +kernel
theorem dX2_prepare_52 : decode cX2_prepare 52 = .ok (.getfield 29, 3) := by decide +kernel
theorem dX2_prepare_55 : decode cX2_prepare 55 = .ok (.iconst 0, 1) := by decide +kernel
theorem dX2_prepare_56 : decode cX2_prepare 56 = .ok (.putfield 76, 3) := by decide +kernel
theorem dX2_prepare_59 : decode cX2_prepare 59 = .ok (.return_, 1) := by decide +kernel
theorem dX2_seek_0 : decode cX2_seek 0 = .ok (.bipush 9, 2) := by decide +kernel
theorem dX2_seek_2 : decode cX2_seek 2 = .ok (.istore_n 1, 1) := by decide +kernel
theorem dX2_seek_3 : decode cX2_seek 3 = .ok (.iconst 0, 1) := by decide +kernel
theorem dX2_seek_4 : decode cX2_seek 4 = .ok (.istore_n 2, 1) := by decide +kernel
theorem dX2_seek_5 : decode cX2_seek 5 = .ok (.iload_n 2, 1) := by decide +kernel
theorem dX2_seek_6 : decode cX2_seek 6 = .ok (.ldc 79, 2) := by decide +kernel
theorem dX2_seek_8 : decode cX2_seek 8 = .ok (.if_icmp .ge 106, 3) := by decide +kernel
theorem dX2_seek_11 : decode cX2_seek 11 = .ok (.iload_n 1, 1) := by decide +kernel
theorem dX2_seek_12 : decode cX2_seek 12 = .ok (.tableswitch 94 4 9 #[40, 48, 60, 68, 78, 86], 40) := by decide +kernel
theorem dX2_seek_52 : decode cX2_seek 52 = .ok (.aload_n 0, 1) := by decide +kernel
theorem dX2_seek_53 : decode cX2_seek 53 = .ok (.invokevirtual 80, 3) := by decide +kernel
theorem dX2_seek_56 : decode cX2_seek 56 = .ok (.istore_n 1, 1) := by decide +kernel
theorem dX2_seek_57 : decode cX2_seek 57 = .ok (.goto 51, 3) := by decide +kernel
theorem dX2_seek_60 : decode cX2_seek 60 = .ok (.aload_n 0, 1) := by decide +kernel
theorem dX2_seek_61 : decode cX2_seek 61 = .ok (.aload_n 0, 1) := by decide +kernel
theorem dX2_seek_62 : decode cX2_seek 62 = .ok (.invokevirtual 84, 3) := by decide +kernel
theorem dX2_seek_65 : decode cX2_seek 65 = .ok (.invokevirtual 87, 3) := by decide +kernel
theorem dX2_seek_68 : decode cX2_seek 68 = .ok (.istore_n 1, 1) := by decide +kernel
theorem dX2_seek_69 : decode cX2_seek 69 = .ok (.goto 39, 3) := by decide +kernel
theorem dX2_seek_72 : decode cX2_seek 72 = .ok (.aload_n 0, 1) := by decide +kernel
theorem dX2_seek_73 : decode cX2_seek 73 = .ok (.invokevirtual 90, 3) := by decide +kernel
theorem dX2_seek_76 : decode cX2_seek 76 = .ok (.istore_n 1, 1) := by decide +kernel
theorem dX2_seek_77 : decode cX2_seek 77 = .ok (.goto 31, 3) := by decide +kernel
theorem dX2_seek_80 : decode cX2_seek 80 = .ok (.aload_n 0, 1) := by decide +kernel
theorem dX2_seek_81 : decode cX2_seek 81 = .ok (.invokevirtual 93, 3) := by decide +kernel
theorem dX2_seek_84 : decode cX2_seek 84 = .ok (.bipush 8, 2) := by decide +kernel
theorem dX2_seek_86 : decode cX2_seek 86 = .ok (.istore_n 1, 1) := by decide +kernel
theorem dX2_seek_87 : decode cX2_seek 87 = .ok (.goto 21, 3) := by decide +kernel
theorem dX2_seek_90 : decode cX2_seek 90 = .ok (.aload_n 0, 1) := by decide +kernel
theorem dX2_seek_91 : decode cX2_seek 91 = .ok (.invokevirtual 96, 3) := by decide +kernel
theorem dX2_seek_94 : decode cX2_seek 94 = .ok (.istore_n 1, 1) := by decide +kernel
theorem dX2_seek_95 : decode cX2_seek 95 = .ok (.goto 13, 3) := by decide +kernel
theorem dX2_seek_98 : decode cX2_seek 98 = .ok (.aload_n 0, 1) := by decide +kernel
theorem dX2_seek_99 : decode cX2_seek 99 = .ok (.invokevirtual 99, 3) := by decide +kernel
theorem dX2_seek_102 : decode cX2_seek 102 = .ok (.istore_n 1, 1) := by decide +kernel
theorem dX2_seek_103 : decode cX2_seek 103 = .ok (.goto 5, 3) := by decide +kernel
theorem dX2_seek_106 : decode cX2_seek 106 = .ok (.iload_n 1, 1) := by decide +kernel
theorem dX2_seek_107 : decode cX2_seek 107 = .ok (.ireturn, 1) := by decide +kernel
theorem dX2_seek_108 : decode cX2_seek 108 = .ok (.iinc 2 1, 3) := by decide +kernel
theorem dX2_seek_111 : decode cX2_seek 111 = .ok (.goto (-106), 3) := by decide +kernel
theorem dX2_seek_114 : decode cX2_seek 114 = .ok (.iconst 3, 1) := by decide +kernel
theorem dX2_seek_115 : decode cX2_seek 115 = .ok (.ireturn, 1) := by decide +kernel
theorem dX2_assignTaken_0 : decode cX2_assignTaken 0 = .ok (.iconst 0, 1) := by decide +kernel
theorem dX2_assignTaken_1 : decode cX2_assignTaken 1 = .ok (.istore_n 1, 1) := by decide +kernel
theorem dX2_assignTaken_2 : decode cX2_assignTaken 2 = .ok (.iload_n 1, 1) := by decide +kernel
theorem dX2_assignTaken_3 : decode cX2_assignTaken 3 = .ok (.aload_n 0, 1) := by decide +kernel
theorem dX2_assignTaken_4 : decode cX2_assignTaken 4 = .ok (.getfield 39, 3) := by decide +kernel
theorem dX2_assignTaken_7 : decode cX2_assignTaken 7 = .ok (.getfield 76, 3) := by decide +kernel
theorem dX2_assignTaken_10 : decode cX2_assignTaken 10 = .ok (.if_icmp .ge 37, 3) := by decide +kernel
theorem dX2_assignTaken_13 : decode cX2_assignTaken 13 = .ok (.aload_n 0, 1) := by decide +kernel
theorem dX2_assignTaken_14 : decode cX2_assignTaken 14 = .ok (.aload_n 0, 1) := by decide +kernel
theorem dX2_assignTaken_15 : decode cX2_assignTaken 15 = .ok (.getfield 39, 3) := by decide +kernel
theorem dX2_assignTaken_18 : decode cX2_assignTaken 18 = .ok (.iload_n 1, 1) := by decide +kernel
theorem dX2_assignTaken_19 : decode cX2_assignTaken 19 = .ok (.invokevirtual 102, 3) := by decide +kernel
theorem dX2_assignTaken_22 : decode cX2_assignTaken 22 = .ok (.aload_n 0, 1) := by decide +kernel
theorem dX2_assignTaken_23 : decode cX2_assignTaken 23 = .ok (.getfield 39, 3) := by decide +kernel
theorem dX2_assignTaken_26 : decode cX2_assignTaken 26 = .ok (.iload_n 1, 1) := by decide +kernel
theorem dX2_assignTaken_27 : decode cX2_assignTaken 27 = .ok (.invokevirtual 105, 3) := by decide +kernel
theorem dX2_assignTaken_30 : decode cX2_assignTaken 30 = .ok (.aload_n 0, 1) := by decide +kernel
theorem dX2_assignTaken_31 : decode cX2_assignTaken 31 = .ok (.getfield 39, 3) := by decide +kernel
theorem dX2_assignTaken_34 : decode cX2_assignTaken 34 = .ok (.iload_n 1, 1) := by decide +kernel
theorem dX2_assignTaken_35 : decode cX2_assignTaken 35 = .ok (.invokevirtual 108, 3) := by decide +kernel
theorem dX2_assignTaken_38 : decode cX2_assignTaken 38 = .ok (.invokevirtual 111, 3) := by decide +kernel
theorem dX2_assignTaken_41 : decode cX2_assignTaken 41 = .ok (.iinc 1 1, 3) := by decide +kernel
theorem dX2_assignTaken_44 : decode cX2_assignTaken 44 = .ok (.goto (-42), 3) := by decide +kernel
theorem dX2_assignTaken_47 : decode cX2_assignTaken 47 = .ok (.return_, 1) := by decide +kernel
theorem dX2_replace_0 : decode cX2_replace 0 = .ok (.aload_n 1, 1) := by decide +kernel
theorem dX2_replace_1 : decode cX2_replace 1 = .ok (.iload_n 2, 1) := by decide +kernel
theorem dX2_replace_2 : decode cX2_replace 2 = .ok (.invokevirtual 115, 3) := by decide +kernel
theorem dX2_replace_5 : decode cX2_replace 5 = .ok (.aload_n 1, 1) := by decide +kernel
theorem dX2_replace_6 : decode cX2_replace 6 = .ok (.iload_n 2, 1) := by decide +kernel
theorem dX2_replace_7 : decode cX2_replace 7 = .ok (.aload_n 0, 1) := by decide +kernel
theorem dX2_replace_8 : decode cX2_replace 8 = .ok (.getfield 14, 3) := by decide +kernel
theorem dX2_replace_11 : decode cX2_replace 11 = .ok (.iconst 0, 1) := by decide +kernel
theorem dX2_replace_12 : decode cX2_replace 12 = .ok (.iconst 0, 1) := by decide +kernel
theorem dX2_replace_13 : decode cX2_replace 13 = .ok (.aload_n 0, 1) := by decide +kernel
theorem dX2_replace_14 : decode cX2_replace 14 = .ok (.getfield 70, 3) := by decide +kernel
theorem dX2_replace_17 : decode cX2_replace 17 = .ok (.invokevirtual 118, 3) := by decide +kernel
theorem dX2_replace_20 : decode cX2_replace 20 = .ok (.ifCond .eq 39, 3) := by decide +kernel
theorem dX2_replace_23 : decode cX2_replace 23 = .ok (.aload_n 1, 1) := by decide +kernel
theorem dX2_replace_24 : decode cX2_replace 24 = .ok (.iload_n 2, 1) := by decide +kernel
theorem dX2_replace_25 : decode cX2_replace 25 = .ok (.aload_n 3, 1) := by decide +kernel
theorem dX2_replace_26 : decode cX2_replace 26 = .ok (.iload 4, 2) := by decide +kernel
theorem dX2_replace_28 : decode cX2_replace 28 = .ok (.invokevirtual 122, 3) := by decide +kernel
theorem dX2_replace_31 : decode cX2_replace 31 = .ok (.ifCond .eq 28, 3) := by decide +kernel
theorem dX2_replace_34 : decode cX2_replace 34 = .ok (.aload_n 1, 1) := by decide +kernel
theorem dX2_replace_35 : decode cX2_replace 35 = .ok (.iload_n 2, 1) := by decide +kernel
theorem dX2_replace_36 : decode cX2_replace 36 = .ok (.aload_n 0, 1) := by decide +kernel
theorem dX2_replace_37 : decode cX2_replace 37 = .ok (.getfield 14, 3) := by decide +kernel
theorem dX2_replace_40 : decode cX2_replace 40 = .ok (.iconst 0, 1) := by decide +kernel
theorem dX2_replace_41 : decode cX2_replace 41 = .ok (.aload_n 0, 1) := by decide +kernel
theorem dX2_replace_42 : decode cX2_replace 42 = .ok (.getfield 126, 3) := by decide +kernel
theorem dX2_replace_45 : decode cX2_replace 45 = .ok (.aload_n 0, 1) := by decide +kernel
theorem dX2_replace_46 : decode cX2_replace 46 = .ok (.getfield 60, 3) := by decide +kernel
theorem dX2_replace_49 : decode cX2_replace 49 = .ok (.invokevirtual 118, 3) := by decide +kernel
theorem dX2_replace_52 : decode cX2_replace 52 = .ok (.ifCond .eq 7, 3) := by decide +kernel
theorem dX2_replace_55 : decode cX2_replace 55 = .ok (.iconst 1, 1) := by decide +kernel
theorem dX2_replace_56 : decode cX2_replace 56 = .ok (.goto 4, 3) := by decide +kernel
theorem dX2_replace_59 : decode cX2_replace 59 = .ok (.iconst 0, 1) := by decide +kernel
theorem dX2_replace_60 : decode cX2_replace 60 = .ok (.ireturn, 1) := by decide +kernel
theorem dX2_capture_0 : decode cX2_capture 0 = .ok (.aload_n 0, 1) := by decide +kernel
theorem dX2_capture_1 : decode cX2_capture 1 = .ok (.getfield 49, 3) := by decide +kernel
theorem dX2_capture_4 : decode cX2_capture 4 = .ok (.iload_n 1, 1) := by decide +kernel
theorem dX2_capture_5 : decode cX2_capture 5 = .ok (.invokevirtual 115, 3) := by decide +kernel
theorem dX2_capture_8 : decode cX2_capture 8 = .ok (.aload_n 0, 1) := by decide +kernel
theorem dX2_capture_9 : decode cX2_capture 9 = .ok (.getfield 49, 3) := by decide +kernel
theorem dX2_capture_12 : decode cX2_capture 12 = .ok (.iload_n 1, 1) := by decide +kernel
theorem dX2_capture_13 : decode cX2_capture 13 = .ok (.aload_n 0, 1) := by decide +kernel
theorem dX2_capture_14 : decode cX2_capture 14 = .ok (.getfield 14, 3) := by decide +kernel
theorem dX2_capture_17 : decode cX2_capture 17 = .ok (.iconst 0, 1) := by decide +kernel
theorem dX2_capture_18 : decode cX2_capture 18 = .ok (.iload_n 2, 1) := by decide +kernel
theorem dX2_capture_19 : decode cX2_capture 19 = .ok (.iload_n 3, 1) := by decide +kernel
theorem dX2_capture_20 : decode cX2_capture 20 = .ok (.invokevirtual 118, 3) := by decide +kernel
theorem dX2_capture_23 : decode cX2_capture 23 = .ok (.pop, 1) := by decide +kernel
theorem dX2_capture_24 : decode cX2_capture 24 = .ok (.return_, 1) := by decide +kernel
theorem dX2_beginAtNextCursor_0 : decode cX2_beginAtNextCursor 0 = .ok (.aload_n 0, 1) := by decide +kernel
theorem dX2_beginAtNextCursor_1 : decode cX2_beginAtNextCursor 1 = .ok (.dup, 1) := by decide +kernel
theorem dX2_beginAtNextCursor_2 : decode cX2_beginAtNextCursor 2 = .ok (.getfield 70, 3) := by decide +kernel
theorem dX2_beginAtNextCursor_5 : decode cX2_beginAtNextCursor 5 = .ok (.iconst 1, 1) := by decide +kernel
theorem dX2_beginAtNextCursor_6 : decode cX2_beginAtNextCursor 6 = .ok (.iadd, 1) := by decide +kernel
theorem dX2_beginAtNextCursor_7 : decode cX2_beginAtNextCursor 7 = .ok (.putfield 70, 3) := by decide +kernel
theorem dX2_beginAtNextCursor_10 : decode cX2_beginAtNextCursor 10 = .ok (.aload_n 0, 1) := by decide +kernel
theorem dX2_beginAtNextCursor_11 : decode cX2_beginAtNextCursor 11 = .ok (.getfield 70, 3) := by decide +kernel
theorem dX2_beginAtNextCursor_14 : decode cX2_beginAtNextCursor 14 = .ok (.aload_n 0, 1) := by decide +kernel
theorem dX2_beginAtNextCursor_15 : decode cX2_beginAtNextCursor 15 = .ok (.getfield 60, 3) := by decide +kernel
theorem dX2_beginAtNextCursor_18 : decode cX2_beginAtNextCursor 18 = .ok (.if_icmp .gt 17, 3) := by decide +kernel
theorem dX2_beginAtNextCursor_21 : decode cX2_beginAtNextCursor 21 = .ok (.aload_n 0, 1) := by decide +kernel
theorem dX2_beginAtNextCursor_22 : decode cX2_beginAtNextCursor 22 = .ok (.getfield 66, 3) := by decide +kernel
theorem dX2_beginAtNextCursor_25 : decode cX2_beginAtNextCursor 25 = .ok (.ifCond .eq 12, 3) := by decide +kernel
theorem dX2_beginAtNextCursor_28 : decode cX2_beginAtNextCursor 28 = .ok (.aload_n 0, 1) := by decide +kernel
theorem dX2_beginAtNextCursor_29 : decode cX2_beginAtNextCursor 29 = .ok (.getfield 70, 3) := by decide +kernel
theorem dX2_beginAtNextCursor_32 : decode cX2_beginAtNextCursor 32 = .ok (.ifCond .le 5, 3) := by decide +kernel
theorem dX2_beginAtNextCursor_35 : decode cX2_beginAtNextCursor 35 = .ok (.iconst 2, 1) := by decide +kernel
theorem dX2_beginAtNextCursor_36 : decode cX2_beginAtNextCursor 36 = .ok (.ireturn, 1) := by decide +kernel
theorem dX2_beginAtNextCursor_37 : decode cX2_beginAtNextCursor 37 = .ok (.aload_n 0, 1) := by decide +kernel
theorem dX2_beginAtNextCursor_38 : decode cX2_beginAtNextCursor 38 = .ok (.aload_n 0, 1) := by decide +kernel
theorem dX2_beginAtNextCursor_39 : decode cX2_beginAtNextCursor 39 = .ok (.getfield 70, 3) := by decide +kernel
theorem dX2_beginAtNextCursor_42 : decode cX2_beginAtNextCursor 42 = .ok (.putfield 126, 3) := by decide +kernel
theorem dX2_beginAtNextCursor_45 : decode cX2_beginAtNextCursor 45 = .ok (.aload_n 0, 1) := by decide +kernel
theorem dX2_beginAtNextCursor_46 : decode cX2_beginAtNextCursor 46 = .ok (.iconst (-1), 1) := by decide +kernel
theorem dX2_beginAtNextCursor_47 : decode cX2_beginAtNextCursor 47 = .ok (.putfield 129, 3) := by decide +kernel
theorem dX2_beginAtNextCursor_50 : decode cX2_beginAtNextCursor 50 = .ok (.aload_n 0, 1) := by decide +kernel
theorem dX2_beginAtNextCursor_51 : decode cX2_beginAtNextCursor 51 = .ok (.getfield 39, 3) := by decide +kernel
theorem dX2_beginAtNextCursor_54 : decode cX2_beginAtNextCursor 54 = .ok (.iconst 0, 1) := by decide +kernel
theorem dX2_beginAtNextCursor_55 : decode cX2_beginAtNextCursor 55 = .ok (.putfield 76, 3) := by decide +kernel
theorem dX2_beginAtNextCursor_58 : decode cX2_beginAtNextCursor 58 = .ok (.aload_n 0, 1) := by decide +kernel
theorem dX2_beginAtNextCursor_59 : decode cX2_beginAtNextCursor 59 = .ok (.aload_n 0, 1) := by decide +kernel
theorem dX2_beginAtNextCursor_60 : decode cX2_beginAtNextCursor 60 = .ok (.getfield 63, 3) := by decide +kernel
theorem dX2_beginAtNextCursor_63 : decode cX2_beginAtNextCursor 63 = .ok (.invokevirtual 132, 3) := by decide +kernel
theorem dX2_beginAtNextCursor_66 : decode cX2_beginAtNextCursor 66 = .ok (.ireturn, 1) := by decide +kernel
theorem dX2_begin_0 : decode cX2_begin 0 = .ok (.aload_n 0, 1) := by decide +kernel
theorem dX2_begin_1 : decode cX2_begin 1 = .ok (.getfield 73, 3) := by decide +kernel
theorem dX2_begin_4 : decode cX2_begin 4 = .ok (.sipush 3000, 3) := by decide +kernel
theorem dX2_begin_7 : decode cX2_begin 7 = .ok (.if_icmp .lt 5, 3) := by decide +kernel
theorem dX2_begin_10 : decode cX2_begin 10 = .ok (.iconst 3, 1) := by decide +kernel
theorem dX2_begin_11 : decode cX2_begin 11 = .ok (.ireturn, 1) := by decide +kernel
theorem dX2_begin_12 : decode cX2_begin 12 = .ok (.aload_n 0, 1) := by decide +kernel
theorem dX2_begin_13 : decode cX2_begin 13 = .ok (.dup, 1) := by decide +kernel
theorem dX2_begin_14 : decode cX2_begin 14 = .ok (.getfield 73, 3) := by decide +kernel
theorem dX2_begin_17 : decode cX2_begin 17 = .ok (.iconst 1, 1) := by decide +kernel
theorem dX2_begin_18 : decode cX2_begin 18 = .ok (.iadd, 1) := by decide +kernel
theorem dX2_begin_19 : decode cX2_begin 19 = .ok (.putfield 73, 3) := by decide +kernel
theorem dX2_begin_22 : decode cX2_begin 22 = .ok (.aload_n 0, 1) := by decide +kernel
theorem dX2_begin_23 : decode cX2_begin 23 = .ok (.getfield 42, 3) := by decide +kernel
theorem dX2_begin_26 : decode cX2_begin 26 = .ok (.getfield 135, 3) := by decide +kernel
theorem dX2_begin_29 : decode cX2_begin 29 = .ok (.aload_n 0, 1) := by decide +kernel
theorem dX2_begin_30 : decode cX2_begin 30 = .ok (.getfield 140, 3) := by decide +kernel
theorem dX2_begin_33 : decode cX2_begin 33 = .ok (.invokevirtual 143, 3) := by decide +kernel
theorem dX2_begin_36 : decode cX2_begin 36 = .ok (.lookupswitch 175 #[(36, 92), (38, 92), (42, 138), (46, 92), (64, 146), (102, 138), (103, 138), (120, 141), (122, 144), (124, 115)], 92) := by decide +kernel
theorem dX2_begin_128 : decode cX2_begin 128 = .ok (.aload_n 0, 1) := by decide +kernel
theorem dX2_begin_129 : decode cX2_begin 129 = .ok (.invokevirtual 146, 3) := by decide +kernel
theorem dX2_begin_132 : decode cX2_begin 132 = .ok (.aload_n 0, 1) := by decide +kernel
theorem dX2_begin_133 : decode cX2_begin 133 = .ok (.aload_n 0, 1) := by decide +kernel
theorem dX2_begin_134 : decode cX2_begin 134 = .ok (.getfield 42, 3) := by decide +kernel
theorem dX2_begin_137 : decode cX2_begin 137 = .ok (.getfield 149, 3) := by decide +kernel
theorem dX2_begin_140 : decode cX2_begin 140 = .ok (.aload_n 0, 1) := by decide +kernel
theorem dX2_begin_141 : decode cX2_begin 141 = .ok (.getfield 140, 3) := by decide +kernel
theorem dX2_begin_144 : decode cX2_begin 144 = .ok (.invokevirtual 143, 3) := by decide +kernel
theorem dX2_begin_147 : decode cX2_begin 147 = .ok (.invokevirtual 132, 3) := by decide +kernel
theorem dX2_begin_150 : decode cX2_begin 150 = .ok (.ireturn, 1) := by decide +kernel
theorem dX2_begin_151 : decode cX2_begin 151 = .ok (.aload_n 0, 1) := by decide +kernel
theorem dX2_begin_152 : decode cX2_begin 152 = .ok (.invokevirtual 93, 3) := by decide +kernel
theorem dX2_begin_155 : decode cX2_begin 155 = .ok (.aload_n 0, 1) := by decide +kernel
theorem dX2_begin_156 : decode cX2_begin 156 = .ok (.aload_n 0, 1) := by decide +kernel
theorem dX2_begin_157 : decode cX2_begin 157 = .ok (.getfield 42, 3) := by decide +kernel
theorem dX2_begin_160 : decode cX2_begin 160 = .ok (.getfield 149, 3) := by decide +kernel
theorem dX2_begin_163 : decode cX2_begin 163 = .ok (.aload_n 0, 1) := by decide +kernel
theorem dX2_begin_164 : decode cX2_begin 164 = .ok (.getfield 140, 3) := by decide +kernel
theorem dX2_begin_167 : decode cX2_begin 167 = .ok (.invokevirtual 143, 3) := by decide +kernel
theorem dX2_begin_170 : decode cX2_begin 170 = .ok (.invokevirtual 132, 3) := by decide +kernel
theorem dX2_begin_173 : decode cX2_begin 173 = .ok (.ireturn, 1) := by decide +kernel
theorem dX2_begin_174 : decode cX2_begin 174 = .ok (.bipush 7, 2) := by decide +kernel
theorem dX2_begin_176 : decode cX2_begin 176 = .ok (.ireturn, 1) := by decide +kernel
theorem dX2_begin_177 : decode cX2_begin 177 = .ok (.bipush 6, 2) := by decide +kernel
theorem dX2_begin_179 : decode cX2_begin 179 = .ok (.ireturn, 1) := by decide +kernel
theorem dX2_begin_180 : decode cX2_begin 180 = .ok (.iconst 2, 1) := by decide +kernel
theorem dX2_begin_181 : decode cX2_begin 181 = .ok (.ireturn, 1) := by decide +kernel
theorem dX2_begin_182 : decode cX2_begin 182 = .ok (.aload_n 0, 1) := by decide +kernel
theorem dX2_begin_183 : decode cX2_begin 183 = .ok (.getfield 49, 3) := by decide +kernel
theorem dX2_begin_186 : decode cX2_begin 186 = .ok (.aload_n 0, 1) := by decide +kernel
theorem dX2_begin_187 : decode cX2_begin 187 = .ok (.getfield 42, 3) := by decide +kernel
theorem dX2_begin_190 : decode cX2_begin 190 = .ok (.getfield 149, 3) := by decide +kernel
theorem dX2_begin_193 : decode cX2_begin 193 = .ok (.aload_n 0, 1) := by decide +kernel
theorem dX2_begin_194 : decode cX2_begin 194 = .ok (.getfield 140, 3) := by decide +kernel
theorem dX2_begin_197 : decode cX2_begin 197 = .ok (.invokevirtual 143, 3) := by decide +kernel
theorem dX2_begin_200 : decode cX2_begin 200 = .ok (.aload_n 0, 1) := by decide +kernel
theorem dX2_begin_201 : decode cX2_begin 201 = .ok (.getfield 126, 3) := by decide +kernel
theorem dX2_begin_204 : decode cX2_begin 204 = .ok (.i2l, 1) := by decide +kernel
theorem dX2_begin_205 : decode cX2_begin 205 = .ok (.invokevirtual 152, 3) := by decide +kernel
theorem dX2_begin_208 : decode cX2_begin 208 = .ok (.bipush 8, 2) := by decide +kernel
theorem dX2_begin_210 : decode cX2_begin 210 = .ok (.ireturn, 1) := by decide +kernel
theorem dX2_begin_211 : decode cX2_begin 211 = .ok (.iconst 5, 1) := by decide +kernel
theorem dX2_begin_212 : decode cX2_begin 212 = .ok (.ireturn, 1) := by decide +kernel
theorem dX2_goOn_0 : decode cX2_goOn 0 = .ok (.aload_n 0, 1) := by decide +kernel
theorem dX2_goOn_1 : decode cX2_goOn 1 = .ok (.getfield 129, 3) := by decide +kernel
theorem dX2_goOn_4 : decode cX2_goOn 4 = .ok (.iconst (-1), 1) := by decide +kernel
theorem dX2_goOn_5 : decode cX2_goOn 5 = .ok (.if_icmp .ne 5, 3) := by decide +kernel
theorem dX2_goOn_8 : decode cX2_goOn 8 = .ok (.iconst 1, 1) := by decide +kernel
theorem dX2_goOn_9 : decode cX2_goOn 9 = .ok (.ireturn, 1) := by decide +kernel
theorem dX2_goOn_10 : decode cX2_goOn 10 = .ok (.aload_n 0, 1) := by decide +kernel
theorem dX2_goOn_11 : decode cX2_goOn 11 = .ok (.aload_n 0, 1) := by decide +kernel
theorem dX2_goOn_12 : decode cX2_goOn 12 = .ok (.getfield 25, 3) := by decide +kernel
theorem dX2_goOn_15 : decode cX2_goOn 15 = .ok (.aload_n 0, 1) := by decide +kernel
theorem dX2_goOn_16 : decode cX2_goOn 16 = .ok (.getfield 129, 3) := by decide +kernel
theorem dX2_goOn_19 : decode cX2_goOn 19 = .ok (.invokevirtual 102, 3) := by decide +kernel
theorem dX2_goOn_22 : decode cX2_goOn 22 = .ok (.putfield 140, 3) := by decide +kernel
theorem dX2_goOn_25 : decode cX2_goOn 25 = .ok (.aload_n 0, 1) := by decide +kernel
theorem dX2_goOn_26 : decode cX2_goOn 26 = .ok (.getfield 25, 3) := by decide +kernel
theorem dX2_goOn_29 : decode cX2_goOn 29 = .ok (.aload_n 0, 1) := by decide +kernel
theorem dX2_goOn_30 : decode cX2_goOn 30 = .ok (.getfield 129, 3) := by decide +kernel
theorem dX2_goOn_33 : decode cX2_goOn 33 = .ok (.invokevirtual 105, 3) := by decide +kernel
theorem dX2_goOn_36 : decode cX2_goOn 36 = .ok (.istore_n 1, 1) := by decide +kernel
theorem dX2_goOn_37 : decode cX2_goOn 37 = .ok (.aload_n 0, 1) := by decide +kernel
theorem dX2_goOn_38 : decode cX2_goOn 38 = .ok (.aload_n 0, 1) := by decide +kernel
theorem dX2_goOn_39 : decode cX2_goOn 39 = .ok (.getfield 25, 3) := by decide +kernel
theorem dX2_goOn_42 : decode cX2_goOn 42 = .ok (.aload_n 0, 1) := by decide +kernel
theorem dX2_goOn_43 : decode cX2_goOn 43 = .ok (.getfield 129, 3) := by decide +kernel
theorem dX2_goOn_46 : decode cX2_goOn 46 = .ok (.invokevirtual 108, 3) := by decide +kernel
theorem dX2_goOn_49 : decode cX2_goOn 49 = .ok (.putfield 129, 3) := by decide +kernel
theorem dX2_goOn_52 : decode cX2_goOn 52 = .ok (.aload_n 0, 1) := by decide +kernel
theorem dX2_goOn_53 : decode cX2_goOn 53 = .ok (.getfield 42, 3) := by decide +kernel
theorem dX2_goOn_56 : decode cX2_goOn 56 = .ok (.getfield 135, 3) := by decide +kernel
theorem dX2_goOn_59 : decode cX2_goOn 59 = .ok (.aload_n 0, 1) := by decide +kernel
theorem dX2_goOn_60 : decode cX2_goOn 60 = .ok (.getfield 140, 3) := by decide +kernel
theorem dX2_goOn_63 : decode cX2_goOn 63 = .ok (.invokevirtual 143, 3) := by decide +kernel
theorem dX2_goOn_66 : decode cX2_goOn 66 = .ok (.lookupswitch 108 #[(36, 53), (38, 34), (46, 79)], 34) := by decide +kernel
theorem dX2_goOn_100 : decode cX2_goOn 100 = .ok (.aload_n 0, 1) := by decide +kernel
theorem dX2_goOn_101 : decode cX2_goOn 101 = .ok (.aload_n 0, 1) := by decide +kernel
theorem dX2_goOn_102 : decode cX2_goOn 102 = .ok (.getfield 42, 3) := by decide +kernel
theorem dX2_goOn_105 : decode cX2_goOn 105 = .ok (.getfield 156, 3) := by decide +kernel
theorem dX2_goOn_108 : decode cX2_goOn 108 = .ok (.aload_n 0, 1) := by decide +kernel
theorem dX2_goOn_109 : decode cX2_goOn 109 = .ok (.getfield 140, 3) := by decide +kernel
theorem dX2_goOn_112 : decode cX2_goOn 112 = .ok (.invokevirtual 143, 3) := by decide +kernel
theorem dX2_goOn_115 : decode cX2_goOn 115 = .ok (.invokevirtual 132, 3) := by decide +kernel
theorem dX2_goOn_118 : decode cX2_goOn 118 = .ok (.ireturn, 1) := by decide +kernel
theorem dX2_goOn_119 : decode cX2_goOn 119 = .ok (.aload_n 0, 1) := by decide +kernel
theorem dX2_goOn_120 : decode cX2_goOn 120 = .ok (.aload_n 0, 1) := by decide +kernel
theorem dX2_goOn_121 : decode cX2_goOn 121 = .ok (.getfield 42, 3) := by decide +kernel
theorem dX2_goOn_124 : decode cX2_goOn 124 = .ok (.getfield 156, 3) := by decide +kernel
theorem dX2_goOn_127 : decode cX2_goOn 127 = .ok (.aload_n 0, 1) := by decide +kernel
theorem dX2_goOn_128 : decode cX2_goOn 128 = .ok (.getfield 140, 3) := by decide +kernel
theorem dX2_goOn_131 : decode cX2_goOn 131 = .ok (.invokevirtual 143, 3) := by decide +kernel
theorem dX2_goOn_134 : decode cX2_goOn 134 = .ok (.iload_n 1, 1) := by decide +kernel
theorem dX2_goOn_135 : decode cX2_goOn 135 = .ok (.aload_n 0, 1) := by decide +kernel
theorem dX2_goOn_136 : decode cX2_goOn 136 = .ok (.getfield 126, 3) := by decide +kernel
theorem dX2_goOn_139 : decode cX2_goOn 139 = .ok (.invokevirtual 111, 3) := by decide +kernel
theorem dX2_goOn_142 : decode cX2_goOn 142 = .ok (.bipush 8, 2) := by decide +kernel
theorem dX2_goOn_144 : decode cX2_goOn 144 = .ok (.ireturn, 1) := by decide +kernel
theorem dX2_goOn_145 : decode cX2_goOn 145 = .ok (.aload_n 0, 1) := by decide +kernel
theorem dX2_goOn_146 : decode cX2_goOn 146 = .ok (.getfield 39, 3) := by decide +kernel
theorem dX2_goOn_149 : decode cX2_goOn 149 = .ok (.aload_n 0, 1) := by decide +kernel
theorem dX2_goOn_150 : decode cX2_goOn 150 = .ok (.getfield 42, 3) := by decide +kernel
theorem dX2_goOn_153 : decode cX2_goOn 153 = .ok (.getfield 156, 3) := by decide +kernel
theorem dX2_goOn_156 : decode cX2_goOn 156 = .ok (.aload_n 0, 1) := by decide +kernel
theorem dX2_goOn_157 : decode cX2_goOn 157 = .ok (.getfield 140, 3) := by decide +kernel
theorem dX2_goOn_160 : decode cX2_goOn 160 = .ok (.invokevirtual 143, 3) := by decide +kernel
theorem dX2_goOn_163 : decode cX2_goOn 163 = .ok (.iload_n 1, 1) := by decide +kernel
theorem dX2_goOn_164 : decode cX2_goOn 164 = .ok (.aload_n 0, 1) := by decide +kernel
theorem dX2_goOn_165 : decode cX2_goOn 165 = .ok (.getfield 126, 3) := by decide +kernel
theorem dX2_goOn_168 : decode cX2_goOn 168 = .ok (.invokevirtual 159, 3) := by decide +kernel
theorem dX2_goOn_171 : decode cX2_goOn 171 = .ok (.bipush 8, 2) := by decide +kernel
theorem dX2_goOn_173 : decode cX2_goOn 173 = .ok (.ireturn, 1) := by decide +kernel
theorem dX2_goOn_174 : decode cX2_goOn 174 = .ok (.aload_n 0, 1) := by decide +kernel
theorem dX2_goOn_175 : decode cX2_goOn 175 = .ok (.getfield 126, 3) := by decide +kernel
theorem dX2_goOn_178 : decode cX2_goOn 178 = .ok (.iload_n 1, 1) := by decide +kernel
theorem dX2_goOn_179 : decode cX2_goOn 179 = .ok (.if_icmp .ne 8, 3) := by decide +kernel
theorem dX2_goOn_182 : decode cX2_goOn 182 = .ok (.bipush 9, 2) := by decide +kernel
theorem dX2_goOn_184 : decode cX2_goOn 184 = .ok (.goto 5, 3) := by decide +kernel
theorem dX2_goOn_187 : decode cX2_goOn 187 = .ok (.bipush 7, 2) := by decide +kernel
theorem dX2_goOn_189 : decode cX2_goOn 189 = .ok (.ireturn, 1) := by decide +kernel
theorem dX2_goBack_0 : decode cX2_goBack 0 = .ok (.aload_n 0, 1) := by decide +kernel
theorem dX2_goBack_1 : decode cX2_goBack 1 = .ok (.getfield 29, 3) := by decide +kernel
theorem dX2_goBack_4 : decode cX2_goBack 4 = .ok (.getfield 76, 3) := by decide +kernel
theorem dX2_goBack_7 : decode cX2_goBack 7 = .ok (.ifCond .gt 8, 3) := by decide +kernel
theorem dX2_goBack_10 : decode cX2_goBack 10 = .ok (.aload_n 0, 1) := by decide +kernel
theorem dX2_goBack_11 : decode cX2_goBack 11 = .ok (.invokevirtual 162, 3) := by decide +kernel
theorem dX2_goBack_14 : decode cX2_goBack 14 = .ok (.ireturn, 1) := by decide +kernel
theorem dX2_goBack_15 : decode cX2_goBack 15 = .ok (.aload_n 0, 1) := by decide +kernel
theorem dX2_goBack_16 : decode cX2_goBack 16 = .ok (.getfield 29, 3) := by decide +kernel
theorem dX2_goBack_19 : decode cX2_goBack 19 = .ok (.dup, 1) := by decide +kernel
theorem dX2_goBack_20 : decode cX2_goBack 20 = .ok (.getfield 76, 3) := by decide +kernel
theorem dX2_goBack_23 : decode cX2_goBack 23 = .ok (.iconst 1, 1) := by decide +kernel
theorem dX2_goBack_24 : decode cX2_goBack 24 = .ok (.isub, 1) := by decide +kernel
theorem dX2_goBack_25 : decode cX2_goBack 25 = .ok (.putfield 76, 3) := by decide +kernel
theorem dX2_goBack_28 : decode cX2_goBack 28 = .ok (.aload_n 0, 1) := by decide +kernel
theorem dX2_goBack_29 : decode cX2_goBack 29 = .ok (.aload_n 0, 1) := by decide +kernel
theorem dX2_goBack_30 : decode cX2_goBack 30 = .ok (.getfield 29, 3) := by decide +kernel
theorem dX2_goBack_33 : decode cX2_goBack 33 = .ok (.aload_n 0, 1) := by decide +kernel
theorem dX2_goBack_34 : decode cX2_goBack 34 = .ok (.getfield 29, 3) := by decide +kernel
theorem dX2_goBack_37 : decode cX2_goBack 37 = .ok (.getfield 76, 3) := by decide +kernel
theorem dX2_goBack_40 : decode cX2_goBack 40 = .ok (.invokevirtual 102, 3) := by decide +kernel
theorem dX2_goBack_43 : decode cX2_goBack 43 = .ok (.putfield 140, 3) := by decide +kernel
theorem dX2_goBack_46 : decode cX2_goBack 46 = .ok (.aload_n 0, 1) := by decide +kernel
theorem dX2_goBack_47 : decode cX2_goBack 47 = .ok (.aload_n 0, 1) := by decide +kernel
theorem dX2_goBack_48 : decode cX2_goBack 48 = .ok (.getfield 29, 3) := by decide +kernel
theorem dX2_goBack_51 : decode cX2_goBack 51 = .ok (.aload_n 0, 1) := by decide +kernel
theorem dX2_goBack_52 : decode cX2_goBack 52 = .ok (.getfield 29, 3) := by decide +kernel
theorem dX2_goBack_55 : decode cX2_goBack 55 = .ok (.getfield 76, 3) := by decide +kernel
theorem dX2_goBack_58 : decode cX2_goBack 58 = .ok (.invokevirtual 105, 3) := by decide +kernel
theorem dX2_goBack_61 : decode cX2_goBack 61 = .ok (.putfield 126, 3) := by decide +kernel
theorem dX2_goBack_64 : decode cX2_goBack 64 = .ok (.aload_n 0, 1) := by decide +kernel
theorem dX2_goBack_65 : decode cX2_goBack 65 = .ok (.aload_n 0, 1) := by decide +kernel
theorem dX2_goBack_66 : decode cX2_goBack 66 = .ok (.getfield 29, 3) := by decide +kernel
theorem dX2_goBack_69 : decode cX2_goBack 69 = .ok (.aload_n 0, 1) := by decide +kernel
theorem dX2_goBack_70 : decode cX2_goBack 70 = .ok (.getfield 29, 3) := by decide +kernel
theorem dX2_goBack_73 : decode cX2_goBack 73 = .ok (.getfield 76, 3) := by decide +kernel
theorem dX2_goBack_76 : decode cX2_goBack 76 = .ok (.invokevirtual 108, 3) := by decide +kernel
theorem dX2_goBack_79 : decode cX2_goBack 79 = .ok (.putfield 129, 3) := by decide +kernel
theorem dX2_goBack_82 : decode cX2_goBack 82 = .ok (.aload_n 0, 1) := by decide +kernel
theorem dX2_goBack_83 : decode cX2_goBack 83 = .ok (.getfield 39, 3) := by decide +kernel
theorem dX2_goBack_86 : decode cX2_goBack 86 = .ok (.aload_n 0, 1) := by decide +kernel
theorem dX2_goBack_87 : decode cX2_goBack 87 = .ok (.getfield 35, 3) := by decide +kernel
theorem dX2_goBack_90 : decode cX2_goBack 90 = .ok (.aload_n 0, 1) := by decide +kernel
theorem dX2_goBack_91 : decode cX2_goBack 91 = .ok (.getfield 29, 3) := by decide +kernel
theorem dX2_goBack_94 : decode cX2_goBack 94 = .ok (.getfield 76, 3) := by decide +kernel
theorem dX2_goBack_97 : decode cX2_goBack 97 = .ok (.invokevirtual 143, 3) := by decide +kernel
theorem dX2_goBack_100 : decode cX2_goBack 100 = .ok (.putfield 76, 3) := by decide +kernel
theorem dX2_goBack_103 : decode cX2_goBack 103 = .ok (.aload_n 0, 1) := by decide +kernel
theorem dX2_goBack_104 : decode cX2_goBack 104 = .ok (.getfield 42, 3) := by decide +kernel
theorem dX2_goBack_107 : decode cX2_goBack 107 = .ok (.getfield 135, 3) := by decide +kernel
theorem dX2_goBack_110 : decode cX2_goBack 110 = .ok (.aload_n 0, 1) := by decide +kernel
theorem dX2_goBack_111 : decode cX2_goBack 111 = .ok (.getfield 140, 3) := by decide +kernel
theorem dX2_goBack_114 : decode cX2_goBack 114 = .ok (.invokevirtual 143, 3) := by decide +kernel
theorem dX2_goBack_117 : decode cX2_goBack 117 = .ok (.lookupswitch 117 #[(42, 85), (103, 62), (120, 114), (124, 43)], 43) := by decide +kernel
theorem dX2_goBack_160 : decode cX2_goBack 160 = .ok (.aload_n 0, 1) := by decide +kernel
theorem dX2_goBack_161 : decode cX2_goBack 161 = .ok (.aload_n 0, 1) := by decide +kernel
theorem dX2_goBack_162 : decode cX2_goBack 162 = .ok (.getfield 42, 3) := by decide +kernel
theorem dX2_goBack_165 : decode cX2_goBack 165 = .ok (.getfield 156, 3) := by decide +kernel
theorem dX2_goBack_168 : decode cX2_goBack 168 = .ok (.aload_n 0, 1) := by decide +kernel
theorem dX2_goBack_169 : decode cX2_goBack 169 = .ok (.getfield 140, 3) := by decide +kernel
theorem dX2_goBack_172 : decode cX2_goBack 172 = .ok (.invokevirtual 143, 3) := by decide +kernel
theorem dX2_goBack_175 : decode cX2_goBack 175 = .ok (.invokevirtual 132, 3) := by decide +kernel
theorem dX2_goBack_178 : decode cX2_goBack 178 = .ok (.ireturn, 1) := by decide +kernel
theorem dX2_goBack_179 : decode cX2_goBack 179 = .ok (.aload_n 0, 1) := by decide +kernel
theorem dX2_goBack_180 : decode cX2_goBack 180 = .ok (.invokevirtual 146, 3) := by decide +kernel
theorem dX2_goBack_183 : decode cX2_goBack 183 = .ok (.aload_n 0, 1) := by decide +kernel
theorem dX2_goBack_184 : decode cX2_goBack 184 = .ok (.aload_n 0, 1) := by decide +kernel
theorem dX2_goBack_185 : decode cX2_goBack 185 = .ok (.getfield 42, 3) := by decide +kernel
theorem dX2_goBack_188 : decode cX2_goBack 188 = .ok (.getfield 149, 3) := by decide +kernel
theorem dX2_goBack_191 : decode cX2_goBack 191 = .ok (.aload_n 0, 1) := by decide +kernel
theorem dX2_goBack_192 : decode cX2_goBack 192 = .ok (.getfield 140, 3) := by decide +kernel
theorem dX2_goBack_195 : decode cX2_goBack 195 = .ok (.invokevirtual 143, 3) := by decide +kernel
theorem dX2_goBack_198 : decode cX2_goBack 198 = .ok (.invokevirtual 132, 3) := by decide +kernel
theorem dX2_goBack_201 : decode cX2_goBack 201 = .ok (.ireturn, 1) := by decide +kernel
theorem dX2_goBack_202 : decode cX2_goBack 202 = .ok (.aload_n 0, 1) := by decide +kernel
theorem dX2_goBack_203 : decode cX2_goBack 203 = .ok (.dup, 1) := by decide +kernel
theorem dX2_goBack_204 : decode cX2_goBack 204 = .ok (.getfield 126, 3) := by decide +kernel
theorem dX2_goBack_207 : decode cX2_goBack 207 = .ok (.iconst 1, 1) := by decide +kernel
theorem dX2_goBack_208 : decode cX2_goBack 208 = .ok (.iadd, 1) := by decide +kernel
theorem dX2_goBack_209 : decode cX2_goBack 209 = .ok (.putfield 126, 3) := by decide +kernel
theorem dX2_goBack_212 : decode cX2_goBack 212 = .ok (.aload_n 0, 1) := by decide +kernel
theorem dX2_goBack_213 : decode cX2_goBack 213 = .ok (.getfield 126, 3) := by decide +kernel
theorem dX2_goBack_216 : decode cX2_goBack 216 = .ok (.aload_n 0, 1) := by decide +kernel
theorem dX2_goBack_217 : decode cX2_goBack 217 = .ok (.getfield 60, 3) := by decide +kernel
theorem dX2_goBack_220 : decode cX2_goBack 220 = .ok (.if_icmp .gt 8, 3) := by decide +kernel
theorem dX2_goBack_223 : decode cX2_goBack 223 = .ok (.bipush 7, 2) := by decide +kernel
theorem dX2_goBack_225 : decode cX2_goBack 225 = .ok (.goto 5, 3) := by decide +kernel
theorem dX2_goBack_228 : decode cX2_goBack 228 = .ok (.bipush 9, 2) := by decide +kernel
theorem dX2_goBack_230 : decode cX2_goBack 230 = .ok (.ireturn, 1) := by decide +kernel
theorem dX2_goBack_231 : decode cX2_goBack 231 = .ok (.bipush 6, 2) := by decide +kernel
theorem dX2_goBack_233 : decode cX2_goBack 233 = .ok (.ireturn, 1) := by decide +kernel
theorem dX2_goBack_234 : decode cX2_goBack 234 = .ok (.iconst 2, 1) := by decide +kernel
theorem dX2_goBack_235 : decode cX2_goBack 235 = .ok (.ireturn, 1) := by decide +kernel
theorem dX2_addNode_0 : decode cX2_addNode 0 = .ok (.aload_n 0, 1) := by decide +kernel
theorem dX2_addNode_1 : decode cX2_addNode 1 = .ok (.getfield 25, 3) := by decide +kernel
theorem dX2_addNode_4 : decode cX2_addNode 4 = .ok (.aload_n 0, 1) := by decide +kernel
theorem dX2_addNode_5 : decode cX2_addNode 5 = .ok (.getfield 140, 3) := by decide +kernel
theorem dX2_addNode_8 : decode cX2_addNode 8 = .ok (.aload_n 0, 1) := by decide +kernel
theorem dX2_addNode_9 : decode cX2_addNode 9 = .ok (.getfield 126, 3) := by decide +kernel
theorem dX2_addNode_12 : decode cX2_addNode 12 = .ok (.aload_n 0, 1) := by decide +kernel
theorem dX2_addNode_13 : decode cX2_addNode 13 = .ok (.getfield 129, 3) := by decide +kernel
theorem dX2_addNode_16 : decode cX2_addNode 16 = .ok (.invokevirtual 159, 3) := by decide +kernel
theorem dX2_addNode_19 : decode cX2_addNode 19 = .ok (.aload_n 0, 1) := by decide +kernel
theorem dX2_addNode_20 : decode cX2_addNode 20 = .ok (.aload_n 0, 1) := by decide +kernel
theorem dX2_addNode_21 : decode cX2_addNode 21 = .ok (.getfield 25, 3) := by decide +kernel
theorem dX2_addNode_24 : decode cX2_addNode 24 = .ok (.getfield 76, 3) := by decide +kernel
theorem dX2_addNode_27 : decode cX2_addNode 27 = .ok (.iconst 1, 1) := by decide +kernel
theorem dX2_addNode_28 : decode cX2_addNode 28 = .ok (.isub, 1) := by decide +kernel
theorem dX2_addNode_29 : decode cX2_addNode 29 = .ok (.putfield 129, 3) := by decide +kernel
theorem dX2_addNode_32 : decode cX2_addNode 32 = .ok (.return_, 1) := by decide +kernel
theorem dX2_addChoice_0 : decode cX2_addChoice 0 = .ok (.aload_n 0, 1) := by decide +kernel
theorem dX2_addChoice_1 : decode cX2_addChoice 1 = .ok (.getfield 35, 3) := by decide +kernel
theorem dX2_addChoice_4 : decode cX2_addChoice 4 = .ok (.aload_n 0, 1) := by decide +kernel
theorem dX2_addChoice_5 : decode cX2_addChoice 5 = .ok (.getfield 29, 3) := by decide +kernel
theorem dX2_addChoice_8 : decode cX2_addChoice 8 = .ok (.getfield 76, 3) := by decide +kernel
theorem dX2_addChoice_11 : decode cX2_addChoice 11 = .ok (.aload_n 0, 1) := by decide +kernel
theorem dX2_addChoice_12 : decode cX2_addChoice 12 = .ok (.getfield 39, 3) := by decide +kernel
theorem dX2_addChoice_15 : decode cX2_addChoice 15 = .ok (.getfield 76, 3) := by decide +kernel
theorem dX2_addChoice_18 : decode cX2_addChoice 18 = .ok (.invokevirtual 165, 3) := by decide +kernel
theorem dX2_addChoice_21 : decode cX2_addChoice 21 = .ok (.aload_n 0, 1) := by decide +kernel
theorem dX2_addChoice_22 : decode cX2_addChoice 22 = .ok (.getfield 29, 3) := by decide +kernel
theorem dX2_addChoice_25 : decode cX2_addChoice 25 = .ok (.aload_n 0, 1) := by decide +kernel
theorem dX2_addChoice_26 : decode cX2_addChoice 26 = .ok (.getfield 140, 3) := by decide +kernel
theorem dX2_addChoice_29 : decode cX2_addChoice 29 = .ok (.aload_n 0, 1) := by decide +kernel
theorem dX2_addChoice_30 : decode cX2_addChoice 30 = .ok (.getfield 126, 3) := by decide +kernel
theorem dX2_addChoice_33 : decode cX2_addChoice 33 = .ok (.aload_n 0, 1) := by decide +kernel
theorem dX2_addChoice_34 : decode cX2_addChoice 34 = .ok (.getfield 129, 3) := by decide +kernel
theorem dX2_addChoice_37 : decode cX2_addChoice 37 = .ok (.invokevirtual 159, 3) := by decide +kernel
theorem dX2_addChoice_40 : decode cX2_addChoice 40 = .ok (.return_, 1) := by decide +kernel
theorem dX2_beginPart_0 : decode cX2_beginPart 0 = .ok (.aload_n 0, 1) := by decide +kernel
theorem dX2_beginPart_1 : decode cX2_beginPart 1 = .ok (.iload_n 1, 1) := by decide +kernel
theorem dX2_beginPart_2 : decode cX2_beginPart 2 = .ok (.putfield 140, 3) := by decide +kernel
theorem dX2_beginPart_5 : decode cX2_beginPart 5 = .ok (.iconst 4, 1) := by decide +kernel
theorem dX2_beginPart_6 : decode cX2_beginPart 6 = .ok (.ireturn, 1) := by decide +kernel
theorem dX2_goTo_0 : decode cX2_goTo 0 = .ok (.iload_n 1, 1) := by decide +kernel
theorem dX2_goTo_1 : decode cX2_goTo 1 = .ok (.iconst (-1), 1) := by decide +kernel
theorem dX2_goTo_2 : decode cX2_goTo 2 = .ok (.if_icmp .ne 6, 3) := by decide +kernel
theorem dX2_goTo_5 : decode cX2_goTo 5 = .ok (.bipush 9, 2) := by decide +kernel
theorem dX2_goTo_7 : decode cX2_goTo 7 = .ok (.ireturn, 1) := by decide +kernel
theorem dX2_goTo_8 : decode cX2_goTo 8 = .ok (.aload_n 0, 1) := by decide +kernel
theorem dX2_goTo_9 : decode cX2_goTo 9 = .ok (.iload_n 1, 1) := by decide +kernel
theorem dX2_goTo_10 : decode cX2_goTo 10 = .ok (.putfield 126, 3) := by decide +kernel
theorem dX2_goTo_13 : decode cX2_goTo 13 = .ok (.bipush 8, 2) := by decide +kernel
theorem dX2_goTo_15 : decode cX2_goTo 15 = .ok (.ireturn, 1) := by decide +kernel
theorem dX2_balance_0 : decode cX2_balance 0 = .ok (.iconst 0, 1) := by decide +kernel
theorem dX2_balance_1 : decode cX2_balance 1 = .ok (.istore_n 1, 1) := by decide +kernel
theorem dX2_balance_2 : decode cX2_balance 2 = .ok (.aload_n 0, 1) := by decide +kernel
theorem dX2_balance_3 : decode cX2_balance 3 = .ok (.getfield 126, 3) := by decide +kernel
theorem dX2_balance_6 : decode cX2_balance 6 = .ok (.istore_n 2, 1) := by decide +kernel
theorem dX2_balance_7 : decode cX2_balance 7 = .ok (.iload_n 2, 1) := by decide +kernel
theorem dX2_balance_8 : decode cX2_balance 8 = .ok (.aload_n 0, 1) := by decide +kernel
theorem dX2_balance_9 : decode cX2_balance 9 = .ok (.getfield 60, 3) := by decide +kernel
theorem dX2_balance_12 : decode cX2_balance 12 = .ok (.if_icmp .ge 64, 3) := by decide +kernel
theorem dX2_balance_15 : decode cX2_balance 15 = .ok (.aload_n 0, 1) := by decide +kernel
theorem dX2_balance_16 : decode cX2_balance 16 = .ok (.getfield 14, 3) := by decide +kernel
theorem dX2_balance_19 : decode cX2_balance 19 = .ok (.iconst 0, 1) := by decide +kernel
theorem dX2_balance_20 : decode cX2_balance 20 = .ok (.iload_n 2, 1) := by decide +kernel
theorem dX2_balance_21 : decode cX2_balance 21 = .ok (.invokevirtual 168, 3) := by decide +kernel
theorem dX2_balance_24 : decode cX2_balance 24 = .ok (.istore_n 3, 1) := by decide +kernel
theorem dX2_balance_25 : decode cX2_balance 25 = .ok (.iload_n 1, 1) := by decide +kernel
theorem dX2_balance_26 : decode cX2_balance 26 = .ok (.iload_n 3, 1) := by decide +kernel
theorem dX2_balance_27 : decode cX2_balance 27 = .ok (.bipush 40, 2) := by decide +kernel
theorem dX2_balance_29 : decode cX2_balance 29 = .ok (.if_icmp .ne 7, 3) := by decide +kernel
theorem dX2_balance_32 : decode cX2_balance 32 = .ok (.iconst 1, 1) := by decide +kernel
theorem dX2_balance_33 : decode cX2_balance 33 = .ok (.goto 14, 3) := by decide +kernel
theorem dX2_balance_36 : decode cX2_balance 36 = .ok (.iload_n 3, 1) := by decide +kernel
theorem dX2_balance_37 : decode cX2_balance 37 = .ok (.bipush 41, 2) := by decide +kernel
theorem dX2_balance_39 : decode cX2_balance 39 = .ok (.if_icmp .ne 7, 3) := by decide +kernel
theorem dX2_balance_42 : decode cX2_balance 42 = .ok (.iconst (-1), 1) := by decide +kernel
theorem dX2_balance_43 : decode cX2_balance 43 = .ok (.goto 4, 3) := by decide +kernel
theorem dX2_balance_46 : decode cX2_balance 46 = .ok (.iconst 0, 1) := by decide +kernel
theorem dX2_balance_47 : decode cX2_balance 47 = .ok (.iadd, 1) := by decide +kernel
theorem dX2_balance_48 : decode cX2_balance 48 = .ok (.istore_n 1, 1) := by decide +kernel
theorem dX2_balance_49 : decode cX2_balance 49 = .ok (.iload_n 1, 1) := by decide +kernel
theorem dX2_balance_50 : decode cX2_balance 50 = .ok (.ifCond .ge 6, 3) := by decide +kernel
theorem dX2_balance_53 : decode cX2_balance 53 = .ok (.bipush 9, 2) := by decide +kernel
theorem dX2_balance_55 : decode cX2_balance 55 = .ok (.ireturn, 1) := by decide +kernel
theorem dX2_balance_56 : decode cX2_balance 56 = .ok (.iload_n 1, 1) := by decide +kernel
theorem dX2_balance_57 : decode cX2_balance 57 = .ok (.ifCond .ne 13, 3) := by decide +kernel
theorem dX2_balance_60 : decode cX2_balance 60 = .ok (.aload_n 0, 1) := by decide +kernel
theorem dX2_balance_61 : decode cX2_balance 61 = .ok (.iload_n 2, 1) := by decide +kernel
theorem dX2_balance_62 : decode cX2_balance 62 = .ok (.iconst 1, 1) := by decide +kernel
theorem dX2_balance_63 : decode cX2_balance 63 = .ok (.iadd, 1) := by decide +kernel
theorem dX2_balance_64 : decode cX2_balance 64 = .ok (.putfield 126, 3) := by decide +kernel
theorem dX2_balance_67 : decode cX2_balance 67 = .ok (.bipush 7, 2) := by decide +kernel
theorem dX2_balance_69 : decode cX2_balance 69 = .ok (.ireturn, 1) := by decide +kernel
theorem dX2_balance_70 : decode cX2_balance 70 = .ok (.iinc 2 1, 3) := by decide +kernel
theorem dX2_balance_73 : decode cX2_balance 73 = .ok (.goto (-66), 3) := by decide +kernel
theorem dX2_balance_76 : decode cX2_balance 76 = .ok (.bipush 9, 2) := by decide +kernel
theorem dX2_balance_78 : decode cX2_balance 78 = .ok (.ireturn, 1) := by decide +kernel
theorem dX2_endOfSingle_0 : decode cX2_endOfSingle 0 = .ok (.aload_n 0, 1) := by decide +kernel
theorem dX2_endOfSingle_1 : decode cX2_endOfSingle 1 = .ok (.getfield 42, 3) := by decide +kernel
theorem dX2_endOfSingle_4 : decode cX2_endOfSingle 4 = .ok (.getfield 149, 3) := by decide +kernel
theorem dX2_endOfSingle_7 : decode cX2_endOfSingle 7 = .ok (.aload_n 0, 1) := by decide +kernel
theorem dX2_endOfSingle_8 : decode cX2_endOfSingle 8 = .ok (.getfield 140, 3) := by decide +kernel
theorem dX2_endOfSingle_11 : decode cX2_endOfSingle 11 = .ok (.invokevirtual 143, 3) := by decide +kernel
theorem dX2_endOfSingle_14 : decode cX2_endOfSingle 14 = .ok (.istore_n 1, 1) := by decide +kernel
theorem dX2_endOfSingle_15 : decode cX2_endOfSingle 15 = .ok (.aload_n 0, 1) := by decide +kernel
theorem dX2_endOfSingle_16 : decode cX2_endOfSingle 16 = .ok (.getfield 42, 3) := by decide +kernel
theorem dX2_endOfSingle_19 : decode cX2_endOfSingle 19 = .ok (.getfield 135, 3) := by decide +kernel
theorem dX2_endOfSingle_22 : decode cX2_endOfSingle 22 = .ok (.aload_n 0, 1) := by decide +kernel
theorem dX2_endOfSingle_23 : decode cX2_endOfSingle 23 = .ok (.getfield 140, 3) := by decide +kernel
theorem dX2_endOfSingle_26 : decode cX2_endOfSingle 26 = .ok (.invokevirtual 143, 3) := by decide +kernel
theorem dX2_endOfSingle_29 : decode cX2_endOfSingle 29 = .ok (.lookupswitch 399 #[(35, 285), (107, 279), (108, 107), (109, 394), (110, 183), (111, 228), (112, 355), (113, 372), (114, 331), (115, 273), (116, 309), (118, 145)], 107) := by decide +kernel
theorem dX2_endOfSingle_136 : decode cX2_endOfSingle 136 = .ok (.aload_n 0, 1) := by decide +kernel
theorem dX2_endOfSingle_137 : decode cX2_endOfSingle 137 = .ok (.getfield 14, 3) := by decide +kernel
theorem dX2_endOfSingle_140 : decode cX2_endOfSingle 140 = .ok (.iconst 0, 1) := by decide +kernel
theorem dX2_endOfSingle_141 : decode cX2_endOfSingle 141 = .ok (.aload_n 0, 1) := by decide +kernel
theorem dX2_endOfSingle_142 : decode cX2_endOfSingle 142 = .ok (.getfield 126, 3) := by decide +kernel
theorem dX2_endOfSingle_145 : decode cX2_endOfSingle 145 = .ok (.aload_n 0, 1) := by decide +kernel
theorem dX2_endOfSingle_146 : decode cX2_endOfSingle 146 = .ok (.getfield 46, 3) := by decide +kernel
theorem dX2_endOfSingle_149 : decode cX2_endOfSingle 149 = .ok (.iload_n 1, 1) := by decide +kernel
theorem dX2_endOfSingle_150 : decode cX2_endOfSingle 150 = .ok (.invokevirtual 172, 3) := by decide +kernel
theorem dX2_endOfSingle_153 : decode cX2_endOfSingle 153 = .ok (.ifCond .eq 19, 3) := by decide +kernel
theorem dX2_endOfSingle_156 : decode cX2_endOfSingle 156 = .ok (.aload_n 0, 1) := by decide +kernel
theorem dX2_endOfSingle_157 : decode cX2_endOfSingle 157 = .ok (.getfield 126, 3) := by decide +kernel
theorem dX2_endOfSingle_160 : decode cX2_endOfSingle 160 = .ok (.aload_n 0, 1) := by decide +kernel
theorem dX2_endOfSingle_161 : decode cX2_endOfSingle 161 = .ok (.getfield 46, 3) := by decide +kernel
theorem dX2_endOfSingle_164 : decode cX2_endOfSingle 164 = .ok (.iload_n 1, 1) := by decide +kernel
theorem dX2_endOfSingle_165 : decode cX2_endOfSingle 165 = .ok (.invokevirtual 56, 3) := by decide +kernel
theorem dX2_endOfSingle_168 : decode cX2_endOfSingle 168 = .ok (.iadd, 1) := by decide +kernel
theorem dX2_endOfSingle_169 : decode cX2_endOfSingle 169 = .ok (.goto 4, 3) := by decide +kernel
theorem dX2_endOfSingle_172 : decode cX2_endOfSingle 172 = .ok (.iconst (-1), 1) := by decide +kernel
theorem dX2_endOfSingle_173 : decode cX2_endOfSingle 173 = .ok (.ireturn, 1) := by decide +kernel
theorem dX2_endOfSingle_174 : decode cX2_endOfSingle 174 = .ok (.aload_n 0, 1) := by decide +kernel
theorem dX2_endOfSingle_175 : decode cX2_endOfSingle 175 = .ok (.getfield 14, 3) := by decide +kernel
theorem dX2_endOfSingle_178 : decode cX2_endOfSingle 178 = .ok (.iconst 0, 1) := by decide +kernel
theorem dX2_endOfSingle_179 : decode cX2_endOfSingle 179 = .ok (.aload_n 0, 1) := by decide +kernel
theorem dX2_endOfSingle_180 : decode cX2_endOfSingle 180 = .ok (.getfield 126, 3) := by decide +kernel
theorem dX2_endOfSingle_183 : decode cX2_endOfSingle 183 = .ok (.aload_n 0, 1) := by decide +kernel
theorem dX2_endOfSingle_184 : decode cX2_endOfSingle 184 = .ok (.getfield 49, 3) := by decide +kernel
theorem dX2_endOfSingle_187 : decode cX2_endOfSingle 187 = .ok (.iload_n 1, 1) := by decide +kernel
theorem dX2_endOfSingle_188 : decode cX2_endOfSingle 188 = .ok (.invokevirtual 172, 3) := by decide +kernel
theorem dX2_endOfSingle_191 : decode cX2_endOfSingle 191 = .ok (.ifCond .eq 19, 3) := by decide +kernel
theorem dX2_endOfSingle_194 : decode cX2_endOfSingle 194 = .ok (.aload_n 0, 1) := by decide +kernel
theorem dX2_endOfSingle_195 : decode cX2_endOfSingle 195 = .ok (.getfield 126, 3) := by decide +kernel
theorem dX2_endOfSingle_198 : decode cX2_endOfSingle 198 = .ok (.aload_n 0, 1) := by decide +kernel
theorem dX2_endOfSingle_199 : decode cX2_endOfSingle 199 = .ok (.getfield 49, 3) := by decide +kernel
theorem dX2_endOfSingle_202 : decode cX2_endOfSingle 202 = .ok (.iload_n 1, 1) := by decide +kernel
theorem dX2_endOfSingle_203 : decode cX2_endOfSingle 203 = .ok (.invokevirtual 56, 3) := by decide +kernel
theorem dX2_endOfSingle_206 : decode cX2_endOfSingle 206 = .ok (.iadd, 1) := by decide +kernel
theorem dX2_endOfSingle_207 : decode cX2_endOfSingle 207 = .ok (.goto 4, 3) := by decide +kernel
theorem dX2_endOfSingle_210 : decode cX2_endOfSingle 210 = .ok (.iconst (-1), 1) := by decide +kernel
theorem dX2_endOfSingle_211 : decode cX2_endOfSingle 211 = .ok (.ireturn, 1) := by decide +kernel
theorem dX2_endOfSingle_212 : decode cX2_endOfSingle 212 = .ok (.aload_n 0, 1) := by decide +kernel
theorem dX2_endOfSingle_213 : decode cX2_endOfSingle 213 = .ok (.getfield 126, 3) := by decide +kernel
theorem dX2_endOfSingle_216 : decode cX2_endOfSingle 216 = .ok (.aload_n 0, 1) := by decide +kernel
theorem dX2_endOfSingle_217 : decode cX2_endOfSingle 217 = .ok (.getfield 60, 3) := by decide +kernel
theorem dX2_endOfSingle_220 : decode cX2_endOfSingle 220 = .ok (.if_icmp .ge 35, 3) := by decide +kernel
theorem dX2_endOfSingle_223 : decode cX2_endOfSingle 223 = .ok (.aload_n 0, 1) := by decide +kernel
theorem dX2_endOfSingle_224 : decode cX2_endOfSingle 224 = .ok (.getfield 46, 3) := by decide +kernel
theorem dX2_endOfSingle_227 : decode cX2_endOfSingle 227 = .ok (.iload_n 1, 1) := by decide +kernel
theorem dX2_endOfSingle_228 : decode cX2_endOfSingle 228 = .ok (.aload_n 0, 1) := by decide +kernel
theorem dX2_endOfSingle_229 : decode cX2_endOfSingle 229 = .ok (.getfield 14, 3) := by decide +kernel
theorem dX2_endOfSingle_232 : decode cX2_endOfSingle 232 = .ok (.iconst 0, 1) := by decide +kernel
theorem dX2_endOfSingle_233 : decode cX2_endOfSingle 233 = .ok (.aload_n 0, 1) := by decide +kernel
theorem dX2_endOfSingle_234 : decode cX2_endOfSingle 234 = .ok (.getfield 126, 3) := by decide +kernel
theorem dX2_endOfSingle_237 : decode cX2_endOfSingle 237 = .ok (.invokevirtual 168, 3) := by decide +kernel
theorem dX2_endOfSingle_240 : decode cX2_endOfSingle 240 = .ok (.invokevirtual 176, 3) := by decide +kernel
theorem dX2_endOfSingle_243 : decode cX2_endOfSingle 243 = .ok (.ifCond .eq 12, 3) := by decide +kernel
theorem dX2_endOfSingle_246 : decode cX2_endOfSingle 246 = .ok (.aload_n 0, 1) := by decide +kernel
theorem dX2_endOfSingle_247 : decode cX2_endOfSingle 247 = .ok (.getfield 126, 3) := by decide +kernel
theorem dX2_endOfSingle_250 : decode cX2_endOfSingle 250 = .ok (.iconst 1, 1) := by decide +kernel
theorem dX2_endOfSingle_251 : decode cX2_endOfSingle 251 = .ok (.iadd, 1) := by decide +kernel
theorem dX2_endOfSingle_252 : decode cX2_endOfSingle 252 = .ok (.goto 4, 3) := by decide +kernel
theorem dX2_endOfSingle_255 : decode cX2_endOfSingle 255 = .ok (.iconst (-1), 1) := by decide +kernel
theorem dX2_endOfSingle_256 : decode cX2_endOfSingle 256 = .ok (.ireturn, 1) := by decide +kernel
theorem dX2_endOfSingle_257 : decode cX2_endOfSingle 257 = .ok (.aload_n 0, 1) := by decide +kernel
theorem dX2_endOfSingle_258 : decode cX2_endOfSingle 258 = .ok (.getfield 126, 3) := by decide +kernel
theorem dX2_endOfSingle_261 : decode cX2_endOfSingle 261 = .ok (.aload_n 0, 1) := by decide +kernel
theorem dX2_endOfSingle_262 : decode cX2_endOfSingle 262 = .ok (.getfield 60, 3) := by decide +kernel
theorem dX2_endOfSingle_265 : decode cX2_endOfSingle 265 = .ok (.if_icmp .ge 35, 3) := by decide +kernel
theorem dX2_endOfSingle_268 : decode cX2_endOfSingle 268 = .ok (.aload_n 0, 1) := by decide +kernel
theorem dX2_endOfSingle_269 : decode cX2_endOfSingle 269 = .ok (.getfield 46, 3) := by decide +kernel
theorem dX2_endOfSingle_272 : decode cX2_endOfSingle 272 = .ok (.iload_n 1, 1) := by decide +kernel
theorem dX2_endOfSingle_273 : decode cX2_endOfSingle 273 = .ok (.aload_n 0, 1) := by decide +kernel
theorem dX2_endOfSingle_274 : decode cX2_endOfSingle 274 = .ok (.getfield 14, 3) := by decide +kernel
theorem dX2_endOfSingle_277 : decode cX2_endOfSingle 277 = .ok (.iconst 0, 1) := by decide +kernel
theorem dX2_endOfSingle_278 : decode cX2_endOfSingle 278 = .ok (.aload_n 0, 1) := by decide +kernel
theorem dX2_endOfSingle_279 : decode cX2_endOfSingle 279 = .ok (.getfield 126, 3) := by decide +kernel
theorem dX2_endOfSingle_282 : decode cX2_endOfSingle 282 = .ok (.invokevirtual 168, 3) := by decide +kernel
theorem dX2_endOfSingle_285 : decode cX2_endOfSingle 285 = .ok (.invokevirtual 176, 3) := by decide +kernel
theorem dX2_endOfSingle_288 : decode cX2_endOfSingle 288 = .ok (.ifCond .ne 12, 3) := by decide +kernel
theorem dX2_endOfSingle_291 : decode cX2_endOfSingle 291 = .ok (.aload_n 0, 1) := by decide +kernel
theorem dX2_endOfSingle_292 : decode cX2_endOfSingle 292 = .ok (.getfield 126, 3) := by decide +kernel
theorem dX2_endOfSingle_295 : decode cX2_endOfSingle 295 = .ok (.iconst 1, 1) := by decide +kernel
theorem dX2_endOfSingle_296 : decode cX2_endOfSingle 296 = .ok (.iadd, 1) := by decide +kernel
theorem dX2_endOfSingle_297 : decode cX2_endOfSingle 297 = .ok (.goto 4, 3) := by decide +kernel
theorem dX2_endOfSingle_300 : decode cX2_endOfSingle 300 = .ok (.iconst (-1), 1) := by decide +kernel
theorem dX2_endOfSingle_301 : decode cX2_endOfSingle 301 = .ok (.ireturn, 1) := by decide +kernel
theorem dX2_endOfSingle_302 : decode cX2_endOfSingle 302 = .ok (.aload_n 0, 1) := by decide +kernel
theorem dX2_endOfSingle_303 : decode cX2_endOfSingle 303 = .ok (.iload_n 1, 1) := by decide +kernel
theorem dX2_endOfSingle_304 : decode cX2_endOfSingle 304 = .ok (.invokevirtual 180, 3) := by decide +kernel
theorem dX2_endOfSingle_307 : decode cX2_endOfSingle 307 = .ok (.ireturn, 1) := by decide +kernel
theorem dX2_endOfSingle_308 : decode cX2_endOfSingle 308 = .ok (.aload_n 0, 1) := by decide +kernel
theorem dX2_endOfSingle_309 : decode cX2_endOfSingle 309 = .ok (.iload_n 1, 1) := by decide +kernel
theorem dX2_endOfSingle_310 : decode cX2_endOfSingle 310 = .ok (.invokevirtual 183, 3) := by decide +kernel
theorem dX2_endOfSingle_313 : decode cX2_endOfSingle 313 = .ok (.ireturn, 1) := by decide +kernel
theorem dX2_endOfSingle_314 : decode cX2_endOfSingle 314 = .ok (.aload_n 0, 1) := by decide +kernel
theorem dX2_endOfSingle_315 : decode cX2_endOfSingle 315 = .ok (.getfield 126, 3) := by decide +kernel
theorem dX2_endOfSingle_318 : decode cX2_endOfSingle 318 = .ok (.iload_n 1, 1) := by decide +kernel
theorem dX2_endOfSingle_319 : decode cX2_endOfSingle 319 = .ok (.iadd, 1) := by decide +kernel
theorem dX2_endOfSingle_320 : decode cX2_endOfSingle 320 = .ok (.aload_n 0, 1) := by decide +kernel
theorem dX2_endOfSingle_321 : decode cX2_endOfSingle 321 = .ok (.getfield 60, 3) := by decide +kernel
theorem dX2_endOfSingle_324 : decode cX2_endOfSingle 324 = .ok (.if_icmp .gt 12, 3) := by decide +kernel
theorem dX2_endOfSingle_327 : decode cX2_endOfSingle 327 = .ok (.aload_n 0, 1) := by decide +kernel
theorem dX2_endOfSingle_328 : decode cX2_endOfSingle 328 = .ok (.getfield 126, 3) := by decide +kernel
theorem dX2_endOfSingle_331 : decode cX2_endOfSingle 331 = .ok (.iload_n 1, 1) := by decide +kernel
theorem dX2_endOfSingle_332 : decode cX2_endOfSingle 332 = .ok (.iadd, 1) := by decide +kernel
theorem dX2_endOfSingle_333 : decode cX2_endOfSingle 333 = .ok (.goto 4, 3) := by decide +kernel
theorem dX2_endOfSingle_336 : decode cX2_endOfSingle 336 = .ok (.iconst (-1), 1) := by decide +kernel
theorem dX2_endOfSingle_337 : decode cX2_endOfSingle 337 = .ok (.ireturn, 1) := by decide +kernel
theorem dX2_endOfSingle_338 : decode cX2_endOfSingle 338 = .ok (.iload_n 1, 1) := by decide +kernel
theorem dX2_endOfSingle_339 : decode cX2_endOfSingle 339 = .ok (.aload_n 0, 1) := by decide +kernel
theorem dX2_endOfSingle_340 : decode cX2_endOfSingle 340 = .ok (.getfield 126, 3) := by decide +kernel
theorem dX2_endOfSingle_343 : decode cX2_endOfSingle 343 = .ok (.if_icmp .lt 15, 3) := by decide +kernel
theorem dX2_endOfSingle_346 : decode cX2_endOfSingle 346 = .ok (.iload_n 1, 1) := by decide +kernel
theorem dX2_endOfSingle_347 : decode cX2_endOfSingle 347 = .ok (.aload_n 0, 1) := by decide +kernel
theorem dX2_endOfSingle_348 : decode cX2_endOfSingle 348 = .ok (.getfield 60, 3) := by decide +kernel
theorem dX2_endOfSingle_351 : decode cX2_endOfSingle 351 = .ok (.if_icmp .gt 7, 3) := by decide +kernel
theorem dX2_endOfSingle_354 : decode cX2_endOfSingle 354 = .ok (.iload_n 1, 1) := by decide +kernel
theorem dX2_endOfSingle_355 : decode cX2_endOfSingle 355 = .ok (.goto 4, 3) := by decide +kernel
theorem dX2_endOfSingle_358 : decode cX2_endOfSingle 358 = .ok (.iconst (-1), 1) := by decide +kernel
theorem dX2_endOfSingle_359 : decode cX2_endOfSingle 359 = .ok (.ireturn, 1) := by decide +kernel
theorem dX2_endOfSingle_360 : decode cX2_endOfSingle 360 = .ok (.aload_n 0, 1) := by decide +kernel
theorem dX2_endOfSingle_361 : decode cX2_endOfSingle 361 = .ok (.getfield 60, 3) := by decide +kernel
theorem dX2_endOfSingle_364 : decode cX2_endOfSingle 364 = .ok (.iload_n 1, 1) := by decide +kernel
theorem dX2_endOfSingle_365 : decode cX2_endOfSingle 365 = .ok (.isub, 1) := by decide +kernel
theorem dX2_endOfSingle_366 : decode cX2_endOfSingle 366 = .ok (.aload_n 0, 1) := by decide +kernel
theorem dX2_endOfSingle_367 : decode cX2_endOfSingle 367 = .ok (.getfield 126, 3) := by decide +kernel
theorem dX2_endOfSingle_370 : decode cX2_endOfSingle 370 = .ok (.if_icmp .lt 12, 3) := by decide +kernel
theorem dX2_endOfSingle_373 : decode cX2_endOfSingle 373 = .ok (.aload_n 0, 1) := by decide +kernel
theorem dX2_endOfSingle_374 : decode cX2_endOfSingle 374 = .ok (.getfield 60, 3) := by decide +kernel
theorem dX2_endOfSingle_377 : decode cX2_endOfSingle 377 = .ok (.iload_n 1, 1) := by decide +kernel
theorem dX2_endOfSingle_378 : decode cX2_endOfSingle 378 = .ok (.isub, 1) := by decide +kernel
theorem dX2_endOfSingle_379 : decode cX2_endOfSingle 379 = .ok (.goto 4, 3) := by decide +kernel
theorem dX2_endOfSingle_382 : decode cX2_endOfSingle 382 = .ok (.iconst (-1), 1) := by decide +kernel
theorem dX2_endOfSingle_383 : decode cX2_endOfSingle 383 = .ok (.ireturn, 1) := by decide +kernel
theorem dX2_endOfSingle_384 : decode cX2_endOfSingle 384 = .ok (.aload_n 0, 1) := by decide +kernel
theorem dX2_endOfSingle_385 : decode cX2_endOfSingle 385 = .ok (.getfield 126, 3) := by decide +kernel
theorem dX2_endOfSingle_388 : decode cX2_endOfSingle 388 = .ok (.iload_n 1, 1) := by decide +kernel
theorem dX2_endOfSingle_389 : decode cX2_endOfSingle 389 = .ok (.if_icmp .ne 10, 3) := by decide +kernel
theorem dX2_endOfSingle_392 : decode cX2_endOfSingle 392 = .ok (.aload_n 0, 1) := by decide +kernel
theorem dX2_endOfSingle_393 : decode cX2_endOfSingle 393 = .ok (.getfield 126, 3) := by decide +kernel
theorem dX2_endOfSingle_396 : decode cX2_endOfSingle 396 = .ok (.goto 4, 3) := by decide +kernel
theorem dX2_endOfSingle_399 : decode cX2_endOfSingle 399 = .ok (.iconst (-1), 1) := by decide +kernel
theorem dX2_endOfSingle_400 : decode cX2_endOfSingle 400 = .ok (.ireturn, 1) := by decide +kernel
theorem dX2_endOfSingle_401 : decode cX2_endOfSingle 401 = .ok (.aload_n 0, 1) := by decide +kernel
theorem dX2_endOfSingle_402 : decode cX2_endOfSingle 402 = .ok (.getfield 126, 3) := by decide +kernel
theorem dX2_endOfSingle_405 : decode cX2_endOfSingle 405 = .ok (.aload_n 0, 1) := by decide +kernel
theorem dX2_endOfSingle_406 : decode cX2_endOfSingle 406 = .ok (.getfield 60, 3) := by decide +kernel
theorem dX2_endOfSingle_409 : decode cX2_endOfSingle 409 = .ok (.iload_n 1, 1) := by decide +kernel
theorem dX2_endOfSingle_410 : decode cX2_endOfSingle 410 = .ok (.isub, 1) := by decide +kernel
theorem dX2_endOfSingle_411 : decode cX2_endOfSingle 411 = .ok (.if_icmp .ne 10, 3) := by decide +kernel
theorem dX2_endOfSingle_414 : decode cX2_endOfSingle 414 = .ok (.aload_n 0, 1) := by decide +kernel
theorem dX2_endOfSingle_415 : decode cX2_endOfSingle 415 = .ok (.getfield 126, 3) := by decide +kernel
theorem dX2_endOfSingle_418 : decode cX2_endOfSingle 418 = .ok (.goto 4, 3) := by decide +kernel
theorem dX2_endOfSingle_421 : decode cX2_endOfSingle 421 = .ok (.iconst (-1), 1) := by decide +kernel
theorem dX2_endOfSingle_422 : decode cX2_endOfSingle 422 = .ok (.ireturn, 1) := by decide +kernel
theorem dX2_endOfSingle_423 : decode cX2_endOfSingle 423 = .ok (.aload_n 0, 1) := by decide +kernel
theorem dX2_endOfSingle_424 : decode cX2_endOfSingle 424 = .ok (.getfield 60, 3) := by decide +kernel
theorem dX2_endOfSingle_427 : decode cX2_endOfSingle 427 = .ok (.ireturn, 1) := by decide +kernel
theorem dX2_endOfSingle_428 : decode cX2_endOfSingle 428 = .ok (.iconst (-1), 1) := by decide +kernel
theorem dX2_endOfSingle_429 : decode cX2_endOfSingle 429 = .ok (.ireturn, 1) := by decide +kernel
theorem dX2_endOfSpan_0 : decode cX2_endOfSpan 0 = .ok (.aload_n 0, 1) := by decide +kernel
theorem dX2_endOfSpan_1 : decode cX2_endOfSpan 1 = .ok (.getfield 126, 3) := by decide +kernel
theorem dX2_endOfSpan_4 : decode cX2_endOfSpan 4 = .ok (.istore_n 2, 1) := by decide +kernel
theorem dX2_endOfSpan_5 : decode cX2_endOfSpan 5 = .ok (.iload_n 2, 1) := by decide +kernel
theorem dX2_endOfSpan_6 : decode cX2_endOfSpan 6 = .ok (.aload_n 0, 1) := by decide +kernel
theorem dX2_endOfSpan_7 : decode cX2_endOfSpan 7 = .ok (.getfield 60, 3) := by decide +kernel
theorem dX2_endOfSpan_10 : decode cX2_endOfSpan 10 = .ok (.if_icmp .ge 29, 3) := by decide +kernel
theorem dX2_endOfSpan_13 : decode cX2_endOfSpan 13 = .ok (.aload_n 0, 1) := by decide +kernel
theorem dX2_endOfSpan_14 : decode cX2_endOfSpan 14 = .ok (.getfield 46, 3) := by decide +kernel
theorem dX2_endOfSpan_17 : decode cX2_endOfSpan 17 = .ok (.iload_n 1, 1) := by decide +kernel
theorem dX2_endOfSpan_18 : decode cX2_endOfSpan 18 = .ok (.aload_n 0, 1) := by decide +kernel
theorem dX2_endOfSpan_19 : decode cX2_endOfSpan 19 = .ok (.getfield 14, 3) := by decide +kernel
theorem dX2_endOfSpan_22 : decode cX2_endOfSpan 22 = .ok (.iconst 0, 1) := by decide +kernel
theorem dX2_endOfSpan_23 : decode cX2_endOfSpan 23 = .ok (.iload_n 2, 1) := by decide +kernel
theorem dX2_endOfSpan_24 : decode cX2_endOfSpan 24 = .ok (.invokevirtual 168, 3) := by decide +kernel
theorem dX2_endOfSpan_27 : decode cX2_endOfSpan 27 = .ok (.invokevirtual 176, 3) := by decide +kernel
theorem dX2_endOfSpan_30 : decode cX2_endOfSpan 30 = .ok (.ifCond .eq 9, 3) := by decide +kernel
theorem dX2_endOfSpan_33 : decode cX2_endOfSpan 33 = .ok (.iinc 2 1, 3) := by decide +kernel
theorem dX2_endOfSpan_36 : decode cX2_endOfSpan 36 = .ok (.goto (-31), 3) := by decide +kernel
theorem dX2_endOfSpan_39 : decode cX2_endOfSpan 39 = .ok (.iload_n 2, 1) := by decide +kernel
theorem dX2_endOfSpan_40 : decode cX2_endOfSpan 40 = .ok (.aload_n 0, 1) := by decide +kernel
theorem dX2_endOfSpan_41 : decode cX2_endOfSpan 41 = .ok (.getfield 126, 3) := by decide +kernel
theorem dX2_endOfSpan_44 : decode cX2_endOfSpan 44 = .ok (.if_icmp .le 7, 3) := by decide +kernel
theorem dX2_endOfSpan_47 : decode cX2_endOfSpan 47 = .ok (.iload_n 2, 1) := by decide +kernel
theorem dX2_endOfSpan_48 : decode cX2_endOfSpan 48 = .ok (.goto 4, 3) := by decide +kernel
theorem dX2_endOfSpan_51 : decode cX2_endOfSpan 51 = .ok (.iconst (-1), 1) := by decide +kernel
theorem dX2_endOfSpan_52 : decode cX2_endOfSpan 52 = .ok (.ireturn, 1) := by decide +kernel
theorem dX2_endOfBreak_0 : decode cX2_endOfBreak 0 = .ok (.aload_n 0, 1) := by decide +kernel
theorem dX2_endOfBreak_1 : decode cX2_endOfBreak 1 = .ok (.getfield 126, 3) := by decide +kernel
theorem dX2_endOfBreak_4 : decode cX2_endOfBreak 4 = .ok (.istore_n 2, 1) := by decide +kernel
theorem dX2_endOfBreak_5 : decode cX2_endOfBreak 5 = .ok (.iload_n 2, 1) := by decide +kernel
theorem dX2_endOfBreak_6 : decode cX2_endOfBreak 6 = .ok (.aload_n 0, 1) := by decide +kernel
theorem dX2_endOfBreak_7 : decode cX2_endOfBreak 7 = .ok (.getfield 60, 3) := by decide +kernel
theorem dX2_endOfBreak_10 : decode cX2_endOfBreak 10 = .ok (.if_icmp .ge 29, 3) := by decide +kernel
theorem dX2_endOfBreak_13 : decode cX2_endOfBreak 13 = .ok (.aload_n 0, 1) := by decide +kernel
theorem dX2_endOfBreak_14 : decode cX2_endOfBreak 14 = .ok (.getfield 46, 3) := by decide +kernel
theorem dX2_endOfBreak_17 : decode cX2_endOfBreak 17 = .ok (.iload_n 1, 1) := by decide +kernel
theorem dX2_endOfBreak_18 : decode cX2_endOfBreak 18 = .ok (.aload_n 0, 1) := by decide +kernel
theorem dX2_endOfBreak_19 : decode cX2_endOfBreak 19 = .ok (.getfield 14, 3) := by decide +kernel
theorem dX2_endOfBreak_22 : decode cX2_endOfBreak 22 = .ok (.iconst 0, 1) := by decide +kernel
theorem dX2_endOfBreak_23 : decode cX2_endOfBreak 23 = .ok (.iload_n 2, 1) := by decide +kernel
theorem dX2_endOfBreak_24 : decode cX2_endOfBreak 24 = .ok (.invokevirtual 168, 3) := by decide +kernel
theorem dX2_endOfBreak_27 : decode cX2_endOfBreak 27 = .ok (.invokevirtual 176, 3) := by decide +kernel
theorem dX2_endOfBreak_30 : decode cX2_endOfBreak 30 = .ok (.ifCond .ne 9, 3) := by decide +kernel
theorem dX2_endOfBreak_33 : decode cX2_endOfBreak 33 = .ok (.iinc 2 1, 3) := by decide +kernel
theorem dX2_endOfBreak_36 : decode cX2_endOfBreak 36 = .ok (.goto (-31), 3) := by decide +kernel
theorem dX2_endOfBreak_39 : decode cX2_endOfBreak 39 = .ok (.iload_n 2, 1) := by decide +kernel
theorem dX2_endOfBreak_40 : decode cX2_endOfBreak 40 = .ok (.aload_n 0, 1) := by decide +kernel
theorem dX2_endOfBreak_41 : decode cX2_endOfBreak 41 = .ok (.getfield 60, 3) := by decide +kernel
theorem dX2_endOfBreak_44 : decode cX2_endOfBreak 44 = .ok (.if_icmp .ge 7, 3) := by decide +kernel
theorem dX2_endOfBreak_47 : decode cX2_endOfBreak 47 = .ok (.iload_n 2, 1) := by decide +kernel
theorem dX2_endOfBreak_48 : decode cX2_endOfBreak 48 = .ok (.goto 4, 3) := by decide +kernel
theorem dX2_endOfBreak_51 : decode cX2_endOfBreak 51 = .ok (.iconst (-1), 1) := by decide +kernel
theorem dX2_endOfBreak_52 : decode cX2_endOfBreak 52 = .ok (.ireturn, 1) := by decide +kernel
theorem dX3_init_0 : decode cX3_init 0 = .ok (.aload_n 0, 1) := by decide +kernel
theorem dX3_init_1 : decode cX3_init 1 = .ok (.invokespecial 1, 3) := by decide +kernel
theorem dX3_init_4 : decode cX3_init 4 = .ok (.aload_n 0, 1) := by decide +kernel
theorem dX3_init_5 : decode cX3_init 5 = .ok (.iload_n 1, 1) := by decide +kernel
theorem dX3_init_6 : decode cX3_init 6 = .ok (.ifCond .ge 7, 3) := by decide +kernel
theorem dX3_init_9 : decode cX3_init 9 = .ok (.iconst 0, 1) := by decide +kernel
theorem dX3_init_10 : decode cX3_init 10 = .ok (.goto 4, 3) := by decide +kernel
theorem dX3_init_13 : decode cX3_init 13 = .ok (.iload_n 1, 1) := by decide +kernel
theorem dX3_init_14 : decode cX3_init 14 = .ok (.newarray .int, 2) := by decide +kernel
theorem dX3_init_16 : decode cX3_init 16 = .ok (.putfield 7, 3) := by decide +kernel
theorem dX3_init_19 : decode cX3_init 19 = .ok (.aload_n 0, 1) := by decide +kernel
theorem dX3_init_20 : decode cX3_init 20 = .ok (.iload_n 1, 1) := by decide +kernel
theorem dX3_init_21 : decode cX3_init 21 = .ok (.ifCond .ge 7, 3) := by decide +kernel
theorem dX3_init_24 : decode cX3_init 24 = .ok (.iconst 0, 1) := by decide +kernel
theorem dX3_init_25 : decode cX3_init 25 = .ok (.goto 4, 3) := by decide +kernel
theorem dX3_init_28 : decode cX3_init 28 = .ok (.iload_n 1, 1) := by decide +kernel
theorem dX3_init_29 : decode cX3_init 29 = .ok (.newarray .int, 2) := by decide +kernel
theorem dX3_init_31 : decode cX3_init 31 = .ok (.putfield 13, 3) := by decide +kernel
theorem dX3_init_34 : decode cX3_init 34 = .ok (.aload_n 0, 1) := by decide +kernel
theorem dX3_init_35 : decode cX3_init 35 = .ok (.iload_n 1, 1) := by decide +kernel
theorem dX3_init_36 : decode cX3_init 36 = .ok (.ifCond .ge 7, 3) := by decide +kernel
theorem dX3_init_39 : decode cX3_init 39 = .ok (.iconst 0, 1) := by decide +kernel
theorem dX3_init_40 : decode cX3_init 40 = .ok (.goto 4, 3) := by decide +kernel
theorem dX3_init_43 : decode cX3_init 43 = .ok (.iload_n 1, 1) := by decide +kernel
theorem dX3_init_44 : decode cX3_init 44 = .ok (.newarray .int, 2) := by decide +kernel
theorem dX3_init_46 : decode cX3_init 46 = .ok (.putfield 16, 3) := by decide +kernel
theorem dX3_init_49 : decode cX3_init 49 = .ok (.return_, 1) := by decide +kernel
theorem dX3_push_0 : decode cX3_push 0 = .ok (.aload_n 0, 1) := by decide +kernel
theorem dX3_push_1 : decode cX3_push 1 = .ok (.getfield 19, 3) := by decide +kernel
theorem dX3_push_4 : decode cX3_push 4 = .ok (.ifCond .lt 79, 3) := by decide +kernel
theorem dX3_push_7 : decode cX3_push 7 = .ok (.aload_n 0, 1) := by decide +kernel
theorem dX3_push_8 : decode cX3_push 8 = .ok (.getfield 19, 3) := by decide +kernel
theorem dX3_push_11 : decode cX3_push 11 = .ok (.aload_n 0, 1) := by decide +kernel
theorem dX3_push_12 : decode cX3_push 12 = .ok (.getfield 7, 3) := by decide +kernel
theorem dX3_push_15 : decode cX3_push 15 = .ok (.arraylength, 1) := by decide +kernel
theorem dX3_push_16 : decode cX3_push 16 = .ok (.if_icmp .ge 67, 3) := by decide +kernel
theorem dX3_push_19 : decode cX3_push 19 = .ok (.aload_n 0, 1) := by decide +kernel
theorem dX3_push_20 : decode cX3_push 20 = .ok (.getfield 19, 3) := by decide +kernel
theorem dX3_push_23 : decode cX3_push 23 = .ok (.aload_n 0, 1) := by decide +kernel
theorem dX3_push_24 : decode cX3_push 24 = .ok (.getfield 13, 3) := by decide +kernel
theorem dX3_push_27 : decode cX3_push 27 = .ok (.arraylength, 1) := by decide +kernel
theorem dX3_push_28 : decode cX3_push 28 = .ok (.if_icmp .ge 55, 3) := by decide +kernel
theorem dX3_push_31 : decode cX3_push 31 = .ok (.aload_n 0, 1) := by decide +kernel
theorem dX3_push_32 : decode cX3_push 32 = .ok (.getfield 19, 3) := by decide +kernel
theorem dX3_push_35 : decode cX3_push 35 = .ok (.aload_n 0, 1) := by decide +kernel
theorem dX3_push_36 : decode cX3_push 36 = .ok (.getfield 16, 3) := by decide +kernel
theorem dX3_push_39 : decode cX3_push 39 = .ok (.arraylength, 1) := by decide +kernel
theorem dX3_push_40 : decode cX3_push 40 = .ok (.if_icmp .ge 43, 3) := by decide +kernel
theorem dX3_push_43 : decode cX3_push 43 = .ok (.aload_n 0, 1) := by decide +kernel
theorem dX3_push_44 : decode cX3_push 44 = .ok (.getfield 7, 3) := by decide +kernel
theorem dX3_push_47 : decode cX3_push 47 = .ok (.aload_n 0, 1) := by decide +kernel
theorem dX3_push_48 : decode cX3_push 48 = .ok (.getfield 19, 3) := by decide +kernel
theorem dX3_push_51 : decode cX3_push 51 = .ok (.iload_n 1, 1) := by decide +kernel
theorem dX3_push_52 : decode cX3_push 52 = .ok (.iastore, 1) := by decide +kernel
theorem dX3_push_53 : decode cX3_push 53 = .ok (.aload_n 0, 1) := by decide +kernel
theorem dX3_push_54 : decode cX3_push 54 = .ok (.getfield 13, 3) := by decide +kernel
theorem dX3_push_57 : decode cX3_push 57 = .ok (.aload_n 0, 1) := by decide +kernel
theorem dX3_push_58 : decode cX3_push 58 = .ok (.getfield 19, 3) := by decide +kernel
theorem dX3_push_61 : decode cX3_push 61 = .ok (.iload_n 2, 1) := by decide +kernel
theorem dX3_push_62 : decode cX3_push 62 = .ok (.iastore, 1) := by decide +kernel
theorem dX3_push_63 : decode cX3_push 63 = .ok (.aload_n 0, 1) := by decide +kernel
theorem dX3_push_64 : decode cX3_push 64 = .ok (.getfield 16, 3) := by decide +kernel
theorem dX3_push_67 : decode cX3_push 67 = .ok (.aload_n 0, 1) := by decide +kernel
theorem dX3_push_68 : decode cX3_push 68 = .ok (.getfield 19, 3) := by decide +kernel
theorem dX3_push_71 : decode cX3_push 71 = .ok (.iload_n 3, 1) := by decide +kernel
theorem dX3_push_72 : decode cX3_push 72 = .ok (.iastore, 1) := by decide +kernel
theorem dX3_push_73 : decode cX3_push 73 = .ok (.aload_n 0, 1) := by decide +kernel
theorem dX3_push_74 : decode cX3_push 74 = .ok (.dup, 1) := by decide +kernel
theorem dX3_push_75 : decode cX3_push 75 = .ok (.getfield 19, 3) := by decide +kernel
theorem dX3_push_78 : decode cX3_push 78 = .ok (.iconst 1, 1) := by decide +kernel
theorem dX3_push_79 : decode cX3_push 79 = .ok (.iadd, 1) := by decide +kernel
theorem dX3_push_80 : decode cX3_push 80 = .ok (.putfield 19, 3) := by decide +kernel
theorem dX3_push_83 : decode cX3_push 83 = .ok (.return_, 1) := by decide +kernel
theorem dX3_first_0 : decode cX3_first 0 = .ok (.iload_n 1, 1) := by decide +kernel
theorem dX3_first_1 : decode cX3_first 1 = .ok (.ifCond .lt 21, 3) := by decide +kernel
theorem dX3_first_4 : decode cX3_first 4 = .ok (.iload_n 1, 1) := by decide +kernel
theorem dX3_first_5 : decode cX3_first 5 = .ok (.aload_n 0, 1) := by decide +kernel
theorem dX3_first_6 : decode cX3_first 6 = .ok (.getfield 7, 3) := by decide +kernel
theorem dX3_first_9 : decode cX3_first 9 = .ok (.arraylength, 1) := by decide +kernel
theorem dX3_first_10 : decode cX3_first 10 = .ok (.if_icmp .ge 12, 3) := by decide +kernel
theorem dX3_first_13 : decode cX3_first 13 = .ok (.aload_n 0, 1) := by decide +kernel
theorem dX3_first_14 : decode cX3_first 14 = .ok (.getfield 7, 3) := by decide +kernel
theorem dX3_first_17 : decode cX3_first 17 = .ok (.iload_n 1, 1) := by decide +kernel
theorem dX3_first_18 : decode cX3_first 18 = .ok (.iaload, 1) := by decide +kernel
theorem dX3_first_19 : decode cX3_first 19 = .ok (.goto 4, 3) := by decide +kernel
theorem dX3_first_22 : decode cX3_first 22 = .ok (.iconst 0, 1) := by decide +kernel
theorem dX3_first_23 : decode cX3_first 23 = .ok (.ireturn, 1) := by decide +kernel
theorem dX3_second_0 : decode cX3_second 0 = .ok (.iload_n 1, 1) := by decide +kernel
theorem dX3_second_1 : decode cX3_second 1 = .ok (.ifCond .lt 21, 3) := by decide +kernel
theorem dX3_second_4 : decode cX3_second 4 = .ok (.iload_n 1, 1) := by decide +kernel
theorem dX3_second_5 : decode cX3_second 5 = .ok (.aload_n 0, 1) := by decide +kernel
theorem dX3_second_6 : decode cX3_second 6 = .ok (.getfield 13, 3) := by decide +kernel
theorem dX3_second_9 : decode cX3_second 9 = .ok (.arraylength, 1) := by decide +kernel
theorem dX3_second_10 : decode cX3_second 10 = .ok (.if_icmp .ge 12, 3) := by decide +kernel
theorem dX3_second_13 : decode cX3_second 13 = .ok (.aload_n 0, 1) := by decide +kernel
theorem dX3_second_14 : decode cX3_second 14 = .ok (.getfield 13, 3) := by decide +kernel
theorem dX3_second_17 : decode cX3_second 17 = .ok (.iload_n 1, 1) := by decide +kernel
theorem dX3_second_18 : decode cX3_second 18 = .ok (.iaload, 1) := by decide +kernel
theorem dX3_second_19 : decode cX3_second 19 = .ok (.goto 4, 3) := by decide +kernel
theorem dX3_second_22 : decode cX3_second 22 = .ok (.iconst 0, 1) := by decide +kernel
theorem dX3_second_23 : decode cX3_second 23 = .ok (.ireturn, 1) := by decide +kernel
theorem dX3_third_0 : decode cX3_third 0 = .ok (.iload_n 1, 1) := by decide +kernel
theorem dX3_third_1 : decode cX3_third 1 = .ok (.ifCond .lt 21, 3) := by decide +kernel
theorem dX3_third_4 : decode cX3_third 4 = .ok (.iload_n 1, 1) := by decide +kernel
theorem dX3_third_5 : decode cX3_third 5 = .ok (.aload_n 0, 1) := by decide +kernel
theorem dX3_third_6 : decode cX3_third 6 = .ok (.getfield 16, 3) := by decide +kernel
theorem dX3_third_9 : decode cX3_third 9 = .ok (.arraylength, 1) := by decide +kernel
theorem dX3_third_10 : decode cX3_third 10 = .ok (.if_icmp .ge 12, 3) := by decide +kernel
theorem dX3_third_13 : decode cX3_third 13 = .ok (.aload_n 0, 1) := by decide +kernel
theorem dX3_third_14 : decode cX3_third 14 = .ok (.getfield 16, 3) := by decide +kernel
theorem dX3_third_17 : decode cX3_third 17 = .ok (.iload_n 1, 1) := by decide +kernel
theorem dX3_third_18 : decode cX3_third 18 = .ok (.iaload, 1) := by decide +kernel
theorem dX3_third_19 : decode cX3_third 19 = .ok (.goto 4, 3) := by decide +kernel
theorem dX3_third_22 : decode cX3_third 22 = .ok (.iconst 0, 1) := by decide +kernel
theorem dX3_third_23 : decode cX3_third 23 = .ok (.ireturn, 1) := by decide +kernel
theorem dX4_init_0 : decode cX4_init 0 = .ok (.aload_n 0, 1) := by decide +kernel
theorem dX4_init_1 : decode cX4_init 1 = .ok (.invokespecial 3, 3) := by decide +kernel
theorem dX4_init_4 : decode cX4_init 4 = .ok (.aload_n 0, 1) := by decide +kernel
theorem dX4_init_5 : decode cX4_init 5 = .ok (.new 9, 3) := by decide +kernel
theorem dX4_init_8 : decode cX4_init 8 = .ok (.dup, 1) := by decide +kernel
theorem dX4_init_9 : decode cX4_init 9 = .ok (.bipush 40, 2) := by decide +kernel
theorem dX4_init_11 : decode cX4_init 11 = .ok (.invokespecial 11, 3) := by decide +kernel
theorem dX4_init_14 : decode cX4_init 14 = .ok (.putfield 14, 3) := by decide +kernel
theorem dX4_init_17 : decode cX4_init 17 = .ok (.aload_n 0, 1) := by decide +kernel
theorem dX4_init_18 : decode cX4_init 18 = .ok (.new 9, 3) := by decide +kernel
theorem dX4_init_21 : decode cX4_init 21 = .ok (.dup, 1) := by decide +kernel
theorem dX4_init_22 : decode cX4_init 22 = .ok (.bipush 40, 2) := by decide +kernel
theorem dX4_init_24 : decode cX4_init 24 = .ok (.invokespecial 11, 3) := by decide +kernel
theorem dX4_init_27 : decode cX4_init 27 = .ok (.putfield 20, 3) := by decide +kernel
theorem dX4_init_30 : decode cX4_init 30 = .ok (.aload_n 0, 1) := by decide +kernel
theorem dX4_init_31 : decode cX4_init 31 = .ok (.new 9, 3) := by decide +kernel
theorem dX4_init_34 : decode cX4_init 34 = .ok (.dup, 1) := by decide +kernel
theorem dX4_init_35 : decode cX4_init 35 = .ok (.bipush 40, 2) := by decide +kernel
theorem dX4_init_37 : decode cX4_init 37 = .ok (.invokespecial 11, 3) := by decide +kernel
theorem dX4_init_40 : decode cX4_init 40 = .ok (.putfield 23, 3) := by decide +kernel
theorem dX4_init_43 : decode cX4_init 43 = .ok (.aload_n 0, 1) := by decide +kernel
theorem dX4_init_44 : decode cX4_init 44 = .ok (.new 9, 3) := by decide +kernel
theorem dX4_init_47 : decode cX4_init 47 = .ok (.dup, 1) := by decide +kernel
theorem dX4_init_48 : decode cX4_init 48 = .ok (.bipush 40, 2) := by decide +kernel
theorem dX4_init_50 : decode cX4_init 50 = .ok (.invokespecial 11, 3) := by decide +kernel
theorem dX4_init_53 : decode cX4_init 53 = .ok (.putfield 26, 3) := by decide +kernel
theorem dX4_init_56 : decode cX4_init 56 = .ok (.aload_n 0, 1) := by decide +kernel
theorem dX4_init_57 : decode cX4_init 57 = .ok (.new 9, 3) := by decide +kernel
theorem dX4_init_60 : decode cX4_init 60 = .ok (.dup, 1) := by decide +kernel
theorem dX4_init_61 : decode cX4_init 61 = .ok (.bipush 40, 2) := by decide +kernel
theorem dX4_init_63 : decode cX4_init 63 = .ok (.invokespecial 11, 3) := by decide +kernel
theorem dX4_init_66 : decode cX4_init 66 = .ok (.putfield 29, 3) := by decide +kernel
theorem dX4_init_69 : decode cX4_init 69 = .ok (.aload_n 0, 1) := by decide +kernel
theorem dX4_init_70 : decode cX4_init 70 = .ok (.new 9, 3) := by decide +kernel
theorem dX4_init_73 : decode cX4_init 73 = .ok (.dup, 1) := by decide +kernel
theorem dX4_init_74 : decode cX4_init 74 = .ok (.bipush 40, 2) := by decide +kernel
theorem dX4_init_76 : decode cX4_init 76 = .ok (.invokespecial 11, 3) := by decide +kernel
theorem dX4_init_79 : decode cX4_init 79 = .ok (.putfield 32, 3) := by decide +kernel
theorem dX4_init_82 : decode cX4_init 82 = .ok (.aload_n 0, 1) := by decide +kernel
theorem dX4_init_83 : decode cX4_init 83 = .ok (.new 9, 3) := by decide +kernel
theorem dX4_init_86 : decode cX4_init 86 = .ok (.dup, 1) := by decide +kernel
theorem dX4_init_87 : decode cX4_init 87 = .ok (.iconst 5, 1) := by decide +kernel
theorem dX4_init_88 : decode cX4_init 88 = .ok (.invokespecial 11, 3) := by decide +kernel
theorem dX4_init_91 : decode cX4_init 91 = .ok (.putfield 35, 3) := by decide +kernel
theorem dX4_init_94 : decode cX4_init 94 = .ok (.aload_n 0, 1) := by decide +kernel
theorem dX4_init_95 : decode cX4_init 95 = .ok (.new 9, 3) := by decide +kernel
theorem dX4_init_98 : decode cX4_init 98 = .ok (.dup, 1) := by decide +kernel
theorem dX4_init_99 : decode cX4_init 99 = .ok (.iconst 5, 1) := by decide +kernel
theorem dX4_init_100 : decode cX4_init 100 = .ok (.invokespecial 11, 3) := by decide +kernel
theorem dX4_init_103 : decode cX4_init 103 = .ok (.putfield 38, 3) := by decide +kernel
theorem dX4_init_106 : decode cX4_init 106 = .ok (.aload_n 0, 1) := by decide +kernel
theorem dX4_init_107 : decode cX4_init 107 = .ok (.new 9, 3) := by decide +kernel
theorem dX4_init_110 : decode cX4_init 110 = .ok (.dup, 1) := by decide +kernel
theorem dX4_init_111 : decode cX4_init 111 = .ok (.bipush 15, 2) := by decide +kernel
theorem dX4_init_113 : decode cX4_init 113 = .ok (.invokespecial 11, 3) := by decide +kernel
theorem dX4_init_116 : decode cX4_init 116 = .ok (.putfield 41, 3) := by decide +kernel
theorem dX4_init_119 : decode cX4_init 119 = .ok (.return_, 1) := by decide +kernel
theorem dX4_isWay_0 : decode cX4_isWay 0 = .ok (.iload_n 0, 1) := by decide +kernel
theorem dX4_isWay_1 : decode cX4_isWay 1 = .ok (.bipush (-4), 2) := by decide +kernel
theorem dX4_isWay_3 : decode cX4_isWay 3 = .ok (.if_icmp .lt 13, 3) := by decide +kernel
theorem dX4_isWay_6 : decode cX4_isWay 6 = .ok (.iload_n 0, 1) := by decide +kernel
theorem dX4_isWay_7 : decode cX4_isWay 7 = .ok (.bipush 40, 2) := by decide +kernel
theorem dX4_isWay_9 : decode cX4_isWay 9 = .ok (.if_icmp .ge 7, 3) := by decide +kernel
theorem dX4_isWay_12 : decode cX4_isWay 12 = .ok (.iconst 1, 1) := by decide +kernel
theorem dX4_isWay_13 : decode cX4_isWay 13 = .ok (.goto 4, 3) := by decide +kernel
theorem dX4_isWay_16 : decode cX4_isWay 16 = .ok (.iconst 0, 1) := by decide +kernel
theorem dX4_isWay_17 : decode cX4_isWay 17 = .ok (.ireturn, 1) := by decide +kernel
theorem dX4_add_0 : decode cX4_add 0 = .ok (.aload_n 0, 1) := by decide +kernel
theorem dX4_add_1 : decode cX4_add 1 = .ok (.getfield 44, 3) := by decide +kernel
theorem dX4_add_4 : decode cX4_add 4 = .ok (.istore 7, 2) := by decide +kernel
theorem dX4_add_6 : decode cX4_add 6 = .ok (.aload_n 0, 1) := by decide +kernel
theorem dX4_add_7 : decode cX4_add 7 = .ok (.getfield 14, 3) := by decide +kernel
theorem dX4_add_10 : decode cX4_add 10 = .ok (.iload 7, 2) := by decide +kernel
theorem dX4_add_12 : decode cX4_add 12 = .ok (.iload_n 1, 1) := by decide +kernel
theorem dX4_add_13 : decode cX4_add 13 = .ok (.invokevirtual 48, 3) := by decide +kernel
theorem dX4_add_16 : decode cX4_add 16 = .ok (.aload_n 0, 1) := by decide +kernel
theorem dX4_add_17 : decode cX4_add 17 = .ok (.getfield 20, 3) := by decide +kernel
theorem dX4_add_20 : decode cX4_add 20 = .ok (.iload 7, 2) := by decide +kernel
theorem dX4_add_22 : decode cX4_add 22 = .ok (.iload_n 2, 1) := by decide +kernel
theorem dX4_add_23 : decode cX4_add 23 = .ok (.invokevirtual 48, 3) := by decide +kernel
theorem dX4_add_26 : decode cX4_add 26 = .ok (.aload_n 0, 1) := by decide +kernel
theorem dX4_add_27 : decode cX4_add 27 = .ok (.getfield 23, 3) := by decide +kernel
theorem dX4_add_30 : decode cX4_add 30 = .ok (.iload 7, 2) := by decide +kernel
theorem dX4_add_32 : decode cX4_add 32 = .ok (.iload_n 3, 1) := by decide +kernel
theorem dX4_add_33 : decode cX4_add 33 = .ok (.invokevirtual 48, 3) := by decide +kernel
theorem dX4_add_36 : decode cX4_add 36 = .ok (.aload_n 0, 1) := by decide +kernel
theorem dX4_add_37 : decode cX4_add 37 = .ok (.getfield 26, 3) := by decide +kernel
theorem dX4_add_40 : decode cX4_add 40 = .ok (.iload 7, 2) := by decide +kernel
theorem dX4_add_42 : decode cX4_add 42 = .ok (.iload 4, 2) := by decide +kernel
theorem dX4_add_44 : decode cX4_add 44 = .ok (.invokevirtual 48, 3) := by decide +kernel
theorem dX4_add_47 : decode cX4_add 47 = .ok (.aload_n 0, 1) := by decide +kernel
theorem dX4_add_48 : decode cX4_add 48 = .ok (.getfield 29, 3) := by decide +kernel
theorem dX4_add_51 : decode cX4_add 51 = .ok (.iload 7, 2) := by decide +kernel
theorem dX4_add_53 : decode cX4_add 53 = .ok (.iload 5, 2) := by decide +kernel
theorem dX4_add_55 : decode cX4_add 55 = .ok (.invokevirtual 48, 3) := by decide +kernel
theorem dX4_add_58 : decode cX4_add 58 = .ok (.aload_n 0, 1) := by decide +kernel
theorem dX4_add_59 : decode cX4_add 59 = .ok (.getfield 32, 3) := by decide +kernel
theorem dX4_add_62 : decode cX4_add 62 = .ok (.iload 7, 2) := by decide +kernel
theorem dX4_add_64 : decode cX4_add 64 = .ok (.iload 6, 2) := by decide +kernel
theorem dX4_add_66 : decode cX4_add 66 = .ok (.invokevirtual 48, 3) := by decide +kernel
theorem dX4_add_69 : decode cX4_add 69 = .ok (.aload_n 0, 1) := by decide +kernel
theorem dX4_add_70 : decode cX4_add 70 = .ok (.dup, 1) := by decide +kernel
theorem dX4_add_71 : decode cX4_add 71 = .ok (.getfield 44, 3) := by decide +kernel
theorem dX4_add_74 : decode cX4_add 74 = .ok (.iconst 1, 1) := by decide +kernel
theorem dX4_add_75 : decode cX4_add 75 = .ok (.iadd, 1) := by decide +kernel
theorem dX4_add_76 : decode cX4_add 76 = .ok (.putfield 44, 3) := by decide +kernel
theorem dX4_add_79 : decode cX4_add 79 = .ok (.iload 7, 2) := by decide +kernel
theorem dX4_add_81 : decode cX4_add 81 = .ok (.ireturn, 1) := by decide +kernel
theorem dX4_tell_0 : decode cX4_tell 0 = .ok (.aload_n 0, 1) := by decide +kernel
theorem dX4_tell_1 : decode cX4_tell 1 = .ok (.getfield 35, 3) := by decide +kernel
theorem dX4_tell_4 : decode cX4_tell 4 = .ok (.iload_n 1, 1) := by decide +kernel
theorem dX4_tell_5 : decode cX4_tell 5 = .ok (.invokevirtual 52, 3) := by decide +kernel
theorem dX4_tell_8 : decode cX4_tell 8 = .ok (.iconst 1, 1) := by decide +kernel
theorem dX4_tell_9 : decode cX4_tell 9 = .ok (.if_icmp .ne 7, 3) := by decide +kernel
theorem dX4_tell_12 : decode cX4_tell 12 = .ok (.iconst 1, 1) := by decide +kernel
theorem dX4_tell_13 : decode cX4_tell 13 = .ok (.goto 4, 3) := by decide +kernel
theorem dX4_tell_16 : decode cX4_tell 16 = .ok (.iconst 0, 1) := by decide +kernel
theorem dX4_tell_17 : decode cX4_tell 17 = .ok (.istore 6, 2) := by decide +kernel
theorem dX4_tell_19 : decode cX4_tell 19 = .ok (.aload_n 0, 1) := by decide +kernel
theorem dX4_tell_20 : decode cX4_tell 20 = .ok (.getfield 35, 3) := by decide +kernel
theorem dX4_tell_23 : decode cX4_tell 23 = .ok (.iload_n 1, 1) := by decide +kernel
theorem dX4_tell_24 : decode cX4_tell 24 = .ok (.iconst 1, 1) := by decide +kernel
theorem dX4_tell_25 : decode cX4_tell 25 = .ok (.invokevirtual 48, 3) := by decide +kernel
theorem dX4_tell_28 : decode cX4_tell 28 = .ok (.aload_n 0, 1) := by decide +kernel
theorem dX4_tell_29 : decode cX4_tell 29 = .ok (.getfield 38, 3) := by decide +kernel
theorem dX4_tell_32 : decode cX4_tell 32 = .ok (.iload_n 1, 1) := by decide +kernel
theorem dX4_tell_33 : decode cX4_tell 33 = .ok (.iload_n 2, 1) := by decide +kernel
theorem dX4_tell_34 : decode cX4_tell 34 = .ok (.invokevirtual 48, 3) := by decide +kernel
theorem dX4_tell_37 : decode cX4_tell 37 = .ok (.aload_n 0, 1) := by decide +kernel
theorem dX4_tell_38 : decode cX4_tell 38 = .ok (.getfield 41, 3) := by decide +kernel
theorem dX4_tell_41 : decode cX4_tell 41 = .ok (.iconst 3, 1) := by decide +kernel
theorem dX4_tell_42 : decode cX4_tell 42 = .ok (.iload_n 1, 1) := by decide +kernel
theorem dX4_tell_43 : decode cX4_tell 43 = .ok (.imul, 1) := by decide +kernel
theorem dX4_tell_44 : decode cX4_tell 44 = .ok (.iload_n 3, 1) := by decide +kernel
theorem dX4_tell_45 : decode cX4_tell 45 = .ok (.invokevirtual 48, 3) := by decide +kernel
theorem dX4_tell_48 : decode cX4_tell 48 = .ok (.aload_n 0, 1) := by decide +kernel
theorem dX4_tell_49 : decode cX4_tell 49 = .ok (.getfield 41, 3) := by decide +kernel
theorem dX4_tell_52 : decode cX4_tell 52 = .ok (.iconst 3, 1) := by decide +kernel
theorem dX4_tell_53 : decode cX4_tell 53 = .ok (.iload_n 1, 1) := by decide +kernel
theorem dX4_tell_54 : decode cX4_tell 54 = .ok (.imul, 1) := by decide +kernel
theorem dX4_tell_55 : decode cX4_tell 55 = .ok (.iconst 1, 1) := by decide +kernel
theorem dX4_tell_56 : decode cX4_tell 56 = .ok (.iadd, 1) := by decide +kernel
theorem dX4_tell_57 : decode cX4_tell 57 = .ok (.iload 4, 2) := by decide +kernel
theorem dX4_tell_59 : decode cX4_tell 59 = .ok (.invokevirtual 48, 3) := by decide +kernel
theorem dX4_tell_62 : decode cX4_tell 62 = .ok (.aload_n 0, 1) := by decide +kernel
theorem dX4_tell_63 : decode cX4_tell 63 = .ok (.getfield 41, 3) := by decide +kernel
theorem dX4_tell_66 : decode cX4_tell 66 = .ok (.iconst 3, 1) := by decide +kernel
theorem dX4_tell_67 : decode cX4_tell 67 = .ok (.iload_n 1, 1) := by decide +kernel
theorem dX4_tell_68 : decode cX4_tell 68 = .ok (.imul, 1) := by decide +kernel
theorem dX4_tell_69 : decode cX4_tell 69 = .ok (.iconst 2, 1) := by decide +kernel
theorem dX4_tell_70 : decode cX4_tell 70 = .ok (.iadd, 1) := by decide +kernel
theorem dX4_tell_71 : decode cX4_tell 71 = .ok (.iload 5, 2) := by decide +kernel
theorem dX4_tell_73 : decode cX4_tell 73 = .ok (.invokevirtual 48, 3) := by decide +kernel
theorem dX4_tell_76 : decode cX4_tell 76 = .ok (.iload 6, 2) := by decide +kernel
theorem dX4_tell_78 : decode cX4_tell 78 = .ok (.ireturn, 1) := by decide +kernel
theorem dX5_init_0 : decode cX5_init 0 = .ok (.aload_n 0, 1) := by decide +kernel
theorem dX5_init_1 : decode cX5_init 1 = .ok (.invokespecial 3, 3) := by decide +kernel
theorem dX5_init_4 : decode cX5_init 4 = .ok (.aload_n 0, 1) := by decide +kernel
theorem dX5_init_5 : decode cX5_init 5 = .ok (.new 9, 3) := by decide +kernel
theorem dX5_init_8 : decode cX5_init 8 = .ok (.dup, 1) := by decide +kernel
theorem dX5_init_9 : decode cX5_init 9 = .ok (.bipush 50, 2) := by decide +kernel
theorem dX5_init_11 : decode cX5_init 11 = .ok (.bipush 60, 2) := by decide +kernel
theorem dX5_init_13 : decode cX5_init 13 = .ok (.invokespecial 11, 3) := by decide +kernel
theorem dX5_init_16 : decode cX5_init 16 = .ok (.putfield 14, 3) := by decide +kernel
theorem dX5_init_19 : decode cX5_init 19 = .ok (.aload_n 0, 1) := by decide +kernel
theorem dX5_init_20 : decode cX5_init 20 = .ok (.new 20, 3) := by decide +kernel
theorem dX5_init_23 : decode cX5_init 23 = .ok (.dup, 1) := by decide +kernel
theorem dX5_init_24 : decode cX5_init 24 = .ok (.bipush 50, 2) := by decide +kernel
theorem dX5_init_26 : decode cX5_init 26 = .ok (.invokespecial 22, 3) := by decide +kernel
theorem dX5_init_29 : decode cX5_init 29 = .ok (.putfield 25, 3) := by decide +kernel
theorem dX5_init_32 : decode cX5_init 32 = .ok (.aload_n 0, 1) := by decide +kernel
theorem dX5_init_33 : decode cX5_init 33 = .ok (.aload_n 1, 1) := by decide +kernel
theorem dX5_init_34 : decode cX5_init 34 = .ok (.putfield 29, 3) := by decide +kernel
theorem dX5_init_37 : decode cX5_init 37 = .ok (.aload_n 0, 1) := by decide +kernel
theorem dX5_init_38 : decode cX5_init 38 = .ok (.aload_n 2, 1) := by decide +kernel
theorem dX5_init_39 : decode cX5_init 39 = .ok (.putfield 33, 3) := by decide +kernel
theorem dX5_init_42 : decode cX5_init 42 = .ok (.aload_n 0, 1) := by decide +kernel
theorem dX5_init_43 : decode cX5_init 43 = .ok (.aload_n 3, 1) := by decide +kernel
theorem dX5_init_44 : decode cX5_init 44 = .ok (.putfield 36, 3) := by decide +kernel
theorem dX5_init_47 : decode cX5_init 47 = .ok (.return_, 1) := by decide +kernel
theorem dX5_workOut_0 : decode cX5_workOut 0 = .ok (.aload_n 0, 1) := by decide +kernel
theorem dX5_workOut_1 : decode cX5_workOut 1 = .ok (.iload_n 1, 1) := by decide +kernel
theorem dX5_workOut_2 : decode cX5_workOut 2 = .ok (.invokevirtual 39, 3) := by decide +kernel
theorem dX5_workOut_5 : decode cX5_workOut 5 = .ok (.iconst 0, 1) := by decide +kernel
theorem dX5_workOut_6 : decode cX5_workOut 6 = .ok (.istore_n 2, 1) := by decide +kernel
theorem dX5_workOut_7 : decode cX5_workOut 7 = .ok (.iload_n 2, 1) := by decide +kernel
theorem dX5_workOut_8 : decode cX5_workOut 8 = .ok (.iload_n 1, 1) := by decide +kernel
theorem dX5_workOut_9 : decode cX5_workOut 9 = .ok (.if_icmp .gt 72, 3) := by decide +kernel
theorem dX5_workOut_12 : decode cX5_workOut 12 = .ok (.iload_n 2, 1) := by decide +kernel
theorem dX5_workOut_13 : decode cX5_workOut 13 = .ok (.bipush 50, 2) := by decide +kernel
theorem dX5_workOut_15 : decode cX5_workOut 15 = .ok (.if_icmp .ge 66, 3) := by decide +kernel
theorem dX5_workOut_18 : decode cX5_workOut 18 = .ok (.aload_n 0, 1) := by decide +kernel
theorem dX5_workOut_19 : decode cX5_workOut 19 = .ok (.getfield 25, 3) := by decide +kernel
theorem dX5_workOut_22 : decode cX5_workOut 22 = .ok (.iload_n 2, 1) := by decide +kernel
theorem dX5_workOut_23 : decode cX5_workOut 23 = .ok (.invokevirtual 42, 3) := by decide +kernel
theorem dX5_workOut_26 : decode cX5_workOut 26 = .ok (.iconst 1, 1) := by decide +kernel
theorem dX5_workOut_27 : decode cX5_workOut 27 = .ok (.if_icmp .ne 48, 3) := by decide +kernel
theorem dX5_workOut_30 : decode cX5_workOut 30 = .ok (.aload_n 0, 1) := by decide +kernel
theorem dX5_workOut_31 : decode cX5_workOut 31 = .ok (.getfield 14, 3) := by decide +kernel
theorem dX5_workOut_34 : decode cX5_workOut 34 = .ok (.iload_n 2, 1) := by decide +kernel
theorem dX5_workOut_35 : decode cX5_workOut 35 = .ok (.invokevirtual 46, 3) := by decide +kernel
theorem dX5_workOut_38 : decode cX5_workOut 38 = .ok (.aload_n 0, 1) := by decide +kernel
theorem dX5_workOut_39 : decode cX5_workOut 39 = .ok (.getfield 29, 3) := by decide +kernel
theorem dX5_workOut_42 : decode cX5_workOut 42 = .ok (.getfield 49, 3) := by decide +kernel
theorem dX5_workOut_45 : decode cX5_workOut 45 = .ok (.iload_n 2, 1) := by decide +kernel
theorem dX5_workOut_46 : decode cX5_workOut 46 = .ok (.invokevirtual 42, 3) := by decide +kernel
theorem dX5_workOut_49 : decode cX5_workOut 49 = .ok (.invokestatic 54, 3) := by decide +kernel
theorem dX5_workOut_52 : decode cX5_workOut 52 = .ok (.ifCond .eq 11, 3) := by decide +kernel
theorem dX5_workOut_55 : decode cX5_workOut 55 = .ok (.aload_n 0, 1) := by decide +kernel
theorem dX5_workOut_56 : decode cX5_workOut 56 = .ok (.iload_n 2, 1) := by decide +kernel
theorem dX5_workOut_57 : decode cX5_workOut 57 = .ok (.invokevirtual 58, 3) := by decide +kernel
theorem dX5_workOut_60 : decode cX5_workOut 60 = .ok (.goto 8, 3) := by decide +kernel
theorem dX5_workOut_63 : decode cX5_workOut 63 = .ok (.aload_n 0, 1) := by decide +kernel
theorem dX5_workOut_64 : decode cX5_workOut 64 = .ok (.iload_n 2, 1) := by decide +kernel
theorem dX5_workOut_65 : decode cX5_workOut 65 = .ok (.invokevirtual 61, 3) := by decide +kernel
theorem dX5_workOut_68 : decode cX5_workOut 68 = .ok (.istore_n 3, 1) := by decide +kernel
theorem dX5_workOut_69 : decode cX5_workOut 69 = .ok (.iload_n 3, 1) := by decide +kernel
theorem dX5_workOut_70 : decode cX5_workOut 70 = .ok (.ifCond .eq 5, 3) := by decide +kernel
theorem dX5_workOut_73 : decode cX5_workOut 73 = .ok (.iload_n 3, 1) := by decide +kernel
theorem dX5_workOut_74 : decode cX5_workOut 74 = .ok (.ireturn, 1) := by decide +kernel
theorem dX5_workOut_75 : decode cX5_workOut 75 = .ok (.iinc 2 1, 3) := by decide +kernel
theorem dX5_workOut_78 : decode cX5_workOut 78 = .ok (.goto (-71), 3) := by decide +kernel
theorem dX5_workOut_81 : decode cX5_workOut 81 = .ok (.iconst 0, 1) := by decide +kernel
theorem dX5_workOut_82 : decode cX5_workOut 82 = .ok (.ireturn, 1) := by decide +kernel
theorem dX5_markNeeded_0 : decode cX5_markNeeded 0 = .ok (.aload_n 0, 1) := by decide +kernel
theorem dX5_markNeeded_1 : decode cX5_markNeeded 1 = .ok (.getfield 25, 3) := by decide +kernel
theorem dX5_markNeeded_4 : decode cX5_markNeeded 4 = .ok (.invokevirtual 64, 3) := by decide +kernel
theorem dX5_markNeeded_7 : decode cX5_markNeeded 7 = .ok (.aload_n 0, 1) := by decide +kernel
theorem dX5_markNeeded_8 : decode cX5_markNeeded 8 = .ok (.getfield 25, 3) := by decide +kernel
theorem dX5_markNeeded_11 : decode cX5_markNeeded 11 = .ok (.iload_n 1, 1) := by decide +kernel
theorem dX5_markNeeded_12 : decode cX5_markNeeded 12 = .ok (.iconst 1, 1) := by decide +kernel
theorem dX5_markNeeded_13 : decode cX5_markNeeded 13 = .ok (.invokevirtual 67, 3) := by decide +kernel
theorem dX5_markNeeded_16 : decode cX5_markNeeded 16 = .ok (.iload_n 1, 1) := by decide +kernel
theorem dX5_markNeeded_17 : decode cX5_markNeeded 17 = .ok (.istore_n 2, 1) := by decide +kernel
theorem dX5_markNeeded_18 : decode cX5_markNeeded 18 = .ok (.iload_n 2, 1) := by decide +kernel
theorem dX5_markNeeded_19 : decode cX5_markNeeded 19 = .ok (.ifCond .lt 101, 3) := by decide +kernel
theorem dX5_markNeeded_22 : decode cX5_markNeeded 22 = .ok (.aload_n 0, 1) := by decide +kernel
theorem dX5_markNeeded_23 : decode cX5_markNeeded 23 = .ok (.getfield 29, 3) := by decide +kernel
theorem dX5_markNeeded_26 : decode cX5_markNeeded 26 = .ok (.getfield 49, 3) := by decide +kernel
theorem dX5_markNeeded_29 : decode cX5_markNeeded 29 = .ok (.iload_n 2, 1) := by decide +kernel
theorem dX5_markNeeded_30 : decode cX5_markNeeded 30 = .ok (.invokevirtual 42, 3) := by decide +kernel
theorem dX5_markNeeded_33 : decode cX5_markNeeded 33 = .ok (.istore_n 3, 1) := by decide +kernel
theorem dX5_markNeeded_34 : decode cX5_markNeeded 34 = .ok (.aload_n 0, 1) := by decide +kernel
theorem dX5_markNeeded_35 : decode cX5_markNeeded 35 = .ok (.getfield 25, 3) := by decide +kernel
theorem dX5_markNeeded_38 : decode cX5_markNeeded 38 = .ok (.iload_n 2, 1) := by decide +kernel
theorem dX5_markNeeded_39 : decode cX5_markNeeded 39 = .ok (.invokevirtual 42, 3) := by decide +kernel
theorem dX5_markNeeded_42 : decode cX5_markNeeded 42 = .ok (.iconst 1, 1) := by decide +kernel
theorem dX5_markNeeded_43 : decode cX5_markNeeded 43 = .ok (.if_icmp .ne 71, 3) := by decide +kernel
theorem dX5_markNeeded_46 : decode cX5_markNeeded 46 = .ok (.iload_n 3, 1) := by decide +kernel
theorem dX5_markNeeded_47 : decode cX5_markNeeded 47 = .ok (.bipush 116, 2) := by decide +kernel
theorem dX5_markNeeded_49 : decode cX5_markNeeded 49 = .ok (.if_icmp .eq 65, 3) := by decide +kernel
theorem dX5_markNeeded_52 : decode cX5_markNeeded 52 = .ok (.iload_n 3, 1) := by decide +kernel
theorem dX5_markNeeded_53 : decode cX5_markNeeded 53 = .ok (.bipush 118, 2) := by decide +kernel
theorem dX5_markNeeded_55 : decode cX5_markNeeded 55 = .ok (.if_icmp .eq 59, 3) := by decide +kernel
theorem dX5_markNeeded_58 : decode cX5_markNeeded 58 = .ok (.aload_n 0, 1) := by decide +kernel
theorem dX5_markNeeded_59 : decode cX5_markNeeded 59 = .ok (.getfield 25, 3) := by decide +kernel
theorem dX5_markNeeded_62 : decode cX5_markNeeded 62 = .ok (.aload_n 0, 1) := by decide +kernel
theorem dX5_markNeeded_63 : decode cX5_markNeeded 63 = .ok (.getfield 29, 3) := by decide +kernel
theorem dX5_markNeeded_66 : decode cX5_markNeeded 66 = .ok (.getfield 70, 3) := by decide +kernel
theorem dX5_markNeeded_69 : decode cX5_markNeeded 69 = .ok (.iload_n 2, 1) := by decide +kernel
theorem dX5_markNeeded_70 : decode cX5_markNeeded 70 = .ok (.invokevirtual 42, 3) := by decide +kernel
theorem dX5_markNeeded_73 : decode cX5_markNeeded 73 = .ok (.iconst 1, 1) := by decide +kernel
theorem dX5_markNeeded_74 : decode cX5_markNeeded 74 = .ok (.invokevirtual 67, 3) := by decide +kernel
theorem dX5_markNeeded_77 : decode cX5_markNeeded 77 = .ok (.iload_n 3, 1) := by decide +kernel
theorem dX5_markNeeded_78 : decode cX5_markNeeded 78 = .ok (.bipush 119, 2) := by decide +kernel
theorem dX5_markNeeded_80 : decode cX5_markNeeded 80 = .ok (.if_icmp .eq 34, 3) := by decide +kernel
theorem dX5_markNeeded_83 : decode cX5_markNeeded 83 = .ok (.iload_n 3, 1) := by decide +kernel
theorem dX5_markNeeded_84 : decode cX5_markNeeded 84 = .ok (.bipush 35, 2) := by decide +kernel
theorem dX5_markNeeded_86 : decode cX5_markNeeded 86 = .ok (.if_icmp .eq 28, 3) := by decide +kernel
theorem dX5_markNeeded_89 : decode cX5_markNeeded 89 = .ok (.iload_n 3, 1) := by decide +kernel
theorem dX5_markNeeded_90 : decode cX5_markNeeded 90 = .ok (.bipush 114, 2) := by decide +kernel
theorem dX5_markNeeded_92 : decode cX5_markNeeded 92 = .ok (.if_icmp .eq 22, 3) := by decide +kernel
theorem dX5_markNeeded_95 : decode cX5_markNeeded 95 = .ok (.aload_n 0, 1) := by decide +kernel
theorem dX5_markNeeded_96 : decode cX5_markNeeded 96 = .ok (.getfield 25, 3) := by decide +kernel
theorem dX5_markNeeded_99 : decode cX5_markNeeded 99 = .ok (.aload_n 0, 1) := by decide +kernel
theorem dX5_markNeeded_100 : decode cX5_markNeeded 100 = .ok (.getfield 29, 3) := by decide +kernel
theorem dX5_markNeeded_103 : decode cX5_markNeeded 103 = .ok (.getfield 73, 3) := by decide +kernel
theorem dX5_markNeeded_106 : decode cX5_markNeeded 106 = .ok (.iload_n 2, 1) := by decide +kernel
theorem dX5_markNeeded_107 : decode cX5_markNeeded 107 = .ok (.invokevirtual 42, 3) := by decide +kernel
theorem dX5_markNeeded_110 : decode cX5_markNeeded 110 = .ok (.iconst 1, 1) := by decide +kernel
theorem dX5_markNeeded_111 : decode cX5_markNeeded 111 = .ok (.invokevirtual 67, 3) := by decide +kernel
theorem dX5_markNeeded_114 : decode cX5_markNeeded 114 = .ok (.iinc 2 (-1), 3) := by decide +kernel
theorem dX5_markNeeded_117 : decode cX5_markNeeded 117 = .ok (.goto (-99), 3) := by decide +kernel
theorem dX5_markNeeded_120 : decode cX5_markNeeded 120 = .ok (.return_, 1) := by decide +kernel
theorem dX5_isOfNumbers_0 : decode cX5_isOfNumbers 0 = .ok (.iload_n 0, 1) := by decide +kernel
theorem dX5_isOfNumbers_1 : decode cX5_isOfNumbers 1 = .ok (.bipush 43, 2) := by decide +kernel
theorem dX5_isOfNumbers_3 : decode cX5_isOfNumbers 3 = .ok (.if_icmp .eq 33, 3) := by decide +kernel
theorem dX5_isOfNumbers_6 : decode cX5_isOfNumbers 6 = .ok (.iload_n 0, 1) := by decide +kernel
theorem dX5_isOfNumbers_7 : decode cX5_isOfNumbers 7 = .ok (.bipush 45, 2) := by decide +kernel
theorem dX5_isOfNumbers_9 : decode cX5_isOfNumbers 9 = .ok (.if_icmp .eq 27, 3) := by decide +kernel
theorem dX5_isOfNumbers_12 : decode cX5_isOfNumbers 12 = .ok (.iload_n 0, 1) := by decide +kernel
theorem dX5_isOfNumbers_13 : decode cX5_isOfNumbers 13 = .ok (.bipush 42, 2) := by decide +kernel
theorem dX5_isOfNumbers_15 : decode cX5_isOfNumbers 15 = .ok (.if_icmp .eq 21, 3) := by decide +kernel
theorem dX5_isOfNumbers_18 : decode cX5_isOfNumbers 18 = .ok (.iload_n 0, 1) := by decide +kernel
theorem dX5_isOfNumbers_19 : decode cX5_isOfNumbers 19 = .ok (.bipush 47, 2) := by decide +kernel
theorem dX5_isOfNumbers_21 : decode cX5_isOfNumbers 21 = .ok (.if_icmp .eq 15, 3) := by decide +kernel
theorem dX5_isOfNumbers_24 : decode cX5_isOfNumbers 24 = .ok (.iload_n 0, 1) := by decide +kernel
theorem dX5_isOfNumbers_25 : decode cX5_isOfNumbers 25 = .ok (.bipush 60, 2) := by decide +kernel
theorem dX5_isOfNumbers_27 : decode cX5_isOfNumbers 27 = .ok (.if_icmp .eq 9, 3) := by decide +kernel
theorem dX5_isOfNumbers_30 : decode cX5_isOfNumbers 30 = .ok (.iload_n 0, 1) := by decide +kernel
theorem dX5_isOfNumbers_31 : decode cX5_isOfNumbers 31 = .ok (.bipush 100, 2) := by decide +kernel
theorem dX5_isOfNumbers_33 : decode cX5_isOfNumbers 33 = .ok (.if_icmp .ne 7, 3) := by decide +kernel
theorem dX5_isOfNumbers_36 : decode cX5_isOfNumbers 36 = .ok (.iconst 1, 1) := by decide +kernel
theorem dX5_isOfNumbers_37 : decode cX5_isOfNumbers 37 = .ok (.goto 4, 3) := by decide +kernel
theorem dX5_isOfNumbers_40 : decode cX5_isOfNumbers 40 = .ok (.iconst 0, 1) := by decide +kernel
theorem dX5_isOfNumbers_41 : decode cX5_isOfNumbers 41 = .ok (.ireturn, 1) := by decide +kernel
theorem dX5_reckon_0 : decode cX5_reckon 0 = .ok (.aload_n 0, 1) := by decide +kernel
theorem dX5_reckon_1 : decode cX5_reckon 1 = .ok (.getfield 29, 3) := by decide +kernel
theorem dX5_reckon_4 : decode cX5_reckon 4 = .ok (.getfield 49, 3) := by decide +kernel
theorem dX5_reckon_7 : decode cX5_reckon 7 = .ok (.iload_n 1, 1) := by decide +kernel
theorem dX5_reckon_8 : decode cX5_reckon 8 = .ok (.invokevirtual 42, 3) := by decide +kernel
theorem dX5_reckon_11 : decode cX5_reckon 11 = .ok (.istore_n 2, 1) := by decide +kernel
theorem dX5_reckon_12 : decode cX5_reckon 12 = .ok (.aload_n 0, 1) := by decide +kernel
theorem dX5_reckon_13 : decode cX5_reckon 13 = .ok (.getfield 29, 3) := by decide +kernel
theorem dX5_reckon_16 : decode cX5_reckon 16 = .ok (.getfield 70, 3) := by decide +kernel
theorem dX5_reckon_19 : decode cX5_reckon 19 = .ok (.iload_n 1, 1) := by decide +kernel
theorem dX5_reckon_20 : decode cX5_reckon 20 = .ok (.invokevirtual 42, 3) := by decide +kernel
theorem dX5_reckon_23 : decode cX5_reckon 23 = .ok (.istore_n 3, 1) := by decide +kernel
theorem dX5_reckon_24 : decode cX5_reckon 24 = .ok (.iload_n 2, 1) := by decide +kernel
theorem dX5_reckon_25 : decode cX5_reckon 25 = .ok (.bipush 100, 2) := by decide +kernel
theorem dX5_reckon_27 : decode cX5_reckon 27 = .ok (.if_icmp .ne 7, 3) := by decide +kernel
theorem dX5_reckon_30 : decode cX5_reckon 30 = .ok (.lconst 0, 1) := by decide +kernel
theorem dX5_reckon_31 : decode cX5_reckon 31 = .ok (.goto 11, 3) := by decide +kernel
theorem dX5_reckon_34 : decode cX5_reckon 34 = .ok (.aload_n 0, 1) := by decide +kernel
theorem dX5_reckon_35 : decode cX5_reckon 35 = .ok (.getfield 14, 3) := by decide +kernel
theorem dX5_reckon_38 : decode cX5_reckon 38 = .ok (.iload_n 3, 1) := by decide +kernel
theorem dX5_reckon_39 : decode cX5_reckon 39 = .ok (.invokevirtual 76, 3) := by decide +kernel
theorem dX5_reckon_42 : decode cX5_reckon 42 = .ok (.lstore 4, 2) := by decide +kernel
theorem dX5_reckon_44 : decode cX5_reckon 44 = .ok (.aload_n 0, 1) := by decide +kernel
theorem dX5_reckon_45 : decode cX5_reckon 45 = .ok (.getfield 14, 3) := by decide +kernel
theorem dX5_reckon_48 : decode cX5_reckon 48 = .ok (.aload_n 0, 1) := by decide +kernel
theorem dX5_reckon_49 : decode cX5_reckon 49 = .ok (.getfield 29, 3) := by decide +kernel
theorem dX5_reckon_52 : decode cX5_reckon 52 = .ok (.getfield 73, 3) := by decide +kernel
theorem dX5_reckon_55 : decode cX5_reckon 55 = .ok (.iload_n 1, 1) := by decide +kernel
theorem dX5_reckon_56 : decode cX5_reckon 56 = .ok (.invokevirtual 42, 3) := by decide +kernel
theorem dX5_reckon_59 : decode cX5_reckon 59 = .ok (.invokevirtual 76, 3) := by decide +kernel
theorem dX5_reckon_62 : decode cX5_reckon 62 = .ok (.lstore 6, 2) := by decide +kernel
theorem dX5_reckon_64 : decode cX5_reckon 64 = .ok (.lload 4, 2) := by decide +kernel
theorem dX5_reckon_66 : decode cX5_reckon 66 = .ok (.ldc2_w 80, 3) := by decide +kernel
theorem dX5_reckon_69 : decode cX5_reckon 69 = .ok (.lcmp, 1) := by decide +kernel
theorem dX5_reckon_70 : decode cX5_reckon 70 = .ok (.ifCond .eq 12, 3) := by decide +kernel
theorem dX5_reckon_73 : decode cX5_reckon 73 = .ok (.lload 6, 2) := by decide +kernel
theorem dX5_reckon_75 : decode cX5_reckon 75 = .ok (.ldc2_w 80, 3) := by decide +kernel
theorem dX5_reckon_78 : decode cX5_reckon 78 = .ok (.lcmp, 1) := by decide +kernel
theorem dX5_reckon_79 : decode cX5_reckon 79 = .ok (.ifCond .ne 5, 3) := by decide +kernel
theorem dX5_reckon_82 : decode cX5_reckon 82 = .ok (.iconst 1, 1) := by decide +kernel
theorem dX5_reckon_83 : decode cX5_reckon 83 = .ok (.ireturn, 1) := by decide +kernel
theorem dX5_reckon_84 : decode cX5_reckon 84 = .ok (.lconst 0, 1) := by decide +kernel
theorem dX5_reckon_85 : decode cX5_reckon 85 = .ok (.lstore 8, 2) := by decide +kernel
theorem dX5_reckon_87 : decode cX5_reckon 87 = .ok (.iload_n 2, 1) := by decide +kernel
theorem dX5_reckon_88 : decode cX5_reckon 88 = .ok (.lookupswitch 115 #[(42, 72), (43, 52), (45, 62), (47, 82), (60, 101)], 52) := by decide +kernel
theorem dX5_reckon_140 : decode cX5_reckon 140 = .ok (.lload 4, 2) := by decide +kernel
theorem dX5_reckon_142 : decode cX5_reckon 142 = .ok (.lload 6, 2) := by decide +kernel
theorem dX5_reckon_144 : decode cX5_reckon 144 = .ok (.ladd, 1) := by decide +kernel
theorem dX5_reckon_145 : decode cX5_reckon 145 = .ok (.lstore 8, 2) := by decide +kernel
theorem dX5_reckon_147 : decode cX5_reckon 147 = .ok (.goto 65, 3) := by decide +kernel
theorem dX5_reckon_150 : decode cX5_reckon 150 = .ok (.lload 4, 2) := by decide +kernel
theorem dX5_reckon_152 : decode cX5_reckon 152 = .ok (.lload 6, 2) := by decide +kernel
theorem dX5_reckon_154 : decode cX5_reckon 154 = .ok (.lsub, 1) := by decide +kernel
theorem dX5_reckon_155 : decode cX5_reckon 155 = .ok (.lstore 8, 2) := by decide +kernel
theorem dX5_reckon_157 : decode cX5_reckon 157 = .ok (.goto 55, 3) := by decide +kernel
theorem dX5_reckon_160 : decode cX5_reckon 160 = .ok (.lload 4, 2) := by decide +kernel
theorem dX5_reckon_162 : decode cX5_reckon 162 = .ok (.lload 6, 2) := by decide +kernel
theorem dX5_reckon_164 : decode cX5_reckon 164 = .ok (.lmul, 1) := by decide +kernel
theorem dX5_reckon_165 : decode cX5_reckon 165 = .ok (.lstore 8, 2) := by decide +kernel
theorem dX5_reckon_167 : decode cX5_reckon 167 = .ok (.goto 45, 3) := by decide +kernel
theorem dX5_reckon_170 : decode cX5_reckon 170 = .ok (.lload 6, 2) := by decide +kernel
theorem dX5_reckon_172 : decode cX5_reckon 172 = .ok (.lconst 0, 1) := by decide +kernel
theorem dX5_reckon_173 : decode cX5_reckon 173 = .ok (.lcmp, 1) := by decide +kernel
theorem dX5_reckon_174 : decode cX5_reckon 174 = .ok (.ifCond .ne 5, 3) := by decide +kernel
theorem dX5_reckon_177 : decode cX5_reckon 177 = .ok (.iconst 2, 1) := by decide +kernel
theorem dX5_reckon_178 : decode cX5_reckon 178 = .ok (.ireturn, 1) := by decide +kernel
theorem dX5_reckon_179 : decode cX5_reckon 179 = .ok (.lload 4, 2) := by decide +kernel
theorem dX5_reckon_181 : decode cX5_reckon 181 = .ok (.lload 6, 2) := by decide +kernel
theorem dX5_reckon_183 : decode cX5_reckon 183 = .ok (.ldiv, 1) := by decide +kernel
theorem dX5_reckon_184 : decode cX5_reckon 184 = .ok (.lstore 8, 2) := by decide +kernel
theorem dX5_reckon_186 : decode cX5_reckon 186 = .ok (.goto 26, 3) := by decide +kernel
theorem dX5_reckon_189 : decode cX5_reckon 189 = .ok (.lload 4, 2) := by decide +kernel
theorem dX5_reckon_191 : decode cX5_reckon 191 = .ok (.lload 6, 2) := by decide +kernel
theorem dX5_reckon_193 : decode cX5_reckon 193 = .ok (.lcmp, 1) := by decide +kernel
theorem dX5_reckon_194 : decode cX5_reckon 194 = .ok (.ifCond .ge 7, 3) := by decide +kernel
theorem dX5_reckon_197 : decode cX5_reckon 197 = .ok (.iconst 0, 1) := by decide +kernel
theorem dX5_reckon_198 : decode cX5_reckon 198 = .ok (.goto 4, 3) := by decide +kernel
theorem dX5_reckon_201 : decode cX5_reckon 201 = .ok (.iconst (-1), 1) := by decide +kernel
theorem dX5_reckon_202 : decode cX5_reckon 202 = .ok (.ireturn, 1) := by decide +kernel
theorem dX5_reckon_203 : decode cX5_reckon 203 = .ok (.aload_n 0, 1) := by decide +kernel
theorem dX5_reckon_204 : decode cX5_reckon 204 = .ok (.iload_n 1, 1) := by decide +kernel
theorem dX5_reckon_205 : decode cX5_reckon 205 = .ok (.iload_n 3, 1) := by decide +kernel
theorem dX5_reckon_206 : decode cX5_reckon 206 = .ok (.lload 6, 2) := by decide +kernel
theorem dX5_reckon_208 : decode cX5_reckon 208 = .ok (.invokevirtual 82, 3) := by decide +kernel
theorem dX5_reckon_211 : decode cX5_reckon 211 = .ok (.ireturn, 1) := by decide +kernel
theorem dX5_reckon_212 : decode cX5_reckon 212 = .ok (.lload 8, 2) := by decide +kernel
theorem dX5_reckon_214 : decode cX5_reckon 214 = .ok (.ldc2_w 86, 3) := by decide +kernel
theorem dX5_reckon_217 : decode cX5_reckon 217 = .ok (.lcmp, 1) := by decide +kernel
theorem dX5_reckon_218 : decode cX5_reckon 218 = .ok (.ifCond .gt 12, 3) := by decide +kernel
theorem dX5_reckon_221 : decode cX5_reckon 221 = .ok (.lload 8, 2) := by decide +kernel
theorem dX5_reckon_223 : decode cX5_reckon 223 = .ok (.ldc2_w 88, 3) := by decide +kernel
theorem dX5_reckon_226 : decode cX5_reckon 226 = .ok (.lcmp, 1) := by decide +kernel
theorem dX5_reckon_227 : decode cX5_reckon 227 = .ok (.ifCond .ge 5, 3) := by decide +kernel
theorem dX5_reckon_230 : decode cX5_reckon 230 = .ok (.iconst 1, 1) := by decide +kernel
theorem dX5_reckon_231 : decode cX5_reckon 231 = .ok (.ireturn, 1) := by decide +kernel
theorem dX5_reckon_232 : decode cX5_reckon 232 = .ok (.aload_n 0, 1) := by decide +kernel
theorem dX5_reckon_233 : decode cX5_reckon 233 = .ok (.getfield 14, 3) := by decide +kernel
theorem dX5_reckon_236 : decode cX5_reckon 236 = .ok (.iload_n 1, 1) := by decide +kernel
theorem dX5_reckon_237 : decode cX5_reckon 237 = .ok (.lload 8, 2) := by decide +kernel
theorem dX5_reckon_239 : decode cX5_reckon 239 = .ok (.invokevirtual 90, 3) := by decide +kernel
theorem dX5_reckon_242 : decode cX5_reckon 242 = .ok (.iconst 0, 1) := by decide +kernel
theorem dX5_reckon_243 : decode cX5_reckon 243 = .ok (.ireturn, 1) := by decide +kernel
theorem dX5_formRepeated_0 : decode cX5_formRepeated 0 = .ok (.lload_n 3, 1) := by decide +kernel
theorem dX5_formRepeated_1 : decode cX5_formRepeated 1 = .ok (.lconst 0, 1) := by decide +kernel
theorem dX5_formRepeated_2 : decode cX5_formRepeated 2 = .ok (.lcmp, 1) := by decide +kernel
theorem dX5_formRepeated_3 : decode cX5_formRepeated 3 = .ok (.ifCond .lt 11, 3) := by decide +kernel
theorem dX5_formRepeated_6 : decode cX5_formRepeated 6 = .ok (.lload_n 3, 1) := by decide +kernel
theorem dX5_formRepeated_7 : decode cX5_formRepeated 7 = .ok (.ldc2_w 94, 3) := by decide +kernel
theorem dX5_formRepeated_10 : decode cX5_formRepeated 10 = .ok (.lcmp, 1) := by decide +kernel
theorem dX5_formRepeated_11 : decode cX5_formRepeated 11 = .ok (.ifCond .le 5, 3) := by decide +kernel
theorem dX5_formRepeated_14 : decode cX5_formRepeated 14 = .ok (.iconst 1, 1) := by decide +kernel
theorem dX5_formRepeated_15 : decode cX5_formRepeated 15 = .ok (.ireturn, 1) := by decide +kernel
theorem dX5_formRepeated_16 : decode cX5_formRepeated 16 = .ok (.iconst 0, 1) := by decide +kernel
theorem dX5_formRepeated_17 : decode cX5_formRepeated 17 = .ok (.istore 5, 2) := by decide +kernel
theorem dX5_formRepeated_19 : decode cX5_formRepeated 19 = .ok (.iload 5, 2) := by decide +kernel
theorem dX5_formRepeated_21 : decode cX5_formRepeated 21 = .ok (.i2l, 1) := by decide +kernel
theorem dX5_formRepeated_22 : decode cX5_formRepeated 22 = .ok (.lload_n 3, 1) := by decide +kernel
theorem dX5_formRepeated_23 : decode cX5_formRepeated 23 = .ok (.lcmp, 1) := by decide +kernel
theorem dX5_formRepeated_24 : decode cX5_formRepeated 24 = .ok (.ifCond .ge 36, 3) := by decide +kernel
theorem dX5_formRepeated_27 : decode cX5_formRepeated 27 = .ok (.aload_n 0, 1) := by decide +kernel
theorem dX5_formRepeated_28 : decode cX5_formRepeated 28 = .ok (.getfield 14, 3) := by decide +kernel
theorem dX5_formRepeated_31 : decode cX5_formRepeated 31 = .ok (.iload_n 1, 1) := by decide +kernel
theorem dX5_formRepeated_32 : decode cX5_formRepeated 32 = .ok (.aload_n 0, 1) := by decide +kernel
theorem dX5_formRepeated_33 : decode cX5_formRepeated 33 = .ok (.getfield 14, 3) := by decide +kernel
theorem dX5_formRepeated_36 : decode cX5_formRepeated 36 = .ok (.iload_n 2, 1) := by decide +kernel
theorem dX5_formRepeated_37 : decode cX5_formRepeated 37 = .ok (.iconst 0, 1) := by decide +kernel
theorem dX5_formRepeated_38 : decode cX5_formRepeated 38 = .ok (.aload_n 0, 1) := by decide +kernel
theorem dX5_formRepeated_39 : decode cX5_formRepeated 39 = .ok (.getfield 14, 3) := by decide +kernel
theorem dX5_formRepeated_42 : decode cX5_formRepeated 42 = .ok (.iload_n 2, 1) := by decide +kernel
theorem dX5_formRepeated_43 : decode cX5_formRepeated 43 = .ok (.invokevirtual 96, 3) := by decide +kernel
theorem dX5_formRepeated_46 : decode cX5_formRepeated 46 = .ok (.invokevirtual 99, 3) := by decide +kernel
theorem dX5_formRepeated_49 : decode cX5_formRepeated 49 = .ok (.ifCond .ne 5, 3) := by decide +kernel
theorem dX5_formRepeated_52 : decode cX5_formRepeated 52 = .ok (.iconst 4, 1) := by decide +kernel
theorem dX5_formRepeated_53 : decode cX5_formRepeated 53 = .ok (.ireturn, 1) := by decide +kernel
theorem dX5_formRepeated_54 : decode cX5_formRepeated 54 = .ok (.iinc 5 1, 3) := by decide +kernel
theorem dX5_formRepeated_57 : decode cX5_formRepeated 57 = .ok (.goto (-38), 3) := by decide +kernel
theorem dX5_formRepeated_60 : decode cX5_formRepeated 60 = .ok (.iconst 0, 1) := by decide +kernel
theorem dX5_formRepeated_61 : decode cX5_formRepeated 61 = .ok (.ireturn, 1) := by decide +kernel
theorem dX5_form_0 : decode cX5_form 0 = .ok (.aload_n 0, 1) := by decide +kernel
theorem dX5_form_1 : decode cX5_form 1 = .ok (.getfield 29, 3) := by decide +kernel
theorem dX5_form_4 : decode cX5_form 4 = .ok (.getfield 70, 3) := by decide +kernel
theorem dX5_form_7 : decode cX5_form 7 = .ok (.iload_n 1, 1) := by decide +kernel
theorem dX5_form_8 : decode cX5_form 8 = .ok (.invokevirtual 42, 3) := by decide +kernel
theorem dX5_form_11 : decode cX5_form 11 = .ok (.istore_n 2, 1) := by decide +kernel
theorem dX5_form_12 : decode cX5_form 12 = .ok (.aload_n 0, 1) := by decide +kernel
theorem dX5_form_13 : decode cX5_form 13 = .ok (.getfield 29, 3) := by decide +kernel
theorem dX5_form_16 : decode cX5_form 16 = .ok (.getfield 73, 3) := by decide +kernel
theorem dX5_form_19 : decode cX5_form 19 = .ok (.iload_n 1, 1) := by decide +kernel
theorem dX5_form_20 : decode cX5_form 20 = .ok (.invokevirtual 42, 3) := by decide +kernel
theorem dX5_form_23 : decode cX5_form 23 = .ok (.istore_n 3, 1) := by decide +kernel
theorem dX5_form_24 : decode cX5_form 24 = .ok (.aload_n 0, 1) := by decide +kernel
theorem dX5_form_25 : decode cX5_form 25 = .ok (.getfield 29, 3) := by decide +kernel
theorem dX5_form_28 : decode cX5_form 28 = .ok (.getfield 49, 3) := by decide +kernel
theorem dX5_form_31 : decode cX5_form 31 = .ok (.iload_n 1, 1) := by decide +kernel
theorem dX5_form_32 : decode cX5_form 32 = .ok (.invokevirtual 42, 3) := by decide +kernel
theorem dX5_form_35 : decode cX5_form 35 = .ok (.lookupswitch 184 #[(35, 157), (38, 119), (114, 176), (116, 57), (118, 72), (119, 87)], 57) := by decide +kernel
theorem dX5_form_92 : decode cX5_form 92 = .ok (.aload_n 0, 1) := by decide +kernel
theorem dX5_form_93 : decode cX5_form 93 = .ok (.getfield 14, 3) := by decide +kernel
theorem dX5_form_96 : decode cX5_form 96 = .ok (.iload_n 1, 1) := by decide +kernel
theorem dX5_form_97 : decode cX5_form 97 = .ok (.aload_n 0, 1) := by decide +kernel
theorem dX5_form_98 : decode cX5_form 98 = .ok (.getfield 33, 3) := by decide +kernel
theorem dX5_form_101 : decode cX5_form 101 = .ok (.iload_n 2, 1) := by decide +kernel
theorem dX5_form_102 : decode cX5_form 102 = .ok (.invokevirtual 103, 3) := by decide +kernel
theorem dX5_form_105 : decode cX5_form 105 = .ok (.iconst 0, 1) := by decide +kernel
theorem dX5_form_106 : decode cX5_form 106 = .ok (.ireturn, 1) := by decide +kernel
theorem dX5_form_107 : decode cX5_form 107 = .ok (.aload_n 0, 1) := by decide +kernel
theorem dX5_form_108 : decode cX5_form 108 = .ok (.getfield 14, 3) := by decide +kernel
theorem dX5_form_111 : decode cX5_form 111 = .ok (.iload_n 1, 1) := by decide +kernel
theorem dX5_form_112 : decode cX5_form 112 = .ok (.aload_n 0, 1) := by decide +kernel
theorem dX5_form_113 : decode cX5_form 113 = .ok (.getfield 36, 3) := by decide +kernel
theorem dX5_form_116 : decode cX5_form 116 = .ok (.iload_n 2, 1) := by decide +kernel
theorem dX5_form_117 : decode cX5_form 117 = .ok (.invokevirtual 103, 3) := by decide +kernel
theorem dX5_form_120 : decode cX5_form 120 = .ok (.iconst 0, 1) := by decide +kernel
theorem dX5_form_121 : decode cX5_form 121 = .ok (.ireturn, 1) := by decide +kernel
theorem dX5_form_122 : decode cX5_form 122 = .ok (.aload_n 0, 1) := by decide +kernel
theorem dX5_form_123 : decode cX5_form 123 = .ok (.iload_n 2, 1) := by decide +kernel
theorem dX5_form_124 : decode cX5_form 124 = .ok (.invokevirtual 107, 3) := by decide +kernel
theorem dX5_form_127 : decode cX5_form 127 = .ok (.istore 4, 2) := by decide +kernel
theorem dX5_form_129 : decode cX5_form 129 = .ok (.iload 4, 2) := by decide +kernel
theorem dX5_form_131 : decode cX5_form 131 = .ok (.iconst (-1), 1) := by decide +kernel
theorem dX5_form_132 : decode cX5_form 132 = .ok (.if_icmp .ne 6, 3) := by decide +kernel
theorem dX5_form_135 : decode cX5_form 135 = .ok (.bipush 8, 2) := by decide +kernel
theorem dX5_form_137 : decode cX5_form 137 = .ok (.ireturn, 1) := by decide +kernel
theorem dX5_form_138 : decode cX5_form 138 = .ok (.aload_n 0, 1) := by decide +kernel
theorem dX5_form_139 : decode cX5_form 139 = .ok (.getfield 14, 3) := by decide +kernel
theorem dX5_form_142 : decode cX5_form 142 = .ok (.iload_n 1, 1) := by decide +kernel
theorem dX5_form_143 : decode cX5_form 143 = .ok (.aload_n 0, 1) := by decide +kernel
theorem dX5_form_144 : decode cX5_form 144 = .ok (.getfield 36, 3) := by decide +kernel
theorem dX5_form_147 : decode cX5_form 147 = .ok (.iload 4, 2) := by decide +kernel
theorem dX5_form_149 : decode cX5_form 149 = .ok (.invokevirtual 103, 3) := by decide +kernel
theorem dX5_form_152 : decode cX5_form 152 = .ok (.iconst 0, 1) := by decide +kernel
theorem dX5_form_153 : decode cX5_form 153 = .ok (.ireturn, 1) := by decide +kernel
theorem dX5_form_154 : decode cX5_form 154 = .ok (.aload_n 0, 1) := by decide +kernel
theorem dX5_form_155 : decode cX5_form 155 = .ok (.getfield 14, 3) := by decide +kernel
theorem dX5_form_158 : decode cX5_form 158 = .ok (.iload_n 1, 1) := by decide +kernel
theorem dX5_form_159 : decode cX5_form 159 = .ok (.aload_n 0, 1) := by decide +kernel
theorem dX5_form_160 : decode cX5_form 160 = .ok (.getfield 14, 3) := by decide +kernel
theorem dX5_form_163 : decode cX5_form 163 = .ok (.iload_n 2, 1) := by decide +kernel
theorem dX5_form_164 : decode cX5_form 164 = .ok (.invokevirtual 110, 3) := by decide +kernel
theorem dX5_form_167 : decode cX5_form 167 = .ok (.ifCond .eq 23, 3) := by decide +kernel
theorem dX5_form_170 : decode cX5_form 170 = .ok (.aload_n 0, 1) := by decide +kernel
theorem dX5_form_171 : decode cX5_form 171 = .ok (.getfield 14, 3) := by decide +kernel
theorem dX5_form_174 : decode cX5_form 174 = .ok (.iload_n 1, 1) := by decide +kernel
theorem dX5_form_175 : decode cX5_form 175 = .ok (.aload_n 0, 1) := by decide +kernel
theorem dX5_form_176 : decode cX5_form 176 = .ok (.getfield 14, 3) := by decide +kernel
theorem dX5_form_179 : decode cX5_form 179 = .ok (.iload_n 3, 1) := by decide +kernel
theorem dX5_form_180 : decode cX5_form 180 = .ok (.invokevirtual 110, 3) := by decide +kernel
theorem dX5_form_183 : decode cX5_form 183 = .ok (.ifCond .eq 7, 3) := by decide +kernel
theorem dX5_form_186 : decode cX5_form 186 = .ok (.iconst 0, 1) := by decide +kernel
theorem dX5_form_187 : decode cX5_form 187 = .ok (.goto 4, 3) := by decide +kernel
theorem dX5_form_190 : decode cX5_form 190 = .ok (.iconst 4, 1) := by decide +kernel
theorem dX5_form_191 : decode cX5_form 191 = .ok (.ireturn, 1) := by decide +kernel
theorem dX5_form_192 : decode cX5_form 192 = .ok (.aload_n 0, 1) := by decide +kernel
theorem dX5_form_193 : decode cX5_form 193 = .ok (.getfield 14, 3) := by decide +kernel
theorem dX5_form_196 : decode cX5_form 196 = .ok (.iload_n 1, 1) := by decide +kernel
theorem dX5_form_197 : decode cX5_form 197 = .ok (.aload_n 0, 1) := by decide +kernel
theorem dX5_form_198 : decode cX5_form 198 = .ok (.getfield 14, 3) := by decide +kernel
theorem dX5_form_201 : decode cX5_form 201 = .ok (.iload_n 2, 1) := by decide +kernel
theorem dX5_form_202 : decode cX5_form 202 = .ok (.invokevirtual 96, 3) := by decide +kernel
theorem dX5_form_205 : decode cX5_form 205 = .ok (.i2l, 1) := by decide +kernel
theorem dX5_form_206 : decode cX5_form 206 = .ok (.invokevirtual 90, 3) := by decide +kernel
theorem dX5_form_209 : decode cX5_form 209 = .ok (.iconst 0, 1) := by decide +kernel
theorem dX5_form_210 : decode cX5_form 210 = .ok (.ireturn, 1) := by decide +kernel
theorem dX5_form_211 : decode cX5_form 211 = .ok (.aload_n 0, 1) := by decide +kernel
theorem dX5_form_212 : decode cX5_form 212 = .ok (.iload_n 1, 1) := by decide +kernel
theorem dX5_form_213 : decode cX5_form 213 = .ok (.iload_n 2, 1) := by decide +kernel
theorem dX5_form_214 : decode cX5_form 214 = .ok (.invokevirtual 114, 3) := by decide +kernel
theorem dX5_form_217 : decode cX5_form 217 = .ok (.iconst 0, 1) := by decide +kernel
theorem dX5_form_218 : decode cX5_form 218 = .ok (.ireturn, 1) := by decide +kernel
theorem dX5_form_219 : decode cX5_form 219 = .ok (.aload_n 0, 1) := by decide +kernel
theorem dX5_form_220 : decode cX5_form 220 = .ok (.getfield 14, 3) := by decide +kernel
theorem dX5_form_223 : decode cX5_form 223 = .ok (.iload_n 2, 1) := by decide +kernel
theorem dX5_form_224 : decode cX5_form 224 = .ok (.invokevirtual 96, 3) := by decide +kernel
theorem dX5_form_227 : decode cX5_form 227 = .ok (.aload_n 0, 1) := by decide +kernel
theorem dX5_form_228 : decode cX5_form 228 = .ok (.getfield 14, 3) := by decide +kernel
theorem dX5_form_231 : decode cX5_form 231 = .ok (.iload_n 3, 1) := by decide +kernel
theorem dX5_form_232 : decode cX5_form 232 = .ok (.invokevirtual 96, 3) := by decide +kernel
theorem dX5_form_235 : decode cX5_form 235 = .ok (.if_icmp .ne 24, 3) := by decide +kernel
theorem dX5_form_238 : decode cX5_form 238 = .ok (.aload_n 0, 1) := by decide +kernel
theorem dX5_form_239 : decode cX5_form 239 = .ok (.getfield 14, 3) := by decide +kernel
theorem dX5_form_242 : decode cX5_form 242 = .ok (.iload_n 2, 1) := by decide +kernel
theorem dX5_form_243 : decode cX5_form 243 = .ok (.iconst 0, 1) := by decide +kernel
theorem dX5_form_244 : decode cX5_form 244 = .ok (.aload_n 0, 1) := by decide +kernel
theorem dX5_form_245 : decode cX5_form 245 = .ok (.getfield 14, 3) := by decide +kernel
theorem dX5_form_248 : decode cX5_form 248 = .ok (.iload_n 3, 1) := by decide +kernel
theorem dX5_form_249 : decode cX5_form 249 = .ok (.invokevirtual 117, 3) := by decide +kernel
theorem dX5_form_252 : decode cX5_form 252 = .ok (.ifCond .eq 7, 3) := by decide +kernel
theorem dX5_form_255 : decode cX5_form 255 = .ok (.iconst 0, 1) := by decide +kernel
theorem dX5_form_256 : decode cX5_form 256 = .ok (.goto 4, 3) := by decide +kernel
theorem dX5_form_259 : decode cX5_form 259 = .ok (.iconst (-1), 1) := by decide +kernel
theorem dX5_form_260 : decode cX5_form 260 = .ok (.ireturn, 1) := by decide +kernel
theorem dX5_variableNamed_0 : decode cX5_variableNamed 0 = .ok (.aload_n 0, 1) := by decide +kernel
theorem dX5_variableNamed_1 : decode cX5_variableNamed 1 = .ok (.getfield 14, 3) := by decide +kernel
theorem dX5_variableNamed_4 : decode cX5_variableNamed 4 = .ok (.iload_n 1, 1) := by decide +kernel
theorem dX5_variableNamed_5 : decode cX5_variableNamed 5 = .ok (.iconst 0, 1) := by decide +kernel
theorem dX5_variableNamed_6 : decode cX5_variableNamed 6 = .ok (.invokevirtual 121, 3) := by decide +kernel
theorem dX5_variableNamed_9 : decode cX5_variableNamed 9 = .ok (.bipush 97, 2) := by decide +kernel
theorem dX5_variableNamed_11 : decode cX5_variableNamed 11 = .ok (.isub, 1) := by decide +kernel
theorem dX5_variableNamed_12 : decode cX5_variableNamed 12 = .ok (.istore_n 2, 1) := by decide +kernel
theorem dX5_variableNamed_13 : decode cX5_variableNamed 13 = .ok (.aload_n 0, 1) := by decide +kernel
theorem dX5_variableNamed_14 : decode cX5_variableNamed 14 = .ok (.getfield 14, 3) := by decide +kernel
theorem dX5_variableNamed_17 : decode cX5_variableNamed 17 = .ok (.iload_n 1, 1) := by decide +kernel
theorem dX5_variableNamed_18 : decode cX5_variableNamed 18 = .ok (.invokevirtual 96, 3) := by decide +kernel
theorem dX5_variableNamed_21 : decode cX5_variableNamed 21 = .ok (.iconst 1, 1) := by decide +kernel
theorem dX5_variableNamed_22 : decode cX5_variableNamed 22 = .ok (.if_icmp .ne 16, 3) := by decide +kernel
theorem dX5_variableNamed_25 : decode cX5_variableNamed 25 = .ok (.iload_n 2, 1) := by decide +kernel
theorem dX5_variableNamed_26 : decode cX5_variableNamed 26 = .ok (.bipush 26, 2) := by decide +kernel
theorem dX5_variableNamed_28 : decode cX5_variableNamed 28 = .ok (.invokestatic 125, 3) := by decide +kernel
theorem dX5_variableNamed_31 : decode cX5_variableNamed 31 = .ok (.ifCond .eq 7, 3) := by decide +kernel
theorem dX5_variableNamed_34 : decode cX5_variableNamed 34 = .ok (.iload_n 2, 1) := by decide +kernel
theorem dX5_variableNamed_35 : decode cX5_variableNamed 35 = .ok (.goto 4, 3) := by decide +kernel
theorem dX5_variableNamed_38 : decode cX5_variableNamed 38 = .ok (.iconst (-1), 1) := by decide +kernel
theorem dX5_variableNamed_39 : decode cX5_variableNamed 39 = .ok (.ireturn, 1) := by decide +kernel
theorem dX5_formBackward_0 : decode cX5_formBackward 0 = .ok (.aload_n 0, 1) := by decide +kernel
theorem dX5_formBackward_1 : decode cX5_formBackward 1 = .ok (.getfield 14, 3) := by decide +kernel
theorem dX5_formBackward_4 : decode cX5_formBackward 4 = .ok (.iload_n 2, 1) := by decide +kernel
theorem dX5_formBackward_5 : decode cX5_formBackward 5 = .ok (.invokevirtual 96, 3) := by decide +kernel
theorem dX5_formBackward_8 : decode cX5_formBackward 8 = .ok (.iconst 1, 1) := by decide +kernel
theorem dX5_formBackward_9 : decode cX5_formBackward 9 = .ok (.isub, 1) := by decide +kernel
theorem dX5_formBackward_10 : decode cX5_formBackward 10 = .ok (.istore_n 3, 1) := by decide +kernel
theorem dX5_formBackward_11 : decode cX5_formBackward 11 = .ok (.iload_n 3, 1) := by decide +kernel
theorem dX5_formBackward_12 : decode cX5_formBackward 12 = .ok (.ifCond .lt 26, 3) := by decide +kernel
theorem dX5_formBackward_15 : decode cX5_formBackward 15 = .ok (.aload_n 0, 1) := by decide +kernel
theorem dX5_formBackward_16 : decode cX5_formBackward 16 = .ok (.getfield 14, 3) := by decide +kernel
theorem dX5_formBackward_19 : decode cX5_formBackward 19 = .ok (.iload_n 1, 1) := by decide +kernel
theorem dX5_formBackward_20 : decode cX5_formBackward 20 = .ok (.aload_n 0, 1) := by decide +kernel
theorem dX5_formBackward_21 : decode cX5_formBackward 21 = .ok (.getfield 14, 3) := by decide +kernel
theorem dX5_formBackward_24 : decode cX5_formBackward 24 = .ok (.iload_n 2, 1) := by decide +kernel
theorem dX5_formBackward_25 : decode cX5_formBackward 25 = .ok (.iload_n 3, 1) := by decide +kernel
theorem dX5_formBackward_26 : decode cX5_formBackward 26 = .ok (.invokevirtual 121, 3) := by decide +kernel
theorem dX5_formBackward_29 : decode cX5_formBackward 29 = .ok (.invokevirtual 129, 3) := by decide +kernel
theorem dX5_formBackward_32 : decode cX5_formBackward 32 = .ok (.iinc 3 (-1), 3) := by decide +kernel
theorem dX5_formBackward_35 : decode cX5_formBackward 35 = .ok (.goto (-24), 3) := by decide +kernel
theorem dX5_formBackward_38 : decode cX5_formBackward 38 = .ok (.return_, 1) := by decide +kernel
theorem dX6_init_0 : decode cX6_init 0 = .ok (.aload_n 0, 1) := by decide +kernel
theorem dX6_init_1 : decode cX6_init 1 = .ok (.invokespecial 3, 3) := by decide +kernel
theorem dX6_init_4 : decode cX6_init 4 = .ok (.aload_n 0, 1) := by decide +kernel
theorem dX6_init_5 : decode cX6_init 5 = .ok (.iload_n 2, 1) := by decide +kernel
theorem dX6_init_6 : decode cX6_init 6 = .ok (.putfield 9, 3) := by decide +kernel
theorem dX6_init_9 : decode cX6_init 9 = .ok (.aload_n 0, 1) := by decide +kernel
theorem dX6_init_10 : decode cX6_init 10 = .ok (.iload_n 1, 1) := by decide +kernel
theorem dX6_init_11 : decode cX6_init 11 = .ok (.ifCond .lt 7, 3) := by decide +kernel
theorem dX6_init_14 : decode cX6_init 14 = .ok (.iload_n 2, 1) := by decide +kernel
theorem dX6_init_15 : decode cX6_init 15 = .ok (.ifCond .ge 7, 3) := by decide +kernel
theorem dX6_init_18 : decode cX6_init 18 = .ok (.iconst 0, 1) := by decide +kernel
theorem dX6_init_19 : decode cX6_init 19 = .ok (.goto 6, 3) := by decide +kernel
theorem dX6_init_22 : decode cX6_init 22 = .ok (.iload_n 1, 1) := by decide +kernel
theorem dX6_init_23 : decode cX6_init 23 = .ok (.iload_n 2, 1) := by decide +kernel
theorem dX6_init_24 : decode cX6_init 24 = .ok (.imul, 1) := by decide +kernel
theorem dX6_init_25 : decode cX6_init 25 = .ok (.newarray .int, 2) := by decide +kernel
theorem dX6_init_27 : decode cX6_init 27 = .ok (.putfield 15, 3) := by decide +kernel
theorem dX6_init_30 : decode cX6_init 30 = .ok (.aload_n 0, 1) := by decide +kernel
theorem dX6_init_31 : decode cX6_init 31 = .ok (.iload_n 1, 1) := by decide +kernel
theorem dX6_init_32 : decode cX6_init 32 = .ok (.ifCond .ge 7, 3) := by decide +kernel
theorem dX6_init_35 : decode cX6_init 35 = .ok (.iconst 0, 1) := by decide +kernel
theorem dX6_init_36 : decode cX6_init 36 = .ok (.goto 4, 3) := by decide +kernel
theorem dX6_init_39 : decode cX6_init 39 = .ok (.iload_n 1, 1) := by decide +kernel
theorem dX6_init_40 : decode cX6_init 40 = .ok (.newarray .int, 2) := by decide +kernel
theorem dX6_init_42 : decode cX6_init 42 = .ok (.putfield 19, 3) := by decide +kernel
theorem dX6_init_45 : decode cX6_init 45 = .ok (.return_, 1) := by decide +kernel
theorem dX6_length_0 : decode cX6_length 0 = .ok (.iload_n 1, 1) := by decide +kernel
theorem dX6_length_1 : decode cX6_length 1 = .ok (.ifCond .lt 21, 3) := by decide +kernel
theorem dX6_length_4 : decode cX6_length 4 = .ok (.iload_n 1, 1) := by decide +kernel
theorem dX6_length_5 : decode cX6_length 5 = .ok (.aload_n 0, 1) := by decide +kernel
theorem dX6_length_6 : decode cX6_length 6 = .ok (.getfield 19, 3) := by decide +kernel
theorem dX6_length_9 : decode cX6_length 9 = .ok (.arraylength, 1) := by decide +kernel
theorem dX6_length_10 : decode cX6_length 10 = .ok (.if_icmp .ge 12, 3) := by decide +kernel
theorem dX6_length_13 : decode cX6_length 13 = .ok (.aload_n 0, 1) := by decide +kernel
theorem dX6_length_14 : decode cX6_length 14 = .ok (.getfield 19, 3) := by decide +kernel
theorem dX6_length_17 : decode cX6_length 17 = .ok (.iload_n 1, 1) := by decide +kernel
theorem dX6_length_18 : decode cX6_length 18 = .ok (.iaload, 1) := by decide +kernel
theorem dX6_length_19 : decode cX6_length 19 = .ok (.goto 4, 3) := by decide +kernel
theorem dX6_length_22 : decode cX6_length 22 = .ok (.iconst 0, 1) := by decide +kernel
theorem dX6_length_23 : decode cX6_length 23 = .ok (.ireturn, 1) := by decide +kernel
theorem dX6_holds_0 : decode cX6_holds 0 = .ok (.iload_n 1, 1) := by decide +kernel
theorem dX6_holds_1 : decode cX6_holds 1 = .ok (.ifCond .lt 30, 3) := by decide +kernel
theorem dX6_holds_4 : decode cX6_holds 4 = .ok (.iload_n 1, 1) := by decide +kernel
theorem dX6_holds_5 : decode cX6_holds 5 = .ok (.aload_n 0, 1) := by decide +kernel
theorem dX6_holds_6 : decode cX6_holds 6 = .ok (.getfield 19, 3) := by decide +kernel
theorem dX6_holds_9 : decode cX6_holds 9 = .ok (.arraylength, 1) := by decide +kernel
theorem dX6_holds_10 : decode cX6_holds 10 = .ok (.if_icmp .ge 21, 3) := by decide +kernel
theorem dX6_holds_13 : decode cX6_holds 13 = .ok (.iload_n 2, 1) := by decide +kernel
theorem dX6_holds_14 : decode cX6_holds 14 = .ok (.ifCond .lt 17, 3) := by decide +kernel
theorem dX6_holds_17 : decode cX6_holds 17 = .ok (.iload_n 2, 1) := by decide +kernel
theorem dX6_holds_18 : decode cX6_holds 18 = .ok (.aload_n 0, 1) := by decide +kernel
theorem dX6_holds_19 : decode cX6_holds 19 = .ok (.getfield 19, 3) := by decide +kernel
theorem dX6_holds_22 : decode cX6_holds 22 = .ok (.iload_n 1, 1) := by decide +kernel
theorem dX6_holds_23 : decode cX6_holds 23 = .ok (.iaload, 1) := by decide +kernel
theorem dX6_holds_24 : decode cX6_holds 24 = .ok (.if_icmp .ge 7, 3) := by decide +kernel
theorem dX6_holds_27 : decode cX6_holds 27 = .ok (.iconst 1, 1) := by decide +kernel
theorem dX6_holds_28 : decode cX6_holds 28 = .ok (.goto 4, 3) := by decide +kernel
theorem dX6_holds_31 : decode cX6_holds 31 = .ok (.iconst 0, 1) := by decide +kernel
theorem dX6_holds_32 : decode cX6_holds 32 = .ok (.ireturn, 1) := by decide +kernel
theorem dX6_sign_0 : decode cX6_sign 0 = .ok (.iload_n 1, 1) := by decide +kernel
theorem dX6_sign_1 : decode cX6_sign 1 = .ok (.ifCond .lt 26, 3) := by decide +kernel
theorem dX6_sign_4 : decode cX6_sign 4 = .ok (.iload_n 1, 1) := by decide +kernel
theorem dX6_sign_5 : decode cX6_sign 5 = .ok (.aload_n 0, 1) := by decide +kernel
theorem dX6_sign_6 : decode cX6_sign 6 = .ok (.getfield 19, 3) := by decide +kernel
theorem dX6_sign_9 : decode cX6_sign 9 = .ok (.arraylength, 1) := by decide +kernel
theorem dX6_sign_10 : decode cX6_sign 10 = .ok (.if_icmp .ge 17, 3) := by decide +kernel
theorem dX6_sign_13 : decode cX6_sign 13 = .ok (.iload_n 2, 1) := by decide +kernel
theorem dX6_sign_14 : decode cX6_sign 14 = .ok (.ifCond .lt 13, 3) := by decide +kernel
theorem dX6_sign_17 : decode cX6_sign 17 = .ok (.iload_n 2, 1) := by decide +kernel
theorem dX6_sign_18 : decode cX6_sign 18 = .ok (.aload_n 0, 1) := by decide +kernel
theorem dX6_sign_19 : decode cX6_sign 19 = .ok (.getfield 19, 3) := by decide +kernel
theorem dX6_sign_22 : decode cX6_sign 22 = .ok (.iload_n 1, 1) := by decide +kernel
theorem dX6_sign_23 : decode cX6_sign 23 = .ok (.iaload, 1) := by decide +kernel
theorem dX6_sign_24 : decode cX6_sign 24 = .ok (.if_icmp .lt 5, 3) := by decide +kernel
theorem dX6_sign_27 : decode cX6_sign 27 = .ok (.iconst (-1), 1) := by decide +kernel
theorem dX6_sign_28 : decode cX6_sign 28 = .ok (.ireturn, 1) := by decide +kernel
theorem dX6_sign_29 : decode cX6_sign 29 = .ok (.iload_n 1, 1) := by decide +kernel
theorem dX6_sign_30 : decode cX6_sign 30 = .ok (.aload_n 0, 1) := by decide +kernel
theorem dX6_sign_31 : decode cX6_sign 31 = .ok (.getfield 9, 3) := by decide +kernel
theorem dX6_sign_34 : decode cX6_sign 34 = .ok (.imul, 1) := by decide +kernel
theorem dX6_sign_35 : decode cX6_sign 35 = .ok (.iload_n 2, 1) := by decide +kernel
theorem dX6_sign_36 : decode cX6_sign 36 = .ok (.iadd, 1) := by decide +kernel
theorem dX6_sign_37 : decode cX6_sign 37 = .ok (.istore_n 3, 1) := by decide +kernel
theorem dX6_sign_38 : decode cX6_sign 38 = .ok (.iload_n 3, 1) := by decide +kernel
theorem dX6_sign_39 : decode cX6_sign 39 = .ok (.ifCond .lt 21, 3) := by decide +kernel
theorem dX6_sign_42 : decode cX6_sign 42 = .ok (.iload_n 3, 1) := by decide +kernel
theorem dX6_sign_43 : decode cX6_sign 43 = .ok (.aload_n 0, 1) := by decide +kernel
theorem dX6_sign_44 : decode cX6_sign 44 = .ok (.getfield 15, 3) := by decide +kernel
theorem dX6_sign_47 : decode cX6_sign 47 = .ok (.arraylength, 1) := by decide +kernel
theorem dX6_sign_48 : decode cX6_sign 48 = .ok (.if_icmp .ge 12, 3) := by decide +kernel
theorem dX6_sign_51 : decode cX6_sign 51 = .ok (.aload_n 0, 1) := by decide +kernel
theorem dX6_sign_52 : decode cX6_sign 52 = .ok (.getfield 15, 3) := by decide +kernel
theorem dX6_sign_55 : decode cX6_sign 55 = .ok (.iload_n 3, 1) := by decide +kernel
theorem dX6_sign_56 : decode cX6_sign 56 = .ok (.iaload, 1) := by decide +kernel
theorem dX6_sign_57 : decode cX6_sign 57 = .ok (.goto 4, 3) := by decide +kernel
theorem dX6_sign_60 : decode cX6_sign 60 = .ok (.iconst (-1), 1) := by decide +kernel
theorem dX6_sign_61 : decode cX6_sign 61 = .ok (.ireturn, 1) := by decide +kernel
theorem dX6_clear_0 : decode cX6_clear 0 = .ok (.iload_n 1, 1) := by decide +kernel
theorem dX6_clear_1 : decode cX6_clear 1 = .ok (.ifCond .lt 19, 3) := by decide +kernel
theorem dX6_clear_4 : decode cX6_clear 4 = .ok (.iload_n 1, 1) := by decide +kernel
theorem dX6_clear_5 : decode cX6_clear 5 = .ok (.aload_n 0, 1) := by decide +kernel
theorem dX6_clear_6 : decode cX6_clear 6 = .ok (.getfield 19, 3) := by decide +kernel
theorem dX6_clear_9 : decode cX6_clear 9 = .ok (.arraylength, 1) := by decide +kernel
theorem dX6_clear_10 : decode cX6_clear 10 = .ok (.if_icmp .ge 10, 3) := by decide +kernel
theorem dX6_clear_13 : decode cX6_clear 13 = .ok (.aload_n 0, 1) := by decide +kernel
theorem dX6_clear_14 : decode cX6_clear 14 = .ok (.getfield 19, 3) := by decide +kernel
theorem dX6_clear_17 : decode cX6_clear 17 = .ok (.iload_n 1, 1) := by decide +kernel
theorem dX6_clear_18 : decode cX6_clear 18 = .ok (.iconst 0, 1) := by decide +kernel
theorem dX6_clear_19 : decode cX6_clear 19 = .ok (.iastore, 1) := by decide +kernel
theorem dX6_clear_20 : decode cX6_clear 20 = .ok (.return_, 1) := by decide +kernel
theorem dX6_add_0 : decode cX6_add 0 = .ok (.iload_n 1, 1) := by decide +kernel
theorem dX6_add_1 : decode cX6_add 1 = .ok (.ifCond .lt 25, 3) := by decide +kernel
theorem dX6_add_4 : decode cX6_add 4 = .ok (.iload_n 1, 1) := by decide +kernel
theorem dX6_add_5 : decode cX6_add 5 = .ok (.aload_n 0, 1) := by decide +kernel
theorem dX6_add_6 : decode cX6_add 6 = .ok (.getfield 19, 3) := by decide +kernel
theorem dX6_add_9 : decode cX6_add 9 = .ok (.arraylength, 1) := by decide +kernel
theorem dX6_add_10 : decode cX6_add 10 = .ok (.if_icmp .ge 16, 3) := by decide +kernel
theorem dX6_add_13 : decode cX6_add 13 = .ok (.aload_n 0, 1) := by decide +kernel
theorem dX6_add_14 : decode cX6_add 14 = .ok (.getfield 19, 3) := by decide +kernel
theorem dX6_add_17 : decode cX6_add 17 = .ok (.iload_n 1, 1) := by decide +kernel
theorem dX6_add_18 : decode cX6_add 18 = .ok (.iaload, 1) := by decide +kernel
theorem dX6_add_19 : decode cX6_add 19 = .ok (.aload_n 0, 1) := by decide +kernel
theorem dX6_add_20 : decode cX6_add 20 = .ok (.getfield 9, 3) := by decide +kernel
theorem dX6_add_23 : decode cX6_add 23 = .ok (.if_icmp .lt 4, 3) := by decide +kernel
theorem dX6_add_26 : decode cX6_add 26 = .ok (.return_, 1) := by decide +kernel
theorem dX6_add_27 : decode cX6_add 27 = .ok (.iload_n 1, 1) := by decide +kernel
theorem dX6_add_28 : decode cX6_add 28 = .ok (.aload_n 0, 1) := by decide +kernel
theorem dX6_add_29 : decode cX6_add 29 = .ok (.getfield 9, 3) := by decide +kernel
theorem dX6_add_32 : decode cX6_add 32 = .ok (.imul, 1) := by decide +kernel
theorem dX6_add_33 : decode cX6_add 33 = .ok (.aload_n 0, 1) := by decide +kernel
theorem dX6_add_34 : decode cX6_add 34 = .ok (.getfield 19, 3) := by decide +kernel
theorem dX6_add_37 : decode cX6_add 37 = .ok (.iload_n 1, 1) := by decide +kernel
theorem dX6_add_38 : decode cX6_add 38 = .ok (.iaload, 1) := by decide +kernel
theorem dX6_add_39 : decode cX6_add 39 = .ok (.iadd, 1) := by decide +kernel
theorem dX6_add_40 : decode cX6_add 40 = .ok (.istore_n 3, 1) := by decide +kernel
theorem dX6_add_41 : decode cX6_add 41 = .ok (.iload_n 3, 1) := by decide +kernel
theorem dX6_add_42 : decode cX6_add 42 = .ok (.ifCond .lt 29, 3) := by decide +kernel
theorem dX6_add_45 : decode cX6_add 45 = .ok (.iload_n 3, 1) := by decide +kernel
theorem dX6_add_46 : decode cX6_add 46 = .ok (.aload_n 0, 1) := by decide +kernel
theorem dX6_add_47 : decode cX6_add 47 = .ok (.getfield 15, 3) := by decide +kernel
theorem dX6_add_50 : decode cX6_add 50 = .ok (.arraylength, 1) := by decide +kernel
theorem dX6_add_51 : decode cX6_add 51 = .ok (.if_icmp .ge 20, 3) := by decide +kernel
theorem dX6_add_54 : decode cX6_add 54 = .ok (.aload_n 0, 1) := by decide +kernel
theorem dX6_add_55 : decode cX6_add 55 = .ok (.getfield 15, 3) := by decide +kernel
theorem dX6_add_58 : decode cX6_add 58 = .ok (.iload_n 3, 1) := by decide +kernel
theorem dX6_add_59 : decode cX6_add 59 = .ok (.iload_n 2, 1) := by decide +kernel
theorem dX6_add_60 : decode cX6_add 60 = .ok (.iastore, 1) := by decide +kernel
theorem dX6_add_61 : decode cX6_add 61 = .ok (.aload_n 0, 1) := by decide +kernel
theorem dX6_add_62 : decode cX6_add 62 = .ok (.getfield 19, 3) := by decide +kernel
theorem dX6_add_65 : decode cX6_add 65 = .ok (.iload_n 1, 1) := by decide +kernel
theorem dX6_add_66 : decode cX6_add 66 = .ok (.dup2, 1) := by decide +kernel
theorem dX6_add_67 : decode cX6_add 67 = .ok (.iaload, 1) := by decide +kernel
theorem dX6_add_68 : decode cX6_add 68 = .ok (.iconst 1, 1) := by decide +kernel
theorem dX6_add_69 : decode cX6_add 69 = .ok (.iadd, 1) := by decide +kernel
theorem dX6_add_70 : decode cX6_add 70 = .ok (.iastore, 1) := by decide +kernel
theorem dX6_add_71 : decode cX6_add 71 = .ok (.return_, 1) := by decide +kernel
theorem dX6_append_0 : decode cX6_append 0 = .ok (.iload 5, 2) := by decide +kernel
theorem dX6_append_2 : decode cX6_append 2 = .ok (.iload 4, 2) := by decide +kernel
theorem dX6_append_4 : decode cX6_append 4 = .ok (.isub, 1) := by decide +kernel
theorem dX6_append_5 : decode cX6_append 5 = .ok (.istore 6, 2) := by decide +kernel
theorem dX6_append_7 : decode cX6_append 7 = .ok (.iload_n 1, 1) := by decide +kernel
theorem dX6_append_8 : decode cX6_append 8 = .ok (.ifCond .lt 33, 3) := by decide +kernel
theorem dX6_append_11 : decode cX6_append 11 = .ok (.iload_n 1, 1) := by decide +kernel
theorem dX6_append_12 : decode cX6_append 12 = .ok (.aload_n 0, 1) := by decide +kernel
theorem dX6_append_13 : decode cX6_append 13 = .ok (.getfield 19, 3) := by decide +kernel
theorem dX6_append_16 : decode cX6_append 16 = .ok (.arraylength, 1) := by decide +kernel
theorem dX6_append_17 : decode cX6_append 17 = .ok (.if_icmp .ge 24, 3) := by decide +kernel
theorem dX6_append_20 : decode cX6_append 20 = .ok (.iload 6, 2) := by decide +kernel
theorem dX6_append_22 : decode cX6_append 22 = .ok (.ifCond .lt 19, 3) := by decide +kernel
theorem dX6_append_25 : decode cX6_append 25 = .ok (.iload 6, 2) := by decide +kernel
theorem dX6_append_27 : decode cX6_append 27 = .ok (.aload_n 0, 1) := by decide +kernel
theorem dX6_append_28 : decode cX6_append 28 = .ok (.getfield 9, 3) := by decide +kernel
theorem dX6_append_31 : decode cX6_append 31 = .ok (.aload_n 0, 1) := by decide +kernel
theorem dX6_append_32 : decode cX6_append 32 = .ok (.getfield 19, 3) := by decide +kernel
theorem dX6_append_35 : decode cX6_append 35 = .ok (.iload_n 1, 1) := by decide +kernel
theorem dX6_append_36 : decode cX6_append 36 = .ok (.iaload, 1) := by decide +kernel
theorem dX6_append_37 : decode cX6_append 37 = .ok (.isub, 1) := by decide +kernel
theorem dX6_append_38 : decode cX6_append 38 = .ok (.if_icmp .le 5, 3) := by decide +kernel
theorem dX6_append_41 : decode cX6_append 41 = .ok (.iconst 0, 1) := by decide +kernel
theorem dX6_append_42 : decode cX6_append 42 = .ok (.ireturn, 1) := by decide +kernel
theorem dX6_append_43 : decode cX6_append 43 = .ok (.iload_n 1, 1) := by decide +kernel
theorem dX6_append_44 : decode cX6_append 44 = .ok (.aload_n 0, 1) := by decide +kernel
theorem dX6_append_45 : decode cX6_append 45 = .ok (.getfield 9, 3) := by decide +kernel
theorem dX6_append_48 : decode cX6_append 48 = .ok (.imul, 1) := by decide +kernel
theorem dX6_append_49 : decode cX6_append 49 = .ok (.aload_n 0, 1) := by decide +kernel
theorem dX6_append_50 : decode cX6_append 50 = .ok (.getfield 19, 3) := by decide +kernel
theorem dX6_append_53 : decode cX6_append 53 = .ok (.iload_n 1, 1) := by decide +kernel
theorem dX6_append_54 : decode cX6_append 54 = .ok (.iaload, 1) := by decide +kernel
theorem dX6_append_55 : decode cX6_append 55 = .ok (.iadd, 1) := by decide +kernel
theorem dX6_append_56 : decode cX6_append 56 = .ok (.istore 7, 2) := by decide +kernel
theorem dX6_append_58 : decode cX6_append 58 = .ok (.iload_n 3, 1) := by decide +kernel
theorem dX6_append_59 : decode cX6_append 59 = .ok (.aload_n 2, 1) := by decide +kernel
theorem dX6_append_60 : decode cX6_append 60 = .ok (.getfield 9, 3) := by decide +kernel
theorem dX6_append_63 : decode cX6_append 63 = .ok (.imul, 1) := by decide +kernel
theorem dX6_append_64 : decode cX6_append 64 = .ok (.iload 4, 2) := by decide +kernel
theorem dX6_append_66 : decode cX6_append 66 = .ok (.iadd, 1) := by decide +kernel
theorem dX6_append_67 : decode cX6_append 67 = .ok (.istore 8, 2) := by decide +kernel
theorem dX6_append_69 : decode cX6_append 69 = .ok (.iconst 0, 1) := by decide +kernel
theorem dX6_append_70 : decode cX6_append 70 = .ok (.istore 9, 2) := by decide +kernel
theorem dX6_append_72 : decode cX6_append 72 = .ok (.iload 9, 2) := by decide +kernel
theorem dX6_append_74 : decode cX6_append 74 = .ok (.iload 6, 2) := by decide +kernel
theorem dX6_append_76 : decode cX6_append 76 = .ok (.if_icmp .ge 69, 3) := by decide +kernel
theorem dX6_append_79 : decode cX6_append 79 = .ok (.iload 7, 2) := by decide +kernel
theorem dX6_append_81 : decode cX6_append 81 = .ok (.iload 9, 2) := by decide +kernel
theorem dX6_append_83 : decode cX6_append 83 = .ok (.iadd, 1) := by decide +kernel
theorem dX6_append_84 : decode cX6_append 84 = .ok (.istore 10, 2) := by decide +kernel
theorem dX6_append_86 : decode cX6_append 86 = .ok (.iload 8, 2) := by decide +kernel
theorem dX6_append_88 : decode cX6_append 88 = .ok (.iload 9, 2) := by decide +kernel
theorem dX6_append_90 : decode cX6_append 90 = .ok (.iadd, 1) := by decide +kernel
theorem dX6_append_91 : decode cX6_append 91 = .ok (.istore 11, 2) := by decide +kernel
theorem dX6_append_93 : decode cX6_append 93 = .ok (.iload 10, 2) := by decide +kernel
theorem dX6_append_95 : decode cX6_append 95 = .ok (.ifCond .lt 28, 3) := by decide +kernel
theorem dX6_append_98 : decode cX6_append 98 = .ok (.iload 10, 2) := by decide +kernel
theorem dX6_append_100 : decode cX6_append 100 = .ok (.aload_n 0, 1) := by decide +kernel
theorem dX6_append_101 : decode cX6_append 101 = .ok (.getfield 15, 3) := by decide +kernel
theorem dX6_append_104 : decode cX6_append 104 = .ok (.arraylength, 1) := by decide +kernel
theorem dX6_append_105 : decode cX6_append 105 = .ok (.if_icmp .ge 18, 3) := by decide +kernel
theorem dX6_append_108 : decode cX6_append 108 = .ok (.iload 11, 2) := by decide +kernel
theorem dX6_append_110 : decode cX6_append 110 = .ok (.ifCond .lt 13, 3) := by decide +kernel
theorem dX6_append_113 : decode cX6_append 113 = .ok (.iload 11, 2) := by decide +kernel
theorem dX6_append_115 : decode cX6_append 115 = .ok (.aload_n 2, 1) := by decide +kernel
theorem dX6_append_116 : decode cX6_append 116 = .ok (.getfield 15, 3) := by decide +kernel
theorem dX6_append_119 : decode cX6_append 119 = .ok (.arraylength, 1) := by decide +kernel
theorem dX6_append_120 : decode cX6_append 120 = .ok (.if_icmp .lt 5, 3) := by decide +kernel
theorem dX6_append_123 : decode cX6_append 123 = .ok (.iconst 0, 1) := by decide +kernel
theorem dX6_append_124 : decode cX6_append 124 = .ok (.ireturn, 1) := by decide +kernel
theorem dX6_append_125 : decode cX6_append 125 = .ok (.aload_n 0, 1) := by decide +kernel
theorem dX6_append_126 : decode cX6_append 126 = .ok (.getfield 15, 3) := by decide +kernel
theorem dX6_append_129 : decode cX6_append 129 = .ok (.iload 10, 2) := by decide +kernel
theorem dX6_append_131 : decode cX6_append 131 = .ok (.aload_n 2, 1) := by decide +kernel
theorem dX6_append_132 : decode cX6_append 132 = .ok (.getfield 15, 3) := by decide +kernel
theorem dX6_append_135 : decode cX6_append 135 = .ok (.iload 11, 2) := by decide +kernel
theorem dX6_append_137 : decode cX6_append 137 = .ok (.iaload, 1) := by decide +kernel
theorem dX6_append_138 : decode cX6_append 138 = .ok (.iastore, 1) := by decide +kernel
theorem dX6_append_139 : decode cX6_append 139 = .ok (.iinc 9 1, 3) := by decide +kernel
theorem dX6_append_142 : decode cX6_append 142 = .ok (.goto (-70), 3) := by decide +kernel
theorem dX6_append_145 : decode cX6_append 145 = .ok (.aload_n 0, 1) := by decide +kernel
theorem dX6_append_146 : decode cX6_append 146 = .ok (.getfield 19, 3) := by decide +kernel
theorem dX6_append_149 : decode cX6_append 149 = .ok (.iload_n 1, 1) := by decide +kernel
theorem dX6_append_150 : decode cX6_append 150 = .ok (.dup2, 1) := by decide +kernel
theorem dX6_append_151 : decode cX6_append 151 = .ok (.iaload, 1) := by decide +kernel
theorem dX6_append_152 : decode cX6_append 152 = .ok (.iload 6, 2) := by decide +kernel
theorem dX6_append_154 : decode cX6_append 154 = .ok (.iadd, 1) := by decide +kernel
theorem dX6_append_155 : decode cX6_append 155 = .ok (.iastore, 1) := by decide +kernel
theorem dX6_append_156 : decode cX6_append 156 = .ok (.iconst 1, 1) := by decide +kernel
theorem dX6_append_157 : decode cX6_append 157 = .ok (.ireturn, 1) := by decide +kernel
theorem dX6_appendAll_0 : decode cX6_appendAll 0 = .ok (.aload_n 0, 1) := by decide +kernel
theorem dX6_appendAll_1 : decode cX6_appendAll 1 = .ok (.iload_n 1, 1) := by decide +kernel
theorem dX6_appendAll_2 : decode cX6_appendAll 2 = .ok (.aload_n 2, 1) := by decide +kernel
theorem dX6_appendAll_3 : decode cX6_appendAll 3 = .ok (.iload_n 3, 1) := by decide +kernel
theorem dX6_appendAll_4 : decode cX6_appendAll 4 = .ok (.iconst 0, 1) := by decide +kernel
theorem dX6_appendAll_5 : decode cX6_appendAll 5 = .ok (.aload_n 2, 1) := by decide +kernel
theorem dX6_appendAll_6 : decode cX6_appendAll 6 = .ok (.iload_n 3, 1) := by decide +kernel
theorem dX6_appendAll_7 : decode cX6_appendAll 7 = .ok (.invokevirtual 22, 3) := by decide +kernel
theorem dX6_appendAll_10 : decode cX6_appendAll 10 = .ok (.invokevirtual 26, 3) := by decide +kernel
theorem dX6_appendAll_13 : decode cX6_appendAll 13 = .ok (.ireturn, 1) := by decide +kernel
theorem dX6_copy_0 : decode cX6_copy 0 = .ok (.aload_n 0, 1) := by decide +kernel
theorem dX6_copy_1 : decode cX6_copy 1 = .ok (.iload_n 1, 1) := by decide +kernel
theorem dX6_copy_2 : decode cX6_copy 2 = .ok (.invokevirtual 30, 3) := by decide +kernel
theorem dX6_copy_5 : decode cX6_copy 5 = .ok (.aload_n 0, 1) := by decide +kernel
theorem dX6_copy_6 : decode cX6_copy 6 = .ok (.iload_n 1, 1) := by decide +kernel
theorem dX6_copy_7 : decode cX6_copy 7 = .ok (.aload_n 2, 1) := by decide +kernel
theorem dX6_copy_8 : decode cX6_copy 8 = .ok (.iload_n 3, 1) := by decide +kernel
theorem dX6_copy_9 : decode cX6_copy 9 = .ok (.iconst 0, 1) := by decide +kernel
theorem dX6_copy_10 : decode cX6_copy 10 = .ok (.aload_n 2, 1) := by decide +kernel
theorem dX6_copy_11 : decode cX6_copy 11 = .ok (.iload_n 3, 1) := by decide +kernel
theorem dX6_copy_12 : decode cX6_copy 12 = .ok (.invokevirtual 22, 3) := by decide +kernel
theorem dX6_copy_15 : decode cX6_copy 15 = .ok (.invokevirtual 26, 3) := by decide +kernel
theorem dX6_copy_18 : decode cX6_copy 18 = .ok (.pop, 1) := by decide +kernel
theorem dX6_copy_19 : decode cX6_copy 19 = .ok (.return_, 1) := by decide +kernel
theorem dX6_copyAll_0 : decode cX6_copyAll 0 = .ok (.iconst 0, 1) := by decide +kernel
theorem dX6_copyAll_1 : decode cX6_copyAll 1 = .ok (.istore_n 2, 1) := by decide +kernel
theorem dX6_copyAll_2 : decode cX6_copyAll 2 = .ok (.iload_n 2, 1) := by decide +kernel
theorem dX6_copyAll_3 : decode cX6_copyAll 3 = .ok (.aload_n 0, 1) := by decide +kernel
theorem dX6_copyAll_4 : decode cX6_copyAll 4 = .ok (.getfield 19, 3) := by decide +kernel
theorem dX6_copyAll_7 : decode cX6_copyAll 7 = .ok (.arraylength, 1) := by decide +kernel
theorem dX6_copyAll_8 : decode cX6_copyAll 8 = .ok (.if_icmp .ge 16, 3) := by decide +kernel
theorem dX6_copyAll_11 : decode cX6_copyAll 11 = .ok (.aload_n 0, 1) := by decide +kernel
theorem dX6_copyAll_12 : decode cX6_copyAll 12 = .ok (.iload_n 2, 1) := by decide +kernel
theorem dX6_copyAll_13 : decode cX6_copyAll 13 = .ok (.aload_n 1, 1) := by decide +kernel
theorem dX6_copyAll_14 : decode cX6_copyAll 14 = .ok (.iload_n 2, 1) := by decide +kernel
theorem dX6_copyAll_15 : decode cX6_copyAll 15 = .ok (.invokevirtual 34, 3) := by decide +kernel
theorem dX6_copyAll_18 : decode cX6_copyAll 18 = .ok (.iinc 2 1, 3) := by decide +kernel
theorem dX6_copyAll_21 : decode cX6_copyAll 21 = .ok (.goto (-19), 3) := by decide +kernel
theorem dX6_copyAll_24 : decode cX6_copyAll 24 = .ok (.return_, 1) := by decide +kernel
theorem dX6_contains_0 : decode cX6_contains 0 = .ok (.iload_n 1, 1) := by decide +kernel
theorem dX6_contains_1 : decode cX6_contains 1 = .ok (.ifCond .lt 12, 3) := by decide +kernel
theorem dX6_contains_4 : decode cX6_contains 4 = .ok (.iload_n 1, 1) := by decide +kernel
theorem dX6_contains_5 : decode cX6_contains 5 = .ok (.aload_n 0, 1) := by decide +kernel
theorem dX6_contains_6 : decode cX6_contains 6 = .ok (.getfield 19, 3) := by decide +kernel
theorem dX6_contains_9 : decode cX6_contains 9 = .ok (.arraylength, 1) := by decide +kernel
theorem dX6_contains_10 : decode cX6_contains 10 = .ok (.if_icmp .lt 5, 3) := by decide +kernel
theorem dX6_contains_13 : decode cX6_contains 13 = .ok (.iconst 0, 1) := by decide +kernel
theorem dX6_contains_14 : decode cX6_contains 14 = .ok (.ireturn, 1) := by decide +kernel
theorem dX6_contains_15 : decode cX6_contains 15 = .ok (.iload_n 1, 1) := by decide +kernel
theorem dX6_contains_16 : decode cX6_contains 16 = .ok (.aload_n 0, 1) := by decide +kernel
theorem dX6_contains_17 : decode cX6_contains 17 = .ok (.getfield 9, 3) := by decide +kernel
theorem dX6_contains_20 : decode cX6_contains 20 = .ok (.imul, 1) := by decide +kernel
theorem dX6_contains_21 : decode cX6_contains 21 = .ok (.istore_n 3, 1) := by decide +kernel
theorem dX6_contains_22 : decode cX6_contains 22 = .ok (.iconst 0, 1) := by decide +kernel
theorem dX6_contains_23 : decode cX6_contains 23 = .ok (.istore 4, 2) := by decide +kernel
theorem dX6_contains_25 : decode cX6_contains 25 = .ok (.iload 4, 2) := by decide +kernel
theorem dX6_contains_27 : decode cX6_contains 27 = .ok (.aload_n 0, 1) := by decide +kernel
theorem dX6_contains_28 : decode cX6_contains 28 = .ok (.getfield 19, 3) := by decide +kernel
theorem dX6_contains_31 : decode cX6_contains 31 = .ok (.iload_n 1, 1) := by decide +kernel
theorem dX6_contains_32 : decode cX6_contains 32 = .ok (.iaload, 1) := by decide +kernel
theorem dX6_contains_33 : decode cX6_contains 33 = .ok (.if_icmp .ge 43, 3) := by decide +kernel
theorem dX6_contains_36 : decode cX6_contains 36 = .ok (.iload_n 3, 1) := by decide +kernel
theorem dX6_contains_37 : decode cX6_contains 37 = .ok (.iload 4, 2) := by decide +kernel
theorem dX6_contains_39 : decode cX6_contains 39 = .ok (.iadd, 1) := by decide +kernel
theorem dX6_contains_40 : decode cX6_contains 40 = .ok (.istore 5, 2) := by decide +kernel
theorem dX6_contains_42 : decode cX6_contains 42 = .ok (.iload 5, 2) := by decide +kernel
theorem dX6_contains_44 : decode cX6_contains 44 = .ok (.ifCond .lt 26, 3) := by decide +kernel
theorem dX6_contains_47 : decode cX6_contains 47 = .ok (.iload 5, 2) := by decide +kernel
theorem dX6_contains_49 : decode cX6_contains 49 = .ok (.aload_n 0, 1) := by decide +kernel
theorem dX6_contains_50 : decode cX6_contains 50 = .ok (.getfield 15, 3) := by decide +kernel
theorem dX6_contains_53 : decode cX6_contains 53 = .ok (.arraylength, 1) := by decide +kernel
theorem dX6_contains_54 : decode cX6_contains 54 = .ok (.if_icmp .ge 16, 3) := by decide +kernel
theorem dX6_contains_57 : decode cX6_contains 57 = .ok (.aload_n 0, 1) := by decide +kernel
theorem dX6_contains_58 : decode cX6_contains 58 = .ok (.getfield 15, 3) := by decide +kernel
theorem dX6_contains_61 : decode cX6_contains 61 = .ok (.iload 5, 2) := by decide +kernel
theorem dX6_contains_63 : decode cX6_contains 63 = .ok (.iaload, 1) := by decide +kernel
theorem dX6_contains_64 : decode cX6_contains 64 = .ok (.iload_n 2, 1) := by decide +kernel
theorem dX6_contains_65 : decode cX6_contains 65 = .ok (.if_icmp .ne 5, 3) := by decide +kernel
theorem dX6_contains_68 : decode cX6_contains 68 = .ok (.iconst 1, 1) := by decide +kernel
theorem dX6_contains_69 : decode cX6_contains 69 = .ok (.ireturn, 1) := by decide +kernel
theorem dX6_contains_70 : decode cX6_contains 70 = .ok (.iinc 4 1, 3) := by decide +kernel
theorem dX6_contains_73 : decode cX6_contains 73 = .ok (.goto (-48), 3) := by decide +kernel
theorem dX6_contains_76 : decode cX6_contains 76 = .ok (.iconst 0, 1) := by decide +kernel
theorem dX6_contains_77 : decode cX6_contains 77 = .ok (.ireturn, 1) := by decide +kernel
theorem dX6_hasThere_0 : decode cX6_hasThere 0 = .ok (.aload_n 3, 1) := by decide +kernel
theorem dX6_hasThere_1 : decode cX6_hasThere 1 = .ok (.iload 4, 2) := by decide +kernel
theorem dX6_hasThere_3 : decode cX6_hasThere 3 = .ok (.invokevirtual 22, 3) := by decide +kernel
theorem dX6_hasThere_6 : decode cX6_hasThere 6 = .ok (.istore 5, 2) := by decide +kernel
theorem dX6_hasThere_8 : decode cX6_hasThere 8 = .ok (.iconst 0, 1) := by decide +kernel
theorem dX6_hasThere_9 : decode cX6_hasThere 9 = .ok (.istore 6, 2) := by decide +kernel
theorem dX6_hasThere_11 : decode cX6_hasThere 11 = .ok (.iload 6, 2) := by decide +kernel
theorem dX6_hasThere_13 : decode cX6_hasThere 13 = .ok (.iload 5, 2) := by decide +kernel
theorem dX6_hasThere_15 : decode cX6_hasThere 15 = .ok (.if_icmp .ge 31, 3) := by decide +kernel
theorem dX6_hasThere_18 : decode cX6_hasThere 18 = .ok (.aload_n 0, 1) := by decide +kernel
theorem dX6_hasThere_19 : decode cX6_hasThere 19 = .ok (.iload_n 1, 1) := by decide +kernel
theorem dX6_hasThere_20 : decode cX6_hasThere 20 = .ok (.iload_n 2, 1) := by decide +kernel
theorem dX6_hasThere_21 : decode cX6_hasThere 21 = .ok (.iload 6, 2) := by decide +kernel
theorem dX6_hasThere_23 : decode cX6_hasThere 23 = .ok (.iadd, 1) := by decide +kernel
theorem dX6_hasThere_24 : decode cX6_hasThere 24 = .ok (.invokevirtual 38, 3) := by decide +kernel
theorem dX6_hasThere_27 : decode cX6_hasThere 27 = .ok (.aload_n 3, 1) := by decide +kernel
theorem dX6_hasThere_28 : decode cX6_hasThere 28 = .ok (.iload 4, 2) := by decide +kernel
theorem dX6_hasThere_30 : decode cX6_hasThere 30 = .ok (.iload 6, 2) := by decide +kernel
theorem dX6_hasThere_32 : decode cX6_hasThere 32 = .ok (.invokevirtual 38, 3) := by decide +kernel
theorem dX6_hasThere_35 : decode cX6_hasThere 35 = .ok (.if_icmp .eq 5, 3) := by decide +kernel
theorem dX6_hasThere_38 : decode cX6_hasThere 38 = .ok (.iconst 0, 1) := by decide +kernel
theorem dX6_hasThere_39 : decode cX6_hasThere 39 = .ok (.ireturn, 1) := by decide +kernel
theorem dX6_hasThere_40 : decode cX6_hasThere 40 = .ok (.iinc 6 1, 3) := by decide +kernel
theorem dX6_hasThere_43 : decode cX6_hasThere 43 = .ok (.goto (-32), 3) := by decide +kernel
theorem dX6_hasThere_46 : decode cX6_hasThere 46 = .ok (.iconst 1, 1) := by decide +kernel
theorem dX6_hasThere_47 : decode cX6_hasThere 47 = .ok (.ireturn, 1) := by decide +kernel
theorem dX6_readNumber_0 : decode cX6_readNumber 0 = .ok (.aload_n 0, 1) := by decide +kernel
theorem dX6_readNumber_1 : decode cX6_readNumber 1 = .ok (.iload_n 1, 1) := by decide +kernel
theorem dX6_readNumber_2 : decode cX6_readNumber 2 = .ok (.iconst 0, 1) := by decide +kernel
theorem dX6_readNumber_3 : decode cX6_readNumber 3 = .ok (.invokevirtual 38, 3) := by decide +kernel
theorem dX6_readNumber_6 : decode cX6_readNumber 6 = .ok (.bipush 45, 2) := by decide +kernel
theorem dX6_readNumber_8 : decode cX6_readNumber 8 = .ok (.if_icmp .ne 7, 3) := by decide +kernel
theorem dX6_readNumber_11 : decode cX6_readNumber 11 = .ok (.iconst 1, 1) := by decide +kernel
theorem dX6_readNumber_12 : decode cX6_readNumber 12 = .ok (.goto 4, 3) := by decide +kernel
theorem dX6_readNumber_15 : decode cX6_readNumber 15 = .ok (.iconst 0, 1) := by decide +kernel
theorem dX6_readNumber_16 : decode cX6_readNumber 16 = .ok (.istore_n 2, 1) := by decide +kernel
theorem dX6_readNumber_17 : decode cX6_readNumber 17 = .ok (.aload_n 0, 1) := by decide +kernel
theorem dX6_readNumber_18 : decode cX6_readNumber 18 = .ok (.iload_n 1, 1) := by decide +kernel
theorem dX6_readNumber_19 : decode cX6_readNumber 19 = .ok (.invokevirtual 22, 3) := by decide +kernel
theorem dX6_readNumber_22 : decode cX6_readNumber 22 = .ok (.istore_n 3, 1) := by decide +kernel
theorem dX6_readNumber_23 : decode cX6_readNumber 23 = .ok (.iload_n 3, 1) := by decide +kernel
theorem dX6_readNumber_24 : decode cX6_readNumber 24 = .ok (.iload_n 2, 1) := by decide +kernel
theorem dX6_readNumber_25 : decode cX6_readNumber 25 = .ok (.if_icmp .eq 11, 3) := by decide +kernel
theorem dX6_readNumber_28 : decode cX6_readNumber 28 = .ok (.iload_n 3, 1) := by decide +kernel
theorem dX6_readNumber_29 : decode cX6_readNumber 29 = .ok (.iload_n 2, 1) := by decide +kernel
theorem dX6_readNumber_30 : decode cX6_readNumber 30 = .ok (.bipush 9, 2) := by decide +kernel
theorem dX6_readNumber_32 : decode cX6_readNumber 32 = .ok (.iadd, 1) := by decide +kernel
theorem dX6_readNumber_33 : decode cX6_readNumber 33 = .ok (.if_icmp .le 7, 3) := by decide +kernel
theorem dX6_readNumber_36 : decode cX6_readNumber 36 = .ok (.ldc2_w 42, 3) := by decide +kernel
theorem dX6_readNumber_39 : decode cX6_readNumber 39 = .ok (.lreturn, 1) := by decide +kernel
theorem dX6_readNumber_40 : decode cX6_readNumber 40 = .ok (.lconst 0, 1) := by decide +kernel
theorem dX6_readNumber_41 : decode cX6_readNumber 41 = .ok (.lstore 4, 2) := by decide +kernel
theorem dX6_readNumber_43 : decode cX6_readNumber 43 = .ok (.iload_n 2, 1) := by decide +kernel
theorem dX6_readNumber_44 : decode cX6_readNumber 44 = .ok (.istore 6, 2) := by decide +kernel
theorem dX6_readNumber_46 : decode cX6_readNumber 46 = .ok (.iload 6, 2) := by decide +kernel
theorem dX6_readNumber_48 : decode cX6_readNumber 48 = .ok (.iload_n 3, 1) := by decide +kernel
theorem dX6_readNumber_49 : decode cX6_readNumber 49 = .ok (.if_icmp .ge 49, 3) := by decide +kernel
theorem dX6_readNumber_52 : decode cX6_readNumber 52 = .ok (.aload_n 0, 1) := by decide +kernel
theorem dX6_readNumber_53 : decode cX6_readNumber 53 = .ok (.iload_n 1, 1) := by decide +kernel
theorem dX6_readNumber_54 : decode cX6_readNumber 54 = .ok (.iload 6, 2) := by decide +kernel
theorem dX6_readNumber_56 : decode cX6_readNumber 56 = .ok (.invokevirtual 38, 3) := by decide +kernel
theorem dX6_readNumber_59 : decode cX6_readNumber 59 = .ok (.bipush 48, 2) := by decide +kernel
theorem dX6_readNumber_61 : decode cX6_readNumber 61 = .ok (.isub, 1) := by decide +kernel
theorem dX6_readNumber_62 : decode cX6_readNumber 62 = .ok (.istore 7, 2) := by decide +kernel
theorem dX6_readNumber_64 : decode cX6_readNumber 64 = .ok (.iload 7, 2) := by decide +kernel
theorem dX6_readNumber_66 : decode cX6_readNumber 66 = .ok (.ifCond .lt 10, 3) := by decide +kernel
theorem dX6_readNumber_69 : decode cX6_readNumber 69 = .ok (.iload 7, 2) := by decide +kernel
theorem dX6_readNumber_71 : decode cX6_readNumber 71 = .ok (.bipush 9, 2) := by decide +kernel
theorem dX6_readNumber_73 : decode cX6_readNumber 73 = .ok (.if_icmp .le 7, 3) := by decide +kernel
theorem dX6_readNumber_76 : decode cX6_readNumber 76 = .ok (.ldc2_w 42, 3) := by decide +kernel
theorem dX6_readNumber_79 : decode cX6_readNumber 79 = .ok (.lreturn, 1) := by decide +kernel
theorem dX6_readNumber_80 : decode cX6_readNumber 80 = .ok (.ldc2_w 44, 3) := by decide +kernel
theorem dX6_readNumber_83 : decode cX6_readNumber 83 = .ok (.lload 4, 2) := by decide +kernel
theorem dX6_readNumber_85 : decode cX6_readNumber 85 = .ok (.lmul, 1) := by decide +kernel
theorem dX6_readNumber_86 : decode cX6_readNumber 86 = .ok (.iload 7, 2) := by decide +kernel
theorem dX6_readNumber_88 : decode cX6_readNumber 88 = .ok (.i2l, 1) := by decide +kernel
theorem dX6_readNumber_89 : decode cX6_readNumber 89 = .ok (.ladd, 1) := by decide +kernel
theorem dX6_readNumber_90 : decode cX6_readNumber 90 = .ok (.lstore 4, 2) := by decide +kernel
theorem dX6_readNumber_92 : decode cX6_readNumber 92 = .ok (.iinc 6 1, 3) := by decide +kernel
theorem dX6_readNumber_95 : decode cX6_readNumber 95 = .ok (.goto (-49), 3) := by decide +kernel
theorem dX6_readNumber_98 : decode cX6_readNumber 98 = .ok (.iload_n 2, 1) := by decide +kernel
theorem dX6_readNumber_99 : decode cX6_readNumber 99 = .ok (.iconst 1, 1) := by decide +kernel
theorem dX6_readNumber_100 : decode cX6_readNumber 100 = .ok (.if_icmp .ne 9, 3) := by decide +kernel
theorem dX6_readNumber_103 : decode cX6_readNumber 103 = .ok (.lload 4, 2) := by decide +kernel
theorem dX6_readNumber_105 : decode cX6_readNumber 105 = .ok (.lneg, 1) := by decide +kernel
theorem dX6_readNumber_106 : decode cX6_readNumber 106 = .ok (.goto 5, 3) := by decide +kernel
theorem dX6_readNumber_109 : decode cX6_readNumber 109 = .ok (.lload 4, 2) := by decide +kernel
theorem dX6_readNumber_111 : decode cX6_readNumber 111 = .ok (.lreturn, 1) := by decide +kernel
theorem dX6_writeNumber_0 : decode cX6_writeNumber 0 = .ok (.aload_n 0, 1) := by decide +kernel
theorem dX6_writeNumber_1 : decode cX6_writeNumber 1 = .ok (.iload_n 1, 1) := by decide +kernel
theorem dX6_writeNumber_2 : decode cX6_writeNumber 2 = .ok (.invokevirtual 30, 3) := by decide +kernel
theorem dX6_writeNumber_5 : decode cX6_writeNumber 5 = .ok (.lload_n 2, 1) := by decide +kernel
theorem dX6_writeNumber_6 : decode cX6_writeNumber 6 = .ok (.lconst 0, 1) := by decide +kernel
theorem dX6_writeNumber_7 : decode cX6_writeNumber 7 = .ok (.lcmp, 1) := by decide +kernel
theorem dX6_writeNumber_8 : decode cX6_writeNumber 8 = .ok (.ifCond .ge 10, 3) := by decide +kernel
theorem dX6_writeNumber_11 : decode cX6_writeNumber 11 = .ok (.aload_n 0, 1) := by decide +kernel
theorem dX6_writeNumber_12 : decode cX6_writeNumber 12 = .ok (.iload_n 1, 1) := by decide +kernel
theorem dX6_writeNumber_13 : decode cX6_writeNumber 13 = .ok (.bipush 45, 2) := by decide +kernel
theorem dX6_writeNumber_15 : decode cX6_writeNumber 15 = .ok (.invokevirtual 46, 3) := by decide +kernel
theorem dX6_writeNumber_18 : decode cX6_writeNumber 18 = .ok (.lload_n 2, 1) := by decide +kernel
theorem dX6_writeNumber_19 : decode cX6_writeNumber 19 = .ok (.lconst 0, 1) := by decide +kernel
theorem dX6_writeNumber_20 : decode cX6_writeNumber 20 = .ok (.lcmp, 1) := by decide +kernel
theorem dX6_writeNumber_21 : decode cX6_writeNumber 21 = .ok (.ifCond .ge 8, 3) := by decide +kernel
theorem dX6_writeNumber_24 : decode cX6_writeNumber 24 = .ok (.lload_n 2, 1) := by decide +kernel
theorem dX6_writeNumber_25 : decode cX6_writeNumber 25 = .ok (.lneg, 1) := by decide +kernel
theorem dX6_writeNumber_26 : decode cX6_writeNumber 26 = .ok (.goto 4, 3) := by decide +kernel
theorem dX6_writeNumber_29 : decode cX6_writeNumber 29 = .ok (.lload_n 2, 1) := by decide +kernel
theorem dX6_writeNumber_30 : decode cX6_writeNumber 30 = .ok (.lstore 4, 2) := by decide +kernel
theorem dX6_writeNumber_32 : decode cX6_writeNumber 32 = .ok (.iconst 0, 1) := by decide +kernel
theorem dX6_writeNumber_33 : decode cX6_writeNumber 33 = .ok (.istore 6, 2) := by decide +kernel
theorem dX6_writeNumber_35 : decode cX6_writeNumber 35 = .ok (.ldc2_w 50, 3) := by decide +kernel
theorem dX6_writeNumber_38 : decode cX6_writeNumber 38 = .ok (.lstore 7, 2) := by decide +kernel
theorem dX6_writeNumber_40 : decode cX6_writeNumber 40 = .ok (.lload 7, 2) := by decide +kernel
theorem dX6_writeNumber_42 : decode cX6_writeNumber 42 = .ok (.lconst 0, 1) := by decide +kernel
theorem dX6_writeNumber_43 : decode cX6_writeNumber 43 = .ok (.lcmp, 1) := by decide +kernel
theorem dX6_writeNumber_44 : decode cX6_writeNumber 44 = .ok (.ifCond .le 65, 3) := by decide +kernel
theorem dX6_writeNumber_47 : decode cX6_writeNumber 47 = .ok (.lload 4, 2) := by decide +kernel
theorem dX6_writeNumber_49 : decode cX6_writeNumber 49 = .ok (.lload 7, 2) := by decide +kernel
theorem dX6_writeNumber_51 : decode cX6_writeNumber 51 = .ok (.ldiv, 1) := by decide +kernel
theorem dX6_writeNumber_52 : decode cX6_writeNumber 52 = .ok (.ldc2_w 44, 3) := by decide +kernel
theorem dX6_writeNumber_55 : decode cX6_writeNumber 55 = .ok (.lrem, 1) := by decide +kernel
theorem dX6_writeNumber_56 : decode cX6_writeNumber 56 = .ok (.l2i, 1) := by decide +kernel
theorem dX6_writeNumber_57 : decode cX6_writeNumber 57 = .ok (.istore 9, 2) := by decide +kernel
theorem dX6_writeNumber_59 : decode cX6_writeNumber 59 = .ok (.iload 6, 2) := by decide +kernel
theorem dX6_writeNumber_61 : decode cX6_writeNumber 61 = .ok (.ifCond .ne 15, 3) := by decide +kernel
theorem dX6_writeNumber_64 : decode cX6_writeNumber 64 = .ok (.iload 9, 2) := by decide +kernel
theorem dX6_writeNumber_66 : decode cX6_writeNumber 66 = .ok (.ifCond .gt 10, 3) := by decide +kernel
theorem dX6_writeNumber_69 : decode cX6_writeNumber 69 = .ok (.lload 7, 2) := by decide +kernel
theorem dX6_writeNumber_71 : decode cX6_writeNumber 71 = .ok (.lconst 1, 1) := by decide +kernel
theorem dX6_writeNumber_72 : decode cX6_writeNumber 72 = .ok (.lcmp, 1) := by decide +kernel
theorem dX6_writeNumber_73 : decode cX6_writeNumber 73 = .ok (.ifCond .ne 7, 3) := by decide +kernel
theorem dX6_writeNumber_76 : decode cX6_writeNumber 76 = .ok (.iconst 1, 1) := by decide +kernel
theorem dX6_writeNumber_77 : decode cX6_writeNumber 77 = .ok (.goto 4, 3) := by decide +kernel
theorem dX6_writeNumber_80 : decode cX6_writeNumber 80 = .ok (.iconst 0, 1) := by decide +kernel
theorem dX6_writeNumber_81 : decode cX6_writeNumber 81 = .ok (.istore 6, 2) := by decide +kernel
theorem dX6_writeNumber_83 : decode cX6_writeNumber 83 = .ok (.iload 6, 2) := by decide +kernel
theorem dX6_writeNumber_85 : decode cX6_writeNumber 85 = .ok (.ifCond .eq 13, 3) := by decide +kernel
theorem dX6_writeNumber_88 : decode cX6_writeNumber 88 = .ok (.aload_n 0, 1) := by decide +kernel
theorem dX6_writeNumber_89 : decode cX6_writeNumber 89 = .ok (.iload_n 1, 1) := by decide +kernel
theorem dX6_writeNumber_90 : decode cX6_writeNumber 90 = .ok (.bipush 48, 2) := by decide +kernel
theorem dX6_writeNumber_92 : decode cX6_writeNumber 92 = .ok (.iload 9, 2) := by decide +kernel
theorem dX6_writeNumber_94 : decode cX6_writeNumber 94 = .ok (.iadd, 1) := by decide +kernel
theorem dX6_writeNumber_95 : decode cX6_writeNumber 95 = .ok (.invokevirtual 46, 3) := by decide +kernel
theorem dX6_writeNumber_98 : decode cX6_writeNumber 98 = .ok (.lload 7, 2) := by decide +kernel
theorem dX6_writeNumber_100 : decode cX6_writeNumber 100 = .ok (.ldc2_w 44, 3) := by decide +kernel
theorem dX6_writeNumber_103 : decode cX6_writeNumber 103 = .ok (.ldiv, 1) := by decide +kernel
theorem dX6_writeNumber_104 : decode cX6_writeNumber 104 = .ok (.lstore 7, 2) := by decide +kernel
theorem dX6_writeNumber_106 : decode cX6_writeNumber 106 = .ok (.goto (-66), 3) := by decide +kernel
theorem dX6_writeNumber_109 : decode cX6_writeNumber 109 = .ok (.return_, 1) := by decide +kernel
theorem dX7_init_0 : decode cX7_init 0 = .ok (.aload_n 0, 1) := by decide +kernel
theorem dX7_init_1 : decode cX7_init 1 = .ok (.invokespecial 3, 3) := by decide +kernel
theorem dX7_init_4 : decode cX7_init 4 = .ok (.aload_n 0, 1) := by decide +kernel
theorem dX7_init_5 : decode cX7_init 5 = .ok (.new 9, 3) := by decide +kernel
theorem dX7_init_8 : decode cX7_init 8 = .ok (.dup, 1) := by decide +kernel
theorem dX7_init_9 : decode cX7_init 9 = .ok (.iconst 1, 1) := by decide +kernel
theorem dX7_init_10 : decode cX7_init 10 = .ok (.bipush 60, 2) := by decide +kernel
theorem dX7_init_12 : decode cX7_init 12 = .ok (.invokespecial 11, 3) := by decide +kernel
theorem dX7_init_15 : decode cX7_init 15 = .ok (.putfield 14, 3) := by decide +kernel
theorem dX7_init_18 : decode cX7_init 18 = .ok (.aload_n 0, 1) := by decide +kernel
theorem dX7_init_19 : decode cX7_init 19 = .ok (.new 20, 3) := by decide +kernel
theorem dX7_init_22 : decode cX7_init 22 = .ok (.dup, 1) := by decide +kernel
theorem dX7_init_23 : decode cX7_init 23 = .ok (.bipush 10, 2) := by decide +kernel
theorem dX7_init_25 : decode cX7_init 25 = .ok (.invokespecial 22, 3) := by decide +kernel
theorem dX7_init_28 : decode cX7_init 28 = .ok (.putfield 25, 3) := by decide +kernel
theorem dX7_init_31 : decode cX7_init 31 = .ok (.aload_n 0, 1) := by decide +kernel
theorem dX7_init_32 : decode cX7_init 32 = .ok (.new 9, 3) := by decide +kernel
theorem dX7_init_35 : decode cX7_init 35 = .ok (.dup, 1) := by decide +kernel
theorem dX7_init_36 : decode cX7_init 36 = .ok (.bipush 30, 2) := by decide +kernel
theorem dX7_init_38 : decode cX7_init 38 = .ok (.bipush 60, 2) := by decide +kernel
theorem dX7_init_40 : decode cX7_init 40 = .ok (.invokespecial 11, 3) := by decide +kernel
theorem dX7_init_43 : decode cX7_init 43 = .ok (.putfield 29, 3) := by decide +kernel
theorem dX7_init_46 : decode cX7_init 46 = .ok (.aload_n 0, 1) := by decide +kernel
theorem dX7_init_47 : decode cX7_init 47 = .ok (.new 20, 3) := by decide +kernel
theorem dX7_init_50 : decode cX7_init 50 = .ok (.dup, 1) := by decide +kernel
theorem dX7_init_51 : decode cX7_init 51 = .ok (.bipush 40, 2) := by decide +kernel
theorem dX7_init_53 : decode cX7_init 53 = .ok (.invokespecial 22, 3) := by decide +kernel
theorem dX7_init_56 : decode cX7_init 56 = .ok (.putfield 32, 3) := by decide +kernel
theorem dX7_init_59 : decode cX7_init 59 = .ok (.aload_n 0, 1) := by decide +kernel
theorem dX7_init_60 : decode cX7_init 60 = .ok (.new 20, 3) := by decide +kernel
theorem dX7_init_63 : decode cX7_init 63 = .ok (.dup, 1) := by decide +kernel
theorem dX7_init_64 : decode cX7_init 64 = .ok (.bipush 40, 2) := by decide +kernel
theorem dX7_init_66 : decode cX7_init 66 = .ok (.invokespecial 22, 3) := by decide +kernel
theorem dX7_init_69 : decode cX7_init 69 = .ok (.putfield 35, 3) := by decide +kernel
theorem dX7_init_72 : decode cX7_init 72 = .ok (.aload_n 0, 1) := by decide +kernel
theorem dX7_init_73 : decode cX7_init 73 = .ok (.aload_n 1, 1) := by decide +kernel
theorem dX7_init_74 : decode cX7_init 74 = .ok (.putfield 38, 3) := by decide +kernel
theorem dX7_init_77 : decode cX7_init 77 = .ok (.aload_n 0, 1) := by decide +kernel
theorem dX7_init_78 : decode cX7_init 78 = .ok (.aload_n 2, 1) := by decide +kernel
theorem dX7_init_79 : decode cX7_init 79 = .ok (.putfield 42, 3) := by decide +kernel
theorem dX7_init_82 : decode cX7_init 82 = .ok (.aload_n 0, 1) := by decide +kernel
theorem dX7_init_83 : decode cX7_init 83 = .ok (.aload_n 3, 1) := by decide +kernel
theorem dX7_init_84 : decode cX7_init 84 = .ok (.putfield 46, 3) := by decide +kernel
theorem dX7_init_87 : decode cX7_init 87 = .ok (.aload_n 0, 1) := by decide +kernel
theorem dX7_init_88 : decode cX7_init 88 = .ok (.aload 4, 2) := by decide +kernel
theorem dX7_init_90 : decode cX7_init 90 = .ok (.putfield 50, 3) := by decide +kernel
theorem dX7_init_93 : decode cX7_init 93 = .ok (.return_, 1) := by decide +kernel
theorem dX7_go_0 : decode cX7_go 0 = .ok (.aload_n 0, 1) := by decide +kernel
theorem dX7_go_1 : decode cX7_go 1 = .ok (.iconst 1, 1) := by decide +kernel
theorem dX7_go_2 : decode cX7_go 2 = .ok (.putfield 53, 3) := by decide +kernel
theorem dX7_go_5 : decode cX7_go 5 = .ok (.aload_n 0, 1) := by decide +kernel
theorem dX7_go_6 : decode cX7_go 6 = .ok (.iload_n 3, 1) := by decide +kernel
theorem dX7_go_7 : decode cX7_go 7 = .ok (.putfield 57, 3) := by decide +kernel
theorem dX7_go_10 : decode cX7_go 10 = .ok (.aload_n 0, 1) := by decide +kernel
theorem dX7_go_11 : decode cX7_go 11 = .ok (.iconst 0, 1) := by decide +kernel
theorem dX7_go_12 : decode cX7_go 12 = .ok (.putfield 60, 3) := by decide +kernel
theorem dX7_go_15 : decode cX7_go 15 = .ok (.aload_n 0, 1) := by decide +kernel
theorem dX7_go_16 : decode cX7_go 16 = .ok (.iconst 0, 1) := by decide +kernel
theorem dX7_go_17 : decode cX7_go 17 = .ok (.putfield 64, 3) := by decide +kernel
theorem dX7_go_20 : decode cX7_go 20 = .ok (.aload_n 0, 1) := by decide +kernel
theorem dX7_go_21 : decode cX7_go 21 = .ok (.iconst 0, 1) := by decide +kernel
theorem dX7_go_22 : decode cX7_go 22 = .ok (.putfield 67, 3) := by decide +kernel
theorem dX7_go_25 : decode cX7_go 25 = .ok (.aload_n 0, 1) := by decide +kernel
theorem dX7_go_26 : decode cX7_go 26 = .ok (.getfield 32, 3) := by decide +kernel
theorem dX7_go_29 : decode cX7_go 29 = .ok (.invokevirtual 70, 3) := by decide +kernel
theorem dX7_go_32 : decode cX7_go 32 = .ok (.aload_n 0, 1) := by decide +kernel
theorem dX7_go_33 : decode cX7_go 33 = .ok (.getfield 35, 3) := by decide +kernel
theorem dX7_go_36 : decode cX7_go 36 = .ok (.invokevirtual 70, 3) := by decide +kernel
theorem dX7_go_39 : decode cX7_go 39 = .ok (.iload_n 1, 1) := by decide +kernel
theorem dX7_go_40 : decode cX7_go 40 = .ok (.istore 4, 2) := by decide +kernel
theorem dX7_go_42 : decode cX7_go 42 = .ok (.iconst 0, 1) := by decide +kernel
theorem dX7_go_43 : decode cX7_go 43 = .ok (.istore 5, 2) := by decide +kernel
theorem dX7_go_45 : decode cX7_go 45 = .ok (.iload 5, 2) := by decide +kernel
theorem dX7_go_47 : decode cX7_go 47 = .ok (.iload_n 2, 1) := by decide +kernel
theorem dX7_go_48 : decode cX7_go 48 = .ok (.if_icmp .ge 133, 3) := by decide +kernel
theorem dX7_go_51 : decode cX7_go 51 = .ok (.aload_n 0, 1) := by decide +kernel
theorem dX7_go_52 : decode cX7_go 52 = .ok (.iload 4, 2) := by decide +kernel
theorem dX7_go_54 : decode cX7_go 54 = .ok (.putfield 73, 3) := by decide +kernel
theorem dX7_go_57 : decode cX7_go 57 = .ok (.aload_n 0, 1) := by decide +kernel
theorem dX7_go_58 : decode cX7_go 58 = .ok (.dup, 1) := by decide +kernel
theorem dX7_go_59 : decode cX7_go 59 = .ok (.getfield 64, 3) := by decide +kernel
theorem dX7_go_62 : decode cX7_go 62 = .ok (.iconst 1, 1) := by decide +kernel
theorem dX7_go_63 : decode cX7_go 63 = .ok (.iadd, 1) := by decide +kernel
theorem dX7_go_64 : decode cX7_go 64 = .ok (.putfield 64, 3) := by decide +kernel
theorem dX7_go_67 : decode cX7_go 67 = .ok (.aload_n 0, 1) := by decide +kernel
theorem dX7_go_68 : decode cX7_go 68 = .ok (.getfield 32, 3) := by decide +kernel
theorem dX7_go_71 : decode cX7_go 71 = .ok (.iload 4, 2) := by decide +kernel
theorem dX7_go_73 : decode cX7_go 73 = .ok (.invokevirtual 76, 3) := by decide +kernel
theorem dX7_go_76 : decode cX7_go 76 = .ok (.aload_n 0, 1) := by decide +kernel
theorem dX7_go_77 : decode cX7_go 77 = .ok (.getfield 38, 3) := by decide +kernel
theorem dX7_go_80 : decode cX7_go 80 = .ok (.getfield 79, 3) := by decide +kernel
theorem dX7_go_83 : decode cX7_go 83 = .ok (.iload 4, 2) := by decide +kernel
theorem dX7_go_85 : decode cX7_go 85 = .ok (.invokevirtual 84, 3) := by decide +kernel
theorem dX7_go_88 : decode cX7_go 88 = .ok (.lookupswitch 50 #[(97, 28), (115, 39)], 28) := by decide +kernel
theorem dX7_go_116 : decode cX7_go 116 = .ok (.aload_n 0, 1) := by decide +kernel
theorem dX7_go_117 : decode cX7_go 117 = .ok (.iload 4, 2) := by decide +kernel
theorem dX7_go_119 : decode cX7_go 119 = .ok (.invokevirtual 88, 3) := by decide +kernel
theorem dX7_go_122 : decode cX7_go 122 = .ok (.istore 6, 2) := by decide +kernel
theorem dX7_go_124 : decode cX7_go 124 = .ok (.goto 22, 3) := by decide +kernel
theorem dX7_go_127 : decode cX7_go 127 = .ok (.aload_n 0, 1) := by decide +kernel
theorem dX7_go_128 : decode cX7_go 128 = .ok (.iload 4, 2) := by decide +kernel
theorem dX7_go_130 : decode cX7_go 130 = .ok (.invokevirtual 91, 3) := by decide +kernel
theorem dX7_go_133 : decode cX7_go 133 = .ok (.istore 6, 2) := by decide +kernel
theorem dX7_go_135 : decode cX7_go 135 = .ok (.goto 11, 3) := by decide +kernel
theorem dX7_go_138 : decode cX7_go 138 = .ok (.aload_n 0, 1) := by decide +kernel
theorem dX7_go_139 : decode cX7_go 139 = .ok (.iload 4, 2) := by decide +kernel
theorem dX7_go_141 : decode cX7_go 141 = .ok (.invokevirtual 94, 3) := by decide +kernel
theorem dX7_go_144 : decode cX7_go 144 = .ok (.istore 6, 2) := by decide +kernel
theorem dX7_go_146 : decode cX7_go 146 = .ok (.aload_n 0, 1) := by decide +kernel
theorem dX7_go_147 : decode cX7_go 147 = .ok (.iload 4, 2) := by decide +kernel
theorem dX7_go_149 : decode cX7_go 149 = .ok (.iload 6, 2) := by decide +kernel
theorem dX7_go_151 : decode cX7_go 151 = .ok (.invokevirtual 97, 3) := by decide +kernel
theorem dX7_go_154 : decode cX7_go 154 = .ok (.istore 4, 2) := by decide +kernel
theorem dX7_go_156 : decode cX7_go 156 = .ok (.iload 4, 2) := by decide +kernel
theorem dX7_go_158 : decode cX7_go 158 = .ok (.iconst (-1), 1) := by decide +kernel
theorem dX7_go_159 : decode cX7_go 159 = .ok (.if_icmp .ne 6, 3) := by decide +kernel
theorem dX7_go_162 : decode cX7_go 162 = .ok (.bipush 100, 2) := by decide +kernel
theorem dX7_go_164 : decode cX7_go 164 = .ok (.ireturn, 1) := by decide +kernel
theorem dX7_go_165 : decode cX7_go 165 = .ok (.iload 4, 2) := by decide +kernel
theorem dX7_go_167 : decode cX7_go 167 = .ok (.bipush (-2), 2) := by decide +kernel
theorem dX7_go_169 : decode cX7_go 169 = .ok (.if_icmp .ne 6, 3) := by decide +kernel
theorem dX7_go_172 : decode cX7_go 172 = .ok (.bipush 120, 2) := by decide +kernel
theorem dX7_go_174 : decode cX7_go 174 = .ok (.ireturn, 1) := by decide +kernel
theorem dX7_go_175 : decode cX7_go 175 = .ok (.iinc 5 1, 3) := by decide +kernel
theorem dX7_go_178 : decode cX7_go 178 = .ok (.goto (-133), 3) := by decide +kernel
theorem dX7_go_181 : decode cX7_go 181 = .ok (.bipush 108, 2) := by decide +kernel
theorem dX7_go_183 : decode cX7_go 183 = .ok (.ireturn, 1) := by decide +kernel
theorem dX7_placeBehind_0 : decode cX7_placeBehind 0 = .ok (.iload_n 2, 1) := by decide +kernel
theorem dX7_placeBehind_1 : decode cX7_placeBehind 1 = .ok (.ifCond .le 9, 3) := by decide +kernel
theorem dX7_placeBehind_4 : decode cX7_placeBehind 4 = .ok (.aload_n 0, 1) := by decide +kernel
theorem dX7_placeBehind_5 : decode cX7_placeBehind 5 = .ok (.iload_n 2, 1) := by decide +kernel
theorem dX7_placeBehind_6 : decode cX7_placeBehind 6 = .ok (.invokevirtual 101, 3) := by decide +kernel
theorem dX7_placeBehind_9 : decode cX7_placeBehind 9 = .ok (.ireturn, 1) := by decide +kernel
theorem dX7_placeBehind_10 : decode cX7_placeBehind 10 = .ok (.iload_n 2, 1) := by decide +kernel
theorem dX7_placeBehind_11 : decode cX7_placeBehind 11 = .ok (.bipush (-2), 2) := by decide +kernel
theorem dX7_placeBehind_13 : decode cX7_placeBehind 13 = .ok (.if_icmp .ne 29, 3) := by decide +kernel
theorem dX7_placeBehind_16 : decode cX7_placeBehind 16 = .ok (.aload_n 0, 1) := by decide +kernel
theorem dX7_placeBehind_17 : decode cX7_placeBehind 17 = .ok (.aload_n 0, 1) := by decide +kernel
theorem dX7_placeBehind_18 : decode cX7_placeBehind 18 = .ok (.getfield 38, 3) := by decide +kernel
theorem dX7_placeBehind_21 : decode cX7_placeBehind 21 = .ok (.getfield 104, 3) := by decide +kernel
theorem dX7_placeBehind_24 : decode cX7_placeBehind 24 = .ok (.aload_n 0, 1) := by decide +kernel
theorem dX7_placeBehind_25 : decode cX7_placeBehind 25 = .ok (.getfield 38, 3) := by decide +kernel
theorem dX7_placeBehind_28 : decode cX7_placeBehind 28 = .ok (.getfield 107, 3) := by decide +kernel
theorem dX7_placeBehind_31 : decode cX7_placeBehind 31 = .ok (.iload_n 1, 1) := by decide +kernel
theorem dX7_placeBehind_32 : decode cX7_placeBehind 32 = .ok (.invokevirtual 84, 3) := by decide +kernel
theorem dX7_placeBehind_35 : decode cX7_placeBehind 35 = .ok (.invokevirtual 84, 3) := by decide +kernel
theorem dX7_placeBehind_38 : decode cX7_placeBehind 38 = .ok (.invokevirtual 110, 3) := by decide +kernel
theorem dX7_placeBehind_41 : decode cX7_placeBehind 41 = .ok (.ireturn, 1) := by decide +kernel
theorem dX7_placeBehind_42 : decode cX7_placeBehind 42 = .ok (.aload_n 0, 1) := by decide +kernel
theorem dX7_placeBehind_43 : decode cX7_placeBehind 43 = .ok (.iload_n 1, 1) := by decide +kernel
theorem dX7_placeBehind_44 : decode cX7_placeBehind 44 = .ok (.iload_n 2, 1) := by decide +kernel
theorem dX7_placeBehind_45 : decode cX7_placeBehind 45 = .ok (.ifCond .ne 7, 3) := by decide +kernel
theorem dX7_placeBehind_48 : decode cX7_placeBehind 48 = .ok (.iconst 1, 1) := by decide +kernel
theorem dX7_placeBehind_49 : decode cX7_placeBehind 49 = .ok (.goto 4, 3) := by decide +kernel
theorem dX7_placeBehind_52 : decode cX7_placeBehind 52 = .ok (.iconst 0, 1) := by decide +kernel
theorem dX7_placeBehind_53 : decode cX7_placeBehind 53 = .ok (.invokevirtual 113, 3) := by decide +kernel
theorem dX7_placeBehind_56 : decode cX7_placeBehind 56 = .ok (.ireturn, 1) := by decide +kernel
theorem dX7_doAssignment_0 : decode cX7_doAssignment 0 = .ok (.aload_n 0, 1) := by decide +kernel
theorem dX7_doAssignment_1 : decode cX7_doAssignment 1 = .ok (.getfield 38, 3) := by decide +kernel
theorem dX7_doAssignment_4 : decode cX7_doAssignment 4 = .ok (.getfield 117, 3) := by decide +kernel
theorem dX7_doAssignment_7 : decode cX7_doAssignment 7 = .ok (.iload_n 1, 1) := by decide +kernel
theorem dX7_doAssignment_8 : decode cX7_doAssignment 8 = .ok (.invokevirtual 84, 3) := by decide +kernel
theorem dX7_doAssignment_11 : decode cX7_doAssignment 11 = .ok (.istore_n 2, 1) := by decide +kernel
theorem dX7_doAssignment_12 : decode cX7_doAssignment 12 = .ok (.aload_n 0, 1) := by decide +kernel
theorem dX7_doAssignment_13 : decode cX7_doAssignment 13 = .ok (.getfield 46, 3) := by decide +kernel
theorem dX7_doAssignment_16 : decode cX7_doAssignment 16 = .ok (.iload_n 2, 1) := by decide +kernel
theorem dX7_doAssignment_17 : decode cX7_doAssignment 17 = .ok (.invokevirtual 120, 3) := by decide +kernel
theorem dX7_doAssignment_20 : decode cX7_doAssignment 20 = .ok (.istore_n 3, 1) := by decide +kernel
theorem dX7_doAssignment_21 : decode cX7_doAssignment 21 = .ok (.iload_n 3, 1) := by decide +kernel
theorem dX7_doAssignment_22 : decode cX7_doAssignment 22 = .ok (.ifCond .ne 29, 3) := by decide +kernel
theorem dX7_doAssignment_25 : decode cX7_doAssignment 25 = .ok (.aload_n 0, 1) := by decide +kernel
theorem dX7_doAssignment_26 : decode cX7_doAssignment 26 = .ok (.getfield 50, 3) := by decide +kernel
theorem dX7_doAssignment_29 : decode cX7_doAssignment 29 = .ok (.aload_n 0, 1) := by decide +kernel
theorem dX7_doAssignment_30 : decode cX7_doAssignment 30 = .ok (.getfield 38, 3) := by decide +kernel
theorem dX7_doAssignment_33 : decode cX7_doAssignment 33 = .ok (.getfield 125, 3) := by decide +kernel
theorem dX7_doAssignment_36 : decode cX7_doAssignment 36 = .ok (.iload_n 1, 1) := by decide +kernel
theorem dX7_doAssignment_37 : decode cX7_doAssignment 37 = .ok (.invokevirtual 84, 3) := by decide +kernel
theorem dX7_doAssignment_40 : decode cX7_doAssignment 40 = .ok (.aload_n 0, 1) := by decide +kernel
theorem dX7_doAssignment_41 : decode cX7_doAssignment 41 = .ok (.getfield 46, 3) := by decide +kernel
theorem dX7_doAssignment_44 : decode cX7_doAssignment 44 = .ok (.getfield 127, 3) := by decide +kernel
theorem dX7_doAssignment_47 : decode cX7_doAssignment 47 = .ok (.iload_n 2, 1) := by decide +kernel
theorem dX7_doAssignment_48 : decode cX7_doAssignment 48 = .ok (.invokevirtual 130, 3) := by decide +kernel
theorem dX7_doAssignment_51 : decode cX7_doAssignment 51 = .ok (.iload_n 3, 1) := by decide +kernel
theorem dX7_doAssignment_52 : decode cX7_doAssignment 52 = .ok (.ireturn, 1) := by decide +kernel
theorem dX7_doScan_0 : decode cX7_doScan 0 = .ok (.aload_n 0, 1) := by decide +kernel
theorem dX7_doScan_1 : decode cX7_doScan 1 = .ok (.getfield 38, 3) := by decide +kernel
theorem dX7_doScan_4 : decode cX7_doScan 4 = .ok (.getfield 125, 3) := by decide +kernel
theorem dX7_doScan_7 : decode cX7_doScan 7 = .ok (.iload_n 1, 1) := by decide +kernel
theorem dX7_doScan_8 : decode cX7_doScan 8 = .ok (.invokevirtual 84, 3) := by decide +kernel
theorem dX7_doScan_11 : decode cX7_doScan 11 = .ok (.istore_n 2, 1) := by decide +kernel
theorem dX7_doScan_12 : decode cX7_doScan 12 = .ok (.aload_n 0, 1) := by decide +kernel
theorem dX7_doScan_13 : decode cX7_doScan 13 = .ok (.getfield 42, 3) := by decide +kernel
theorem dX7_doScan_16 : decode cX7_doScan 16 = .ok (.aload_n 0, 1) := by decide +kernel
theorem dX7_doScan_17 : decode cX7_doScan 17 = .ok (.getfield 50, 3) := by decide +kernel
theorem dX7_doScan_20 : decode cX7_doScan 20 = .ok (.iload_n 2, 1) := by decide +kernel
theorem dX7_doScan_21 : decode cX7_doScan 21 = .ok (.aload_n 0, 1) := by decide +kernel
theorem dX7_doScan_22 : decode cX7_doScan 22 = .ok (.getfield 38, 3) := by decide +kernel
theorem dX7_doScan_25 : decode cX7_doScan 25 = .ok (.getfield 107, 3) := by decide +kernel
theorem dX7_doScan_28 : decode cX7_doScan 28 = .ok (.iload_n 1, 1) := by decide +kernel
theorem dX7_doScan_29 : decode cX7_doScan 29 = .ok (.invokevirtual 84, 3) := by decide +kernel
theorem dX7_doScan_32 : decode cX7_doScan 32 = .ok (.aload_n 0, 1) := by decide +kernel
theorem dX7_doScan_33 : decode cX7_doScan 33 = .ok (.getfield 57, 3) := by decide +kernel
theorem dX7_doScan_36 : decode cX7_doScan 36 = .ok (.invokevirtual 134, 3) := by decide +kernel
theorem dX7_doScan_39 : decode cX7_doScan 39 = .ok (.aload_n 0, 1) := by decide +kernel
theorem dX7_doScan_40 : decode cX7_doScan 40 = .ok (.getfield 42, 3) := by decide +kernel
theorem dX7_doScan_43 : decode cX7_doScan 43 = .ok (.invokevirtual 140, 3) := by decide +kernel
theorem dX7_doScan_46 : decode cX7_doScan 46 = .ok (.istore_n 3, 1) := by decide +kernel
theorem dX7_doScan_47 : decode cX7_doScan 47 = .ok (.iload_n 3, 1) := by decide +kernel
theorem dX7_doScan_48 : decode cX7_doScan 48 = .ok (.iconst 3, 1) := by decide +kernel
theorem dX7_doScan_49 : decode cX7_doScan 49 = .ok (.if_icmp .ne 5, 3) := by decide +kernel
theorem dX7_doScan_52 : decode cX7_doScan 52 = .ok (.iconst 3, 1) := by decide +kernel
theorem dX7_doScan_53 : decode cX7_doScan 53 = .ok (.ireturn, 1) := by decide +kernel
theorem dX7_doScan_54 : decode cX7_doScan 54 = .ok (.iload_n 3, 1) := by decide +kernel
theorem dX7_doScan_55 : decode cX7_doScan 55 = .ok (.iconst 1, 1) := by decide +kernel
theorem dX7_doScan_56 : decode cX7_doScan 56 = .ok (.if_icmp .eq 5, 3) := by decide +kernel
theorem dX7_doScan_59 : decode cX7_doScan 59 = .ok (.iconst (-1), 1) := by decide +kernel
theorem dX7_doScan_60 : decode cX7_doScan 60 = .ok (.ireturn, 1) := by decide +kernel
theorem dX7_doScan_61 : decode cX7_doScan 61 = .ok (.aload_n 0, 1) := by decide +kernel
theorem dX7_doScan_62 : decode cX7_doScan 62 = .ok (.getfield 42, 3) := by decide +kernel
theorem dX7_doScan_65 : decode cX7_doScan 65 = .ok (.invokevirtual 144, 3) := by decide +kernel
theorem dX7_doScan_68 : decode cX7_doScan 68 = .ok (.aload_n 0, 1) := by decide +kernel
theorem dX7_doScan_69 : decode cX7_doScan 69 = .ok (.getfield 38, 3) := by decide +kernel
theorem dX7_doScan_72 : decode cX7_doScan 72 = .ok (.getfield 117, 3) := by decide +kernel
theorem dX7_doScan_75 : decode cX7_doScan 75 = .ok (.iload_n 1, 1) := by decide +kernel
theorem dX7_doScan_76 : decode cX7_doScan 76 = .ok (.invokevirtual 84, 3) := by decide +kernel
theorem dX7_doScan_79 : decode cX7_doScan 79 = .ok (.istore 4, 2) := by decide +kernel
theorem dX7_doScan_81 : decode cX7_doScan 81 = .ok (.iload 4, 2) := by decide +kernel
theorem dX7_doScan_83 : decode cX7_doScan 83 = .ok (.iconst (-1), 1) := by decide +kernel
theorem dX7_doScan_84 : decode cX7_doScan 84 = .ok (.if_icmp .ne 5, 3) := by decide +kernel
theorem dX7_doScan_87 : decode cX7_doScan 87 = .ok (.iconst 0, 1) := by decide +kernel
theorem dX7_doScan_88 : decode cX7_doScan 88 = .ok (.ireturn, 1) := by decide +kernel
theorem dX7_doScan_89 : decode cX7_doScan 89 = .ok (.aload_n 0, 1) := by decide +kernel
theorem dX7_doScan_90 : decode cX7_doScan 90 = .ok (.getfield 46, 3) := by decide +kernel
theorem dX7_doScan_93 : decode cX7_doScan 93 = .ok (.iload 4, 2) := by decide +kernel
theorem dX7_doScan_95 : decode cX7_doScan 95 = .ok (.invokevirtual 120, 3) := by decide +kernel
theorem dX7_doScan_98 : decode cX7_doScan 98 = .ok (.istore 5, 2) := by decide +kernel
theorem dX7_doScan_100 : decode cX7_doScan 100 = .ok (.iload 5, 2) := by decide +kernel
theorem dX7_doScan_102 : decode cX7_doScan 102 = .ok (.ifCond .eq 6, 3) := by decide +kernel
theorem dX7_doScan_105 : decode cX7_doScan 105 = .ok (.iload 5, 2) := by decide +kernel
theorem dX7_doScan_107 : decode cX7_doScan 107 = .ok (.ireturn, 1) := by decide +kernel
theorem dX7_doScan_108 : decode cX7_doScan 108 = .ok (.aload_n 0, 1) := by decide +kernel
theorem dX7_doScan_109 : decode cX7_doScan 109 = .ok (.getfield 42, 3) := by decide +kernel
theorem dX7_doScan_112 : decode cX7_doScan 112 = .ok (.aload_n 0, 1) := by decide +kernel
theorem dX7_doScan_113 : decode cX7_doScan 113 = .ok (.getfield 14, 3) := by decide +kernel
theorem dX7_doScan_116 : decode cX7_doScan 116 = .ok (.iconst 0, 1) := by decide +kernel
theorem dX7_doScan_117 : decode cX7_doScan 117 = .ok (.aload_n 0, 1) := by decide +kernel
theorem dX7_doScan_118 : decode cX7_doScan 118 = .ok (.getfield 46, 3) := by decide +kernel
theorem dX7_doScan_121 : decode cX7_doScan 121 = .ok (.getfield 127, 3) := by decide +kernel
theorem dX7_doScan_124 : decode cX7_doScan 124 = .ok (.iload 4, 2) := by decide +kernel
theorem dX7_doScan_126 : decode cX7_doScan 126 = .ok (.invokevirtual 147, 3) := by decide +kernel
theorem dX7_doScan_129 : decode cX7_doScan 129 = .ok (.ifCond .ne 5, 3) := by decide +kernel
theorem dX7_doScan_132 : decode cX7_doScan 132 = .ok (.iconst 4, 1) := by decide +kernel
theorem dX7_doScan_133 : decode cX7_doScan 133 = .ok (.ireturn, 1) := by decide +kernel
theorem dX7_doScan_134 : decode cX7_doScan 134 = .ok (.aload_n 0, 1) := by decide +kernel
theorem dX7_doScan_135 : decode cX7_doScan 135 = .ok (.getfield 50, 3) := by decide +kernel
theorem dX7_doScan_138 : decode cX7_doScan 138 = .ok (.iload_n 2, 1) := by decide +kernel
theorem dX7_doScan_139 : decode cX7_doScan 139 = .ok (.aload_n 0, 1) := by decide +kernel
theorem dX7_doScan_140 : decode cX7_doScan 140 = .ok (.getfield 14, 3) := by decide +kernel
theorem dX7_doScan_143 : decode cX7_doScan 143 = .ok (.iconst 0, 1) := by decide +kernel
theorem dX7_doScan_144 : decode cX7_doScan 144 = .ok (.invokevirtual 130, 3) := by decide +kernel
theorem dX7_doScan_147 : decode cX7_doScan 147 = .ok (.iconst 0, 1) := by decide +kernel
theorem dX7_doScan_148 : decode cX7_doScan 148 = .ok (.ireturn, 1) := by decide +kernel
theorem dX7_doCall_0 : decode cX7_doCall 0 = .ok (.aload_n 0, 1) := by decide +kernel
theorem dX7_doCall_1 : decode cX7_doCall 1 = .ok (.getfield 38, 3) := by decide +kernel
theorem dX7_doCall_4 : decode cX7_doCall 4 = .ok (.getfield 117, 3) := by decide +kernel
theorem dX7_doCall_7 : decode cX7_doCall 7 = .ok (.iload_n 1, 1) := by decide +kernel
theorem dX7_doCall_8 : decode cX7_doCall 8 = .ok (.invokevirtual 84, 3) := by decide +kernel
theorem dX7_doCall_11 : decode cX7_doCall 11 = .ok (.istore_n 2, 1) := by decide +kernel
theorem dX7_doCall_12 : decode cX7_doCall 12 = .ok (.aload_n 0, 1) := by decide +kernel
theorem dX7_doCall_13 : decode cX7_doCall 13 = .ok (.getfield 46, 3) := by decide +kernel
theorem dX7_doCall_16 : decode cX7_doCall 16 = .ok (.iload_n 2, 1) := by decide +kernel
theorem dX7_doCall_17 : decode cX7_doCall 17 = .ok (.invokevirtual 120, 3) := by decide +kernel
theorem dX7_doCall_20 : decode cX7_doCall 20 = .ok (.istore_n 3, 1) := by decide +kernel
theorem dX7_doCall_21 : decode cX7_doCall 21 = .ok (.iload_n 3, 1) := by decide +kernel
theorem dX7_doCall_22 : decode cX7_doCall 22 = .ok (.ifCond .eq 5, 3) := by decide +kernel
theorem dX7_doCall_25 : decode cX7_doCall 25 = .ok (.iload_n 3, 1) := by decide +kernel
theorem dX7_doCall_26 : decode cX7_doCall 26 = .ok (.ireturn, 1) := by decide +kernel
theorem dX7_doCall_27 : decode cX7_doCall 27 = .ok (.aload_n 0, 1) := by decide +kernel
theorem dX7_doCall_28 : decode cX7_doCall 28 = .ok (.getfield 38, 3) := by decide +kernel
theorem dX7_doCall_31 : decode cX7_doCall 31 = .ok (.getfield 107, 3) := by decide +kernel
theorem dX7_doCall_34 : decode cX7_doCall 34 = .ok (.iload_n 1, 1) := by decide +kernel
theorem dX7_doCall_35 : decode cX7_doCall 35 = .ok (.invokevirtual 84, 3) := by decide +kernel
theorem dX7_doCall_38 : decode cX7_doCall 38 = .ok (.istore 4, 2) := by decide +kernel
theorem dX7_doCall_40 : decode cX7_doCall 40 = .ok (.aload_n 0, 1) := by decide +kernel
theorem dX7_doCall_41 : decode cX7_doCall 41 = .ok (.getfield 38, 3) := by decide +kernel
theorem dX7_doCall_44 : decode cX7_doCall 44 = .ok (.getfield 151, 3) := by decide +kernel
theorem dX7_doCall_47 : decode cX7_doCall 47 = .ok (.iload 4, 2) := by decide +kernel
theorem dX7_doCall_49 : decode cX7_doCall 49 = .ok (.invokevirtual 84, 3) := by decide +kernel
theorem dX7_doCall_52 : decode cX7_doCall 52 = .ok (.iconst 1, 1) := by decide +kernel
theorem dX7_doCall_53 : decode cX7_doCall 53 = .ok (.if_icmp .ne 12, 3) := by decide +kernel
theorem dX7_doCall_56 : decode cX7_doCall 56 = .ok (.aload_n 0, 1) := by decide +kernel
theorem dX7_doCall_57 : decode cX7_doCall 57 = .ok (.getfield 67, 3) := by decide +kernel
theorem dX7_doCall_60 : decode cX7_doCall 60 = .ok (.bipush 10, 2) := by decide +kernel
theorem dX7_doCall_62 : decode cX7_doCall 62 = .ok (.if_icmp .lt 5, 3) := by decide +kernel
theorem dX7_doCall_65 : decode cX7_doCall 65 = .ok (.iconst 5, 1) := by decide +kernel
theorem dX7_doCall_66 : decode cX7_doCall 66 = .ok (.ireturn, 1) := by decide +kernel
theorem dX7_doCall_67 : decode cX7_doCall 67 = .ok (.iconst 0, 1) := by decide +kernel
theorem dX7_doCall_68 : decode cX7_doCall 68 = .ok (.istore 5, 2) := by decide +kernel
theorem dX7_doCall_70 : decode cX7_doCall 70 = .ok (.iload 5, 2) := by decide +kernel
theorem dX7_doCall_72 : decode cX7_doCall 72 = .ok (.iconst 3, 1) := by decide +kernel
theorem dX7_doCall_73 : decode cX7_doCall 73 = .ok (.if_icmp .ge 59, 3) := by decide +kernel
theorem dX7_doCall_76 : decode cX7_doCall 76 = .ok (.aload_n 0, 1) := by decide +kernel
theorem dX7_doCall_77 : decode cX7_doCall 77 = .ok (.getfield 38, 3) := by decide +kernel
theorem dX7_doCall_80 : decode cX7_doCall 80 = .ok (.getfield 154, 3) := by decide +kernel
theorem dX7_doCall_83 : decode cX7_doCall 83 = .ok (.iconst 3, 1) := by decide +kernel
theorem dX7_doCall_84 : decode cX7_doCall 84 = .ok (.iload 4, 2) := by decide +kernel
theorem dX7_doCall_86 : decode cX7_doCall 86 = .ok (.imul, 1) := by decide +kernel
theorem dX7_doCall_87 : decode cX7_doCall 87 = .ok (.iload 5, 2) := by decide +kernel
theorem dX7_doCall_89 : decode cX7_doCall 89 = .ok (.iadd, 1) := by decide +kernel
theorem dX7_doCall_90 : decode cX7_doCall 90 = .ok (.invokevirtual 84, 3) := by decide +kernel
theorem dX7_doCall_93 : decode cX7_doCall 93 = .ok (.istore 6, 2) := by decide +kernel
theorem dX7_doCall_95 : decode cX7_doCall 95 = .ok (.aload_n 0, 1) := by decide +kernel
theorem dX7_doCall_96 : decode cX7_doCall 96 = .ok (.getfield 29, 3) := by decide +kernel
theorem dX7_doCall_99 : decode cX7_doCall 99 = .ok (.iconst 3, 1) := by decide +kernel
theorem dX7_doCall_100 : decode cX7_doCall 100 = .ok (.aload_n 0, 1) := by decide +kernel
theorem dX7_doCall_101 : decode cX7_doCall 101 = .ok (.getfield 67, 3) := by decide +kernel
theorem dX7_doCall_104 : decode cX7_doCall 104 = .ok (.imul, 1) := by decide +kernel
theorem dX7_doCall_105 : decode cX7_doCall 105 = .ok (.iload 5, 2) := by decide +kernel
theorem dX7_doCall_107 : decode cX7_doCall 107 = .ok (.iadd, 1) := by decide +kernel
theorem dX7_doCall_108 : decode cX7_doCall 108 = .ok (.aload_n 0, 1) := by decide +kernel
theorem dX7_doCall_109 : decode cX7_doCall 109 = .ok (.getfield 50, 3) := by decide +kernel
theorem dX7_doCall_112 : decode cX7_doCall 112 = .ok (.iload 6, 2) := by decide +kernel
theorem dX7_doCall_114 : decode cX7_doCall 114 = .ok (.invokevirtual 130, 3) := by decide +kernel
theorem dX7_doCall_117 : decode cX7_doCall 117 = .ok (.aload_n 0, 1) := by decide +kernel
theorem dX7_doCall_118 : decode cX7_doCall 118 = .ok (.getfield 50, 3) := by decide +kernel
theorem dX7_doCall_121 : decode cX7_doCall 121 = .ok (.iload 6, 2) := by decide +kernel
theorem dX7_doCall_123 : decode cX7_doCall 123 = .ok (.invokevirtual 157, 3) := by decide +kernel
theorem dX7_doCall_126 : decode cX7_doCall 126 = .ok (.iinc 5 1, 3) := by decide +kernel
theorem dX7_doCall_129 : decode cX7_doCall 129 = .ok (.goto (-59), 3) := by decide +kernel
theorem dX7_doCall_132 : decode cX7_doCall 132 = .ok (.aload_n 0, 1) := by decide +kernel
theorem dX7_doCall_133 : decode cX7_doCall 133 = .ok (.getfield 50, 3) := by decide +kernel
theorem dX7_doCall_136 : decode cX7_doCall 136 = .ok (.aload_n 0, 1) := by decide +kernel
theorem dX7_doCall_137 : decode cX7_doCall 137 = .ok (.getfield 38, 3) := by decide +kernel
theorem dX7_doCall_140 : decode cX7_doCall 140 = .ok (.getfield 154, 3) := by decide +kernel
theorem dX7_doCall_143 : decode cX7_doCall 143 = .ok (.iconst 3, 1) := by decide +kernel
theorem dX7_doCall_144 : decode cX7_doCall 144 = .ok (.iload 4, 2) := by decide +kernel
theorem dX7_doCall_146 : decode cX7_doCall 146 = .ok (.imul, 1) := by decide +kernel
theorem dX7_doCall_147 : decode cX7_doCall 147 = .ok (.invokevirtual 84, 3) := by decide +kernel
theorem dX7_doCall_150 : decode cX7_doCall 150 = .ok (.aload_n 0, 1) := by decide +kernel
theorem dX7_doCall_151 : decode cX7_doCall 151 = .ok (.getfield 46, 3) := by decide +kernel
theorem dX7_doCall_154 : decode cX7_doCall 154 = .ok (.getfield 127, 3) := by decide +kernel
theorem dX7_doCall_157 : decode cX7_doCall 157 = .ok (.iload_n 2, 1) := by decide +kernel
theorem dX7_doCall_158 : decode cX7_doCall 158 = .ok (.invokevirtual 130, 3) := by decide +kernel
theorem dX7_doCall_161 : decode cX7_doCall 161 = .ok (.aload_n 0, 1) := by decide +kernel
theorem dX7_doCall_162 : decode cX7_doCall 162 = .ok (.getfield 25, 3) := by decide +kernel
theorem dX7_doCall_165 : decode cX7_doCall 165 = .ok (.aload_n 0, 1) := by decide +kernel
theorem dX7_doCall_166 : decode cX7_doCall 166 = .ok (.getfield 67, 3) := by decide +kernel
theorem dX7_doCall_169 : decode cX7_doCall 169 = .ok (.iload_n 1, 1) := by decide +kernel
theorem dX7_doCall_170 : decode cX7_doCall 170 = .ok (.invokevirtual 160, 3) := by decide +kernel
theorem dX7_doCall_173 : decode cX7_doCall 173 = .ok (.aload_n 0, 1) := by decide +kernel
theorem dX7_doCall_174 : decode cX7_doCall 174 = .ok (.dup, 1) := by decide +kernel
theorem dX7_doCall_175 : decode cX7_doCall 175 = .ok (.getfield 67, 3) := by decide +kernel
theorem dX7_doCall_178 : decode cX7_doCall 178 = .ok (.iconst 1, 1) := by decide +kernel
theorem dX7_doCall_179 : decode cX7_doCall 179 = .ok (.iadd, 1) := by decide +kernel
theorem dX7_doCall_180 : decode cX7_doCall 180 = .ok (.putfield 67, 3) := by decide +kernel
theorem dX7_doCall_183 : decode cX7_doCall 183 = .ok (.bipush (-2), 2) := by decide +kernel
theorem dX7_doCall_185 : decode cX7_doCall 185 = .ok (.ireturn, 1) := by decide +kernel
theorem dX7_leave_0 : decode cX7_leave 0 = .ok (.iload_n 1, 1) := by decide +kernel
theorem dX7_leave_1 : decode cX7_leave 1 = .ok (.istore_n 3, 1) := by decide +kernel
theorem dX7_leave_2 : decode cX7_leave 2 = .ok (.iload_n 2, 1) := by decide +kernel
theorem dX7_leave_3 : decode cX7_leave 3 = .ok (.istore 4, 2) := by decide +kernel
theorem dX7_leave_5 : decode cX7_leave 5 = .ok (.iconst 0, 1) := by decide +kernel
theorem dX7_leave_6 : decode cX7_leave 6 = .ok (.istore 5, 2) := by decide +kernel
theorem dX7_leave_8 : decode cX7_leave 8 = .ok (.iload 5, 2) := by decide +kernel
theorem dX7_leave_10 : decode cX7_leave 10 = .ok (.bipush 10, 2) := by decide +kernel
theorem dX7_leave_12 : decode cX7_leave 12 = .ok (.if_icmp .gt 139, 3) := by decide +kernel
theorem dX7_leave_15 : decode cX7_leave 15 = .ok (.iload 4, 2) := by decide +kernel
theorem dX7_leave_17 : decode cX7_leave 17 = .ok (.ifCond .ne 11, 3) := by decide +kernel
theorem dX7_leave_20 : decode cX7_leave 20 = .ok (.aload_n 0, 1) := by decide +kernel
theorem dX7_leave_21 : decode cX7_leave 21 = .ok (.getfield 35, 3) := by decide +kernel
theorem dX7_leave_24 : decode cX7_leave 24 = .ok (.iload_n 3, 1) := by decide +kernel
theorem dX7_leave_25 : decode cX7_leave 25 = .ok (.invokevirtual 76, 3) := by decide +kernel
theorem dX7_leave_28 : decode cX7_leave 28 = .ok (.iload 4, 2) := by decide +kernel
theorem dX7_leave_30 : decode cX7_leave 30 = .ok (.ifCond .eq 17, 3) := by decide +kernel
theorem dX7_leave_33 : decode cX7_leave 33 = .ok (.aload_n 0, 1) := by decide +kernel
theorem dX7_leave_34 : decode cX7_leave 34 = .ok (.getfield 38, 3) := by decide +kernel
theorem dX7_leave_37 : decode cX7_leave 37 = .ok (.getfield 163, 3) := by decide +kernel
theorem dX7_leave_40 : decode cX7_leave 40 = .ok (.iload_n 3, 1) := by decide +kernel
theorem dX7_leave_41 : decode cX7_leave 41 = .ok (.invokevirtual 84, 3) := by decide +kernel
theorem dX7_leave_44 : decode cX7_leave 44 = .ok (.goto 14, 3) := by decide +kernel
theorem dX7_leave_47 : decode cX7_leave 47 = .ok (.aload_n 0, 1) := by decide +kernel
theorem dX7_leave_48 : decode cX7_leave 48 = .ok (.getfield 38, 3) := by decide +kernel
theorem dX7_leave_51 : decode cX7_leave 51 = .ok (.getfield 166, 3) := by decide +kernel
theorem dX7_leave_54 : decode cX7_leave 54 = .ok (.iload_n 3, 1) := by decide +kernel
theorem dX7_leave_55 : decode cX7_leave 55 = .ok (.invokevirtual 84, 3) := by decide +kernel
theorem dX7_leave_58 : decode cX7_leave 58 = .ok (.istore 6, 2) := by decide +kernel
theorem dX7_leave_60 : decode cX7_leave 60 = .ok (.iload 6, 2) := by decide +kernel
theorem dX7_leave_62 : decode cX7_leave 62 = .ok (.bipush (-4), 2) := by decide +kernel
theorem dX7_leave_64 : decode cX7_leave 64 = .ok (.if_icmp .eq 22, 3) := by decide +kernel
theorem dX7_leave_67 : decode cX7_leave 67 = .ok (.iload 6, 2) := by decide +kernel
theorem dX7_leave_69 : decode cX7_leave 69 = .ok (.iconst (-1), 1) := by decide +kernel
theorem dX7_leave_70 : decode cX7_leave 70 = .ok (.if_icmp .ne 18, 3) := by decide +kernel
theorem dX7_leave_73 : decode cX7_leave 73 = .ok (.iload_n 3, 1) := by decide +kernel
theorem dX7_leave_74 : decode cX7_leave 74 = .ok (.iconst 1, 1) := by decide +kernel
theorem dX7_leave_75 : decode cX7_leave 75 = .ok (.iadd, 1) := by decide +kernel
theorem dX7_leave_76 : decode cX7_leave 76 = .ok (.aload_n 0, 1) := by decide +kernel
theorem dX7_leave_77 : decode cX7_leave 77 = .ok (.getfield 38, 3) := by decide +kernel
theorem dX7_leave_80 : decode cX7_leave 80 = .ok (.getfield 169, 3) := by decide +kernel
theorem dX7_leave_83 : decode cX7_leave 83 = .ok (.if_icmp .ne 5, 3) := by decide +kernel
theorem dX7_leave_86 : decode cX7_leave 86 = .ok (.iconst (-1), 1) := by decide +kernel
theorem dX7_leave_87 : decode cX7_leave 87 = .ok (.ireturn, 1) := by decide +kernel
theorem dX7_leave_88 : decode cX7_leave 88 = .ok (.iload 6, 2) := by decide +kernel
theorem dX7_leave_90 : decode cX7_leave 90 = .ok (.iconst (-1), 1) := by decide +kernel
theorem dX7_leave_91 : decode cX7_leave 91 = .ok (.if_icmp .ne 7, 3) := by decide +kernel
theorem dX7_leave_94 : decode cX7_leave 94 = .ok (.iload_n 3, 1) := by decide +kernel
theorem dX7_leave_95 : decode cX7_leave 95 = .ok (.iconst 1, 1) := by decide +kernel
theorem dX7_leave_96 : decode cX7_leave 96 = .ok (.iadd, 1) := by decide +kernel
theorem dX7_leave_97 : decode cX7_leave 97 = .ok (.ireturn, 1) := by decide +kernel
theorem dX7_leave_98 : decode cX7_leave 98 = .ok (.iload 6, 2) := by decide +kernel
theorem dX7_leave_100 : decode cX7_leave 100 = .ok (.ifCond .lt 10, 3) := by decide +kernel
theorem dX7_leave_103 : decode cX7_leave 103 = .ok (.aload_n 0, 1) := by decide +kernel
theorem dX7_leave_104 : decode cX7_leave 104 = .ok (.iload 6, 2) := by decide +kernel
theorem dX7_leave_106 : decode cX7_leave 106 = .ok (.invokevirtual 110, 3) := by decide +kernel
theorem dX7_leave_109 : decode cX7_leave 109 = .ok (.ireturn, 1) := by decide +kernel
theorem dX7_leave_110 : decode cX7_leave 110 = .ok (.aload_n 0, 1) := by decide +kernel
theorem dX7_leave_111 : decode cX7_leave 111 = .ok (.getfield 67, 3) := by decide +kernel
theorem dX7_leave_114 : decode cX7_leave 114 = .ok (.ifCond .ne 10, 3) := by decide +kernel
theorem dX7_leave_117 : decode cX7_leave 117 = .ok (.aload_n 0, 1) := by decide +kernel
theorem dX7_leave_118 : decode cX7_leave 118 = .ok (.bipush 6, 2) := by decide +kernel
theorem dX7_leave_120 : decode cX7_leave 120 = .ok (.invokevirtual 101, 3) := by decide +kernel
theorem dX7_leave_123 : decode cX7_leave 123 = .ok (.ireturn, 1) := by decide +kernel
theorem dX7_leave_124 : decode cX7_leave 124 = .ok (.iload 6, 2) := by decide +kernel
theorem dX7_leave_126 : decode cX7_leave 126 = .ok (.bipush (-2), 2) := by decide +kernel
theorem dX7_leave_128 : decode cX7_leave 128 = .ok (.if_icmp .ne 7, 3) := by decide +kernel
theorem dX7_leave_131 : decode cX7_leave 131 = .ok (.iconst 1, 1) := by decide +kernel
theorem dX7_leave_132 : decode cX7_leave 132 = .ok (.goto 4, 3) := by decide +kernel
theorem dX7_leave_135 : decode cX7_leave 135 = .ok (.iconst 0, 1) := by decide +kernel
theorem dX7_leave_136 : decode cX7_leave 136 = .ok (.istore 4, 2) := by decide +kernel
theorem dX7_leave_138 : decode cX7_leave 138 = .ok (.aload_n 0, 1) := by decide +kernel
theorem dX7_leave_139 : decode cX7_leave 139 = .ok (.iload 4, 2) := by decide +kernel
theorem dX7_leave_141 : decode cX7_leave 141 = .ok (.invokevirtual 172, 3) := by decide +kernel
theorem dX7_leave_144 : decode cX7_leave 144 = .ok (.istore_n 3, 1) := by decide +kernel
theorem dX7_leave_145 : decode cX7_leave 145 = .ok (.iinc 5 1, 3) := by decide +kernel
theorem dX7_leave_148 : decode cX7_leave 148 = .ok (.goto (-140), 3) := by decide +kernel
theorem dX7_leave_151 : decode cX7_leave 151 = .ok (.aload_n 0, 1) := by decide +kernel
theorem dX7_leave_152 : decode cX7_leave 152 = .ok (.bipush 6, 2) := by decide +kernel
theorem dX7_leave_154 : decode cX7_leave 154 = .ok (.invokevirtual 101, 3) := by decide +kernel
theorem dX7_leave_157 : decode cX7_leave 157 = .ok (.ireturn, 1) := by decide +kernel
theorem dX7_comeBack_0 : decode cX7_comeBack 0 = .ok (.aload_n 0, 1) := by decide +kernel
theorem dX7_comeBack_1 : decode cX7_comeBack 1 = .ok (.dup, 1) := by decide +kernel
theorem dX7_comeBack_2 : decode cX7_comeBack 2 = .ok (.getfield 67, 3) := by decide +kernel
theorem dX7_comeBack_5 : decode cX7_comeBack 5 = .ok (.iconst 1, 1) := by decide +kernel
theorem dX7_comeBack_6 : decode cX7_comeBack 6 = .ok (.isub, 1) := by decide +kernel
theorem dX7_comeBack_7 : decode cX7_comeBack 7 = .ok (.putfield 67, 3) := by decide +kernel
theorem dX7_comeBack_10 : decode cX7_comeBack 10 = .ok (.aload_n 0, 1) := by decide +kernel
theorem dX7_comeBack_11 : decode cX7_comeBack 11 = .ok (.getfield 25, 3) := by decide +kernel
theorem dX7_comeBack_14 : decode cX7_comeBack 14 = .ok (.aload_n 0, 1) := by decide +kernel
theorem dX7_comeBack_15 : decode cX7_comeBack 15 = .ok (.getfield 67, 3) := by decide +kernel
theorem dX7_comeBack_18 : decode cX7_comeBack 18 = .ok (.invokevirtual 84, 3) := by decide +kernel
theorem dX7_comeBack_21 : decode cX7_comeBack 21 = .ok (.istore_n 2, 1) := by decide +kernel
theorem dX7_comeBack_22 : decode cX7_comeBack 22 = .ok (.aload_n 0, 1) := by decide +kernel
theorem dX7_comeBack_23 : decode cX7_comeBack 23 = .ok (.getfield 38, 3) := by decide +kernel
theorem dX7_comeBack_26 : decode cX7_comeBack 26 = .ok (.getfield 107, 3) := by decide +kernel
theorem dX7_comeBack_29 : decode cX7_comeBack 29 = .ok (.iload_n 2, 1) := by decide +kernel
theorem dX7_comeBack_30 : decode cX7_comeBack 30 = .ok (.invokevirtual 84, 3) := by decide +kernel
theorem dX7_comeBack_33 : decode cX7_comeBack 33 = .ok (.istore_n 3, 1) := by decide +kernel
theorem dX7_comeBack_34 : decode cX7_comeBack 34 = .ok (.aload_n 0, 1) := by decide +kernel
theorem dX7_comeBack_35 : decode cX7_comeBack 35 = .ok (.getfield 14, 3) := by decide +kernel
theorem dX7_comeBack_38 : decode cX7_comeBack 38 = .ok (.iconst 0, 1) := by decide +kernel
theorem dX7_comeBack_39 : decode cX7_comeBack 39 = .ok (.aload_n 0, 1) := by decide +kernel
theorem dX7_comeBack_40 : decode cX7_comeBack 40 = .ok (.getfield 50, 3) := by decide +kernel
theorem dX7_comeBack_43 : decode cX7_comeBack 43 = .ok (.aload_n 0, 1) := by decide +kernel
theorem dX7_comeBack_44 : decode cX7_comeBack 44 = .ok (.getfield 38, 3) := by decide +kernel
theorem dX7_comeBack_47 : decode cX7_comeBack 47 = .ok (.getfield 154, 3) := by decide +kernel
theorem dX7_comeBack_50 : decode cX7_comeBack 50 = .ok (.iconst 3, 1) := by decide +kernel
theorem dX7_comeBack_51 : decode cX7_comeBack 51 = .ok (.iload_n 3, 1) := by decide +kernel
theorem dX7_comeBack_52 : decode cX7_comeBack 52 = .ok (.imul, 1) := by decide +kernel
theorem dX7_comeBack_53 : decode cX7_comeBack 53 = .ok (.iconst 2, 1) := by decide +kernel
theorem dX7_comeBack_54 : decode cX7_comeBack 54 = .ok (.iadd, 1) := by decide +kernel
theorem dX7_comeBack_55 : decode cX7_comeBack 55 = .ok (.invokevirtual 84, 3) := by decide +kernel
theorem dX7_comeBack_58 : decode cX7_comeBack 58 = .ok (.invokevirtual 130, 3) := by decide +kernel
theorem dX7_comeBack_61 : decode cX7_comeBack 61 = .ok (.iconst 0, 1) := by decide +kernel
theorem dX7_comeBack_62 : decode cX7_comeBack 62 = .ok (.istore 4, 2) := by decide +kernel
theorem dX7_comeBack_64 : decode cX7_comeBack 64 = .ok (.iload 4, 2) := by decide +kernel
theorem dX7_comeBack_66 : decode cX7_comeBack 66 = .ok (.iconst 3, 1) := by decide +kernel
theorem dX7_comeBack_67 : decode cX7_comeBack 67 = .ok (.if_icmp .ge 45, 3) := by decide +kernel
theorem dX7_comeBack_70 : decode cX7_comeBack 70 = .ok (.aload_n 0, 1) := by decide +kernel
theorem dX7_comeBack_71 : decode cX7_comeBack 71 = .ok (.getfield 50, 3) := by decide +kernel
theorem dX7_comeBack_74 : decode cX7_comeBack 74 = .ok (.aload_n 0, 1) := by decide +kernel
theorem dX7_comeBack_75 : decode cX7_comeBack 75 = .ok (.getfield 38, 3) := by decide +kernel
theorem dX7_comeBack_78 : decode cX7_comeBack 78 = .ok (.getfield 154, 3) := by decide +kernel
theorem dX7_comeBack_81 : decode cX7_comeBack 81 = .ok (.iconst 3, 1) := by decide +kernel
theorem dX7_comeBack_82 : decode cX7_comeBack 82 = .ok (.iload_n 3, 1) := by decide +kernel
theorem dX7_comeBack_83 : decode cX7_comeBack 83 = .ok (.imul, 1) := by decide +kernel
theorem dX7_comeBack_84 : decode cX7_comeBack 84 = .ok (.iload 4, 2) := by decide +kernel
theorem dX7_comeBack_86 : decode cX7_comeBack 86 = .ok (.iadd, 1) := by decide +kernel
theorem dX7_comeBack_87 : decode cX7_comeBack 87 = .ok (.invokevirtual 84, 3) := by decide +kernel
theorem dX7_comeBack_90 : decode cX7_comeBack 90 = .ok (.aload_n 0, 1) := by decide +kernel
theorem dX7_comeBack_91 : decode cX7_comeBack 91 = .ok (.getfield 29, 3) := by decide +kernel
theorem dX7_comeBack_94 : decode cX7_comeBack 94 = .ok (.iconst 3, 1) := by decide +kernel
theorem dX7_comeBack_95 : decode cX7_comeBack 95 = .ok (.aload_n 0, 1) := by decide +kernel
theorem dX7_comeBack_96 : decode cX7_comeBack 96 = .ok (.getfield 67, 3) := by decide +kernel
theorem dX7_comeBack_99 : decode cX7_comeBack 99 = .ok (.imul, 1) := by decide +kernel
theorem dX7_comeBack_100 : decode cX7_comeBack 100 = .ok (.iload 4, 2) := by decide +kernel
theorem dX7_comeBack_102 : decode cX7_comeBack 102 = .ok (.iadd, 1) := by decide +kernel
theorem dX7_comeBack_103 : decode cX7_comeBack 103 = .ok (.invokevirtual 130, 3) := by decide +kernel
theorem dX7_comeBack_106 : decode cX7_comeBack 106 = .ok (.iinc 4 1, 3) := by decide +kernel
theorem dX7_comeBack_109 : decode cX7_comeBack 109 = .ok (.goto (-45), 3) := by decide +kernel
theorem dX7_comeBack_112 : decode cX7_comeBack 112 = .ok (.iload_n 1, 1) := by decide +kernel
theorem dX7_comeBack_113 : decode cX7_comeBack 113 = .ok (.ifCond .eq 26, 3) := by decide +kernel
theorem dX7_comeBack_116 : decode cX7_comeBack 116 = .ok (.aload_n 0, 1) := by decide +kernel
theorem dX7_comeBack_117 : decode cX7_comeBack 117 = .ok (.getfield 50, 3) := by decide +kernel
theorem dX7_comeBack_120 : decode cX7_comeBack 120 = .ok (.aload_n 0, 1) := by decide +kernel
theorem dX7_comeBack_121 : decode cX7_comeBack 121 = .ok (.getfield 38, 3) := by decide +kernel
theorem dX7_comeBack_124 : decode cX7_comeBack 124 = .ok (.getfield 125, 3) := by decide +kernel
theorem dX7_comeBack_127 : decode cX7_comeBack 127 = .ok (.iload_n 2, 1) := by decide +kernel
theorem dX7_comeBack_128 : decode cX7_comeBack 128 = .ok (.invokevirtual 84, 3) := by decide +kernel
theorem dX7_comeBack_131 : decode cX7_comeBack 131 = .ok (.aload_n 0, 1) := by decide +kernel
theorem dX7_comeBack_132 : decode cX7_comeBack 132 = .ok (.getfield 14, 3) := by decide +kernel
theorem dX7_comeBack_135 : decode cX7_comeBack 135 = .ok (.iconst 0, 1) := by decide +kernel
theorem dX7_comeBack_136 : decode cX7_comeBack 136 = .ok (.invokevirtual 130, 3) := by decide +kernel
theorem dX7_comeBack_139 : decode cX7_comeBack 139 = .ok (.iload_n 2, 1) := by decide +kernel
theorem dX7_comeBack_140 : decode cX7_comeBack 140 = .ok (.ireturn, 1) := by decide +kernel
theorem dX7_placeOf_0 : decode cX7_placeOf 0 = .ok (.iload_n 1, 1) := by decide +kernel
theorem dX7_placeOf_1 : decode cX7_placeOf 1 = .ok (.aload_n 0, 1) := by decide +kernel
theorem dX7_placeOf_2 : decode cX7_placeOf 2 = .ok (.getfield 38, 3) := by decide +kernel
theorem dX7_placeOf_5 : decode cX7_placeOf 5 = .ok (.getfield 169, 3) := by decide +kernel
theorem dX7_placeOf_8 : decode cX7_placeOf 8 = .ok (.invokestatic 176, 3) := by decide +kernel
theorem dX7_placeOf_11 : decode cX7_placeOf 11 = .ok (.ifCond .eq 7, 3) := by decide +kernel
theorem dX7_placeOf_14 : decode cX7_placeOf 14 = .ok (.iload_n 1, 1) := by decide +kernel
theorem dX7_placeOf_15 : decode cX7_placeOf 15 = .ok (.goto 9, 3) := by decide +kernel
theorem dX7_placeOf_18 : decode cX7_placeOf 18 = .ok (.aload_n 0, 1) := by decide +kernel
theorem dX7_placeOf_19 : decode cX7_placeOf 19 = .ok (.bipush 7, 2) := by decide +kernel
theorem dX7_placeOf_21 : decode cX7_placeOf 21 = .ok (.invokevirtual 101, 3) := by decide +kernel
theorem dX7_placeOf_24 : decode cX7_placeOf 24 = .ok (.ireturn, 1) := by decide +kernel
theorem dX7_breakOff_0 : decode cX7_breakOff 0 = .ok (.aload_n 0, 1) := by decide +kernel
theorem dX7_breakOff_1 : decode cX7_breakOff 1 = .ok (.iload_n 1, 1) := by decide +kernel
theorem dX7_breakOff_2 : decode cX7_breakOff 2 = .ok (.putfield 60, 3) := by decide +kernel
theorem dX7_breakOff_5 : decode cX7_breakOff 5 = .ok (.bipush (-2), 2) := by decide +kernel
theorem dX7_breakOff_7 : decode cX7_breakOff 7 = .ok (.ireturn, 1) := by decide +kernel
