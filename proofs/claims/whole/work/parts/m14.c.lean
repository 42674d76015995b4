/-! the law's wrappers, decoded -/
theorem dL_type_0 : decode cL_type 0 = .ok (.aload_n 2, 1) := by decide +kernel
theorem dL_type_1 : decode cL_type 1 = .ok (.iconst 0, 1) := by decide +kernel
theorem dL_type_2 : decode cL_type 2 = .ok (.aload_n 0, 1) := by decide +kernel
theorem dL_type_3 : decode cL_type 3 = .ok (.iload_n 1, 1) := by decide +kernel
theorem dL_type_4 : decode cL_type 4 = .ok (.invokevirtual 7, 3) := by decide +kernel
theorem dL_type_7 : decode cL_type 7 = .ok (.i2l, 1) := by decide +kernel
theorem dL_type_8 : decode cL_type 8 = .ok (.lastore, 1) := by decide +kernel
theorem dL_type_9 : decode cL_type 9 = .ok (.goto 9, 3) := by decide +kernel
theorem dL_type_12 : decode cL_type 12 = .ok (.astore_n 3, 1) := by decide +kernel
theorem dL_type_13 : decode cL_type 13 = .ok (.iconst 1, 1) := by decide +kernel
theorem dL_type_14 : decode cL_type 14 = .ok (.ireturn, 1) := by decide +kernel
theorem dL_type_15 : decode cL_type 15 = .ok (.astore_n 3, 1) := by decide +kernel
theorem dL_type_16 : decode cL_type 16 = .ok (.iconst 2, 1) := by decide +kernel
theorem dL_type_17 : decode cL_type 17 = .ok (.ireturn, 1) := by decide +kernel
theorem dL_type_18 : decode cL_type 18 = .ok (.iconst 0, 1) := by decide +kernel
theorem dL_type_19 : decode cL_type 19 = .ok (.ireturn, 1) := by decide +kernel
theorem dL_text_0 : decode cL_text 0 = .ok (.aload_n 1, 1) := by decide +kernel
theorem dL_text_1 : decode cL_text 1 = .ok (.iconst 0, 1) := by decide +kernel
theorem dL_text_2 : decode cL_text 2 = .ok (.aload_n 0, 1) := by decide +kernel
theorem dL_text_3 : decode cL_text 3 = .ok (.invokevirtual 17, 3) := by decide +kernel
theorem dL_text_6 : decode cL_text 6 = .ok (.i2l, 1) := by decide +kernel
theorem dL_text_7 : decode cL_text 7 = .ok (.lastore, 1) := by decide +kernel
theorem dL_text_8 : decode cL_text 8 = .ok (.goto 9, 3) := by decide +kernel
theorem dL_text_11 : decode cL_text 11 = .ok (.astore_n 2, 1) := by decide +kernel
theorem dL_text_12 : decode cL_text 12 = .ok (.iconst 1, 1) := by decide +kernel
theorem dL_text_13 : decode cL_text 13 = .ok (.ireturn, 1) := by decide +kernel
theorem dL_text_14 : decode cL_text 14 = .ok (.astore_n 2, 1) := by decide +kernel
theorem dL_text_15 : decode cL_text 15 = .ok (.iconst 2, 1) := by decide +kernel
theorem dL_text_16 : decode cL_text 16 = .ok (.ireturn, 1) := by decide +kernel
theorem dL_text_17 : decode cL_text 17 = .ok (.iconst 0, 1) := by decide +kernel
theorem dL_text_18 : decode cL_text 18 = .ok (.ireturn, 1) := by decide +kernel
theorem dL_set_0 : decode cL_set 0 = .ok (.aload_n 2, 1) := by decide +kernel
theorem dL_set_1 : decode cL_set 1 = .ok (.iconst 0, 1) := by decide +kernel
theorem dL_set_2 : decode cL_set 2 = .ok (.aload_n 0, 1) := by decide +kernel
theorem dL_set_3 : decode cL_set 3 = .ok (.iload_n 1, 1) := by decide +kernel
theorem dL_set_4 : decode cL_set 4 = .ok (.invokevirtual 23, 3) := by decide +kernel
theorem dL_set_7 : decode cL_set 7 = .ok (.i2l, 1) := by decide +kernel
theorem dL_set_8 : decode cL_set 8 = .ok (.lastore, 1) := by decide +kernel
theorem dL_set_9 : decode cL_set 9 = .ok (.goto 6, 3) := by decide +kernel
theorem dL_set_12 : decode cL_set 12 = .ok (.astore_n 3, 1) := by decide +kernel
theorem dL_set_13 : decode cL_set 13 = .ok (.iconst 1, 1) := by decide +kernel
theorem dL_set_14 : decode cL_set 14 = .ok (.ireturn, 1) := by decide +kernel
theorem dL_set_15 : decode cL_set 15 = .ok (.iconst 0, 1) := by decide +kernel
theorem dL_set_16 : decode cL_set 16 = .ok (.ireturn, 1) := by decide +kernel
theorem dL_size_0 : decode cL_size 0 = .ok (.aload_n 2, 1) := by decide +kernel
theorem dL_size_1 : decode cL_size 1 = .ok (.iconst 0, 1) := by decide +kernel
theorem dL_size_2 : decode cL_size 2 = .ok (.aload_n 0, 1) := by decide +kernel
theorem dL_size_3 : decode cL_size 3 = .ok (.iload_n 1, 1) := by decide +kernel
theorem dL_size_4 : decode cL_size 4 = .ok (.invokevirtual 28, 3) := by decide +kernel
theorem dL_size_7 : decode cL_size 7 = .ok (.i2l, 1) := by decide +kernel
theorem dL_size_8 : decode cL_size 8 = .ok (.lastore, 1) := by decide +kernel
theorem dL_size_9 : decode cL_size 9 = .ok (.goto 6, 3) := by decide +kernel
theorem dL_size_12 : decode cL_size 12 = .ok (.astore_n 3, 1) := by decide +kernel
theorem dL_size_13 : decode cL_size 13 = .ok (.iconst 1, 1) := by decide +kernel
theorem dL_size_14 : decode cL_size 14 = .ok (.ireturn, 1) := by decide +kernel
theorem dL_size_15 : decode cL_size 15 = .ok (.iconst 0, 1) := by decide +kernel
theorem dL_size_16 : decode cL_size 16 = .ok (.ireturn, 1) := by decide +kernel
theorem dL_at_0 : decode cL_at 0 = .ok (.aload_n 3, 1) := by decide +kernel
theorem dL_at_1 : decode cL_at 1 = .ok (.iconst 0, 1) := by decide +kernel
theorem dL_at_2 : decode cL_at 2 = .ok (.aload_n 0, 1) := by decide +kernel
theorem dL_at_3 : decode cL_at 3 = .ok (.iload_n 1, 1) := by decide +kernel
theorem dL_at_4 : decode cL_at 4 = .ok (.iload_n 2, 1) := by decide +kernel
theorem dL_at_5 : decode cL_at 5 = .ok (.invokevirtual 31, 3) := by decide +kernel
theorem dL_at_8 : decode cL_at 8 = .ok (.i2l, 1) := by decide +kernel
theorem dL_at_9 : decode cL_at 9 = .ok (.lastore, 1) := by decide +kernel
theorem dL_at_10 : decode cL_at 10 = .ok (.goto 11, 3) := by decide +kernel
theorem dL_at_13 : decode cL_at 13 = .ok (.astore 4, 2) := by decide +kernel
theorem dL_at_15 : decode cL_at 15 = .ok (.iconst 1, 1) := by decide +kernel
theorem dL_at_16 : decode cL_at 16 = .ok (.ireturn, 1) := by decide +kernel
theorem dL_at_17 : decode cL_at 17 = .ok (.astore 4, 2) := by decide +kernel
theorem dL_at_19 : decode cL_at 19 = .ok (.iconst 2, 1) := by decide +kernel
theorem dL_at_20 : decode cL_at 20 = .ok (.ireturn, 1) := by decide +kernel
theorem dL_at_21 : decode cL_at 21 = .ok (.iconst 0, 1) := by decide +kernel
theorem dL_at_22 : decode cL_at 22 = .ok (.ireturn, 1) := by decide +kernel
theorem dL_pattern_0 : decode cL_pattern 0 = .ok (.aload 4, 2) := by decide +kernel
theorem dL_pattern_2 : decode cL_pattern 2 = .ok (.iconst 0, 1) := by decide +kernel
theorem dL_pattern_3 : decode cL_pattern 3 = .ok (.aload_n 0, 1) := by decide +kernel
theorem dL_pattern_4 : decode cL_pattern 4 = .ok (.iload_n 1, 1) := by decide +kernel
theorem dL_pattern_5 : decode cL_pattern 5 = .ok (.iload_n 2, 1) := by decide +kernel
theorem dL_pattern_6 : decode cL_pattern 6 = .ok (.iload_n 3, 1) := by decide +kernel
theorem dL_pattern_7 : decode cL_pattern 7 = .ok (.invokevirtual 37, 3) := by decide +kernel
theorem dL_pattern_10 : decode cL_pattern 10 = .ok (.i2l, 1) := by decide +kernel
theorem dL_pattern_11 : decode cL_pattern 11 = .ok (.lastore, 1) := by decide +kernel
theorem dL_pattern_12 : decode cL_pattern 12 = .ok (.goto 15, 3) := by decide +kernel
theorem dL_pattern_15 : decode cL_pattern 15 = .ok (.astore 5, 2) := by decide +kernel
theorem dL_pattern_17 : decode cL_pattern 17 = .ok (.iconst 1, 1) := by decide +kernel
theorem dL_pattern_18 : decode cL_pattern 18 = .ok (.ireturn, 1) := by decide +kernel
theorem dL_pattern_19 : decode cL_pattern 19 = .ok (.astore 5, 2) := by decide +kernel
theorem dL_pattern_21 : decode cL_pattern 21 = .ok (.iconst 2, 1) := by decide +kernel
theorem dL_pattern_22 : decode cL_pattern 22 = .ok (.ireturn, 1) := by decide +kernel
theorem dL_pattern_23 : decode cL_pattern 23 = .ok (.astore 5, 2) := by decide +kernel
theorem dL_pattern_25 : decode cL_pattern 25 = .ok (.iconst 3, 1) := by decide +kernel
theorem dL_pattern_26 : decode cL_pattern 26 = .ok (.ireturn, 1) := by decide +kernel
theorem dL_pattern_27 : decode cL_pattern 27 = .ok (.iconst 0, 1) := by decide +kernel
theorem dL_pattern_28 : decode cL_pattern 28 = .ok (.ireturn, 1) := by decide +kernel
theorem dL_term_0 : decode cL_term 0 = .ok (.aload 4, 2) := by decide +kernel
theorem dL_term_2 : decode cL_term 2 = .ok (.iconst 0, 1) := by decide +kernel
theorem dL_term_3 : decode cL_term 3 = .ok (.aload_n 0, 1) := by decide +kernel
theorem dL_term_4 : decode cL_term 4 = .ok (.iload_n 1, 1) := by decide +kernel
theorem dL_term_5 : decode cL_term 5 = .ok (.iload_n 2, 1) := by decide +kernel
theorem dL_term_6 : decode cL_term 6 = .ok (.iload_n 3, 1) := by decide +kernel
theorem dL_term_7 : decode cL_term 7 = .ok (.invokevirtual 41, 3) := by decide +kernel
theorem dL_term_10 : decode cL_term 10 = .ok (.i2l, 1) := by decide +kernel
theorem dL_term_11 : decode cL_term 11 = .ok (.lastore, 1) := by decide +kernel
theorem dL_term_12 : decode cL_term 12 = .ok (.goto 15, 3) := by decide +kernel
theorem dL_term_15 : decode cL_term 15 = .ok (.astore 5, 2) := by decide +kernel
theorem dL_term_17 : decode cL_term 17 = .ok (.iconst 1, 1) := by decide +kernel
theorem dL_term_18 : decode cL_term 18 = .ok (.ireturn, 1) := by decide +kernel
theorem dL_term_19 : decode cL_term 19 = .ok (.astore 5, 2) := by decide +kernel
theorem dL_term_21 : decode cL_term 21 = .ok (.iconst 2, 1) := by decide +kernel
theorem dL_term_22 : decode cL_term 22 = .ok (.ireturn, 1) := by decide +kernel
theorem dL_term_23 : decode cL_term 23 = .ok (.astore 5, 2) := by decide +kernel
theorem dL_term_25 : decode cL_term 25 = .ok (.iconst 3, 1) := by decide +kernel
theorem dL_term_26 : decode cL_term 26 = .ok (.ireturn, 1) := by decide +kernel
theorem dL_term_27 : decode cL_term 27 = .ok (.iconst 0, 1) := by decide +kernel
theorem dL_term_28 : decode cL_term 28 = .ok (.ireturn, 1) := by decide +kernel
theorem dL_assign_0 : decode cL_assign 0 = .ok (.aload 5, 2) := by decide +kernel
theorem dL_assign_2 : decode cL_assign 2 = .ok (.iconst 0, 1) := by decide +kernel
theorem dL_assign_3 : decode cL_assign 3 = .ok (.aload_n 0, 1) := by decide +kernel
theorem dL_assign_4 : decode cL_assign 4 = .ok (.iload_n 1, 1) := by decide +kernel
theorem dL_assign_5 : decode cL_assign 5 = .ok (.iload_n 2, 1) := by decide +kernel
theorem dL_assign_6 : decode cL_assign 6 = .ok (.iload_n 3, 1) := by decide +kernel
theorem dL_assign_7 : decode cL_assign 7 = .ok (.iload 4, 2) := by decide +kernel
theorem dL_assign_9 : decode cL_assign 9 = .ok (.invokevirtual 44, 3) := by decide +kernel
theorem dL_assign_12 : decode cL_assign 12 = .ok (.i2l, 1) := by decide +kernel
theorem dL_assign_13 : decode cL_assign 13 = .ok (.lastore, 1) := by decide +kernel
theorem dL_assign_14 : decode cL_assign 14 = .ok (.goto 15, 3) := by decide +kernel
theorem dL_assign_17 : decode cL_assign 17 = .ok (.astore 6, 2) := by decide +kernel
theorem dL_assign_19 : decode cL_assign 19 = .ok (.iconst 1, 1) := by decide +kernel
theorem dL_assign_20 : decode cL_assign 20 = .ok (.ireturn, 1) := by decide +kernel
theorem dL_assign_21 : decode cL_assign 21 = .ok (.astore 6, 2) := by decide +kernel
theorem dL_assign_23 : decode cL_assign 23 = .ok (.iconst 2, 1) := by decide +kernel
theorem dL_assign_24 : decode cL_assign 24 = .ok (.ireturn, 1) := by decide +kernel
theorem dL_assign_25 : decode cL_assign 25 = .ok (.astore 6, 2) := by decide +kernel
theorem dL_assign_27 : decode cL_assign 27 = .ok (.iconst 3, 1) := by decide +kernel
theorem dL_assign_28 : decode cL_assign 28 = .ok (.ireturn, 1) := by decide +kernel
theorem dL_assign_29 : decode cL_assign 29 = .ok (.iconst 0, 1) := by decide +kernel
theorem dL_assign_30 : decode cL_assign 30 = .ok (.ireturn, 1) := by decide +kernel
theorem dL_scan_0 : decode cL_scan 0 = .ok (.aload 6, 2) := by decide +kernel
theorem dL_scan_2 : decode cL_scan 2 = .ok (.iconst 0, 1) := by decide +kernel
theorem dL_scan_3 : decode cL_scan 3 = .ok (.aload_n 0, 1) := by decide +kernel
theorem dL_scan_4 : decode cL_scan 4 = .ok (.iload_n 1, 1) := by decide +kernel
theorem dL_scan_5 : decode cL_scan 5 = .ok (.iload_n 2, 1) := by decide +kernel
theorem dL_scan_6 : decode cL_scan 6 = .ok (.iload_n 3, 1) := by decide +kernel
theorem dL_scan_7 : decode cL_scan 7 = .ok (.iload 4, 2) := by decide +kernel
theorem dL_scan_9 : decode cL_scan 9 = .ok (.iload 5, 2) := by decide +kernel
theorem dL_scan_11 : decode cL_scan 11 = .ok (.invokevirtual 48, 3) := by decide +kernel
theorem dL_scan_14 : decode cL_scan 14 = .ok (.i2l, 1) := by decide +kernel
theorem dL_scan_15 : decode cL_scan 15 = .ok (.lastore, 1) := by decide +kernel
theorem dL_scan_16 : decode cL_scan 16 = .ok (.goto 15, 3) := by decide +kernel
theorem dL_scan_19 : decode cL_scan 19 = .ok (.astore 7, 2) := by decide +kernel
theorem dL_scan_21 : decode cL_scan 21 = .ok (.iconst 1, 1) := by decide +kernel
theorem dL_scan_22 : decode cL_scan 22 = .ok (.ireturn, 1) := by decide +kernel
theorem dL_scan_23 : decode cL_scan 23 = .ok (.astore 7, 2) := by decide +kernel
theorem dL_scan_25 : decode cL_scan 25 = .ok (.iconst 2, 1) := by decide +kernel
theorem dL_scan_26 : decode cL_scan 26 = .ok (.ireturn, 1) := by decide +kernel
theorem dL_scan_27 : decode cL_scan 27 = .ok (.astore 7, 2) := by decide +kernel
theorem dL_scan_29 : decode cL_scan 29 = .ok (.iconst 3, 1) := by decide +kernel
theorem dL_scan_30 : decode cL_scan 30 = .ok (.ireturn, 1) := by decide +kernel
theorem dL_scan_31 : decode cL_scan 31 = .ok (.iconst 0, 1) := by decide +kernel
theorem dL_scan_32 : decode cL_scan 32 = .ok (.ireturn, 1) := by decide +kernel
theorem dL_call_0 : decode cL_call 0 = .ok (.aload 6, 2) := by decide +kernel
theorem dL_call_2 : decode cL_call 2 = .ok (.iconst 0, 1) := by decide +kernel
theorem dL_call_3 : decode cL_call 3 = .ok (.aload_n 0, 1) := by decide +kernel
theorem dL_call_4 : decode cL_call 4 = .ok (.iload_n 1, 1) := by decide +kernel
theorem dL_call_5 : decode cL_call 5 = .ok (.iload_n 2, 1) := by decide +kernel
theorem dL_call_6 : decode cL_call 6 = .ok (.iload_n 3, 1) := by decide +kernel
theorem dL_call_7 : decode cL_call 7 = .ok (.iload 4, 2) := by decide +kernel
theorem dL_call_9 : decode cL_call 9 = .ok (.iload 5, 2) := by decide +kernel
theorem dL_call_11 : decode cL_call 11 = .ok (.invokevirtual 52, 3) := by decide +kernel
theorem dL_call_14 : decode cL_call 14 = .ok (.i2l, 1) := by decide +kernel
theorem dL_call_15 : decode cL_call 15 = .ok (.lastore, 1) := by decide +kernel
theorem dL_call_16 : decode cL_call 16 = .ok (.goto 15, 3) := by decide +kernel
theorem dL_call_19 : decode cL_call 19 = .ok (.astore 7, 2) := by decide +kernel
theorem dL_call_21 : decode cL_call 21 = .ok (.iconst 1, 1) := by decide +kernel
theorem dL_call_22 : decode cL_call 22 = .ok (.ireturn, 1) := by decide +kernel
theorem dL_call_23 : decode cL_call 23 = .ok (.astore 7, 2) := by decide +kernel
theorem dL_call_25 : decode cL_call 25 = .ok (.iconst 2, 1) := by decide +kernel
theorem dL_call_26 : decode cL_call 26 = .ok (.ireturn, 1) := by decide +kernel
theorem dL_call_27 : decode cL_call 27 = .ok (.astore 7, 2) := by decide +kernel
theorem dL_call_29 : decode cL_call 29 = .ok (.iconst 3, 1) := by decide +kernel
theorem dL_call_30 : decode cL_call 30 = .ok (.ireturn, 1) := by decide +kernel
theorem dL_call_31 : decode cL_call 31 = .ok (.iconst 0, 1) := by decide +kernel
theorem dL_call_32 : decode cL_call 32 = .ok (.ireturn, 1) := by decide +kernel
theorem dL_define_0 : decode cL_define 0 = .ok (.aload 6, 2) := by decide +kernel
theorem dL_define_2 : decode cL_define 2 = .ok (.iconst 0, 1) := by decide +kernel
theorem dL_define_3 : decode cL_define 3 = .ok (.aload_n 0, 1) := by decide +kernel
theorem dL_define_4 : decode cL_define 4 = .ok (.iload_n 1, 1) := by decide +kernel
theorem dL_define_5 : decode cL_define 5 = .ok (.iload_n 2, 1) := by decide +kernel
theorem dL_define_6 : decode cL_define 6 = .ok (.iload_n 3, 1) := by decide +kernel
theorem dL_define_7 : decode cL_define 7 = .ok (.iload 4, 2) := by decide +kernel
theorem dL_define_9 : decode cL_define 9 = .ok (.iload 5, 2) := by decide +kernel
theorem dL_define_11 : decode cL_define 11 = .ok (.invokevirtual 55, 3) := by decide +kernel
theorem dL_define_14 : decode cL_define 14 = .ok (.ifCond .eq 7, 3) := by decide +kernel
theorem dL_define_17 : decode cL_define 17 = .ok (.lconst 1, 1) := by decide +kernel
theorem dL_define_18 : decode cL_define 18 = .ok (.goto 4, 3) := by decide +kernel
theorem dL_define_21 : decode cL_define 21 = .ok (.lconst 0, 1) := by decide +kernel
theorem dL_define_22 : decode cL_define 22 = .ok (.lastore, 1) := by decide +kernel
theorem dL_define_23 : decode cL_define 23 = .ok (.goto 11, 3) := by decide +kernel
theorem dL_define_26 : decode cL_define 26 = .ok (.astore 7, 2) := by decide +kernel
theorem dL_define_28 : decode cL_define 28 = .ok (.iconst 1, 1) := by decide +kernel
theorem dL_define_29 : decode cL_define 29 = .ok (.ireturn, 1) := by decide +kernel
theorem dL_define_30 : decode cL_define 30 = .ok (.astore 7, 2) := by decide +kernel
theorem dL_define_32 : decode cL_define 32 = .ok (.iconst 2, 1) := by decide +kernel
theorem dL_define_33 : decode cL_define 33 = .ok (.ireturn, 1) := by decide +kernel
theorem dL_define_34 : decode cL_define 34 = .ok (.iconst 0, 1) := by decide +kernel
theorem dL_define_35 : decode cL_define 35 = .ok (.ireturn, 1) := by decide +kernel
theorem dL_run_0 : decode cL_run 0 = .ok (.aload_n 3, 1) := by decide +kernel
theorem dL_run_1 : decode cL_run 1 = .ok (.iconst 0, 1) := by decide +kernel
theorem dL_run_2 : decode cL_run 2 = .ok (.aload_n 0, 1) := by decide +kernel
theorem dL_run_3 : decode cL_run 3 = .ok (.iload_n 1, 1) := by decide +kernel
theorem dL_run_4 : decode cL_run 4 = .ok (.iload_n 2, 1) := by decide +kernel
theorem dL_run_5 : decode cL_run 5 = .ok (.invokevirtual 59, 3) := by decide +kernel
theorem dL_run_8 : decode cL_run 8 = .ok (.i2l, 1) := by decide +kernel
theorem dL_run_9 : decode cL_run 9 = .ok (.lastore, 1) := by decide +kernel
theorem dL_run_10 : decode cL_run 10 = .ok (.goto 11, 3) := by decide +kernel
theorem dL_run_13 : decode cL_run 13 = .ok (.astore 4, 2) := by decide +kernel
theorem dL_run_15 : decode cL_run 15 = .ok (.iconst 1, 1) := by decide +kernel
theorem dL_run_16 : decode cL_run 16 = .ok (.ireturn, 1) := by decide +kernel
theorem dL_run_17 : decode cL_run 17 = .ok (.astore 4, 2) := by decide +kernel
theorem dL_run_19 : decode cL_run 19 = .ok (.iconst 2, 1) := by decide +kernel
theorem dL_run_20 : decode cL_run 20 = .ok (.ireturn, 1) := by decide +kernel
theorem dL_run_21 : decode cL_run 21 = .ok (.iconst 0, 1) := by decide +kernel
theorem dL_run_22 : decode cL_run 22 = .ok (.ireturn, 1) := by decide +kernel
theorem dL_error_0 : decode cL_error 0 = .ok (.aload_n 1, 1) := by decide +kernel
theorem dL_error_1 : decode cL_error 1 = .ok (.iconst 0, 1) := by decide +kernel
theorem dL_error_2 : decode cL_error 2 = .ok (.aload_n 0, 1) := by decide +kernel
theorem dL_error_3 : decode cL_error 3 = .ok (.invokevirtual 63, 3) := by decide +kernel
theorem dL_error_6 : decode cL_error 6 = .ok (.i2l, 1) := by decide +kernel
theorem dL_error_7 : decode cL_error 7 = .ok (.lastore, 1) := by decide +kernel
theorem dL_error_8 : decode cL_error 8 = .ok (.goto 9, 3) := by decide +kernel
theorem dL_error_11 : decode cL_error 11 = .ok (.astore_n 2, 1) := by decide +kernel
theorem dL_error_12 : decode cL_error 12 = .ok (.iconst 1, 1) := by decide +kernel
theorem dL_error_13 : decode cL_error 13 = .ok (.ireturn, 1) := by decide +kernel
theorem dL_error_14 : decode cL_error 14 = .ok (.astore_n 2, 1) := by decide +kernel
theorem dL_error_15 : decode cL_error 15 = .ok (.iconst 2, 1) := by decide +kernel
theorem dL_error_16 : decode cL_error 16 = .ok (.ireturn, 1) := by decide +kernel
theorem dL_error_17 : decode cL_error 17 = .ok (.iconst 0, 1) := by decide +kernel
theorem dL_error_18 : decode cL_error 18 = .ok (.ireturn, 1) := by decide +kernel
theorem dL_last_0 : decode cL_last 0 = .ok (.aload_n 1, 1) := by decide +kernel
theorem dL_last_1 : decode cL_last 1 = .ok (.iconst 0, 1) := by decide +kernel
theorem dL_last_2 : decode cL_last 2 = .ok (.aload_n 0, 1) := by decide +kernel
theorem dL_last_3 : decode cL_last 3 = .ok (.invokevirtual 66, 3) := by decide +kernel
theorem dL_last_6 : decode cL_last 6 = .ok (.i2l, 1) := by decide +kernel
theorem dL_last_7 : decode cL_last 7 = .ok (.lastore, 1) := by decide +kernel
theorem dL_last_8 : decode cL_last 8 = .ok (.goto 6, 3) := by decide +kernel
theorem dL_last_11 : decode cL_last 11 = .ok (.astore_n 2, 1) := by decide +kernel
theorem dL_last_12 : decode cL_last 12 = .ok (.iconst 1, 1) := by decide +kernel
theorem dL_last_13 : decode cL_last 13 = .ok (.ireturn, 1) := by decide +kernel
theorem dL_last_14 : decode cL_last 14 = .ok (.iconst 0, 1) := by decide +kernel
theorem dL_last_15 : decode cL_last 15 = .ok (.ireturn, 1) := by decide +kernel
theorem dL_steps_0 : decode cL_steps 0 = .ok (.aload_n 1, 1) := by decide +kernel
theorem dL_steps_1 : decode cL_steps 1 = .ok (.iconst 0, 1) := by decide +kernel
theorem dL_steps_2 : decode cL_steps 2 = .ok (.aload_n 0, 1) := by decide +kernel
theorem dL_steps_3 : decode cL_steps 3 = .ok (.invokevirtual 69, 3) := by decide +kernel
theorem dL_steps_6 : decode cL_steps 6 = .ok (.i2l, 1) := by decide +kernel
theorem dL_steps_7 : decode cL_steps 7 = .ok (.lastore, 1) := by decide +kernel
theorem dL_steps_8 : decode cL_steps 8 = .ok (.goto 6, 3) := by decide +kernel
theorem dL_steps_11 : decode cL_steps 11 = .ok (.astore_n 2, 1) := by decide +kernel
theorem dL_steps_12 : decode cL_steps 12 = .ok (.iconst 1, 1) := by decide +kernel
theorem dL_steps_13 : decode cL_steps 13 = .ok (.ireturn, 1) := by decide +kernel
theorem dL_steps_14 : decode cL_steps 14 = .ok (.iconst 0, 1) := by decide +kernel
theorem dL_steps_15 : decode cL_steps 15 = .ok (.ireturn, 1) := by decide +kernel
theorem dL_done_0 : decode cL_done 0 = .ok (.aload_n 2, 1) := by decide +kernel
theorem dL_done_1 : decode cL_done 1 = .ok (.iconst 0, 1) := by decide +kernel
theorem dL_done_2 : decode cL_done 2 = .ok (.aload_n 0, 1) := by decide +kernel
theorem dL_done_3 : decode cL_done 3 = .ok (.iload_n 1, 1) := by decide +kernel
theorem dL_done_4 : decode cL_done 4 = .ok (.invokevirtual 72, 3) := by decide +kernel
theorem dL_done_7 : decode cL_done 7 = .ok (.i2l, 1) := by decide +kernel
theorem dL_done_8 : decode cL_done 8 = .ok (.lastore, 1) := by decide +kernel
theorem dL_done_9 : decode cL_done 9 = .ok (.goto 9, 3) := by decide +kernel
theorem dL_done_12 : decode cL_done 12 = .ok (.astore_n 3, 1) := by decide +kernel
theorem dL_done_13 : decode cL_done 13 = .ok (.iconst 1, 1) := by decide +kernel
theorem dL_done_14 : decode cL_done 14 = .ok (.ireturn, 1) := by decide +kernel
theorem dL_done_15 : decode cL_done 15 = .ok (.astore_n 3, 1) := by decide +kernel
theorem dL_done_16 : decode cL_done 16 = .ok (.iconst 2, 1) := by decide +kernel
theorem dL_done_17 : decode cL_done 17 = .ok (.ireturn, 1) := by decide +kernel
theorem dL_done_18 : decode cL_done 18 = .ok (.iconst 0, 1) := by decide +kernel
theorem dL_done_19 : decode cL_done 19 = .ok (.ireturn, 1) := by decide +kernel
theorem dL_failed_0 : decode cL_failed 0 = .ok (.aload_n 2, 1) := by decide +kernel
theorem dL_failed_1 : decode cL_failed 1 = .ok (.iconst 0, 1) := by decide +kernel
theorem dL_failed_2 : decode cL_failed 2 = .ok (.aload_n 0, 1) := by decide +kernel
theorem dL_failed_3 : decode cL_failed 3 = .ok (.iload_n 1, 1) := by decide +kernel
theorem dL_failed_4 : decode cL_failed 4 = .ok (.invokevirtual 75, 3) := by decide +kernel
theorem dL_failed_7 : decode cL_failed 7 = .ok (.i2l, 1) := by decide +kernel
theorem dL_failed_8 : decode cL_failed 8 = .ok (.lastore, 1) := by decide +kernel
theorem dL_failed_9 : decode cL_failed 9 = .ok (.goto 9, 3) := by decide +kernel
theorem dL_failed_12 : decode cL_failed 12 = .ok (.astore_n 3, 1) := by decide +kernel
theorem dL_failed_13 : decode cL_failed 13 = .ok (.iconst 1, 1) := by decide +kernel
theorem dL_failed_14 : decode cL_failed 14 = .ok (.ireturn, 1) := by decide +kernel
theorem dL_failed_15 : decode cL_failed 15 = .ok (.astore_n 3, 1) := by decide +kernel
theorem dL_failed_16 : decode cL_failed 16 = .ok (.iconst 2, 1) := by decide +kernel
theorem dL_failed_17 : decode cL_failed 17 = .ok (.ireturn, 1) := by decide +kernel
theorem dL_failed_18 : decode cL_failed 18 = .ok (.iconst 0, 1) := by decide +kernel
theorem dL_failed_19 : decode cL_failed 19 = .ok (.ireturn, 1) := by decide +kernel
theorem dL_depth_0 : decode cL_depth 0 = .ok (.aload_n 1, 1) := by decide +kernel
theorem dL_depth_1 : decode cL_depth 1 = .ok (.iconst 0, 1) := by decide +kernel
theorem dL_depth_2 : decode cL_depth 2 = .ok (.aload_n 0, 1) := by decide +kernel
theorem dL_depth_3 : decode cL_depth 3 = .ok (.invokevirtual 78, 3) := by decide +kernel
theorem dL_depth_6 : decode cL_depth 6 = .ok (.i2l, 1) := by decide +kernel
theorem dL_depth_7 : decode cL_depth 7 = .ok (.lastore, 1) := by decide +kernel
theorem dL_depth_8 : decode cL_depth 8 = .ok (.goto 6, 3) := by decide +kernel
theorem dL_depth_11 : decode cL_depth 11 = .ok (.astore_n 2, 1) := by decide +kernel
theorem dL_depth_12 : decode cL_depth 12 = .ok (.iconst 1, 1) := by decide +kernel
theorem dL_depth_13 : decode cL_depth 13 = .ok (.ireturn, 1) := by decide +kernel
theorem dL_depth_14 : decode cL_depth 14 = .ok (.iconst 0, 1) := by decide +kernel
theorem dL_depth_15 : decode cL_depth 15 = .ok (.ireturn, 1) := by decide +kernel
theorem dL_match_0 : decode cL_match 0 = .ok (.aload_n 2, 1) := by decide +kernel
theorem dL_match_1 : decode cL_match 1 = .ok (.iconst 0, 1) := by decide +kernel
theorem dL_match_2 : decode cL_match 2 = .ok (.aload_n 0, 1) := by decide +kernel
theorem dL_match_3 : decode cL_match 3 = .ok (.iload_n 1, 1) := by decide +kernel
theorem dL_match_4 : decode cL_match 4 = .ok (.invokevirtual 81, 3) := by decide +kernel
theorem dL_match_7 : decode cL_match 7 = .ok (.ifCond .eq 7, 3) := by decide +kernel
theorem dL_match_10 : decode cL_match 10 = .ok (.lconst 1, 1) := by decide +kernel
theorem dL_match_11 : decode cL_match 11 = .ok (.goto 4, 3) := by decide +kernel
theorem dL_match_14 : decode cL_match 14 = .ok (.lconst 0, 1) := by decide +kernel
theorem dL_match_15 : decode cL_match 15 = .ok (.lastore, 1) := by decide +kernel
theorem dL_match_16 : decode cL_match 16 = .ok (.goto 9, 3) := by decide +kernel
theorem dL_match_19 : decode cL_match 19 = .ok (.astore_n 3, 1) := by decide +kernel
theorem dL_match_20 : decode cL_match 20 = .ok (.iconst 1, 1) := by decide +kernel
theorem dL_match_21 : decode cL_match 21 = .ok (.ireturn, 1) := by decide +kernel
theorem dL_match_22 : decode cL_match 22 = .ok (.astore_n 3, 1) := by decide +kernel
theorem dL_match_23 : decode cL_match 23 = .ok (.iconst 2, 1) := by decide +kernel
theorem dL_match_24 : decode cL_match 24 = .ok (.ireturn, 1) := by decide +kernel
theorem dL_match_25 : decode cL_match 25 = .ok (.iconst 0, 1) := by decide +kernel
theorem dL_match_26 : decode cL_match 26 = .ok (.ireturn, 1) := by decide +kernel
theorem dL_from_0 : decode cL_from 0 = .ok (.aload_n 1, 1) := by decide +kernel
theorem dL_from_1 : decode cL_from 1 = .ok (.iconst 0, 1) := by decide +kernel
theorem dL_from_2 : decode cL_from 2 = .ok (.aload_n 0, 1) := by decide +kernel
theorem dL_from_3 : decode cL_from 3 = .ok (.invokevirtual 87, 3) := by decide +kernel
theorem dL_from_6 : decode cL_from 6 = .ok (.i2l, 1) := by decide +kernel
theorem dL_from_7 : decode cL_from 7 = .ok (.lastore, 1) := by decide +kernel
theorem dL_from_8 : decode cL_from 8 = .ok (.goto 9, 3) := by decide +kernel
theorem dL_from_11 : decode cL_from 11 = .ok (.astore_n 2, 1) := by decide +kernel
theorem dL_from_12 : decode cL_from 12 = .ok (.iconst 1, 1) := by decide +kernel
theorem dL_from_13 : decode cL_from 13 = .ok (.ireturn, 1) := by decide +kernel
theorem dL_from_14 : decode cL_from 14 = .ok (.astore_n 2, 1) := by decide +kernel
theorem dL_from_15 : decode cL_from 15 = .ok (.iconst 2, 1) := by decide +kernel
theorem dL_from_16 : decode cL_from 16 = .ok (.ireturn, 1) := by decide +kernel
theorem dL_from_17 : decode cL_from 17 = .ok (.iconst 0, 1) := by decide +kernel
theorem dL_from_18 : decode cL_from 18 = .ok (.ireturn, 1) := by decide +kernel
theorem dL_to_0 : decode cL_to 0 = .ok (.aload_n 1, 1) := by decide +kernel
theorem dL_to_1 : decode cL_to 1 = .ok (.iconst 0, 1) := by decide +kernel
theorem dL_to_2 : decode cL_to 2 = .ok (.aload_n 0, 1) := by decide +kernel
theorem dL_to_3 : decode cL_to 3 = .ok (.invokevirtual 90, 3) := by decide +kernel
theorem dL_to_6 : decode cL_to 6 = .ok (.i2l, 1) := by decide +kernel
theorem dL_to_7 : decode cL_to 7 = .ok (.lastore, 1) := by decide +kernel
theorem dL_to_8 : decode cL_to 8 = .ok (.goto 9, 3) := by decide +kernel
theorem dL_to_11 : decode cL_to 11 = .ok (.astore_n 2, 1) := by decide +kernel
theorem dL_to_12 : decode cL_to 12 = .ok (.iconst 1, 1) := by decide +kernel
theorem dL_to_13 : decode cL_to 13 = .ok (.ireturn, 1) := by decide +kernel
theorem dL_to_14 : decode cL_to 14 = .ok (.astore_n 2, 1) := by decide +kernel
theorem dL_to_15 : decode cL_to 15 = .ok (.iconst 2, 1) := by decide +kernel
theorem dL_to_16 : decode cL_to 16 = .ok (.ireturn, 1) := by decide +kernel
theorem dL_to_17 : decode cL_to 17 = .ok (.iconst 0, 1) := by decide +kernel
theorem dL_to_18 : decode cL_to 18 = .ok (.ireturn, 1) := by decide +kernel
theorem dL_begun_0 : decode cL_begun 0 = .ok (.aload_n 1, 1) := by decide +kernel
theorem dL_begun_1 : decode cL_begun 1 = .ok (.iconst 0, 1) := by decide +kernel
theorem dL_begun_2 : decode cL_begun 2 = .ok (.aload_n 0, 1) := by decide +kernel
theorem dL_begun_3 : decode cL_begun 3 = .ok (.invokevirtual 93, 3) := by decide +kernel
theorem dL_begun_6 : decode cL_begun 6 = .ok (.i2l, 1) := by decide +kernel
theorem dL_begun_7 : decode cL_begun 7 = .ok (.lastore, 1) := by decide +kernel
theorem dL_begun_8 : decode cL_begun 8 = .ok (.goto 6, 3) := by decide +kernel
theorem dL_begun_11 : decode cL_begun 11 = .ok (.astore_n 2, 1) := by decide +kernel
theorem dL_begun_12 : decode cL_begun 12 = .ok (.iconst 1, 1) := by decide +kernel
theorem dL_begun_13 : decode cL_begun 13 = .ok (.ireturn, 1) := by decide +kernel
theorem dL_begun_14 : decode cL_begun 14 = .ok (.iconst 0, 1) := by decide +kernel
theorem dL_begun_15 : decode cL_begun 15 = .ok (.ireturn, 1) := by decide +kernel
theorem dL_ways_0 : decode cL_ways 0 = .ok (.aload_n 2, 1) := by decide +kernel
theorem dL_ways_1 : decode cL_ways 1 = .ok (.iconst 0, 1) := by decide +kernel
theorem dL_ways_2 : decode cL_ways 2 = .ok (.aload_n 0, 1) := by decide +kernel
theorem dL_ways_3 : decode cL_ways 3 = .ok (.iload_n 1, 1) := by decide +kernel
theorem dL_ways_4 : decode cL_ways 4 = .ok (.invokevirtual 96, 3) := by decide +kernel
theorem dL_ways_7 : decode cL_ways 7 = .ok (.i2l, 1) := by decide +kernel
theorem dL_ways_8 : decode cL_ways 8 = .ok (.lastore, 1) := by decide +kernel
theorem dL_ways_9 : decode cL_ways 9 = .ok (.goto 9, 3) := by decide +kernel
theorem dL_ways_12 : decode cL_ways 12 = .ok (.astore_n 3, 1) := by decide +kernel
theorem dL_ways_13 : decode cL_ways 13 = .ok (.iconst 1, 1) := by decide +kernel
theorem dL_ways_14 : decode cL_ways 14 = .ok (.ireturn, 1) := by decide +kernel
theorem dL_ways_15 : decode cL_ways 15 = .ok (.astore_n 3, 1) := by decide +kernel
theorem dL_ways_16 : decode cL_ways 16 = .ok (.iconst 2, 1) := by decide +kernel
theorem dL_ways_17 : decode cL_ways 17 = .ok (.ireturn, 1) := by decide +kernel
theorem dL_ways_18 : decode cL_ways 18 = .ok (.iconst 0, 1) := by decide +kernel
theorem dL_ways_19 : decode cL_ways 19 = .ok (.ireturn, 1) := by decide +kernel
theorem dL_way_0 : decode cL_way 0 = .ok (.aload_n 3, 1) := by decide +kernel
theorem dL_way_1 : decode cL_way 1 = .ok (.iconst 0, 1) := by decide +kernel
theorem dL_way_2 : decode cL_way 2 = .ok (.aload_n 0, 1) := by decide +kernel
theorem dL_way_3 : decode cL_way 3 = .ok (.iload_n 1, 1) := by decide +kernel
theorem dL_way_4 : decode cL_way 4 = .ok (.iload_n 2, 1) := by decide +kernel
theorem dL_way_5 : decode cL_way 5 = .ok (.invokevirtual 99, 3) := by decide +kernel
theorem dL_way_8 : decode cL_way 8 = .ok (.i2l, 1) := by decide +kernel
theorem dL_way_9 : decode cL_way 9 = .ok (.lastore, 1) := by decide +kernel
theorem dL_way_10 : decode cL_way 10 = .ok (.goto 15, 3) := by decide +kernel
theorem dL_way_13 : decode cL_way 13 = .ok (.astore 4, 2) := by decide +kernel
theorem dL_way_15 : decode cL_way 15 = .ok (.iconst 1, 1) := by decide +kernel
theorem dL_way_16 : decode cL_way 16 = .ok (.ireturn, 1) := by decide +kernel
theorem dL_way_17 : decode cL_way 17 = .ok (.astore 4, 2) := by decide +kernel
theorem dL_way_19 : decode cL_way 19 = .ok (.iconst 2, 1) := by decide +kernel
theorem dL_way_20 : decode cL_way 20 = .ok (.ireturn, 1) := by decide +kernel
theorem dL_way_21 : decode cL_way 21 = .ok (.astore 4, 2) := by decide +kernel
theorem dL_way_23 : decode cL_way 23 = .ok (.iconst 3, 1) := by decide +kernel
theorem dL_way_24 : decode cL_way 24 = .ok (.ireturn, 1) := by decide +kernel
theorem dL_way_25 : decode cL_way 25 = .ok (.iconst 0, 1) := by decide +kernel
theorem dL_way_26 : decode cL_way 26 = .ok (.ireturn, 1) := by decide +kernel
theorem dL_work_0 : decode cL_work 0 = .ok (.aload_n 2, 1) := by decide +kernel
theorem dL_work_1 : decode cL_work 1 = .ok (.iconst 0, 1) := by decide +kernel
theorem dL_work_2 : decode cL_work 2 = .ok (.aload_n 0, 1) := by decide +kernel
theorem dL_work_3 : decode cL_work 3 = .ok (.iload_n 1, 1) := by decide +kernel
theorem dL_work_4 : decode cL_work 4 = .ok (.invokevirtual 102, 3) := by decide +kernel
theorem dL_work_7 : decode cL_work 7 = .ok (.ifCond .eq 7, 3) := by decide +kernel
theorem dL_work_10 : decode cL_work 10 = .ok (.lconst 1, 1) := by decide +kernel
theorem dL_work_11 : decode cL_work 11 = .ok (.goto 4, 3) := by decide +kernel
theorem dL_work_14 : decode cL_work 14 = .ok (.lconst 0, 1) := by decide +kernel
theorem dL_work_15 : decode cL_work 15 = .ok (.lastore, 1) := by decide +kernel
theorem dL_work_16 : decode cL_work 16 = .ok (.goto 9, 3) := by decide +kernel
theorem dL_work_19 : decode cL_work 19 = .ok (.astore_n 3, 1) := by decide +kernel
theorem dL_work_20 : decode cL_work 20 = .ok (.iconst 1, 1) := by decide +kernel
theorem dL_work_21 : decode cL_work 21 = .ok (.ireturn, 1) := by decide +kernel
theorem dL_work_22 : decode cL_work 22 = .ok (.astore_n 3, 1) := by decide +kernel
theorem dL_work_23 : decode cL_work 23 = .ok (.iconst 2, 1) := by decide +kernel
theorem dL_work_24 : decode cL_work 24 = .ok (.ireturn, 1) := by decide +kernel
theorem dL_work_25 : decode cL_work 25 = .ok (.iconst 0, 1) := by decide +kernel
theorem dL_work_26 : decode cL_work 26 = .ok (.ireturn, 1) := by decide +kernel
theorem dL_typed_0 : decode cL_typed 0 = .ok (.aload_n 2, 1) := by decide +kernel
theorem dL_typed_1 : decode cL_typed 1 = .ok (.iconst 0, 1) := by decide +kernel
theorem dL_typed_2 : decode cL_typed 2 = .ok (.aload_n 0, 1) := by decide +kernel
theorem dL_typed_3 : decode cL_typed 3 = .ok (.iload_n 1, 1) := by decide +kernel
theorem dL_typed_4 : decode cL_typed 4 = .ok (.invokevirtual 105, 3) := by decide +kernel
theorem dL_typed_7 : decode cL_typed 7 = .ok (.i2l, 1) := by decide +kernel
theorem dL_typed_8 : decode cL_typed 8 = .ok (.lastore, 1) := by decide +kernel
theorem dL_typed_9 : decode cL_typed 9 = .ok (.goto 6, 3) := by decide +kernel
theorem dL_typed_12 : decode cL_typed 12 = .ok (.astore_n 3, 1) := by decide +kernel
theorem dL_typed_13 : decode cL_typed 13 = .ok (.iconst 1, 1) := by decide +kernel
theorem dL_typed_14 : decode cL_typed 14 = .ok (.ireturn, 1) := by decide +kernel
theorem dL_typed_15 : decode cL_typed 15 = .ok (.iconst 0, 1) := by decide +kernel
theorem dL_typed_16 : decode cL_typed 16 = .ok (.ireturn, 1) := by decide +kernel
theorem dL_failShare_0 : decode cL_failShare 0 = .ok (.aload_n 1, 1) := by decide +kernel
theorem dL_failShare_1 : decode cL_failShare 1 = .ok (.iconst 0, 1) := by decide +kernel
theorem dL_failShare_2 : decode cL_failShare 2 = .ok (.aload_n 0, 1) := by decide +kernel
theorem dL_failShare_3 : decode cL_failShare 3 = .ok (.invokevirtual 108, 3) := by decide +kernel
theorem dL_failShare_6 : decode cL_failShare 6 = .ok (.f2d, 1) := by decide +kernel
theorem dL_failShare_7 : decode cL_failShare 7 = .ok (.dastore, 1) := by decide +kernel
theorem dL_failShare_8 : decode cL_failShare 8 = .ok (.goto 6, 3) := by decide +kernel
theorem dL_failShare_11 : decode cL_failShare 11 = .ok (.astore_n 2, 1) := by decide +kernel
theorem dL_failShare_12 : decode cL_failShare 12 = .ok (.iconst 1, 1) := by decide +kernel
theorem dL_failShare_13 : decode cL_failShare 13 = .ok (.ireturn, 1) := by decide +kernel
theorem dL_failShare_14 : decode cL_failShare 14 = .ok (.iconst 0, 1) := by decide +kernel
theorem dL_failShare_15 : decode cL_failShare 15 = .ok (.ireturn, 1) := by decide +kernel
theorem dL_meanSize_0 : decode cL_meanSize 0 = .ok (.aload_n 1, 1) := by decide +kernel
theorem dL_meanSize_1 : decode cL_meanSize 1 = .ok (.iconst 0, 1) := by decide +kernel
theorem dL_meanSize_2 : decode cL_meanSize 2 = .ok (.aload_n 0, 1) := by decide +kernel
theorem dL_meanSize_3 : decode cL_meanSize 3 = .ok (.invokevirtual 112, 3) := by decide +kernel
theorem dL_meanSize_6 : decode cL_meanSize 6 = .ok (.dastore, 1) := by decide +kernel
theorem dL_meanSize_7 : decode cL_meanSize 7 = .ok (.goto 6, 3) := by decide +kernel
theorem dL_meanSize_10 : decode cL_meanSize 10 = .ok (.astore_n 2, 1) := by decide +kernel
theorem dL_meanSize_11 : decode cL_meanSize 11 = .ok (.iconst 1, 1) := by decide +kernel
theorem dL_meanSize_12 : decode cL_meanSize 12 = .ok (.ireturn, 1) := by decide +kernel
theorem dL_meanSize_13 : decode cL_meanSize 13 = .ok (.iconst 0, 1) := by decide +kernel
theorem dL_meanSize_14 : decode cL_meanSize 14 = .ok (.ireturn, 1) := by decide +kernel
