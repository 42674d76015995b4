theorem dX8_init_0 : decode cX8_init 0 = .ok (.aload_n 0, 1) := by decide +kernel
theorem dX8_init_1 : decode cX8_init 1 = .ok (.invokespecial 1, 3) := by decide +kernel
theorem dX8_init_4 : decode cX8_init 4 = .ok (.aload_n 0, 1) := by decide +kernel
theorem dX8_init_5 : decode cX8_init 5 = .ok (.new 7, 3) := by decide +kernel
theorem dX8_init_8 : decode cX8_init 8 = .ok (.dup, 1) := by decide +kernel
theorem dX8_init_9 : decode cX8_init 9 = .ok (.iconst 1, 1) := by decide +kernel
theorem dX8_init_10 : decode cX8_init 10 = .ok (.bipush 60, 2) := by decide +kernel
theorem dX8_init_12 : decode cX8_init 12 = .ok (.invokespecial 11, 3) := by decide +kernel
theorem dX8_init_15 : decode cX8_init 15 = .ok (.putfield 14, 3) := by decide +kernel
theorem dX8_init_18 : decode cX8_init 18 = .ok (.aload_n 0, 1) := by decide +kernel
theorem dX8_init_19 : decode cX8_init 19 = .ok (.new 7, 3) := by decide +kernel
theorem dX8_init_22 : decode cX8_init 22 = .ok (.dup, 1) := by decide +kernel
theorem dX8_init_23 : decode cX8_init 23 = .ok (.bipush 30, 2) := by decide +kernel
theorem dX8_init_25 : decode cX8_init 25 = .ok (.bipush 20, 2) := by decide +kernel
theorem dX8_init_27 : decode cX8_init 27 = .ok (.invokespecial 11, 3) := by decide +kernel
theorem dX8_init_30 : decode cX8_init 30 = .ok (.putfield 18, 3) := by decide +kernel
theorem dX8_init_33 : decode cX8_init 33 = .ok (.aload_n 0, 1) := by decide +kernel
theorem dX8_init_34 : decode cX8_init 34 = .ok (.new 7, 3) := by decide +kernel
theorem dX8_init_37 : decode cX8_init 37 = .ok (.dup, 1) := by decide +kernel
theorem dX8_init_38 : decode cX8_init 38 = .ok (.bipush 26, 2) := by decide +kernel
theorem dX8_init_40 : decode cX8_init 40 = .ok (.bipush 60, 2) := by decide +kernel
theorem dX8_init_42 : decode cX8_init 42 = .ok (.invokespecial 11, 3) := by decide +kernel
theorem dX8_init_45 : decode cX8_init 45 = .ok (.putfield 21, 3) := by decide +kernel
theorem dX8_init_48 : decode cX8_init 48 = .ok (.aload_n 0, 1) := by decide +kernel
theorem dX8_init_49 : decode cX8_init 49 = .ok (.new 7, 3) := by decide +kernel
theorem dX8_init_52 : decode cX8_init 52 = .ok (.dup, 1) := by decide +kernel
theorem dX8_init_53 : decode cX8_init 53 = .ok (.bipush 26, 2) := by decide +kernel
theorem dX8_init_55 : decode cX8_init 55 = .ok (.bipush 60, 2) := by decide +kernel
theorem dX8_init_57 : decode cX8_init 57 = .ok (.invokespecial 11, 3) := by decide +kernel
theorem dX8_init_60 : decode cX8_init 60 = .ok (.putfield 24, 3) := by decide +kernel
theorem dX8_init_63 : decode cX8_init 63 = .ok (.aload_n 0, 1) := by decide +kernel
theorem dX8_init_64 : decode cX8_init 64 = .ok (.new 27, 3) := by decide +kernel
theorem dX8_init_67 : decode cX8_init 67 = .ok (.dup, 1) := by decide +kernel
theorem dX8_init_68 : decode cX8_init 68 = .ok (.bipush 50, 2) := by decide +kernel
theorem dX8_init_70 : decode cX8_init 70 = .ok (.invokespecial 29, 3) := by decide +kernel
theorem dX8_init_73 : decode cX8_init 73 = .ok (.putfield 32, 3) := by decide +kernel
theorem dX8_init_76 : decode cX8_init 76 = .ok (.aload_n 0, 1) := by decide +kernel
theorem dX8_init_77 : decode cX8_init 77 = .ok (.new 27, 3) := by decide +kernel
theorem dX8_init_80 : decode cX8_init 80 = .ok (.dup, 1) := by decide +kernel
theorem dX8_init_81 : decode cX8_init 81 = .ok (.bipush 50, 2) := by decide +kernel
theorem dX8_init_83 : decode cX8_init 83 = .ok (.invokespecial 29, 3) := by decide +kernel
theorem dX8_init_86 : decode cX8_init 86 = .ok (.putfield 36, 3) := by decide +kernel
theorem dX8_init_89 : decode cX8_init 89 = .ok (.aload_n 0, 1) := by decide +kernel
theorem dX8_init_90 : decode cX8_init 90 = .ok (.new 39, 3) := by decide +kernel
theorem dX8_init_93 : decode cX8_init 93 = .ok (.dup, 1) := by decide +kernel
theorem dX8_init_94 : decode cX8_init 94 = .ok (.aload_n 0, 1) := by decide +kernel
theorem dX8_init_95 : decode cX8_init 95 = .ok (.getfield 32, 3) := by decide +kernel
theorem dX8_init_98 : decode cX8_init 98 = .ok (.aload_n 0, 1) := by decide +kernel
theorem dX8_init_99 : decode cX8_init 99 = .ok (.getfield 18, 3) := by decide +kernel
theorem dX8_init_102 : decode cX8_init 102 = .ok (.aload_n 0, 1) := by decide +kernel
theorem dX8_init_103 : decode cX8_init 103 = .ok (.getfield 21, 3) := by decide +kernel
theorem dX8_init_106 : decode cX8_init 106 = .ok (.invokespecial 41, 3) := by decide +kernel
theorem dX8_init_109 : decode cX8_init 109 = .ok (.putfield 44, 3) := by decide +kernel
theorem dX8_init_112 : decode cX8_init 112 = .ok (.aload_n 0, 1) := by decide +kernel
theorem dX8_init_113 : decode cX8_init 113 = .ok (.new 48, 3) := by decide +kernel
theorem dX8_init_116 : decode cX8_init 116 = .ok (.dup, 1) := by decide +kernel
theorem dX8_init_117 : decode cX8_init 117 = .ok (.aload_n 0, 1) := by decide +kernel
theorem dX8_init_118 : decode cX8_init 118 = .ok (.getfield 36, 3) := by decide +kernel
theorem dX8_init_121 : decode cX8_init 121 = .ok (.aload_n 0, 1) := by decide +kernel
theorem dX8_init_122 : decode cX8_init 122 = .ok (.getfield 18, 3) := by decide +kernel
theorem dX8_init_125 : decode cX8_init 125 = .ok (.aload_n 0, 1) := by decide +kernel
theorem dX8_init_126 : decode cX8_init 126 = .ok (.getfield 21, 3) := by decide +kernel
theorem dX8_init_129 : decode cX8_init 129 = .ok (.invokespecial 50, 3) := by decide +kernel
theorem dX8_init_132 : decode cX8_init 132 = .ok (.putfield 51, 3) := by decide +kernel
theorem dX8_init_135 : decode cX8_init 135 = .ok (.aload_n 0, 1) := by decide +kernel
theorem dX8_init_136 : decode cX8_init 136 = .ok (.new 55, 3) := by decide +kernel
theorem dX8_init_139 : decode cX8_init 139 = .ok (.dup, 1) := by decide +kernel
theorem dX8_init_140 : decode cX8_init 140 = .ok (.invokespecial 57, 3) := by decide +kernel
theorem dX8_init_143 : decode cX8_init 143 = .ok (.putfield 58, 3) := by decide +kernel
theorem dX8_init_146 : decode cX8_init 146 = .ok (.aload_n 0, 1) := by decide +kernel
theorem dX8_init_147 : decode cX8_init 147 = .ok (.new 62, 3) := by decide +kernel
theorem dX8_init_150 : decode cX8_init 150 = .ok (.dup, 1) := by decide +kernel
theorem dX8_init_151 : decode cX8_init 151 = .ok (.aload_n 0, 1) := by decide +kernel
theorem dX8_init_152 : decode cX8_init 152 = .ok (.getfield 58, 3) := by decide +kernel
theorem dX8_init_155 : decode cX8_init 155 = .ok (.aload_n 0, 1) := by decide +kernel
theorem dX8_init_156 : decode cX8_init 156 = .ok (.getfield 44, 3) := by decide +kernel
theorem dX8_init_159 : decode cX8_init 159 = .ok (.aload_n 0, 1) := by decide +kernel
theorem dX8_init_160 : decode cX8_init 160 = .ok (.getfield 51, 3) := by decide +kernel
theorem dX8_init_163 : decode cX8_init 163 = .ok (.aload_n 0, 1) := by decide +kernel
theorem dX8_init_164 : decode cX8_init 164 = .ok (.getfield 21, 3) := by decide +kernel
theorem dX8_init_167 : decode cX8_init 167 = .ok (.invokespecial 64, 3) := by decide +kernel
theorem dX8_init_170 : decode cX8_init 170 = .ok (.putfield 67, 3) := by decide +kernel
theorem dX8_init_173 : decode cX8_init 173 = .ok (.aload_n 0, 1) := by decide +kernel
theorem dX8_init_174 : decode cX8_init 174 = .ok (.new 71, 3) := by decide +kernel
theorem dX8_init_177 : decode cX8_init 177 = .ok (.dup, 1) := by decide +kernel
theorem dX8_init_178 : decode cX8_init 178 = .ok (.sipush 200, 3) := by decide +kernel
theorem dX8_init_181 : decode cX8_init 181 = .ok (.invokespecial 73, 3) := by decide +kernel
theorem dX8_init_184 : decode cX8_init 184 = .ok (.putfield 74, 3) := by decide +kernel
theorem dX8_init_187 : decode cX8_init 187 = .ok (.return_, 1) := by decide +kernel
theorem dX8_type_0 : decode cX8_type 0 = .ok (.iload_n 1, 1) := by decide +kernel
theorem dX8_type_1 : decode cX8_type 1 = .ok (.invokestatic 78, 3) := by decide +kernel
theorem dX8_type_4 : decode cX8_type 4 = .ok (.ifCond .ne 13, 3) := by decide +kernel
theorem dX8_type_7 : decode cX8_type 7 = .ok (.new 82, 3) := by decide +kernel
theorem dX8_type_10 : decode cX8_type 10 = .ok (.dup, 1) := by decide +kernel
theorem dX8_type_11 : decode cX8_type 11 = .ok (.ldc 84, 2) := by decide +kernel
theorem dX8_type_13 : decode cX8_type 13 = .ok (.invokespecial 86, 3) := by decide +kernel
theorem dX8_type_16 : decode cX8_type 16 = .ok (.athrow, 1) := by decide +kernel
theorem dX8_type_17 : decode cX8_type 17 = .ok (.aload_n 0, 1) := by decide +kernel
theorem dX8_type_18 : decode cX8_type 18 = .ok (.getfield 14, 3) := by decide +kernel
theorem dX8_type_21 : decode cX8_type 21 = .ok (.iconst 0, 1) := by decide +kernel
theorem dX8_type_22 : decode cX8_type 22 = .ok (.invokevirtual 89, 3) := by decide +kernel
theorem dX8_type_25 : decode cX8_type 25 = .ok (.bipush 60, 2) := by decide +kernel
theorem dX8_type_27 : decode cX8_type 27 = .ok (.if_icmp .lt 13, 3) := by decide +kernel
theorem dX8_type_30 : decode cX8_type 30 = .ok (.new 93, 3) := by decide +kernel
theorem dX8_type_33 : decode cX8_type 33 = .ok (.dup, 1) := by decide +kernel
theorem dX8_type_34 : decode cX8_type 34 = .ok (.ldc 95, 2) := by decide +kernel
theorem dX8_type_36 : decode cX8_type 36 = .ok (.invokespecial 97, 3) := by decide +kernel
theorem dX8_type_39 : decode cX8_type 39 = .ok (.athrow, 1) := by decide +kernel
theorem dX8_type_40 : decode cX8_type 40 = .ok (.aload_n 0, 1) := by decide +kernel
theorem dX8_type_41 : decode cX8_type 41 = .ok (.getfield 14, 3) := by decide +kernel
theorem dX8_type_44 : decode cX8_type 44 = .ok (.iconst 0, 1) := by decide +kernel
theorem dX8_type_45 : decode cX8_type 45 = .ok (.iload_n 1, 1) := by decide +kernel
theorem dX8_type_46 : decode cX8_type 46 = .ok (.invokevirtual 98, 3) := by decide +kernel
theorem dX8_type_49 : decode cX8_type 49 = .ok (.aload_n 0, 1) := by decide +kernel
theorem dX8_type_50 : decode cX8_type 50 = .ok (.getfield 14, 3) := by decide +kernel
theorem dX8_type_53 : decode cX8_type 53 = .ok (.iconst 0, 1) := by decide +kernel
theorem dX8_type_54 : decode cX8_type 54 = .ok (.invokevirtual 89, 3) := by decide +kernel
theorem dX8_type_57 : decode cX8_type 57 = .ok (.ireturn, 1) := by decide +kernel
theorem dX8_wipe_0 : decode cX8_wipe 0 = .ok (.aload_n 0, 1) := by decide +kernel
theorem dX8_wipe_1 : decode cX8_wipe 1 = .ok (.getfield 14, 3) := by decide +kernel
theorem dX8_wipe_4 : decode cX8_wipe 4 = .ok (.iconst 0, 1) := by decide +kernel
theorem dX8_wipe_5 : decode cX8_wipe 5 = .ok (.invokevirtual 89, 3) := by decide +kernel
theorem dX8_wipe_8 : decode cX8_wipe 8 = .ok (.istore_n 1, 1) := by decide +kernel
theorem dX8_wipe_9 : decode cX8_wipe 9 = .ok (.aload_n 0, 1) := by decide +kernel
theorem dX8_wipe_10 : decode cX8_wipe 10 = .ok (.getfield 14, 3) := by decide +kernel
theorem dX8_wipe_13 : decode cX8_wipe 13 = .ok (.iconst 0, 1) := by decide +kernel
theorem dX8_wipe_14 : decode cX8_wipe 14 = .ok (.invokevirtual 101, 3) := by decide +kernel
theorem dX8_wipe_17 : decode cX8_wipe 17 = .ok (.iload_n 1, 1) := by decide +kernel
theorem dX8_wipe_18 : decode cX8_wipe 18 = .ok (.ireturn, 1) := by decide +kernel
theorem dX8_text_0 : decode cX8_text 0 = .ok (.aload_n 0, 1) := by decide +kernel
theorem dX8_text_1 : decode cX8_text 1 = .ok (.getfield 14, 3) := by decide +kernel
theorem dX8_text_4 : decode cX8_text 4 = .ok (.iconst 0, 1) := by decide +kernel
theorem dX8_text_5 : decode cX8_text 5 = .ok (.invokevirtual 89, 3) := by decide +kernel
theorem dX8_text_8 : decode cX8_text 8 = .ok (.bipush 20, 2) := by decide +kernel
theorem dX8_text_10 : decode cX8_text 10 = .ok (.if_icmp .le 13, 3) := by decide +kernel
theorem dX8_text_13 : decode cX8_text 13 = .ok (.new 104, 3) := by decide +kernel
theorem dX8_text_16 : decode cX8_text 16 = .ok (.dup, 1) := by decide +kernel
theorem dX8_text_17 : decode cX8_text 17 = .ok (.ldc 106, 2) := by decide +kernel
theorem dX8_text_19 : decode cX8_text 19 = .ok (.invokespecial 108, 3) := by decide +kernel
theorem dX8_text_22 : decode cX8_text 22 = .ok (.athrow, 1) := by decide +kernel
theorem dX8_text_23 : decode cX8_text 23 = .ok (.aload_n 0, 1) := by decide +kernel
theorem dX8_text_24 : decode cX8_text 24 = .ok (.getfield 109, 3) := by decide +kernel
theorem dX8_text_27 : decode cX8_text 27 = .ok (.bipush 30, 2) := by decide +kernel
theorem dX8_text_29 : decode cX8_text 29 = .ok (.if_icmp .lt 13, 3) := by decide +kernel
theorem dX8_text_32 : decode cX8_text 32 = .ok (.new 93, 3) := by decide +kernel
theorem dX8_text_35 : decode cX8_text 35 = .ok (.dup, 1) := by decide +kernel
theorem dX8_text_36 : decode cX8_text 36 = .ok (.ldc 113, 2) := by decide +kernel
theorem dX8_text_38 : decode cX8_text 38 = .ok (.invokespecial 97, 3) := by decide +kernel
theorem dX8_text_41 : decode cX8_text 41 = .ok (.athrow, 1) := by decide +kernel
theorem dX8_text_42 : decode cX8_text 42 = .ok (.aload_n 0, 1) := by decide +kernel
theorem dX8_text_43 : decode cX8_text 43 = .ok (.getfield 109, 3) := by decide +kernel
theorem dX8_text_46 : decode cX8_text 46 = .ok (.istore_n 1, 1) := by decide +kernel
theorem dX8_text_47 : decode cX8_text 47 = .ok (.aload_n 0, 1) := by decide +kernel
theorem dX8_text_48 : decode cX8_text 48 = .ok (.getfield 18, 3) := by decide +kernel
theorem dX8_text_51 : decode cX8_text 51 = .ok (.iload_n 1, 1) := by decide +kernel
theorem dX8_text_52 : decode cX8_text 52 = .ok (.aload_n 0, 1) := by decide +kernel
theorem dX8_text_53 : decode cX8_text 53 = .ok (.getfield 14, 3) := by decide +kernel
theorem dX8_text_56 : decode cX8_text 56 = .ok (.iconst 0, 1) := by decide +kernel
theorem dX8_text_57 : decode cX8_text 57 = .ok (.invokevirtual 115, 3) := by decide +kernel
theorem dX8_text_60 : decode cX8_text 60 = .ok (.aload_n 0, 1) := by decide +kernel
theorem dX8_text_61 : decode cX8_text 61 = .ok (.getfield 14, 3) := by decide +kernel
theorem dX8_text_64 : decode cX8_text 64 = .ok (.iconst 0, 1) := by decide +kernel
theorem dX8_text_65 : decode cX8_text 65 = .ok (.invokevirtual 101, 3) := by decide +kernel
theorem dX8_text_68 : decode cX8_text 68 = .ok (.aload_n 0, 1) := by decide +kernel
theorem dX8_text_69 : decode cX8_text 69 = .ok (.dup, 1) := by decide +kernel
theorem dX8_text_70 : decode cX8_text 70 = .ok (.getfield 109, 3) := by decide +kernel
theorem dX8_text_73 : decode cX8_text 73 = .ok (.iconst 1, 1) := by decide +kernel
theorem dX8_text_74 : decode cX8_text 74 = .ok (.iadd, 1) := by decide +kernel
theorem dX8_text_75 : decode cX8_text 75 = .ok (.putfield 109, 3) := by decide +kernel
theorem dX8_text_78 : decode cX8_text 78 = .ok (.iload_n 1, 1) := by decide +kernel
theorem dX8_text_79 : decode cX8_text 79 = .ok (.ireturn, 1) := by decide +kernel
theorem dX8_set_0 : decode cX8_set 0 = .ok (.iload_n 1, 1) := by decide +kernel
theorem dX8_set_1 : decode cX8_set 1 = .ok (.invokestatic 119, 3) := by decide +kernel
theorem dX8_set_4 : decode cX8_set 4 = .ok (.aload_n 0, 1) := by decide +kernel
theorem dX8_set_5 : decode cX8_set 5 = .ok (.getfield 21, 3) := by decide +kernel
theorem dX8_set_8 : decode cX8_set 8 = .ok (.iload_n 1, 1) := by decide +kernel
theorem dX8_set_9 : decode cX8_set 9 = .ok (.invokevirtual 89, 3) := by decide +kernel
theorem dX8_set_12 : decode cX8_set 12 = .ok (.istore_n 2, 1) := by decide +kernel
theorem dX8_set_13 : decode cX8_set 13 = .ok (.aload_n 0, 1) := by decide +kernel
theorem dX8_set_14 : decode cX8_set 14 = .ok (.getfield 21, 3) := by decide +kernel
theorem dX8_set_17 : decode cX8_set 17 = .ok (.iload_n 1, 1) := by decide +kernel
theorem dX8_set_18 : decode cX8_set 18 = .ok (.aload_n 0, 1) := by decide +kernel
theorem dX8_set_19 : decode cX8_set 19 = .ok (.getfield 14, 3) := by decide +kernel
theorem dX8_set_22 : decode cX8_set 22 = .ok (.iconst 0, 1) := by decide +kernel
theorem dX8_set_23 : decode cX8_set 23 = .ok (.invokevirtual 115, 3) := by decide +kernel
theorem dX8_set_26 : decode cX8_set 26 = .ok (.aload_n 0, 1) := by decide +kernel
theorem dX8_set_27 : decode cX8_set 27 = .ok (.getfield 14, 3) := by decide +kernel
theorem dX8_set_30 : decode cX8_set 30 = .ok (.iconst 0, 1) := by decide +kernel
theorem dX8_set_31 : decode cX8_set 31 = .ok (.invokevirtual 101, 3) := by decide +kernel
theorem dX8_set_34 : decode cX8_set 34 = .ok (.iload_n 2, 1) := by decide +kernel
theorem dX8_set_35 : decode cX8_set 35 = .ok (.ireturn, 1) := by decide +kernel
theorem dX8_size_0 : decode cX8_size 0 = .ok (.iload_n 1, 1) := by decide +kernel
theorem dX8_size_1 : decode cX8_size 1 = .ok (.invokestatic 119, 3) := by decide +kernel
theorem dX8_size_4 : decode cX8_size 4 = .ok (.aload_n 0, 1) := by decide +kernel
theorem dX8_size_5 : decode cX8_size 5 = .ok (.getfield 21, 3) := by decide +kernel
theorem dX8_size_8 : decode cX8_size 8 = .ok (.iload_n 1, 1) := by decide +kernel
theorem dX8_size_9 : decode cX8_size 9 = .ok (.invokevirtual 89, 3) := by decide +kernel
theorem dX8_size_12 : decode cX8_size 12 = .ok (.ireturn, 1) := by decide +kernel
theorem dX8_at_0 : decode cX8_at 0 = .ok (.iload_n 1, 1) := by decide +kernel
theorem dX8_at_1 : decode cX8_at 1 = .ok (.invokestatic 119, 3) := by decide +kernel
theorem dX8_at_4 : decode cX8_at 4 = .ok (.aload_n 0, 1) := by decide +kernel
theorem dX8_at_5 : decode cX8_at 5 = .ok (.getfield 21, 3) := by decide +kernel
theorem dX8_at_8 : decode cX8_at 8 = .ok (.iload_n 1, 1) := by decide +kernel
theorem dX8_at_9 : decode cX8_at 9 = .ok (.iload_n 2, 1) := by decide +kernel
theorem dX8_at_10 : decode cX8_at 10 = .ok (.invokevirtual 122, 3) := by decide +kernel
theorem dX8_at_13 : decode cX8_at 13 = .ok (.ifCond .ne 13, 3) := by decide +kernel
theorem dX8_at_16 : decode cX8_at 16 = .ok (.new 126, 3) := by decide +kernel
theorem dX8_at_19 : decode cX8_at 19 = .ok (.dup, 1) := by decide +kernel
theorem dX8_at_20 : decode cX8_at 20 = .ok (.ldc 128, 2) := by decide +kernel
theorem dX8_at_22 : decode cX8_at 22 = .ok (.invokespecial 130, 3) := by decide +kernel
theorem dX8_at_25 : decode cX8_at 25 = .ok (.athrow, 1) := by decide +kernel
theorem dX8_at_26 : decode cX8_at 26 = .ok (.aload_n 0, 1) := by decide +kernel
theorem dX8_at_27 : decode cX8_at 27 = .ok (.getfield 21, 3) := by decide +kernel
theorem dX8_at_30 : decode cX8_at 30 = .ok (.iload_n 1, 1) := by decide +kernel
theorem dX8_at_31 : decode cX8_at 31 = .ok (.iload_n 2, 1) := by decide +kernel
theorem dX8_at_32 : decode cX8_at 32 = .ok (.invokevirtual 131, 3) := by decide +kernel
theorem dX8_at_35 : decode cX8_at 35 = .ok (.ireturn, 1) := by decide +kernel
theorem dX8_pattern_0 : decode cX8_pattern 0 = .ok (.ldc 135, 2) := by decide +kernel
theorem dX8_pattern_2 : decode cX8_pattern 2 = .ok (.iload_n 1, 1) := by decide +kernel
theorem dX8_pattern_3 : decode cX8_pattern 3 = .ok (.invokevirtual 137, 3) := by decide +kernel
theorem dX8_pattern_6 : decode cX8_pattern 6 = .ok (.ifCond .ge 13, 3) := by decide +kernel
theorem dX8_pattern_9 : decode cX8_pattern 9 = .ok (.new 82, 3) := by decide +kernel
theorem dX8_pattern_12 : decode cX8_pattern 12 = .ok (.dup, 1) := by decide +kernel
theorem dX8_pattern_13 : decode cX8_pattern 13 = .ok (.ldc 142, 2) := by decide +kernel
theorem dX8_pattern_15 : decode cX8_pattern 15 = .ok (.invokespecial 86, 3) := by decide +kernel
theorem dX8_pattern_18 : decode cX8_pattern 18 = .ok (.athrow, 1) := by decide +kernel
theorem dX8_pattern_19 : decode cX8_pattern 19 = .ok (.aload_n 0, 1) := by decide +kernel
theorem dX8_pattern_20 : decode cX8_pattern 20 = .ok (.iload_n 1, 1) := by decide +kernel
theorem dX8_pattern_21 : decode cX8_pattern 21 = .ok (.iload_n 2, 1) := by decide +kernel
theorem dX8_pattern_22 : decode cX8_pattern 22 = .ok (.iload_n 3, 1) := by decide +kernel
theorem dX8_pattern_23 : decode cX8_pattern 23 = .ok (.invokevirtual 144, 3) := by decide +kernel
theorem dX8_pattern_26 : decode cX8_pattern 26 = .ok (.ifCond .ne 13, 3) := by decide +kernel
theorem dX8_pattern_29 : decode cX8_pattern 29 = .ok (.new 148, 3) := by decide +kernel
theorem dX8_pattern_32 : decode cX8_pattern 32 = .ok (.dup, 1) := by decide +kernel
theorem dX8_pattern_33 : decode cX8_pattern 33 = .ok (.ldc 150, 2) := by decide +kernel
theorem dX8_pattern_35 : decode cX8_pattern 35 = .ok (.invokespecial 152, 3) := by decide +kernel
theorem dX8_pattern_38 : decode cX8_pattern 38 = .ok (.athrow, 1) := by decide +kernel
theorem dX8_pattern_39 : decode cX8_pattern 39 = .ok (.aload_n 0, 1) := by decide +kernel
theorem dX8_pattern_40 : decode cX8_pattern 40 = .ok (.getfield 32, 3) := by decide +kernel
theorem dX8_pattern_43 : decode cX8_pattern 43 = .ok (.invokevirtual 153, 3) := by decide +kernel
theorem dX8_pattern_46 : decode cX8_pattern 46 = .ok (.ifCond .eq 13, 3) := by decide +kernel
theorem dX8_pattern_49 : decode cX8_pattern 49 = .ok (.new 93, 3) := by decide +kernel
theorem dX8_pattern_52 : decode cX8_pattern 52 = .ok (.dup, 1) := by decide +kernel
theorem dX8_pattern_53 : decode cX8_pattern 53 = .ok (.ldc 157, 2) := by decide +kernel
theorem dX8_pattern_55 : decode cX8_pattern 55 = .ok (.invokespecial 97, 3) := by decide +kernel
theorem dX8_pattern_58 : decode cX8_pattern 58 = .ok (.athrow, 1) := by decide +kernel
theorem dX8_pattern_59 : decode cX8_pattern 59 = .ok (.aload_n 0, 1) := by decide +kernel
theorem dX8_pattern_60 : decode cX8_pattern 60 = .ok (.getfield 32, 3) := by decide +kernel
theorem dX8_pattern_63 : decode cX8_pattern 63 = .ok (.iload_n 1, 1) := by decide +kernel
theorem dX8_pattern_64 : decode cX8_pattern 64 = .ok (.iload_n 2, 1) := by decide +kernel
theorem dX8_pattern_65 : decode cX8_pattern 65 = .ok (.iload_n 3, 1) := by decide +kernel
theorem dX8_pattern_66 : decode cX8_pattern 66 = .ok (.invokevirtual 159, 3) := by decide +kernel
theorem dX8_pattern_69 : decode cX8_pattern 69 = .ok (.ireturn, 1) := by decide +kernel
theorem dX8_term_0 : decode cX8_term 0 = .ok (.ldc 162, 2) := by decide +kernel
theorem dX8_term_2 : decode cX8_term 2 = .ok (.iload_n 1, 1) := by decide +kernel
theorem dX8_term_3 : decode cX8_term 3 = .ok (.invokevirtual 137, 3) := by decide +kernel
theorem dX8_term_6 : decode cX8_term 6 = .ok (.ifCond .ge 13, 3) := by decide +kernel
theorem dX8_term_9 : decode cX8_term 9 = .ok (.new 82, 3) := by decide +kernel
theorem dX8_term_12 : decode cX8_term 12 = .ok (.dup, 1) := by decide +kernel
theorem dX8_term_13 : decode cX8_term 13 = .ok (.ldc 164, 2) := by decide +kernel
theorem dX8_term_15 : decode cX8_term 15 = .ok (.invokespecial 86, 3) := by decide +kernel
theorem dX8_term_18 : decode cX8_term 18 = .ok (.athrow, 1) := by decide +kernel
theorem dX8_term_19 : decode cX8_term 19 = .ok (.aload_n 0, 1) := by decide +kernel
theorem dX8_term_20 : decode cX8_term 20 = .ok (.iload_n 1, 1) := by decide +kernel
theorem dX8_term_21 : decode cX8_term 21 = .ok (.iload_n 2, 1) := by decide +kernel
theorem dX8_term_22 : decode cX8_term 22 = .ok (.iload_n 3, 1) := by decide +kernel
theorem dX8_term_23 : decode cX8_term 23 = .ok (.invokevirtual 166, 3) := by decide +kernel
theorem dX8_term_26 : decode cX8_term 26 = .ok (.ifCond .ne 13, 3) := by decide +kernel
theorem dX8_term_29 : decode cX8_term 29 = .ok (.new 148, 3) := by decide +kernel
theorem dX8_term_32 : decode cX8_term 32 = .ok (.dup, 1) := by decide +kernel
theorem dX8_term_33 : decode cX8_term 33 = .ok (.ldc 169, 2) := by decide +kernel
theorem dX8_term_35 : decode cX8_term 35 = .ok (.invokespecial 152, 3) := by decide +kernel
theorem dX8_term_38 : decode cX8_term 38 = .ok (.athrow, 1) := by decide +kernel
theorem dX8_term_39 : decode cX8_term 39 = .ok (.aload_n 0, 1) := by decide +kernel
theorem dX8_term_40 : decode cX8_term 40 = .ok (.getfield 36, 3) := by decide +kernel
theorem dX8_term_43 : decode cX8_term 43 = .ok (.invokevirtual 153, 3) := by decide +kernel
theorem dX8_term_46 : decode cX8_term 46 = .ok (.ifCond .eq 13, 3) := by decide +kernel
theorem dX8_term_49 : decode cX8_term 49 = .ok (.new 93, 3) := by decide +kernel
theorem dX8_term_52 : decode cX8_term 52 = .ok (.dup, 1) := by decide +kernel
theorem dX8_term_53 : decode cX8_term 53 = .ok (.ldc 171, 2) := by decide +kernel
theorem dX8_term_55 : decode cX8_term 55 = .ok (.invokespecial 97, 3) := by decide +kernel
theorem dX8_term_58 : decode cX8_term 58 = .ok (.athrow, 1) := by decide +kernel
theorem dX8_term_59 : decode cX8_term 59 = .ok (.aload_n 0, 1) := by decide +kernel
theorem dX8_term_60 : decode cX8_term 60 = .ok (.getfield 36, 3) := by decide +kernel
theorem dX8_term_63 : decode cX8_term 63 = .ok (.iload_n 1, 1) := by decide +kernel
theorem dX8_term_64 : decode cX8_term 64 = .ok (.iload_n 2, 1) := by decide +kernel
theorem dX8_term_65 : decode cX8_term 65 = .ok (.iload_n 3, 1) := by decide +kernel
theorem dX8_term_66 : decode cX8_term 66 = .ok (.invokevirtual 159, 3) := by decide +kernel
theorem dX8_term_69 : decode cX8_term 69 = .ok (.ireturn, 1) := by decide +kernel
theorem dX8_assign_0 : decode cX8_assign 0 = .ok (.iload_n 1, 1) := by decide +kernel
theorem dX8_assign_1 : decode cX8_assign 1 = .ok (.invokestatic 119, 3) := by decide +kernel
theorem dX8_assign_4 : decode cX8_assign 4 = .ok (.aload_n 0, 1) := by decide +kernel
theorem dX8_assign_5 : decode cX8_assign 5 = .ok (.iload_n 2, 1) := by decide +kernel
theorem dX8_assign_6 : decode cX8_assign 6 = .ok (.invokevirtual 173, 3) := by decide +kernel
theorem dX8_assign_9 : decode cX8_assign 9 = .ok (.iload_n 3, 1) := by decide +kernel
theorem dX8_assign_10 : decode cX8_assign 10 = .ok (.iload 4, 2) := by decide +kernel
theorem dX8_assign_12 : decode cX8_assign 12 = .ok (.invokestatic 176, 3) := by decide +kernel
theorem dX8_assign_15 : decode cX8_assign 15 = .ok (.aload_n 0, 1) := by decide +kernel
theorem dX8_assign_16 : decode cX8_assign 16 = .ok (.invokevirtual 179, 3) := by decide +kernel
theorem dX8_assign_19 : decode cX8_assign 19 = .ok (.aload_n 0, 1) := by decide +kernel
theorem dX8_assign_20 : decode cX8_assign 20 = .ok (.getfield 58, 3) := by decide +kernel
theorem dX8_assign_23 : decode cX8_assign 23 = .ok (.bipush 97, 2) := by decide +kernel
theorem dX8_assign_25 : decode cX8_assign 25 = .ok (.iload_n 1, 1) := by decide +kernel
theorem dX8_assign_26 : decode cX8_assign 26 = .ok (.iconst (-1), 1) := by decide +kernel
theorem dX8_assign_27 : decode cX8_assign 27 = .ok (.iload_n 2, 1) := by decide +kernel
theorem dX8_assign_28 : decode cX8_assign 28 = .ok (.iload_n 3, 1) := by decide +kernel
theorem dX8_assign_29 : decode cX8_assign 29 = .ok (.iload 4, 2) := by decide +kernel
theorem dX8_assign_31 : decode cX8_assign 31 = .ok (.invokevirtual 182, 3) := by decide +kernel
theorem dX8_assign_34 : decode cX8_assign 34 = .ok (.ireturn, 1) := by decide +kernel
theorem dX8_scan_0 : decode cX8_scan 0 = .ok (.iload_n 1, 1) := by decide +kernel
theorem dX8_scan_1 : decode cX8_scan 1 = .ok (.invokestatic 119, 3) := by decide +kernel
theorem dX8_scan_4 : decode cX8_scan 4 = .ok (.aload_n 0, 1) := by decide +kernel
theorem dX8_scan_5 : decode cX8_scan 5 = .ok (.iload_n 2, 1) := by decide +kernel
theorem dX8_scan_6 : decode cX8_scan 6 = .ok (.invokevirtual 185, 3) := by decide +kernel
theorem dX8_scan_9 : decode cX8_scan 9 = .ok (.iload_n 3, 1) := by decide +kernel
theorem dX8_scan_10 : decode cX8_scan 10 = .ok (.iconst (-1), 1) := by decide +kernel
theorem dX8_scan_11 : decode cX8_scan 11 = .ok (.if_icmp .eq 8, 3) := by decide +kernel
theorem dX8_scan_14 : decode cX8_scan 14 = .ok (.aload_n 0, 1) := by decide +kernel
theorem dX8_scan_15 : decode cX8_scan 15 = .ok (.iload_n 3, 1) := by decide +kernel
theorem dX8_scan_16 : decode cX8_scan 16 = .ok (.invokevirtual 173, 3) := by decide +kernel
theorem dX8_scan_19 : decode cX8_scan 19 = .ok (.iload 4, 2) := by decide +kernel
theorem dX8_scan_21 : decode cX8_scan 21 = .ok (.iload 5, 2) := by decide +kernel
theorem dX8_scan_23 : decode cX8_scan 23 = .ok (.invokestatic 176, 3) := by decide +kernel
theorem dX8_scan_26 : decode cX8_scan 26 = .ok (.aload_n 0, 1) := by decide +kernel
theorem dX8_scan_27 : decode cX8_scan 27 = .ok (.invokevirtual 179, 3) := by decide +kernel
theorem dX8_scan_30 : decode cX8_scan 30 = .ok (.aload_n 0, 1) := by decide +kernel
theorem dX8_scan_31 : decode cX8_scan 31 = .ok (.getfield 58, 3) := by decide +kernel
theorem dX8_scan_34 : decode cX8_scan 34 = .ok (.bipush 115, 2) := by decide +kernel
theorem dX8_scan_36 : decode cX8_scan 36 = .ok (.iload_n 1, 1) := by decide +kernel
theorem dX8_scan_37 : decode cX8_scan 37 = .ok (.iload_n 2, 1) := by decide +kernel
theorem dX8_scan_38 : decode cX8_scan 38 = .ok (.iload_n 3, 1) := by decide +kernel
theorem dX8_scan_39 : decode cX8_scan 39 = .ok (.iload 4, 2) := by decide +kernel
theorem dX8_scan_41 : decode cX8_scan 41 = .ok (.iload 5, 2) := by decide +kernel
theorem dX8_scan_43 : decode cX8_scan 43 = .ok (.invokevirtual 182, 3) := by decide +kernel
theorem dX8_scan_46 : decode cX8_scan 46 = .ok (.ireturn, 1) := by decide +kernel
theorem dX8_call_0 : decode cX8_call 0 = .ok (.iload_n 1, 1) := by decide +kernel
theorem dX8_call_1 : decode cX8_call 1 = .ok (.invokestatic 119, 3) := by decide +kernel
theorem dX8_call_4 : decode cX8_call 4 = .ok (.aload_n 0, 1) := by decide +kernel
theorem dX8_call_5 : decode cX8_call 5 = .ok (.iload_n 3, 1) := by decide +kernel
theorem dX8_call_6 : decode cX8_call 6 = .ok (.invokevirtual 173, 3) := by decide +kernel
theorem dX8_call_9 : decode cX8_call 9 = .ok (.iload_n 2, 1) := by decide +kernel
theorem dX8_call_10 : decode cX8_call 10 = .ok (.iconst 5, 1) := by decide +kernel
theorem dX8_call_11 : decode cX8_call 11 = .ok (.invokestatic 188, 3) := by decide +kernel
theorem dX8_call_14 : decode cX8_call 14 = .ok (.ifCond .ne 13, 3) := by decide +kernel
theorem dX8_call_17 : decode cX8_call 17 = .ok (.new 82, 3) := by decide +kernel
theorem dX8_call_20 : decode cX8_call 20 = .ok (.dup, 1) := by decide +kernel
theorem dX8_call_21 : decode cX8_call 21 = .ok (.ldc 191, 2) := by decide +kernel
theorem dX8_call_23 : decode cX8_call 23 = .ok (.invokespecial 86, 3) := by decide +kernel
theorem dX8_call_26 : decode cX8_call 26 = .ok (.athrow, 1) := by decide +kernel
theorem dX8_call_27 : decode cX8_call 27 = .ok (.iload 4, 2) := by decide +kernel
theorem dX8_call_29 : decode cX8_call 29 = .ok (.iload 5, 2) := by decide +kernel
theorem dX8_call_31 : decode cX8_call 31 = .ok (.invokestatic 176, 3) := by decide +kernel
theorem dX8_call_34 : decode cX8_call 34 = .ok (.aload_n 0, 1) := by decide +kernel
theorem dX8_call_35 : decode cX8_call 35 = .ok (.invokevirtual 179, 3) := by decide +kernel
theorem dX8_call_38 : decode cX8_call 38 = .ok (.aload_n 0, 1) := by decide +kernel
theorem dX8_call_39 : decode cX8_call 39 = .ok (.getfield 58, 3) := by decide +kernel
theorem dX8_call_42 : decode cX8_call 42 = .ok (.bipush 99, 2) := by decide +kernel
theorem dX8_call_44 : decode cX8_call 44 = .ok (.iload_n 1, 1) := by decide +kernel
theorem dX8_call_45 : decode cX8_call 45 = .ok (.iload_n 2, 1) := by decide +kernel
theorem dX8_call_46 : decode cX8_call 46 = .ok (.iload_n 3, 1) := by decide +kernel
theorem dX8_call_47 : decode cX8_call 47 = .ok (.iload 4, 2) := by decide +kernel
theorem dX8_call_49 : decode cX8_call 49 = .ok (.iload 5, 2) := by decide +kernel
theorem dX8_call_51 : decode cX8_call 51 = .ok (.invokevirtual 182, 3) := by decide +kernel
theorem dX8_call_54 : decode cX8_call 54 = .ok (.ireturn, 1) := by decide +kernel
theorem dX8_define_0 : decode cX8_define 0 = .ok (.iload_n 1, 1) := by decide +kernel
theorem dX8_define_1 : decode cX8_define 1 = .ok (.iconst 5, 1) := by decide +kernel
theorem dX8_define_2 : decode cX8_define 2 = .ok (.invokestatic 188, 3) := by decide +kernel
theorem dX8_define_5 : decode cX8_define 5 = .ok (.ifCond .eq 12, 3) := by decide +kernel
theorem dX8_define_8 : decode cX8_define 8 = .ok (.iload_n 2, 1) := by decide +kernel
theorem dX8_define_9 : decode cX8_define 9 = .ok (.bipush 40, 2) := by decide +kernel
theorem dX8_define_11 : decode cX8_define 11 = .ok (.invokestatic 188, 3) := by decide +kernel
theorem dX8_define_14 : decode cX8_define 14 = .ok (.ifCond .ne 13, 3) := by decide +kernel
theorem dX8_define_17 : decode cX8_define 17 = .ok (.new 82, 3) := by decide +kernel
theorem dX8_define_20 : decode cX8_define 20 = .ok (.dup, 1) := by decide +kernel
theorem dX8_define_21 : decode cX8_define 21 = .ok (.ldc 193, 2) := by decide +kernel
theorem dX8_define_23 : decode cX8_define 23 = .ok (.invokespecial 86, 3) := by decide +kernel
theorem dX8_define_26 : decode cX8_define 26 = .ok (.athrow, 1) := by decide +kernel
theorem dX8_define_27 : decode cX8_define 27 = .ok (.iload_n 3, 1) := by decide +kernel
theorem dX8_define_28 : decode cX8_define 28 = .ok (.iload 4, 2) := by decide +kernel
theorem dX8_define_30 : decode cX8_define 30 = .ok (.if_icmp .eq 16, 3) := by decide +kernel
theorem dX8_define_33 : decode cX8_define 33 = .ok (.iload_n 3, 1) := by decide +kernel
theorem dX8_define_34 : decode cX8_define 34 = .ok (.iload 5, 2) := by decide +kernel
theorem dX8_define_36 : decode cX8_define 36 = .ok (.if_icmp .eq 10, 3) := by decide +kernel
theorem dX8_define_39 : decode cX8_define 39 = .ok (.iload 4, 2) := by decide +kernel
theorem dX8_define_41 : decode cX8_define 41 = .ok (.iload 5, 2) := by decide +kernel
theorem dX8_define_43 : decode cX8_define 43 = .ok (.if_icmp .ne 13, 3) := by decide +kernel
theorem dX8_define_46 : decode cX8_define 46 = .ok (.new 82, 3) := by decide +kernel
theorem dX8_define_49 : decode cX8_define 49 = .ok (.dup, 1) := by decide +kernel
theorem dX8_define_50 : decode cX8_define 50 = .ok (.ldc 195, 2) := by decide +kernel
theorem dX8_define_52 : decode cX8_define 52 = .ok (.invokespecial 86, 3) := by decide +kernel
theorem dX8_define_55 : decode cX8_define 55 = .ok (.athrow, 1) := by decide +kernel
theorem dX8_define_56 : decode cX8_define 56 = .ok (.iload_n 3, 1) := by decide +kernel
theorem dX8_define_57 : decode cX8_define 57 = .ok (.invokestatic 119, 3) := by decide +kernel
theorem dX8_define_60 : decode cX8_define 60 = .ok (.iload 4, 2) := by decide +kernel
theorem dX8_define_62 : decode cX8_define 62 = .ok (.invokestatic 119, 3) := by decide +kernel
theorem dX8_define_65 : decode cX8_define 65 = .ok (.iload 5, 2) := by decide +kernel
theorem dX8_define_67 : decode cX8_define 67 = .ok (.invokestatic 119, 3) := by decide +kernel
theorem dX8_define_70 : decode cX8_define 70 = .ok (.aload_n 0, 1) := by decide +kernel
theorem dX8_define_71 : decode cX8_define 71 = .ok (.getfield 58, 3) := by decide +kernel
theorem dX8_define_74 : decode cX8_define 74 = .ok (.iload_n 1, 1) := by decide +kernel
theorem dX8_define_75 : decode cX8_define 75 = .ok (.iload_n 2, 1) := by decide +kernel
theorem dX8_define_76 : decode cX8_define 76 = .ok (.iload_n 3, 1) := by decide +kernel
theorem dX8_define_77 : decode cX8_define 77 = .ok (.iload 4, 2) := by decide +kernel
theorem dX8_define_79 : decode cX8_define 79 = .ok (.iload 5, 2) := by decide +kernel
theorem dX8_define_81 : decode cX8_define 81 = .ok (.invokevirtual 197, 3) := by decide +kernel
theorem dX8_define_84 : decode cX8_define 84 = .ok (.ireturn, 1) := by decide +kernel
theorem dX8_anchor_0 : decode cX8_anchor 0 = .ok (.aload_n 0, 1) := by decide +kernel
theorem dX8_anchor_1 : decode cX8_anchor 1 = .ok (.getfield 201, 3) := by decide +kernel
theorem dX8_anchor_4 : decode cX8_anchor 4 = .ok (.istore_n 2, 1) := by decide +kernel
theorem dX8_anchor_5 : decode cX8_anchor 5 = .ok (.aload_n 0, 1) := by decide +kernel
theorem dX8_anchor_6 : decode cX8_anchor 6 = .ok (.iload_n 1, 1) := by decide +kernel
theorem dX8_anchor_7 : decode cX8_anchor 7 = .ok (.putfield 201, 3) := by decide +kernel
theorem dX8_anchor_10 : decode cX8_anchor 10 = .ok (.iload_n 2, 1) := by decide +kernel
theorem dX8_anchor_11 : decode cX8_anchor 11 = .ok (.ireturn, 1) := by decide +kernel
theorem dX8_run_0 : decode cX8_run 0 = .ok (.iload_n 2, 1) := by decide +kernel
theorem dX8_run_1 : decode cX8_run 1 = .ok (.iconst 1, 1) := by decide +kernel
theorem dX8_run_2 : decode cX8_run 2 = .ok (.if_icmp .lt 10, 3) := by decide +kernel
theorem dX8_run_5 : decode cX8_run 5 = .ok (.iload_n 2, 1) := by decide +kernel
theorem dX8_run_6 : decode cX8_run 6 = .ok (.sipush 1000, 3) := by decide +kernel
theorem dX8_run_9 : decode cX8_run 9 = .ok (.if_icmp .le 13, 3) := by decide +kernel
theorem dX8_run_12 : decode cX8_run 12 = .ok (.new 82, 3) := by decide +kernel
theorem dX8_run_15 : decode cX8_run 15 = .ok (.dup, 1) := by decide +kernel
theorem dX8_run_16 : decode cX8_run 16 = .ok (.ldc 205, 2) := by decide +kernel
theorem dX8_run_18 : decode cX8_run 18 = .ok (.invokespecial 86, 3) := by decide +kernel
theorem dX8_run_21 : decode cX8_run 21 = .ok (.athrow, 1) := by decide +kernel
theorem dX8_run_22 : decode cX8_run 22 = .ok (.aload_n 0, 1) := by decide +kernel
theorem dX8_run_23 : decode cX8_run 23 = .ok (.iload_n 1, 1) := by decide +kernel
theorem dX8_run_24 : decode cX8_run 24 = .ok (.invokevirtual 207, 3) := by decide +kernel
theorem dX8_run_27 : decode cX8_run 27 = .ok (.aload_n 0, 1) := by decide +kernel
theorem dX8_run_28 : decode cX8_run 28 = .ok (.getfield 67, 3) := by decide +kernel
theorem dX8_run_31 : decode cX8_run 31 = .ok (.iload_n 1, 1) := by decide +kernel
theorem dX8_run_32 : decode cX8_run 32 = .ok (.iload_n 2, 1) := by decide +kernel
theorem dX8_run_33 : decode cX8_run 33 = .ok (.aload_n 0, 1) := by decide +kernel
theorem dX8_run_34 : decode cX8_run 34 = .ok (.getfield 201, 3) := by decide +kernel
theorem dX8_run_37 : decode cX8_run 37 = .ok (.invokevirtual 210, 3) := by decide +kernel
theorem dX8_run_40 : decode cX8_run 40 = .ok (.ireturn, 1) := by decide +kernel
theorem dX8_error_0 : decode cX8_error 0 = .ok (.aload_n 0, 1) := by decide +kernel
theorem dX8_error_1 : decode cX8_error 1 = .ok (.invokevirtual 214, 3) := by decide +kernel
theorem dX8_error_4 : decode cX8_error 4 = .ok (.aload_n 0, 1) := by decide +kernel
theorem dX8_error_5 : decode cX8_error 5 = .ok (.getfield 67, 3) := by decide +kernel
theorem dX8_error_8 : decode cX8_error 8 = .ok (.getfield 217, 3) := by decide +kernel
theorem dX8_error_11 : decode cX8_error 11 = .ok (.ifCond .ne 13, 3) := by decide +kernel
theorem dX8_error_14 : decode cX8_error 14 = .ok (.new 126, 3) := by decide +kernel
theorem dX8_error_17 : decode cX8_error 17 = .ok (.dup, 1) := by decide +kernel
theorem dX8_error_18 : decode cX8_error 18 = .ok (.ldc 220, 2) := by decide +kernel
theorem dX8_error_20 : decode cX8_error 20 = .ok (.invokespecial 130, 3) := by decide +kernel
theorem dX8_error_23 : decode cX8_error 23 = .ok (.athrow, 1) := by decide +kernel
theorem dX8_error_24 : decode cX8_error 24 = .ok (.aload_n 0, 1) := by decide +kernel
theorem dX8_error_25 : decode cX8_error 25 = .ok (.getfield 67, 3) := by decide +kernel
theorem dX8_error_28 : decode cX8_error 28 = .ok (.getfield 217, 3) := by decide +kernel
theorem dX8_error_31 : decode cX8_error 31 = .ok (.ireturn, 1) := by decide +kernel
theorem dX8_last_0 : decode cX8_last 0 = .ok (.aload_n 0, 1) := by decide +kernel
theorem dX8_last_1 : decode cX8_last 1 = .ok (.invokevirtual 214, 3) := by decide +kernel
theorem dX8_last_4 : decode cX8_last 4 = .ok (.aload_n 0, 1) := by decide +kernel
theorem dX8_last_5 : decode cX8_last 5 = .ok (.getfield 67, 3) := by decide +kernel
theorem dX8_last_8 : decode cX8_last 8 = .ok (.getfield 222, 3) := by decide +kernel
theorem dX8_last_11 : decode cX8_last 11 = .ok (.ireturn, 1) := by decide +kernel
theorem dX8_steps_0 : decode cX8_steps 0 = .ok (.aload_n 0, 1) := by decide +kernel
theorem dX8_steps_1 : decode cX8_steps 1 = .ok (.invokevirtual 214, 3) := by decide +kernel
theorem dX8_steps_4 : decode cX8_steps 4 = .ok (.aload_n 0, 1) := by decide +kernel
theorem dX8_steps_5 : decode cX8_steps 5 = .ok (.getfield 67, 3) := by decide +kernel
theorem dX8_steps_8 : decode cX8_steps 8 = .ok (.getfield 225, 3) := by decide +kernel
theorem dX8_steps_11 : decode cX8_steps 11 = .ok (.ireturn, 1) := by decide +kernel
theorem dX8_done_0 : decode cX8_done 0 = .ok (.aload_n 0, 1) := by decide +kernel
theorem dX8_done_1 : decode cX8_done 1 = .ok (.invokevirtual 214, 3) := by decide +kernel
theorem dX8_done_4 : decode cX8_done 4 = .ok (.aload_n 0, 1) := by decide +kernel
theorem dX8_done_5 : decode cX8_done 5 = .ok (.iload_n 1, 1) := by decide +kernel
theorem dX8_done_6 : decode cX8_done 6 = .ok (.invokevirtual 207, 3) := by decide +kernel
theorem dX8_done_9 : decode cX8_done 9 = .ok (.aload_n 0, 1) := by decide +kernel
theorem dX8_done_10 : decode cX8_done 10 = .ok (.getfield 67, 3) := by decide +kernel
theorem dX8_done_13 : decode cX8_done 13 = .ok (.getfield 228, 3) := by decide +kernel
theorem dX8_done_16 : decode cX8_done 16 = .ok (.iload_n 1, 1) := by decide +kernel
theorem dX8_done_17 : decode cX8_done 17 = .ok (.invokevirtual 231, 3) := by decide +kernel
theorem dX8_done_20 : decode cX8_done 20 = .ok (.ireturn, 1) := by decide +kernel
theorem dX8_failed_0 : decode cX8_failed 0 = .ok (.aload_n 0, 1) := by decide +kernel
theorem dX8_failed_1 : decode cX8_failed 1 = .ok (.invokevirtual 214, 3) := by decide +kernel
theorem dX8_failed_4 : decode cX8_failed 4 = .ok (.aload_n 0, 1) := by decide +kernel
theorem dX8_failed_5 : decode cX8_failed 5 = .ok (.iload_n 1, 1) := by decide +kernel
theorem dX8_failed_6 : decode cX8_failed 6 = .ok (.invokevirtual 207, 3) := by decide +kernel
theorem dX8_failed_9 : decode cX8_failed 9 = .ok (.aload_n 0, 1) := by decide +kernel
theorem dX8_failed_10 : decode cX8_failed 10 = .ok (.getfield 67, 3) := by decide +kernel
theorem dX8_failed_13 : decode cX8_failed 13 = .ok (.getfield 234, 3) := by decide +kernel
theorem dX8_failed_16 : decode cX8_failed 16 = .ok (.iload_n 1, 1) := by decide +kernel
theorem dX8_failed_17 : decode cX8_failed 17 = .ok (.invokevirtual 231, 3) := by decide +kernel
theorem dX8_failed_20 : decode cX8_failed 20 = .ok (.ireturn, 1) := by decide +kernel
theorem dX8_depth_0 : decode cX8_depth 0 = .ok (.aload_n 0, 1) := by decide +kernel
theorem dX8_depth_1 : decode cX8_depth 1 = .ok (.invokevirtual 214, 3) := by decide +kernel
theorem dX8_depth_4 : decode cX8_depth 4 = .ok (.aload_n 0, 1) := by decide +kernel
theorem dX8_depth_5 : decode cX8_depth 5 = .ok (.getfield 67, 3) := by decide +kernel
theorem dX8_depth_8 : decode cX8_depth 8 = .ok (.getfield 237, 3) := by decide +kernel
theorem dX8_depth_11 : decode cX8_depth 11 = .ok (.ireturn, 1) := by decide +kernel
theorem dX8_match_0 : decode cX8_match 0 = .ok (.aload_n 0, 1) := by decide +kernel
theorem dX8_match_1 : decode cX8_match 1 = .ok (.iload_n 1, 1) := by decide +kernel
theorem dX8_match_2 : decode cX8_match 2 = .ok (.invokevirtual 185, 3) := by decide +kernel
theorem dX8_match_5 : decode cX8_match 5 = .ok (.aload_n 0, 1) := by decide +kernel
theorem dX8_match_6 : decode cX8_match 6 = .ok (.getfield 24, 3) := by decide +kernel
theorem dX8_match_9 : decode cX8_match 9 = .ok (.aload_n 0, 1) := by decide +kernel
theorem dX8_match_10 : decode cX8_match 10 = .ok (.getfield 21, 3) := by decide +kernel
theorem dX8_match_13 : decode cX8_match 13 = .ok (.invokevirtual 240, 3) := by decide +kernel
theorem dX8_match_16 : decode cX8_match 16 = .ok (.aload_n 0, 1) := by decide +kernel
theorem dX8_match_17 : decode cX8_match 17 = .ok (.getfield 44, 3) := by decide +kernel
theorem dX8_match_20 : decode cX8_match 20 = .ok (.aload_n 0, 1) := by decide +kernel
theorem dX8_match_21 : decode cX8_match 21 = .ok (.getfield 14, 3) := by decide +kernel
theorem dX8_match_24 : decode cX8_match 24 = .ok (.iconst 0, 1) := by decide +kernel
theorem dX8_match_25 : decode cX8_match 25 = .ok (.iload_n 1, 1) := by decide +kernel
theorem dX8_match_26 : decode cX8_match 26 = .ok (.aload_n 0, 1) := by decide +kernel
theorem dX8_match_27 : decode cX8_match 27 = .ok (.getfield 201, 3) := by decide +kernel
theorem dX8_match_30 : decode cX8_match 30 = .ok (.invokevirtual 244, 3) := by decide +kernel
theorem dX8_match_33 : decode cX8_match 33 = .ok (.aload_n 0, 1) := by decide +kernel
theorem dX8_match_34 : decode cX8_match 34 = .ok (.getfield 44, 3) := by decide +kernel
theorem dX8_match_37 : decode cX8_match 37 = .ok (.invokevirtual 248, 3) := by decide +kernel
theorem dX8_match_40 : decode cX8_match 40 = .ok (.istore_n 2, 1) := by decide +kernel
theorem dX8_match_41 : decode cX8_match 41 = .ok (.iload_n 2, 1) := by decide +kernel
theorem dX8_match_42 : decode cX8_match 42 = .ok (.iconst 3, 1) := by decide +kernel
theorem dX8_match_43 : decode cX8_match 43 = .ok (.if_icmp .ne 24, 3) := by decide +kernel
theorem dX8_match_46 : decode cX8_match 46 = .ok (.aload_n 0, 1) := by decide +kernel
theorem dX8_match_47 : decode cX8_match 47 = .ok (.getfield 21, 3) := by decide +kernel
theorem dX8_match_50 : decode cX8_match 50 = .ok (.aload_n 0, 1) := by decide +kernel
theorem dX8_match_51 : decode cX8_match 51 = .ok (.getfield 24, 3) := by decide +kernel
theorem dX8_match_54 : decode cX8_match 54 = .ok (.invokevirtual 240, 3) := by decide +kernel
theorem dX8_match_57 : decode cX8_match 57 = .ok (.new 252, 3) := by decide +kernel
theorem dX8_match_60 : decode cX8_match 60 = .ok (.dup, 1) := by decide +kernel
theorem dX8_match_61 : decode cX8_match 61 = .ok (.ldc 254, 2) := by decide +kernel
theorem dX8_match_63 : decode cX8_match 63 = .ok (.invokespecial 256, 3) := by decide +kernel
theorem dX8_match_66 : decode cX8_match 66 = .ok (.athrow, 1) := by decide +kernel
theorem dX8_match_67 : decode cX8_match 67 = .ok (.aload_n 0, 1) := by decide +kernel
theorem dX8_match_68 : decode cX8_match 68 = .ok (.iconst 1, 1) := by decide +kernel
theorem dX8_match_69 : decode cX8_match 69 = .ok (.putfield 257, 3) := by decide +kernel
theorem dX8_match_72 : decode cX8_match 72 = .ok (.aload_n 0, 1) := by decide +kernel
theorem dX8_match_73 : decode cX8_match 73 = .ok (.iload_n 2, 1) := by decide +kernel
theorem dX8_match_74 : decode cX8_match 74 = .ok (.iconst 1, 1) := by decide +kernel
theorem dX8_match_75 : decode cX8_match 75 = .ok (.if_icmp .ne 7, 3) := by decide +kernel
theorem dX8_match_78 : decode cX8_match 78 = .ok (.iconst 1, 1) := by decide +kernel
theorem dX8_match_79 : decode cX8_match 79 = .ok (.goto 4, 3) := by decide +kernel
theorem dX8_match_82 : decode cX8_match 82 = .ok (.iconst 0, 1) := by decide +kernel
theorem dX8_match_83 : decode cX8_match 83 = .ok (.putfield 260, 3) := by decide +kernel
theorem dX8_match_86 : decode cX8_match 86 = .ok (.aload_n 0, 1) := by decide +kernel
theorem dX8_match_87 : decode cX8_match 87 = .ok (.aload_n 0, 1) := by decide +kernel
theorem dX8_match_88 : decode cX8_match 88 = .ok (.getfield 44, 3) := by decide +kernel
theorem dX8_match_91 : decode cX8_match 91 = .ok (.getfield 263, 3) := by decide +kernel
theorem dX8_match_94 : decode cX8_match 94 = .ok (.putfield 266, 3) := by decide +kernel
theorem dX8_match_97 : decode cX8_match 97 = .ok (.aload_n 0, 1) := by decide +kernel
theorem dX8_match_98 : decode cX8_match 98 = .ok (.aload_n 0, 1) := by decide +kernel
theorem dX8_match_99 : decode cX8_match 99 = .ok (.getfield 44, 3) := by decide +kernel
theorem dX8_match_102 : decode cX8_match 102 = .ok (.getfield 269, 3) := by decide +kernel
theorem dX8_match_105 : decode cX8_match 105 = .ok (.putfield 272, 3) := by decide +kernel
theorem dX8_match_108 : decode cX8_match 108 = .ok (.aload_n 0, 1) := by decide +kernel
theorem dX8_match_109 : decode cX8_match 109 = .ok (.aload_n 0, 1) := by decide +kernel
theorem dX8_match_110 : decode cX8_match 110 = .ok (.getfield 44, 3) := by decide +kernel
theorem dX8_match_113 : decode cX8_match 113 = .ok (.getfield 275, 3) := by decide +kernel
theorem dX8_match_116 : decode cX8_match 116 = .ok (.putfield 278, 3) := by decide +kernel
theorem dX8_match_119 : decode cX8_match 119 = .ok (.aload_n 0, 1) := by decide +kernel
theorem dX8_match_120 : decode cX8_match 120 = .ok (.aload_n 0, 1) := by decide +kernel
theorem dX8_match_121 : decode cX8_match 121 = .ok (.getfield 14, 3) := by decide +kernel
theorem dX8_match_124 : decode cX8_match 124 = .ok (.iconst 0, 1) := by decide +kernel
theorem dX8_match_125 : decode cX8_match 125 = .ok (.invokevirtual 89, 3) := by decide +kernel
theorem dX8_match_128 : decode cX8_match 128 = .ok (.putfield 281, 3) := by decide +kernel
theorem dX8_match_131 : decode cX8_match 131 = .ok (.aload_n 0, 1) := by decide +kernel
theorem dX8_match_132 : decode cX8_match 132 = .ok (.getfield 260, 3) := by decide +kernel
theorem dX8_match_135 : decode cX8_match 135 = .ok (.ifCond .eq 10, 3) := by decide +kernel
theorem dX8_match_138 : decode cX8_match 138 = .ok (.aload_n 0, 1) := by decide +kernel
theorem dX8_match_139 : decode cX8_match 139 = .ok (.getfield 44, 3) := by decide +kernel
theorem dX8_match_142 : decode cX8_match 142 = .ok (.invokevirtual 284, 3) := by decide +kernel
theorem dX8_match_145 : decode cX8_match 145 = .ok (.aload_n 0, 1) := by decide +kernel
theorem dX8_match_146 : decode cX8_match 146 = .ok (.getfield 260, 3) := by decide +kernel
theorem dX8_match_149 : decode cX8_match 149 = .ok (.ireturn, 1) := by decide +kernel
theorem dX8_from_0 : decode cX8_from 0 = .ok (.aload_n 0, 1) := by decide +kernel
theorem dX8_from_1 : decode cX8_from 1 = .ok (.invokevirtual 287, 3) := by decide +kernel
theorem dX8_from_4 : decode cX8_from 4 = .ok (.aload_n 0, 1) := by decide +kernel
theorem dX8_from_5 : decode cX8_from 5 = .ok (.invokevirtual 290, 3) := by decide +kernel
theorem dX8_from_8 : decode cX8_from 8 = .ok (.aload_n 0, 1) := by decide +kernel
theorem dX8_from_9 : decode cX8_from 9 = .ok (.getfield 272, 3) := by decide +kernel
theorem dX8_from_12 : decode cX8_from 12 = .ok (.ireturn, 1) := by decide +kernel
theorem dX8_to_0 : decode cX8_to 0 = .ok (.aload_n 0, 1) := by decide +kernel
theorem dX8_to_1 : decode cX8_to 1 = .ok (.invokevirtual 287, 3) := by decide +kernel
theorem dX8_to_4 : decode cX8_to 4 = .ok (.aload_n 0, 1) := by decide +kernel
theorem dX8_to_5 : decode cX8_to 5 = .ok (.invokevirtual 290, 3) := by decide +kernel
theorem dX8_to_8 : decode cX8_to 8 = .ok (.aload_n 0, 1) := by decide +kernel
theorem dX8_to_9 : decode cX8_to 9 = .ok (.getfield 278, 3) := by decide +kernel
theorem dX8_to_12 : decode cX8_to 12 = .ok (.ireturn, 1) := by decide +kernel
theorem dX8_begun_0 : decode cX8_begun 0 = .ok (.aload_n 0, 1) := by decide +kernel
theorem dX8_begun_1 : decode cX8_begun 1 = .ok (.invokevirtual 287, 3) := by decide +kernel
theorem dX8_begun_4 : decode cX8_begun 4 = .ok (.aload_n 0, 1) := by decide +kernel
theorem dX8_begun_5 : decode cX8_begun 5 = .ok (.getfield 266, 3) := by decide +kernel
theorem dX8_begun_8 : decode cX8_begun 8 = .ok (.ireturn, 1) := by decide +kernel
theorem dX8_ways_0 : decode cX8_ways 0 = .ok (.aload_n 0, 1) := by decide +kernel
theorem dX8_ways_1 : decode cX8_ways 1 = .ok (.iload_n 1, 1) := by decide +kernel
theorem dX8_ways_2 : decode cX8_ways 2 = .ok (.invokevirtual 185, 3) := by decide +kernel
theorem dX8_ways_5 : decode cX8_ways 5 = .ok (.aload_n 0, 1) := by decide +kernel
theorem dX8_ways_6 : decode cX8_ways 6 = .ok (.iload_n 1, 1) := by decide +kernel
theorem dX8_ways_7 : decode cX8_ways 7 = .ok (.invokevirtual 293, 3) := by decide +kernel
theorem dX8_ways_10 : decode cX8_ways 10 = .ok (.istore_n 2, 1) := by decide +kernel
theorem dX8_ways_11 : decode cX8_ways 11 = .ok (.iload_n 2, 1) := by decide +kernel
theorem dX8_ways_12 : decode cX8_ways 12 = .ok (.ifCond .ge 24, 3) := by decide +kernel
theorem dX8_ways_15 : decode cX8_ways 15 = .ok (.aload_n 0, 1) := by decide +kernel
theorem dX8_ways_16 : decode cX8_ways 16 = .ok (.getfield 21, 3) := by decide +kernel
theorem dX8_ways_19 : decode cX8_ways 19 = .ok (.aload_n 0, 1) := by decide +kernel
theorem dX8_ways_20 : decode cX8_ways 20 = .ok (.getfield 24, 3) := by decide +kernel
theorem dX8_ways_23 : decode cX8_ways 23 = .ok (.invokevirtual 240, 3) := by decide +kernel
theorem dX8_ways_26 : decode cX8_ways 26 = .ok (.new 252, 3) := by decide +kernel
theorem dX8_ways_29 : decode cX8_ways 29 = .ok (.dup, 1) := by decide +kernel
theorem dX8_ways_30 : decode cX8_ways 30 = .ok (.ldc 254, 2) := by decide +kernel
theorem dX8_ways_32 : decode cX8_ways 32 = .ok (.invokespecial 256, 3) := by decide +kernel
theorem dX8_ways_35 : decode cX8_ways 35 = .ok (.athrow, 1) := by decide +kernel
theorem dX8_ways_36 : decode cX8_ways 36 = .ok (.iload_n 2, 1) := by decide +kernel
theorem dX8_ways_37 : decode cX8_ways 37 = .ok (.ireturn, 1) := by decide +kernel
theorem dX8_way_0 : decode cX8_way 0 = .ok (.aload_n 0, 1) := by decide +kernel
theorem dX8_way_1 : decode cX8_way 1 = .ok (.iload_n 1, 1) := by decide +kernel
theorem dX8_way_2 : decode cX8_way 2 = .ok (.invokevirtual 185, 3) := by decide +kernel
theorem dX8_way_5 : decode cX8_way 5 = .ok (.aload_n 0, 1) := by decide +kernel
theorem dX8_way_6 : decode cX8_way 6 = .ok (.iload_n 1, 1) := by decide +kernel
theorem dX8_way_7 : decode cX8_way 7 = .ok (.invokevirtual 293, 3) := by decide +kernel
theorem dX8_way_10 : decode cX8_way 10 = .ok (.istore_n 3, 1) := by decide +kernel
theorem dX8_way_11 : decode cX8_way 11 = .ok (.iload_n 3, 1) := by decide +kernel
theorem dX8_way_12 : decode cX8_way 12 = .ok (.ifCond .ge 24, 3) := by decide +kernel
theorem dX8_way_15 : decode cX8_way 15 = .ok (.aload_n 0, 1) := by decide +kernel
theorem dX8_way_16 : decode cX8_way 16 = .ok (.getfield 21, 3) := by decide +kernel
theorem dX8_way_19 : decode cX8_way 19 = .ok (.aload_n 0, 1) := by decide +kernel
theorem dX8_way_20 : decode cX8_way 20 = .ok (.getfield 24, 3) := by decide +kernel
theorem dX8_way_23 : decode cX8_way 23 = .ok (.invokevirtual 240, 3) := by decide +kernel
theorem dX8_way_26 : decode cX8_way 26 = .ok (.new 252, 3) := by decide +kernel
theorem dX8_way_29 : decode cX8_way 29 = .ok (.dup, 1) := by decide +kernel
theorem dX8_way_30 : decode cX8_way 30 = .ok (.ldc 254, 2) := by decide +kernel
theorem dX8_way_32 : decode cX8_way 32 = .ok (.invokespecial 256, 3) := by decide +kernel
theorem dX8_way_35 : decode cX8_way 35 = .ok (.athrow, 1) := by decide +kernel
theorem dX8_way_36 : decode cX8_way 36 = .ok (.iload_n 2, 1) := by decide +kernel
theorem dX8_way_37 : decode cX8_way 37 = .ok (.iload_n 3, 1) := by decide +kernel
theorem dX8_way_38 : decode cX8_way 38 = .ok (.invokestatic 188, 3) := by decide +kernel
theorem dX8_way_41 : decode cX8_way 41 = .ok (.ifCond .ne 25, 3) := by decide +kernel
theorem dX8_way_44 : decode cX8_way 44 = .ok (.aload_n 0, 1) := by decide +kernel
theorem dX8_way_45 : decode cX8_way 45 = .ok (.getfield 21, 3) := by decide +kernel
theorem dX8_way_48 : decode cX8_way 48 = .ok (.aload_n 0, 1) := by decide +kernel
theorem dX8_way_49 : decode cX8_way 49 = .ok (.getfield 24, 3) := by decide +kernel
theorem dX8_way_52 : decode cX8_way 52 = .ok (.invokevirtual 240, 3) := by decide +kernel
theorem dX8_way_55 : decode cX8_way 55 = .ok (.new 126, 3) := by decide +kernel
theorem dX8_way_58 : decode cX8_way 58 = .ok (.dup, 1) := by decide +kernel
theorem dX8_way_59 : decode cX8_way 59 = .ok (.ldc_w 296, 3) := by decide +kernel
theorem dX8_way_62 : decode cX8_way 62 = .ok (.invokespecial 130, 3) := by decide +kernel
theorem dX8_way_65 : decode cX8_way 65 = .ok (.athrow, 1) := by decide +kernel
theorem dX8_way_66 : decode cX8_way 66 = .ok (.aload_n 0, 1) := by decide +kernel
theorem dX8_way_67 : decode cX8_way 67 = .ok (.getfield 74, 3) := by decide +kernel
theorem dX8_way_70 : decode cX8_way 70 = .ok (.iload_n 2, 1) := by decide +kernel
theorem dX8_way_71 : decode cX8_way 71 = .ok (.invokevirtual 231, 3) := by decide +kernel
theorem dX8_way_74 : decode cX8_way 74 = .ok (.ireturn, 1) := by decide +kernel
theorem dX8_work_0 : decode cX8_work 0 = .ok (.aload_n 0, 1) := by decide +kernel
theorem dX8_work_1 : decode cX8_work 1 = .ok (.iload_n 1, 1) := by decide +kernel
theorem dX8_work_2 : decode cX8_work 2 = .ok (.invokevirtual 173, 3) := by decide +kernel
theorem dX8_work_5 : decode cX8_work 5 = .ok (.aload_n 0, 1) := by decide +kernel
theorem dX8_work_6 : decode cX8_work 6 = .ok (.getfield 51, 3) := by decide +kernel
theorem dX8_work_9 : decode cX8_work 9 = .ok (.iload_n 1, 1) := by decide +kernel
theorem dX8_work_10 : decode cX8_work 10 = .ok (.invokevirtual 298, 3) := by decide +kernel
theorem dX8_work_13 : decode cX8_work 13 = .ok (.istore_n 2, 1) := by decide +kernel
theorem dX8_work_14 : decode cX8_work 14 = .ok (.iload_n 2, 1) := by decide +kernel
theorem dX8_work_15 : decode cX8_work 15 = .ok (.ifCond .le 14, 3) := by decide +kernel
theorem dX8_work_18 : decode cX8_work 18 = .ok (.new 252, 3) := by decide +kernel
theorem dX8_work_21 : decode cX8_work 21 = .ok (.dup, 1) := by decide +kernel
theorem dX8_work_22 : decode cX8_work 22 = .ok (.ldc_w 301, 3) := by decide +kernel
theorem dX8_work_25 : decode cX8_work 25 = .ok (.invokespecial 256, 3) := by decide +kernel
theorem dX8_work_28 : decode cX8_work 28 = .ok (.athrow, 1) := by decide +kernel
theorem dX8_work_29 : decode cX8_work 29 = .ok (.iload_n 2, 1) := by decide +kernel
theorem dX8_work_30 : decode cX8_work 30 = .ok (.ifCond .ne 19, 3) := by decide +kernel
theorem dX8_work_33 : decode cX8_work 33 = .ok (.aload_n 0, 1) := by decide +kernel
theorem dX8_work_34 : decode cX8_work 34 = .ok (.getfield 14, 3) := by decide +kernel
theorem dX8_work_37 : decode cX8_work 37 = .ok (.iconst 0, 1) := by decide +kernel
theorem dX8_work_38 : decode cX8_work 38 = .ok (.aload_n 0, 1) := by decide +kernel
theorem dX8_work_39 : decode cX8_work 39 = .ok (.getfield 51, 3) := by decide +kernel
theorem dX8_work_42 : decode cX8_work 42 = .ok (.getfield 303, 3) := by decide +kernel
theorem dX8_work_45 : decode cX8_work 45 = .ok (.iload_n 1, 1) := by decide +kernel
theorem dX8_work_46 : decode cX8_work 46 = .ok (.invokevirtual 115, 3) := by decide +kernel
theorem dX8_work_49 : decode cX8_work 49 = .ok (.iload_n 2, 1) := by decide +kernel
theorem dX8_work_50 : decode cX8_work 50 = .ok (.ifCond .ne 7, 3) := by decide +kernel
theorem dX8_work_53 : decode cX8_work 53 = .ok (.iconst 1, 1) := by decide +kernel
theorem dX8_work_54 : decode cX8_work 54 = .ok (.goto 4, 3) := by decide +kernel
theorem dX8_work_57 : decode cX8_work 57 = .ok (.iconst 0, 1) := by decide +kernel
theorem dX8_work_58 : decode cX8_work 58 = .ok (.ireturn, 1) := by decide +kernel
theorem dX8_typed_0 : decode cX8_typed 0 = .ok (.aload_n 0, 1) := by decide +kernel
theorem dX8_typed_1 : decode cX8_typed 1 = .ok (.getfield 14, 3) := by decide +kernel
theorem dX8_typed_4 : decode cX8_typed 4 = .ok (.iconst 0, 1) := by decide +kernel
theorem dX8_typed_5 : decode cX8_typed 5 = .ok (.iload_n 1, 1) := by decide +kernel
theorem dX8_typed_6 : decode cX8_typed 6 = .ok (.invokevirtual 122, 3) := by decide +kernel
theorem dX8_typed_9 : decode cX8_typed 9 = .ok (.ifCond .ne 14, 3) := by decide +kernel
theorem dX8_typed_12 : decode cX8_typed 12 = .ok (.new 126, 3) := by decide +kernel
theorem dX8_typed_15 : decode cX8_typed 15 = .ok (.dup, 1) := by decide +kernel
theorem dX8_typed_16 : decode cX8_typed 16 = .ok (.ldc_w 306, 3) := by decide +kernel
theorem dX8_typed_19 : decode cX8_typed 19 = .ok (.invokespecial 130, 3) := by decide +kernel
theorem dX8_typed_22 : decode cX8_typed 22 = .ok (.athrow, 1) := by decide +kernel
theorem dX8_typed_23 : decode cX8_typed 23 = .ok (.aload_n 0, 1) := by decide +kernel
theorem dX8_typed_24 : decode cX8_typed 24 = .ok (.getfield 14, 3) := by decide +kernel
theorem dX8_typed_27 : decode cX8_typed 27 = .ok (.iconst 0, 1) := by decide +kernel
theorem dX8_typed_28 : decode cX8_typed 28 = .ok (.iload_n 1, 1) := by decide +kernel
theorem dX8_typed_29 : decode cX8_typed 29 = .ok (.invokevirtual 131, 3) := by decide +kernel
theorem dX8_typed_32 : decode cX8_typed 32 = .ok (.ireturn, 1) := by decide +kernel
theorem dX8_statements_0 : decode cX8_statements 0 = .ok (.aload_n 0, 1) := by decide +kernel
theorem dX8_statements_1 : decode cX8_statements 1 = .ok (.getfield 58, 3) := by decide +kernel
theorem dX8_statements_4 : decode cX8_statements 4 = .ok (.getfield 308, 3) := by decide +kernel
theorem dX8_statements_7 : decode cX8_statements 7 = .ok (.ireturn, 1) := by decide +kernel
theorem dX8_failShare_0 : decode cX8_failShare 0 = .ok (.aload_n 0, 1) := by decide +kernel
theorem dX8_failShare_1 : decode cX8_failShare 1 = .ok (.invokevirtual 214, 3) := by decide +kernel
theorem dX8_failShare_4 : decode cX8_failShare 4 = .ok (.aload_n 0, 1) := by decide +kernel
theorem dX8_failShare_5 : decode cX8_failShare 5 = .ok (.getfield 67, 3) := by decide +kernel
theorem dX8_failShare_8 : decode cX8_failShare 8 = .ok (.getfield 234, 3) := by decide +kernel
theorem dX8_failShare_11 : decode cX8_failShare 11 = .ok (.bipush 40, 2) := by decide +kernel
theorem dX8_failShare_13 : decode cX8_failShare 13 = .ok (.invokevirtual 311, 3) := by decide +kernel
theorem dX8_failShare_16 : decode cX8_failShare 16 = .ok (.istore_n 1, 1) := by decide +kernel
theorem dX8_failShare_17 : decode cX8_failShare 17 = .ok (.aload_n 0, 1) := by decide +kernel
theorem dX8_failShare_18 : decode cX8_failShare 18 = .ok (.getfield 67, 3) := by decide +kernel
theorem dX8_failShare_21 : decode cX8_failShare 21 = .ok (.getfield 225, 3) := by decide +kernel
theorem dX8_failShare_24 : decode cX8_failShare 24 = .ok (.istore_n 2, 1) := by decide +kernel
theorem dX8_failShare_25 : decode cX8_failShare 25 = .ok (.iload_n 2, 1) := by decide +kernel
theorem dX8_failShare_26 : decode cX8_failShare 26 = .ok (.ifCond .ne 7, 3) := by decide +kernel
theorem dX8_failShare_29 : decode cX8_failShare 29 = .ok (.fconst 0, 1) := by decide +kernel
theorem dX8_failShare_30 : decode cX8_failShare 30 = .ok (.goto 8, 3) := by decide +kernel
theorem dX8_failShare_33 : decode cX8_failShare 33 = .ok (.iload_n 1, 1) := by decide +kernel
theorem dX8_failShare_34 : decode cX8_failShare 34 = .ok (.i2f, 1) := by decide +kernel
theorem dX8_failShare_35 : decode cX8_failShare 35 = .ok (.iload_n 2, 1) := by decide +kernel
theorem dX8_failShare_36 : decode cX8_failShare 36 = .ok (.i2f, 1) := by decide +kernel
theorem dX8_failShare_37 : decode cX8_failShare 37 = .ok (.fdiv, 1) := by decide +kernel
theorem dX8_failShare_38 : decode cX8_failShare 38 = .ok (.freturn, 1) := by decide +kernel
theorem dX8_meanSize_0 : decode cX8_meanSize 0 = .ok (.iconst 0, 1) := by decide +kernel
theorem dX8_meanSize_1 : decode cX8_meanSize 1 = .ok (.istore_n 1, 1) := by decide +kernel
theorem dX8_meanSize_2 : decode cX8_meanSize 2 = .ok (.iconst 0, 1) := by decide +kernel
theorem dX8_meanSize_3 : decode cX8_meanSize 3 = .ok (.istore_n 2, 1) := by decide +kernel
theorem dX8_meanSize_4 : decode cX8_meanSize 4 = .ok (.iconst 0, 1) := by decide +kernel
theorem dX8_meanSize_5 : decode cX8_meanSize 5 = .ok (.istore_n 3, 1) := by decide +kernel
theorem dX8_meanSize_6 : decode cX8_meanSize 6 = .ok (.iload_n 3, 1) := by decide +kernel
theorem dX8_meanSize_7 : decode cX8_meanSize 7 = .ok (.bipush 26, 2) := by decide +kernel
theorem dX8_meanSize_9 : decode cX8_meanSize 9 = .ok (.if_icmp .ge 37, 3) := by decide +kernel
theorem dX8_meanSize_12 : decode cX8_meanSize 12 = .ok (.aload_n 0, 1) := by decide +kernel
theorem dX8_meanSize_13 : decode cX8_meanSize 13 = .ok (.getfield 21, 3) := by decide +kernel
theorem dX8_meanSize_16 : decode cX8_meanSize 16 = .ok (.iload_n 3, 1) := by decide +kernel
theorem dX8_meanSize_17 : decode cX8_meanSize 17 = .ok (.invokevirtual 89, 3) := by decide +kernel
theorem dX8_meanSize_20 : decode cX8_meanSize 20 = .ok (.istore 4, 2) := by decide +kernel
theorem dX8_meanSize_22 : decode cX8_meanSize 22 = .ok (.iload_n 1, 1) := by decide +kernel
theorem dX8_meanSize_23 : decode cX8_meanSize 23 = .ok (.iload 4, 2) := by decide +kernel
theorem dX8_meanSize_25 : decode cX8_meanSize 25 = .ok (.iadd, 1) := by decide +kernel
theorem dX8_meanSize_26 : decode cX8_meanSize 26 = .ok (.istore_n 1, 1) := by decide +kernel
theorem dX8_meanSize_27 : decode cX8_meanSize 27 = .ok (.iload_n 2, 1) := by decide +kernel
theorem dX8_meanSize_28 : decode cX8_meanSize 28 = .ok (.iload 4, 2) := by decide +kernel
theorem dX8_meanSize_30 : decode cX8_meanSize 30 = .ok (.ifCond .le 7, 3) := by decide +kernel
theorem dX8_meanSize_33 : decode cX8_meanSize 33 = .ok (.iconst 1, 1) := by decide +kernel
theorem dX8_meanSize_34 : decode cX8_meanSize 34 = .ok (.goto 4, 3) := by decide +kernel
theorem dX8_meanSize_37 : decode cX8_meanSize 37 = .ok (.iconst 0, 1) := by decide +kernel
theorem dX8_meanSize_38 : decode cX8_meanSize 38 = .ok (.iadd, 1) := by decide +kernel
theorem dX8_meanSize_39 : decode cX8_meanSize 39 = .ok (.istore_n 2, 1) := by decide +kernel
theorem dX8_meanSize_40 : decode cX8_meanSize 40 = .ok (.iinc 3 1, 3) := by decide +kernel
theorem dX8_meanSize_43 : decode cX8_meanSize 43 = .ok (.goto (-37), 3) := by decide +kernel
theorem dX8_meanSize_46 : decode cX8_meanSize 46 = .ok (.iload_n 2, 1) := by decide +kernel
theorem dX8_meanSize_47 : decode cX8_meanSize 47 = .ok (.ifCond .ne 14, 3) := by decide +kernel
theorem dX8_meanSize_50 : decode cX8_meanSize 50 = .ok (.new 252, 3) := by decide +kernel
theorem dX8_meanSize_53 : decode cX8_meanSize 53 = .ok (.dup, 1) := by decide +kernel
theorem dX8_meanSize_54 : decode cX8_meanSize 54 = .ok (.ldc_w 314, 3) := by decide +kernel
theorem dX8_meanSize_57 : decode cX8_meanSize 57 = .ok (.invokespecial 256, 3) := by decide +kernel
theorem dX8_meanSize_60 : decode cX8_meanSize 60 = .ok (.athrow, 1) := by decide +kernel
theorem dX8_meanSize_61 : decode cX8_meanSize 61 = .ok (.iload_n 1, 1) := by decide +kernel
theorem dX8_meanSize_62 : decode cX8_meanSize 62 = .ok (.i2d, 1) := by decide +kernel
theorem dX8_meanSize_63 : decode cX8_meanSize 63 = .ok (.iload_n 2, 1) := by decide +kernel
theorem dX8_meanSize_64 : decode cX8_meanSize 64 = .ok (.i2d, 1) := by decide +kernel
theorem dX8_meanSize_65 : decode cX8_meanSize 65 = .ok (.ddiv, 1) := by decide +kernel
theorem dX8_meanSize_66 : decode cX8_meanSize 66 = .ok (.dreturn, 1) := by decide +kernel
theorem dX8_checksum_0 : decode cX8_checksum 0 = .ok (.ldc2_w 316, 3) := by decide +kernel
theorem dX8_checksum_3 : decode cX8_checksum 3 = .ok (.lstore_n 1, 1) := by decide +kernel
theorem dX8_checksum_4 : decode cX8_checksum 4 = .ok (.iconst 0, 1) := by decide +kernel
theorem dX8_checksum_5 : decode cX8_checksum 5 = .ok (.istore_n 3, 1) := by decide +kernel
theorem dX8_checksum_6 : decode cX8_checksum 6 = .ok (.iload_n 3, 1) := by decide +kernel
theorem dX8_checksum_7 : decode cX8_checksum 7 = .ok (.bipush 26, 2) := by decide +kernel
theorem dX8_checksum_9 : decode cX8_checksum 9 = .ok (.if_icmp .ge 63, 3) := by decide +kernel
theorem dX8_checksum_12 : decode cX8_checksum 12 = .ok (.aload_n 0, 1) := by decide +kernel
theorem dX8_checksum_13 : decode cX8_checksum 13 = .ok (.getfield 21, 3) := by decide +kernel
theorem dX8_checksum_16 : decode cX8_checksum 16 = .ok (.iload_n 3, 1) := by decide +kernel
theorem dX8_checksum_17 : decode cX8_checksum 17 = .ok (.invokevirtual 89, 3) := by decide +kernel
theorem dX8_checksum_20 : decode cX8_checksum 20 = .ok (.istore 4, 2) := by decide +kernel
theorem dX8_checksum_22 : decode cX8_checksum 22 = .ok (.iconst 0, 1) := by decide +kernel
theorem dX8_checksum_23 : decode cX8_checksum 23 = .ok (.istore 5, 2) := by decide +kernel
theorem dX8_checksum_25 : decode cX8_checksum 25 = .ok (.iload 5, 2) := by decide +kernel
theorem dX8_checksum_27 : decode cX8_checksum 27 = .ok (.iload 4, 2) := by decide +kernel
theorem dX8_checksum_29 : decode cX8_checksum 29 = .ok (.if_icmp .ge 27, 3) := by decide +kernel
theorem dX8_checksum_32 : decode cX8_checksum 32 = .ok (.ldc2_w 318, 3) := by decide +kernel
theorem dX8_checksum_35 : decode cX8_checksum 35 = .ok (.lload_n 1, 1) := by decide +kernel
theorem dX8_checksum_36 : decode cX8_checksum 36 = .ok (.lmul, 1) := by decide +kernel
theorem dX8_checksum_37 : decode cX8_checksum 37 = .ok (.aload_n 0, 1) := by decide +kernel
theorem dX8_checksum_38 : decode cX8_checksum 38 = .ok (.getfield 21, 3) := by decide +kernel
theorem dX8_checksum_41 : decode cX8_checksum 41 = .ok (.iload_n 3, 1) := by decide +kernel
theorem dX8_checksum_42 : decode cX8_checksum 42 = .ok (.iload 5, 2) := by decide +kernel
theorem dX8_checksum_44 : decode cX8_checksum 44 = .ok (.invokevirtual 131, 3) := by decide +kernel
theorem dX8_checksum_47 : decode cX8_checksum 47 = .ok (.i2l, 1) := by decide +kernel
theorem dX8_checksum_48 : decode cX8_checksum 48 = .ok (.ladd, 1) := by decide +kernel
theorem dX8_checksum_49 : decode cX8_checksum 49 = .ok (.lstore_n 1, 1) := by decide +kernel
theorem dX8_checksum_50 : decode cX8_checksum 50 = .ok (.iinc 5 1, 3) := by decide +kernel
theorem dX8_checksum_53 : decode cX8_checksum 53 = .ok (.goto (-28), 3) := by decide +kernel
theorem dX8_checksum_56 : decode cX8_checksum 56 = .ok (.ldc2_w 318, 3) := by decide +kernel
theorem dX8_checksum_59 : decode cX8_checksum 59 = .ok (.lload_n 1, 1) := by decide +kernel
theorem dX8_checksum_60 : decode cX8_checksum 60 = .ok (.lmul, 1) := by decide +kernel
theorem dX8_checksum_61 : decode cX8_checksum 61 = .ok (.iload 4, 2) := by decide +kernel
theorem dX8_checksum_63 : decode cX8_checksum 63 = .ok (.i2l, 1) := by decide +kernel
theorem dX8_checksum_64 : decode cX8_checksum 64 = .ok (.ladd, 1) := by decide +kernel
theorem dX8_checksum_65 : decode cX8_checksum 65 = .ok (.lstore_n 1, 1) := by decide +kernel
theorem dX8_checksum_66 : decode cX8_checksum 66 = .ok (.iinc 3 1, 3) := by decide +kernel
theorem dX8_checksum_69 : decode cX8_checksum 69 = .ok (.goto (-63), 3) := by decide +kernel
theorem dX8_checksum_72 : decode cX8_checksum 72 = .ok (.lload_n 1, 1) := by decide +kernel
theorem dX8_checksum_73 : decode cX8_checksum 73 = .ok (.lreturn, 1) := by decide +kernel
theorem dX8_isSound_0 : decode cX8_isSound 0 = .ok (.iconst 0, 1) := by decide +kernel
theorem dX8_isSound_1 : decode cX8_isSound 1 = .ok (.istore_n 1, 1) := by decide +kernel
theorem dX8_isSound_2 : decode cX8_isSound 2 = .ok (.iload_n 1, 1) := by decide +kernel
theorem dX8_isSound_3 : decode cX8_isSound 3 = .ok (.bipush 26, 2) := by decide +kernel
theorem dX8_isSound_5 : decode cX8_isSound 5 = .ok (.if_icmp .ge 24, 3) := by decide +kernel
theorem dX8_isSound_8 : decode cX8_isSound 8 = .ok (.aload_n 0, 1) := by decide +kernel
theorem dX8_isSound_9 : decode cX8_isSound 9 = .ok (.getfield 21, 3) := by decide +kernel
theorem dX8_isSound_12 : decode cX8_isSound 12 = .ok (.iload_n 1, 1) := by decide +kernel
theorem dX8_isSound_13 : decode cX8_isSound 13 = .ok (.invokevirtual 89, 3) := by decide +kernel
theorem dX8_isSound_16 : decode cX8_isSound 16 = .ok (.bipush 60, 2) := by decide +kernel
theorem dX8_isSound_18 : decode cX8_isSound 18 = .ok (.if_icmp .le 5, 3) := by decide +kernel
theorem dX8_isSound_21 : decode cX8_isSound 21 = .ok (.iconst 0, 1) := by decide +kernel
theorem dX8_isSound_22 : decode cX8_isSound 22 = .ok (.ireturn, 1) := by decide +kernel
theorem dX8_isSound_23 : decode cX8_isSound 23 = .ok (.iinc 1 1, 3) := by decide +kernel
theorem dX8_isSound_26 : decode cX8_isSound 26 = .ok (.goto (-24), 3) := by decide +kernel
theorem dX8_isSound_29 : decode cX8_isSound 29 = .ok (.aload_n 0, 1) := by decide +kernel
theorem dX8_isSound_30 : decode cX8_isSound 30 = .ok (.getfield 67, 3) := by decide +kernel
theorem dX8_isSound_33 : decode cX8_isSound 33 = .ok (.getfield 320, 3) := by decide +kernel
theorem dX8_isSound_36 : decode cX8_isSound 36 = .ok (.ifCond .eq 27, 3) := by decide +kernel
theorem dX8_isSound_39 : decode cX8_isSound 39 = .ok (.aload_n 0, 1) := by decide +kernel
theorem dX8_isSound_40 : decode cX8_isSound 40 = .ok (.getfield 67, 3) := by decide +kernel
theorem dX8_isSound_43 : decode cX8_isSound 43 = .ok (.getfield 225, 3) := by decide +kernel
theorem dX8_isSound_46 : decode cX8_isSound 46 = .ok (.aload_n 0, 1) := by decide +kernel
theorem dX8_isSound_47 : decode cX8_isSound 47 = .ok (.getfield 67, 3) := by decide +kernel
theorem dX8_isSound_50 : decode cX8_isSound 50 = .ok (.getfield 228, 3) := by decide +kernel
theorem dX8_isSound_53 : decode cX8_isSound 53 = .ok (.bipush 40, 2) := by decide +kernel
theorem dX8_isSound_55 : decode cX8_isSound 55 = .ok (.invokevirtual 311, 3) := by decide +kernel
theorem dX8_isSound_58 : decode cX8_isSound 58 = .ok (.if_icmp .eq 5, 3) := by decide +kernel
theorem dX8_isSound_61 : decode cX8_isSound 61 = .ok (.iconst 0, 1) := by decide +kernel
theorem dX8_isSound_62 : decode cX8_isSound 62 = .ok (.ireturn, 1) := by decide +kernel
theorem dX8_isSound_63 : decode cX8_isSound 63 = .ok (.aload_n 0, 1) := by decide +kernel
theorem dX8_isSound_64 : decode cX8_isSound 64 = .ok (.getfield 260, 3) := by decide +kernel
theorem dX8_isSound_67 : decode cX8_isSound 67 = .ok (.ifCond .eq 33, 3) := by decide +kernel
theorem dX8_isSound_70 : decode cX8_isSound 70 = .ok (.iconst 0, 1) := by decide +kernel
theorem dX8_isSound_71 : decode cX8_isSound 71 = .ok (.aload_n 0, 1) := by decide +kernel
theorem dX8_isSound_72 : decode cX8_isSound 72 = .ok (.getfield 272, 3) := by decide +kernel
theorem dX8_isSound_75 : decode cX8_isSound 75 = .ok (.if_icmp .gt 29, 3) := by decide +kernel
theorem dX8_isSound_78 : decode cX8_isSound 78 = .ok (.aload_n 0, 1) := by decide +kernel
theorem dX8_isSound_79 : decode cX8_isSound 79 = .ok (.getfield 272, 3) := by decide +kernel
theorem dX8_isSound_82 : decode cX8_isSound 82 = .ok (.aload_n 0, 1) := by decide +kernel
theorem dX8_isSound_83 : decode cX8_isSound 83 = .ok (.getfield 278, 3) := by decide +kernel
theorem dX8_isSound_86 : decode cX8_isSound 86 = .ok (.if_icmp .gt 18, 3) := by decide +kernel
theorem dX8_isSound_89 : decode cX8_isSound 89 = .ok (.aload_n 0, 1) := by decide +kernel
theorem dX8_isSound_90 : decode cX8_isSound 90 = .ok (.getfield 278, 3) := by decide +kernel
theorem dX8_isSound_93 : decode cX8_isSound 93 = .ok (.aload_n 0, 1) := by decide +kernel
theorem dX8_isSound_94 : decode cX8_isSound 94 = .ok (.getfield 281, 3) := by decide +kernel
theorem dX8_isSound_97 : decode cX8_isSound 97 = .ok (.if_icmp .gt 7, 3) := by decide +kernel
theorem dX8_isSound_100 : decode cX8_isSound 100 = .ok (.iconst 1, 1) := by decide +kernel
theorem dX8_isSound_101 : decode cX8_isSound 101 = .ok (.goto 4, 3) := by decide +kernel
theorem dX8_isSound_104 : decode cX8_isSound 104 = .ok (.iconst 0, 1) := by decide +kernel
theorem dX8_isSound_105 : decode cX8_isSound 105 = .ok (.ireturn, 1) := by decide +kernel
theorem dX8_isSign_0 : decode cX8_isSign 0 = .ok (.iload_n 0, 1) := by decide +kernel
theorem dX8_isSign_1 : decode cX8_isSign 1 = .ok (.bipush 32, 2) := by decide +kernel
theorem dX8_isSign_3 : decode cX8_isSign 3 = .ok (.if_icmp .lt 9, 3) := by decide +kernel
theorem dX8_isSign_6 : decode cX8_isSign 6 = .ok (.iload_n 0, 1) := by decide +kernel
theorem dX8_isSign_7 : decode cX8_isSign 7 = .ok (.bipush 126, 2) := by decide +kernel
theorem dX8_isSign_9 : decode cX8_isSign 9 = .ok (.if_icmp .le 17, 3) := by decide +kernel
theorem dX8_isSign_12 : decode cX8_isSign 12 = .ok (.iload_n 0, 1) := by decide +kernel
theorem dX8_isSign_13 : decode cX8_isSign 13 = .ok (.ldc_w 323, 3) := by decide +kernel
theorem dX8_isSign_16 : decode cX8_isSign 16 = .ok (.if_icmp .lt 14, 3) := by decide +kernel
theorem dX8_isSign_19 : decode cX8_isSign 19 = .ok (.iload_n 0, 1) := by decide +kernel
theorem dX8_isSign_20 : decode cX8_isSign 20 = .ok (.ldc_w 324, 3) := by decide +kernel
theorem dX8_isSign_23 : decode cX8_isSign 23 = .ok (.if_icmp .gt 7, 3) := by decide +kernel
theorem dX8_isSign_26 : decode cX8_isSign 26 = .ok (.iconst 1, 1) := by decide +kernel
theorem dX8_isSign_27 : decode cX8_isSign 27 = .ok (.goto 4, 3) := by decide +kernel
theorem dX8_isSign_30 : decode cX8_isSign 30 = .ok (.iconst 0, 1) := by decide +kernel
theorem dX8_isSign_31 : decode cX8_isSign 31 = .ok (.ireturn, 1) := by decide +kernel
theorem dX8_isBelow_0 : decode cX8_isBelow 0 = .ok (.iload_n 0, 1) := by decide +kernel
theorem dX8_isBelow_1 : decode cX8_isBelow 1 = .ok (.ifCond .lt 12, 3) := by decide +kernel
theorem dX8_isBelow_4 : decode cX8_isBelow 4 = .ok (.iload_n 0, 1) := by decide +kernel
theorem dX8_isBelow_5 : decode cX8_isBelow 5 = .ok (.iload_n 1, 1) := by decide +kernel
theorem dX8_isBelow_6 : decode cX8_isBelow 6 = .ok (.if_icmp .ge 7, 3) := by decide +kernel
theorem dX8_isBelow_9 : decode cX8_isBelow 9 = .ok (.iconst 1, 1) := by decide +kernel
theorem dX8_isBelow_10 : decode cX8_isBelow 10 = .ok (.goto 4, 3) := by decide +kernel
theorem dX8_isBelow_13 : decode cX8_isBelow 13 = .ok (.iconst 0, 1) := by decide +kernel
theorem dX8_isBelow_14 : decode cX8_isBelow 14 = .ok (.ireturn, 1) := by decide +kernel
theorem dX8_patternPartsExist_0 : decode cX8_patternPartsExist 0 = .ok (.iload_n 1, 1) := by decide +kernel
theorem dX8_patternPartsExist_1 : decode cX8_patternPartsExist 1 = .ok (.lookupswitch 254 #[(35, 238), (36, 202), (38, 156), (46, 202), (64, 231), (103, 190), (107, 147), (108, 147), (110, 147), (111, 147), (112, 238), (113, 238), (114, 238), (115, 147), (116, 238), (118, 231), (124, 156)], 147) := by decide +kernel
theorem dX8_patternPartsExist_148 : decode cX8_patternPartsExist 148 = .ok (.iload_n 2, 1) := by decide +kernel
theorem dX8_patternPartsExist_149 : decode cX8_patternPartsExist 149 = .ok (.aload_n 0, 1) := by decide +kernel
theorem dX8_patternPartsExist_150 : decode cX8_patternPartsExist 150 = .ok (.getfield 109, 3) := by decide +kernel
theorem dX8_patternPartsExist_153 : decode cX8_patternPartsExist 153 = .ok (.invokestatic 188, 3) := by decide +kernel
theorem dX8_patternPartsExist_156 : decode cX8_patternPartsExist 156 = .ok (.ireturn, 1) := by decide +kernel
theorem dX8_patternPartsExist_157 : decode cX8_patternPartsExist 157 = .ok (.iload_n 2, 1) := by decide +kernel
theorem dX8_patternPartsExist_158 : decode cX8_patternPartsExist 158 = .ok (.aload_n 0, 1) := by decide +kernel
theorem dX8_patternPartsExist_159 : decode cX8_patternPartsExist 159 = .ok (.getfield 32, 3) := by decide +kernel
theorem dX8_patternPartsExist_162 : decode cX8_patternPartsExist 162 = .ok (.getfield 325, 3) := by decide +kernel
theorem dX8_patternPartsExist_165 : decode cX8_patternPartsExist 165 = .ok (.invokestatic 188, 3) := by decide +kernel
theorem dX8_patternPartsExist_168 : decode cX8_patternPartsExist 168 = .ok (.ifCond .eq 21, 3) := by decide +kernel
theorem dX8_patternPartsExist_171 : decode cX8_patternPartsExist 171 = .ok (.iload_n 3, 1) := by decide +kernel
theorem dX8_patternPartsExist_172 : decode cX8_patternPartsExist 172 = .ok (.aload_n 0, 1) := by decide +kernel
theorem dX8_patternPartsExist_173 : decode cX8_patternPartsExist 173 = .ok (.getfield 32, 3) := by decide +kernel
theorem dX8_patternPartsExist_176 : decode cX8_patternPartsExist 176 = .ok (.getfield 325, 3) := by decide +kernel
theorem dX8_patternPartsExist_179 : decode cX8_patternPartsExist 179 = .ok (.invokestatic 188, 3) := by decide +kernel
theorem dX8_patternPartsExist_182 : decode cX8_patternPartsExist 182 = .ok (.ifCond .eq 7, 3) := by decide +kernel
theorem dX8_patternPartsExist_185 : decode cX8_patternPartsExist 185 = .ok (.iconst 1, 1) := by decide +kernel
theorem dX8_patternPartsExist_186 : decode cX8_patternPartsExist 186 = .ok (.goto 4, 3) := by decide +kernel
theorem dX8_patternPartsExist_189 : decode cX8_patternPartsExist 189 = .ok (.iconst 0, 1) := by decide +kernel
theorem dX8_patternPartsExist_190 : decode cX8_patternPartsExist 190 = .ok (.ireturn, 1) := by decide +kernel
theorem dX8_patternPartsExist_191 : decode cX8_patternPartsExist 191 = .ok (.iload_n 2, 1) := by decide +kernel
theorem dX8_patternPartsExist_192 : decode cX8_patternPartsExist 192 = .ok (.aload_n 0, 1) := by decide +kernel
theorem dX8_patternPartsExist_193 : decode cX8_patternPartsExist 193 = .ok (.getfield 32, 3) := by decide +kernel
theorem dX8_patternPartsExist_196 : decode cX8_patternPartsExist 196 = .ok (.getfield 325, 3) := by decide +kernel
theorem dX8_patternPartsExist_199 : decode cX8_patternPartsExist 199 = .ok (.invokestatic 188, 3) := by decide +kernel
theorem dX8_patternPartsExist_202 : decode cX8_patternPartsExist 202 = .ok (.ireturn, 1) := by decide +kernel
theorem dX8_patternPartsExist_203 : decode cX8_patternPartsExist 203 = .ok (.iload_n 2, 1) := by decide +kernel
theorem dX8_patternPartsExist_204 : decode cX8_patternPartsExist 204 = .ok (.aload_n 0, 1) := by decide +kernel
theorem dX8_patternPartsExist_205 : decode cX8_patternPartsExist 205 = .ok (.getfield 32, 3) := by decide +kernel
theorem dX8_patternPartsExist_208 : decode cX8_patternPartsExist 208 = .ok (.getfield 325, 3) := by decide +kernel
theorem dX8_patternPartsExist_211 : decode cX8_patternPartsExist 211 = .ok (.invokestatic 188, 3) := by decide +kernel
theorem dX8_patternPartsExist_214 : decode cX8_patternPartsExist 214 = .ok (.ifCond .eq 16, 3) := by decide +kernel
theorem dX8_patternPartsExist_217 : decode cX8_patternPartsExist 217 = .ok (.iload_n 3, 1) := by decide +kernel
theorem dX8_patternPartsExist_218 : decode cX8_patternPartsExist 218 = .ok (.bipush 26, 2) := by decide +kernel
theorem dX8_patternPartsExist_220 : decode cX8_patternPartsExist 220 = .ok (.invokestatic 188, 3) := by decide +kernel
theorem dX8_patternPartsExist_223 : decode cX8_patternPartsExist 223 = .ok (.ifCond .eq 7, 3) := by decide +kernel
theorem dX8_patternPartsExist_226 : decode cX8_patternPartsExist 226 = .ok (.iconst 1, 1) := by decide +kernel
theorem dX8_patternPartsExist_227 : decode cX8_patternPartsExist 227 = .ok (.goto 4, 3) := by decide +kernel
theorem dX8_patternPartsExist_230 : decode cX8_patternPartsExist 230 = .ok (.iconst 0, 1) := by decide +kernel
theorem dX8_patternPartsExist_231 : decode cX8_patternPartsExist 231 = .ok (.ireturn, 1) := by decide +kernel
theorem dX8_patternPartsExist_232 : decode cX8_patternPartsExist 232 = .ok (.iload_n 2, 1) := by decide +kernel
theorem dX8_patternPartsExist_233 : decode cX8_patternPartsExist 233 = .ok (.bipush 26, 2) := by decide +kernel
theorem dX8_patternPartsExist_235 : decode cX8_patternPartsExist 235 = .ok (.invokestatic 188, 3) := by decide +kernel
theorem dX8_patternPartsExist_238 : decode cX8_patternPartsExist 238 = .ok (.ireturn, 1) := by decide +kernel
theorem dX8_patternPartsExist_239 : decode cX8_patternPartsExist 239 = .ok (.iload_n 2, 1) := by decide +kernel
theorem dX8_patternPartsExist_240 : decode cX8_patternPartsExist 240 = .ok (.ifCond .lt 13, 3) := by decide +kernel
theorem dX8_patternPartsExist_243 : decode cX8_patternPartsExist 243 = .ok (.iload_n 2, 1) := by decide +kernel
theorem dX8_patternPartsExist_244 : decode cX8_patternPartsExist 244 = .ok (.bipush 60, 2) := by decide +kernel
theorem dX8_patternPartsExist_246 : decode cX8_patternPartsExist 246 = .ok (.if_icmp .gt 7, 3) := by decide +kernel
theorem dX8_patternPartsExist_249 : decode cX8_patternPartsExist 249 = .ok (.iconst 1, 1) := by decide +kernel
theorem dX8_patternPartsExist_250 : decode cX8_patternPartsExist 250 = .ok (.goto 4, 3) := by decide +kernel
theorem dX8_patternPartsExist_253 : decode cX8_patternPartsExist 253 = .ok (.iconst 0, 1) := by decide +kernel
theorem dX8_patternPartsExist_254 : decode cX8_patternPartsExist 254 = .ok (.ireturn, 1) := by decide +kernel
theorem dX8_patternPartsExist_255 : decode cX8_patternPartsExist 255 = .ok (.iconst 1, 1) := by decide +kernel
theorem dX8_patternPartsExist_256 : decode cX8_patternPartsExist 256 = .ok (.ireturn, 1) := by decide +kernel
theorem dX8_termPartsExist_0 : decode cX8_termPartsExist 0 = .ok (.iload_n 1, 1) := by decide +kernel
theorem dX8_termPartsExist_1 : decode cX8_termPartsExist 1 = .ok (.lookupswitch 79 #[(35, 67), (114, 67), (116, 51), (118, 60), (119, 67)], 51) := by decide +kernel
theorem dX8_termPartsExist_52 : decode cX8_termPartsExist 52 = .ok (.iload_n 2, 1) := by decide +kernel
theorem dX8_termPartsExist_53 : decode cX8_termPartsExist 53 = .ok (.aload_n 0, 1) := by decide +kernel
theorem dX8_termPartsExist_54 : decode cX8_termPartsExist 54 = .ok (.getfield 109, 3) := by decide +kernel
theorem dX8_termPartsExist_57 : decode cX8_termPartsExist 57 = .ok (.invokestatic 188, 3) := by decide +kernel
theorem dX8_termPartsExist_60 : decode cX8_termPartsExist 60 = .ok (.ireturn, 1) := by decide +kernel
theorem dX8_termPartsExist_61 : decode cX8_termPartsExist 61 = .ok (.iload_n 2, 1) := by decide +kernel
theorem dX8_termPartsExist_62 : decode cX8_termPartsExist 62 = .ok (.bipush 26, 2) := by decide +kernel
theorem dX8_termPartsExist_64 : decode cX8_termPartsExist 64 = .ok (.invokestatic 188, 3) := by decide +kernel
theorem dX8_termPartsExist_67 : decode cX8_termPartsExist 67 = .ok (.ireturn, 1) := by decide +kernel
theorem dX8_termPartsExist_68 : decode cX8_termPartsExist 68 = .ok (.iload_n 2, 1) := by decide +kernel
theorem dX8_termPartsExist_69 : decode cX8_termPartsExist 69 = .ok (.aload_n 0, 1) := by decide +kernel
theorem dX8_termPartsExist_70 : decode cX8_termPartsExist 70 = .ok (.getfield 36, 3) := by decide +kernel
theorem dX8_termPartsExist_73 : decode cX8_termPartsExist 73 = .ok (.getfield 325, 3) := by decide +kernel
theorem dX8_termPartsExist_76 : decode cX8_termPartsExist 76 = .ok (.invokestatic 188, 3) := by decide +kernel
theorem dX8_termPartsExist_79 : decode cX8_termPartsExist 79 = .ok (.ireturn, 1) := by decide +kernel
theorem dX8_termPartsExist_80 : decode cX8_termPartsExist 80 = .ok (.iload_n 2, 1) := by decide +kernel
theorem dX8_termPartsExist_81 : decode cX8_termPartsExist 81 = .ok (.aload_n 0, 1) := by decide +kernel
theorem dX8_termPartsExist_82 : decode cX8_termPartsExist 82 = .ok (.getfield 36, 3) := by decide +kernel
theorem dX8_termPartsExist_85 : decode cX8_termPartsExist 85 = .ok (.getfield 325, 3) := by decide +kernel
theorem dX8_termPartsExist_88 : decode cX8_termPartsExist 88 = .ok (.invokestatic 188, 3) := by decide +kernel
theorem dX8_termPartsExist_91 : decode cX8_termPartsExist 91 = .ok (.ifCond .eq 21, 3) := by decide +kernel
theorem dX8_termPartsExist_94 : decode cX8_termPartsExist 94 = .ok (.iload_n 3, 1) := by decide +kernel
theorem dX8_termPartsExist_95 : decode cX8_termPartsExist 95 = .ok (.aload_n 0, 1) := by decide +kernel
theorem dX8_termPartsExist_96 : decode cX8_termPartsExist 96 = .ok (.getfield 36, 3) := by decide +kernel
theorem dX8_termPartsExist_99 : decode cX8_termPartsExist 99 = .ok (.getfield 325, 3) := by decide +kernel
theorem dX8_termPartsExist_102 : decode cX8_termPartsExist 102 = .ok (.invokestatic 188, 3) := by decide +kernel
theorem dX8_termPartsExist_105 : decode cX8_termPartsExist 105 = .ok (.ifCond .eq 7, 3) := by decide +kernel
theorem dX8_termPartsExist_108 : decode cX8_termPartsExist 108 = .ok (.iconst 1, 1) := by decide +kernel
theorem dX8_termPartsExist_109 : decode cX8_termPartsExist 109 = .ok (.goto 4, 3) := by decide +kernel
theorem dX8_termPartsExist_112 : decode cX8_termPartsExist 112 = .ok (.iconst 0, 1) := by decide +kernel
theorem dX8_termPartsExist_113 : decode cX8_termPartsExist 113 = .ok (.ireturn, 1) := by decide +kernel
theorem dX8_findWays_0 : decode cX8_findWays 0 = .ok (.aload_n 0, 1) := by decide +kernel
theorem dX8_findWays_1 : decode cX8_findWays 1 = .ok (.getfield 24, 3) := by decide +kernel
theorem dX8_findWays_4 : decode cX8_findWays 4 = .ok (.aload_n 0, 1) := by decide +kernel
theorem dX8_findWays_5 : decode cX8_findWays 5 = .ok (.getfield 21, 3) := by decide +kernel
theorem dX8_findWays_8 : decode cX8_findWays 8 = .ok (.invokevirtual 240, 3) := by decide +kernel
theorem dX8_findWays_11 : decode cX8_findWays 11 = .ok (.aload_n 0, 1) := by decide +kernel
theorem dX8_findWays_12 : decode cX8_findWays 12 = .ok (.getfield 44, 3) := by decide +kernel
theorem dX8_findWays_15 : decode cX8_findWays 15 = .ok (.aload_n 0, 1) := by decide +kernel
theorem dX8_findWays_16 : decode cX8_findWays 16 = .ok (.getfield 14, 3) := by decide +kernel
theorem dX8_findWays_19 : decode cX8_findWays 19 = .ok (.iconst 0, 1) := by decide +kernel
theorem dX8_findWays_20 : decode cX8_findWays 20 = .ok (.iload_n 1, 1) := by decide +kernel
theorem dX8_findWays_21 : decode cX8_findWays 21 = .ok (.aload_n 0, 1) := by decide +kernel
theorem dX8_findWays_22 : decode cX8_findWays 22 = .ok (.getfield 201, 3) := by decide +kernel
theorem dX8_findWays_25 : decode cX8_findWays 25 = .ok (.invokevirtual 244, 3) := by decide +kernel
theorem dX8_findWays_28 : decode cX8_findWays 28 = .ok (.iconst 0, 1) := by decide +kernel
theorem dX8_findWays_29 : decode cX8_findWays 29 = .ok (.istore_n 2, 1) := by decide +kernel
theorem dX8_findWays_30 : decode cX8_findWays 30 = .ok (.iload_n 2, 1) := by decide +kernel
theorem dX8_findWays_31 : decode cX8_findWays 31 = .ok (.sipush 200, 3) := by decide +kernel
theorem dX8_findWays_34 : decode cX8_findWays 34 = .ok (.if_icmp .ge 57, 3) := by decide +kernel
theorem dX8_findWays_37 : decode cX8_findWays 37 = .ok (.aload_n 0, 1) := by decide +kernel
theorem dX8_findWays_38 : decode cX8_findWays 38 = .ok (.getfield 44, 3) := by decide +kernel
theorem dX8_findWays_41 : decode cX8_findWays 41 = .ok (.invokevirtual 248, 3) := by decide +kernel
theorem dX8_findWays_44 : decode cX8_findWays 44 = .ok (.istore_n 3, 1) := by decide +kernel
theorem dX8_findWays_45 : decode cX8_findWays 45 = .ok (.iload_n 3, 1) := by decide +kernel
theorem dX8_findWays_46 : decode cX8_findWays 46 = .ok (.iconst 3, 1) := by decide +kernel
theorem dX8_findWays_47 : decode cX8_findWays 47 = .ok (.if_icmp .ne 5, 3) := by decide +kernel
theorem dX8_findWays_50 : decode cX8_findWays 50 = .ok (.iconst (-1), 1) := by decide +kernel
theorem dX8_findWays_51 : decode cX8_findWays 51 = .ok (.ireturn, 1) := by decide +kernel
theorem dX8_findWays_52 : decode cX8_findWays 52 = .ok (.iload_n 3, 1) := by decide +kernel
theorem dX8_findWays_53 : decode cX8_findWays 53 = .ok (.iconst 1, 1) := by decide +kernel
theorem dX8_findWays_54 : decode cX8_findWays 54 = .ok (.if_icmp .eq 5, 3) := by decide +kernel
theorem dX8_findWays_57 : decode cX8_findWays 57 = .ok (.iload_n 2, 1) := by decide +kernel
theorem dX8_findWays_58 : decode cX8_findWays 58 = .ok (.ireturn, 1) := by decide +kernel
theorem dX8_findWays_59 : decode cX8_findWays 59 = .ok (.aload_n 0, 1) := by decide +kernel
theorem dX8_findWays_60 : decode cX8_findWays 60 = .ok (.getfield 74, 3) := by decide +kernel
theorem dX8_findWays_63 : decode cX8_findWays 63 = .ok (.iload_n 2, 1) := by decide +kernel
theorem dX8_findWays_64 : decode cX8_findWays 64 = .ok (.bipush 100, 2) := by decide +kernel
theorem dX8_findWays_66 : decode cX8_findWays 66 = .ok (.aload_n 0, 1) := by decide +kernel
theorem dX8_findWays_67 : decode cX8_findWays 67 = .ok (.getfield 44, 3) := by decide +kernel
theorem dX8_findWays_70 : decode cX8_findWays 70 = .ok (.getfield 269, 3) := by decide +kernel
theorem dX8_findWays_73 : decode cX8_findWays 73 = .ok (.imul, 1) := by decide +kernel
theorem dX8_findWays_74 : decode cX8_findWays 74 = .ok (.aload_n 0, 1) := by decide +kernel
theorem dX8_findWays_75 : decode cX8_findWays 75 = .ok (.getfield 44, 3) := by decide +kernel
theorem dX8_findWays_78 : decode cX8_findWays 78 = .ok (.getfield 275, 3) := by decide +kernel
theorem dX8_findWays_81 : decode cX8_findWays 81 = .ok (.iadd, 1) := by decide +kernel
theorem dX8_findWays_82 : decode cX8_findWays 82 = .ok (.invokevirtual 326, 3) := by decide +kernel
theorem dX8_findWays_85 : decode cX8_findWays 85 = .ok (.iinc 2 1, 3) := by decide +kernel
theorem dX8_findWays_88 : decode cX8_findWays 88 = .ok (.goto (-58), 3) := by decide +kernel
theorem dX8_findWays_91 : decode cX8_findWays 91 = .ok (.sipush 200, 3) := by decide +kernel
theorem dX8_findWays_94 : decode cX8_findWays 94 = .ok (.ireturn, 1) := by decide +kernel
theorem dX8_needVariable_0 : decode cX8_needVariable 0 = .ok (.iload_n 0, 1) := by decide +kernel
theorem dX8_needVariable_1 : decode cX8_needVariable 1 = .ok (.bipush 26, 2) := by decide +kernel
theorem dX8_needVariable_3 : decode cX8_needVariable 3 = .ok (.invokestatic 188, 3) := by decide +kernel
theorem dX8_needVariable_6 : decode cX8_needVariable 6 = .ok (.ifCond .ne 14, 3) := by decide +kernel
theorem dX8_needVariable_9 : decode cX8_needVariable 9 = .ok (.new 148, 3) := by decide +kernel
theorem dX8_needVariable_12 : decode cX8_needVariable 12 = .ok (.dup, 1) := by decide +kernel
theorem dX8_needVariable_13 : decode cX8_needVariable 13 = .ok (.ldc_w 329, 3) := by decide +kernel
theorem dX8_needVariable_16 : decode cX8_needVariable 16 = .ok (.invokespecial 152, 3) := by decide +kernel
theorem dX8_needVariable_19 : decode cX8_needVariable 19 = .ok (.athrow, 1) := by decide +kernel
theorem dX8_needVariable_20 : decode cX8_needVariable 20 = .ok (.return_, 1) := by decide +kernel
theorem dX8_needPattern_0 : decode cX8_needPattern 0 = .ok (.iload_n 1, 1) := by decide +kernel
theorem dX8_needPattern_1 : decode cX8_needPattern 1 = .ok (.aload_n 0, 1) := by decide +kernel
theorem dX8_needPattern_2 : decode cX8_needPattern 2 = .ok (.getfield 32, 3) := by decide +kernel
theorem dX8_needPattern_5 : decode cX8_needPattern 5 = .ok (.getfield 325, 3) := by decide +kernel
theorem dX8_needPattern_8 : decode cX8_needPattern 8 = .ok (.invokestatic 188, 3) := by decide +kernel
theorem dX8_needPattern_11 : decode cX8_needPattern 11 = .ok (.ifCond .ne 14, 3) := by decide +kernel
theorem dX8_needPattern_14 : decode cX8_needPattern 14 = .ok (.new 148, 3) := by decide +kernel
theorem dX8_needPattern_17 : decode cX8_needPattern 17 = .ok (.dup, 1) := by decide +kernel
theorem dX8_needPattern_18 : decode cX8_needPattern 18 = .ok (.ldc_w 331, 3) := by decide +kernel
theorem dX8_needPattern_21 : decode cX8_needPattern 21 = .ok (.invokespecial 152, 3) := by decide +kernel
theorem dX8_needPattern_24 : decode cX8_needPattern 24 = .ok (.athrow, 1) := by decide +kernel
theorem dX8_needPattern_25 : decode cX8_needPattern 25 = .ok (.return_, 1) := by decide +kernel
theorem dX8_needTerm_0 : decode cX8_needTerm 0 = .ok (.iload_n 1, 1) := by decide +kernel
theorem dX8_needTerm_1 : decode cX8_needTerm 1 = .ok (.aload_n 0, 1) := by decide +kernel
theorem dX8_needTerm_2 : decode cX8_needTerm 2 = .ok (.getfield 36, 3) := by decide +kernel
theorem dX8_needTerm_5 : decode cX8_needTerm 5 = .ok (.getfield 325, 3) := by decide +kernel
theorem dX8_needTerm_8 : decode cX8_needTerm 8 = .ok (.invokestatic 188, 3) := by decide +kernel
theorem dX8_needTerm_11 : decode cX8_needTerm 11 = .ok (.ifCond .ne 14, 3) := by decide +kernel
theorem dX8_needTerm_14 : decode cX8_needTerm 14 = .ok (.new 148, 3) := by decide +kernel
theorem dX8_needTerm_17 : decode cX8_needTerm 17 = .ok (.dup, 1) := by decide +kernel
theorem dX8_needTerm_18 : decode cX8_needTerm 18 = .ok (.ldc_w 333, 3) := by decide +kernel
theorem dX8_needTerm_21 : decode cX8_needTerm 21 = .ok (.invokespecial 152, 3) := by decide +kernel
theorem dX8_needTerm_24 : decode cX8_needTerm 24 = .ok (.athrow, 1) := by decide +kernel
theorem dX8_needTerm_25 : decode cX8_needTerm 25 = .ok (.return_, 1) := by decide +kernel
theorem dX8_needStatement_0 : decode cX8_needStatement 0 = .ok (.iload_n 1, 1) := by decide +kernel
theorem dX8_needStatement_1 : decode cX8_needStatement 1 = .ok (.aload_n 0, 1) := by decide +kernel
theorem dX8_needStatement_2 : decode cX8_needStatement 2 = .ok (.getfield 58, 3) := by decide +kernel
theorem dX8_needStatement_5 : decode cX8_needStatement 5 = .ok (.getfield 308, 3) := by decide +kernel
theorem dX8_needStatement_8 : decode cX8_needStatement 8 = .ok (.invokestatic 188, 3) := by decide +kernel
theorem dX8_needStatement_11 : decode cX8_needStatement 11 = .ok (.ifCond .ne 14, 3) := by decide +kernel
theorem dX8_needStatement_14 : decode cX8_needStatement 14 = .ok (.new 148, 3) := by decide +kernel
theorem dX8_needStatement_17 : decode cX8_needStatement 17 = .ok (.dup, 1) := by decide +kernel
theorem dX8_needStatement_18 : decode cX8_needStatement 18 = .ok (.ldc_w 335, 3) := by decide +kernel
theorem dX8_needStatement_21 : decode cX8_needStatement 21 = .ok (.invokespecial 152, 3) := by decide +kernel
theorem dX8_needStatement_24 : decode cX8_needStatement 24 = .ok (.athrow, 1) := by decide +kernel
theorem dX8_needStatement_25 : decode cX8_needStatement 25 = .ok (.return_, 1) := by decide +kernel
theorem dX8_needWays_0 : decode cX8_needWays 0 = .ok (.iload_n 0, 1) := by decide +kernel
theorem dX8_needWays_1 : decode cX8_needWays 1 = .ok (.invokestatic 337, 3) := by decide +kernel
theorem dX8_needWays_4 : decode cX8_needWays 4 = .ok (.ifCond .eq 10, 3) := by decide +kernel
theorem dX8_needWays_7 : decode cX8_needWays 7 = .ok (.iload_n 1, 1) := by decide +kernel
theorem dX8_needWays_8 : decode cX8_needWays 8 = .ok (.invokestatic 337, 3) := by decide +kernel
theorem dX8_needWays_11 : decode cX8_needWays 11 = .ok (.ifCond .ne 14, 3) := by decide +kernel
theorem dX8_needWays_14 : decode cX8_needWays 14 = .ok (.new 82, 3) := by decide +kernel
theorem dX8_needWays_17 : decode cX8_needWays 17 = .ok (.dup, 1) := by decide +kernel
theorem dX8_needWays_18 : decode cX8_needWays 18 = .ok (.ldc_w 340, 3) := by decide +kernel
theorem dX8_needWays_21 : decode cX8_needWays 21 = .ok (.invokespecial 86, 3) := by decide +kernel
theorem dX8_needWays_24 : decode cX8_needWays 24 = .ok (.athrow, 1) := by decide +kernel
theorem dX8_needWays_25 : decode cX8_needWays 25 = .ok (.return_, 1) := by decide +kernel
theorem dX8_needRoomForStatement_0 : decode cX8_needRoomForStatement 0 = .ok (.aload_n 0, 1) := by decide +kernel
theorem dX8_needRoomForStatement_1 : decode cX8_needRoomForStatement 1 = .ok (.getfield 58, 3) := by decide +kernel
theorem dX8_needRoomForStatement_4 : decode cX8_needRoomForStatement 4 = .ok (.getfield 308, 3) := by decide +kernel
theorem dX8_needRoomForStatement_7 : decode cX8_needRoomForStatement 7 = .ok (.bipush 40, 2) := by decide +kernel
theorem dX8_needRoomForStatement_9 : decode cX8_needRoomForStatement 9 = .ok (.if_icmp .lt 14, 3) := by decide +kernel
theorem dX8_needRoomForStatement_12 : decode cX8_needRoomForStatement 12 = .ok (.new 93, 3) := by decide +kernel
theorem dX8_needRoomForStatement_15 : decode cX8_needRoomForStatement 15 = .ok (.dup, 1) := by decide +kernel
theorem dX8_needRoomForStatement_16 : decode cX8_needRoomForStatement 16 = .ok (.ldc_w 342, 3) := by decide +kernel
theorem dX8_needRoomForStatement_19 : decode cX8_needRoomForStatement 19 = .ok (.invokespecial 97, 3) := by decide +kernel
theorem dX8_needRoomForStatement_22 : decode cX8_needRoomForStatement 22 = .ok (.athrow, 1) := by decide +kernel
theorem dX8_needRoomForStatement_23 : decode cX8_needRoomForStatement 23 = .ok (.return_, 1) := by decide +kernel
theorem dX8_needRun_0 : decode cX8_needRun 0 = .ok (.aload_n 0, 1) := by decide +kernel
theorem dX8_needRun_1 : decode cX8_needRun 1 = .ok (.getfield 67, 3) := by decide +kernel
theorem dX8_needRun_4 : decode cX8_needRun 4 = .ok (.getfield 320, 3) := by decide +kernel
theorem dX8_needRun_7 : decode cX8_needRun 7 = .ok (.ifCond .ne 14, 3) := by decide +kernel
theorem dX8_needRun_10 : decode cX8_needRun 10 = .ok (.new 93, 3) := by decide +kernel
theorem dX8_needRun_13 : decode cX8_needRun 13 = .ok (.dup, 1) := by decide +kernel
theorem dX8_needRun_14 : decode cX8_needRun 14 = .ok (.ldc_w 344, 3) := by decide +kernel
theorem dX8_needRun_17 : decode cX8_needRun 17 = .ok (.invokespecial 97, 3) := by decide +kernel
theorem dX8_needRun_20 : decode cX8_needRun 20 = .ok (.athrow, 1) := by decide +kernel
theorem dX8_needRun_21 : decode cX8_needRun 21 = .ok (.return_, 1) := by decide +kernel
theorem dX8_needMatch_0 : decode cX8_needMatch 0 = .ok (.aload_n 0, 1) := by decide +kernel
theorem dX8_needMatch_1 : decode cX8_needMatch 1 = .ok (.getfield 257, 3) := by decide +kernel
theorem dX8_needMatch_4 : decode cX8_needMatch 4 = .ok (.ifCond .ne 14, 3) := by decide +kernel
theorem dX8_needMatch_7 : decode cX8_needMatch 7 = .ok (.new 93, 3) := by decide +kernel
theorem dX8_needMatch_10 : decode cX8_needMatch 10 = .ok (.dup, 1) := by decide +kernel
theorem dX8_needMatch_11 : decode cX8_needMatch 11 = .ok (.ldc_w 346, 3) := by decide +kernel
theorem dX8_needMatch_14 : decode cX8_needMatch 14 = .ok (.invokespecial 97, 3) := by decide +kernel
theorem dX8_needMatch_17 : decode cX8_needMatch 17 = .ok (.athrow, 1) := by decide +kernel
theorem dX8_needMatch_18 : decode cX8_needMatch 18 = .ok (.return_, 1) := by decide +kernel
theorem dX8_needMatched_0 : decode cX8_needMatched 0 = .ok (.aload_n 0, 1) := by decide +kernel
theorem dX8_needMatched_1 : decode cX8_needMatched 1 = .ok (.getfield 260, 3) := by decide +kernel
theorem dX8_needMatched_4 : decode cX8_needMatched 4 = .ok (.ifCond .ne 14, 3) := by decide +kernel
theorem dX8_needMatched_7 : decode cX8_needMatched 7 = .ok (.new 126, 3) := by decide +kernel
theorem dX8_needMatched_10 : decode cX8_needMatched 10 = .ok (.dup, 1) := by decide +kernel
theorem dX8_needMatched_11 : decode cX8_needMatched 11 = .ok (.ldc_w 348, 3) := by decide +kernel
theorem dX8_needMatched_14 : decode cX8_needMatched 14 = .ok (.invokespecial 130, 3) := by decide +kernel
theorem dX8_needMatched_17 : decode cX8_needMatched 17 = .ok (.athrow, 1) := by decide +kernel
theorem dX8_needMatched_18 : decode cX8_needMatched 18 = .ok (.return_, 1) := by decide +kernel
