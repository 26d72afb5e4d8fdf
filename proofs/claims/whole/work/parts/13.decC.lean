theorem d_Arrays_fill_0 : decode prog_23_method_103_code 0 = .ok (.iconst 0, 1) := by decide +kernel
theorem d_Arrays_fill_1 : decode prog_23_method_103_code 1 = .ok (.istore_n 2, 1) := by decide +kernel
theorem d_Arrays_fill_2 : decode prog_23_method_103_code 2 = .ok (.aload_n 0, 1) := by decide +kernel
theorem d_Arrays_fill_3 : decode prog_23_method_103_code 3 = .ok (.arraylength, 1) := by decide +kernel
theorem d_Arrays_fill_4 : decode prog_23_method_103_code 4 = .ok (.istore_n 3, 1) := by decide +kernel
theorem d_Arrays_fill_5 : decode prog_23_method_103_code 5 = .ok (.iload_n 2, 1) := by decide +kernel
theorem d_Arrays_fill_6 : decode prog_23_method_103_code 6 = .ok (.iload_n 3, 1) := by decide +kernel
theorem d_Arrays_fill_7 : decode prog_23_method_103_code 7 = .ok (.if_icmp .ge 13, 3) := by decide +kernel
theorem d_Arrays_fill_10 : decode prog_23_method_103_code 10 = .ok (.aload_n 0, 1) := by decide +kernel
theorem d_Arrays_fill_11 : decode prog_23_method_103_code 11 = .ok (.iload_n 2, 1) := by decide +kernel
theorem d_Arrays_fill_12 : decode prog_23_method_103_code 12 = .ok (.iload_n 1, 1) := by decide +kernel
theorem d_Arrays_fill_13 : decode prog_23_method_103_code 13 = .ok (.iastore, 1) := by decide +kernel
theorem d_Arrays_fill_14 : decode prog_23_method_103_code 14 = .ok (.iinc 2 1, 3) := by decide +kernel
theorem d_Arrays_fill_17 : decode prog_23_method_103_code 17 = .ok (.goto (-12), 3) := by decide +kernel
theorem d_Arrays_fill_20 : decode prog_23_method_103_code 20 = .ok (.return_, 1) := by decide +kernel
theorem d_Bytes_add_0 : decode prog_2_method_5_code 0 = .ok (.aload_n 0, 1) := by decide +kernel
theorem d_Bytes_add_1 : decode prog_2_method_5_code 1 = .ok (.getfield 15, 3) := by decide +kernel
theorem d_Bytes_add_4 : decode prog_2_method_5_code 4 = .ok (.ifCond .lt 34, 3) := by decide +kernel
theorem d_Bytes_add_7 : decode prog_2_method_5_code 7 = .ok (.aload_n 0, 1) := by decide +kernel
theorem d_Bytes_add_8 : decode prog_2_method_5_code 8 = .ok (.getfield 15, 3) := by decide +kernel
theorem d_Bytes_add_11 : decode prog_2_method_5_code 11 = .ok (.sipush 2400, 3) := by decide +kernel
theorem d_Bytes_add_14 : decode prog_2_method_5_code 14 = .ok (.if_icmp .ge 24, 3) := by decide +kernel
theorem d_Bytes_add_17 : decode prog_2_method_5_code 17 = .ok (.aload_n 0, 1) := by decide +kernel
theorem d_Bytes_add_18 : decode prog_2_method_5_code 18 = .ok (.getfield 9, 3) := by decide +kernel
theorem d_Bytes_add_21 : decode prog_2_method_5_code 21 = .ok (.aload_n 0, 1) := by decide +kernel
theorem d_Bytes_add_22 : decode prog_2_method_5_code 22 = .ok (.getfield 15, 3) := by decide +kernel
theorem d_Bytes_add_25 : decode prog_2_method_5_code 25 = .ok (.iload_n 1, 1) := by decide +kernel
theorem d_Bytes_add_26 : decode prog_2_method_5_code 26 = .ok (.i2b, 1) := by decide +kernel
theorem d_Bytes_add_27 : decode prog_2_method_5_code 27 = .ok (.bastore, 1) := by decide +kernel
theorem d_Bytes_add_28 : decode prog_2_method_5_code 28 = .ok (.aload_n 0, 1) := by decide +kernel
theorem d_Bytes_add_29 : decode prog_2_method_5_code 29 = .ok (.dup, 1) := by decide +kernel
theorem d_Bytes_add_30 : decode prog_2_method_5_code 30 = .ok (.getfield 15, 3) := by decide +kernel
theorem d_Bytes_add_33 : decode prog_2_method_5_code 33 = .ok (.iconst 1, 1) := by decide +kernel
theorem d_Bytes_add_34 : decode prog_2_method_5_code 34 = .ok (.iadd, 1) := by decide +kernel
theorem d_Bytes_add_35 : decode prog_2_method_5_code 35 = .ok (.putfield 15, 3) := by decide +kernel
theorem d_Bytes_add_38 : decode prog_2_method_5_code 38 = .ok (.return_, 1) := by decide +kernel
theorem d_Bytes_get_0 : decode prog_2_method_3_code 0 = .ok (.iload_n 1, 1) := by decide +kernel
theorem d_Bytes_get_1 : decode prog_2_method_3_code 1 = .ok (.ifCond .lt 23, 3) := by decide +kernel
theorem d_Bytes_get_4 : decode prog_2_method_3_code 4 = .ok (.iload_n 1, 1) := by decide +kernel
theorem d_Bytes_get_5 : decode prog_2_method_3_code 5 = .ok (.sipush 2400, 3) := by decide +kernel
theorem d_Bytes_get_8 : decode prog_2_method_3_code 8 = .ok (.if_icmp .ge 16, 3) := by decide +kernel
theorem d_Bytes_get_11 : decode prog_2_method_3_code 11 = .ok (.aload_n 0, 1) := by decide +kernel
theorem d_Bytes_get_12 : decode prog_2_method_3_code 12 = .ok (.getfield 9, 3) := by decide +kernel
theorem d_Bytes_get_15 : decode prog_2_method_3_code 15 = .ok (.iload_n 1, 1) := by decide +kernel
theorem d_Bytes_get_16 : decode prog_2_method_3_code 16 = .ok (.baload, 1) := by decide +kernel
theorem d_Bytes_get_17 : decode prog_2_method_3_code 17 = .ok (.sipush 255, 3) := by decide +kernel
theorem d_Bytes_get_20 : decode prog_2_method_3_code 20 = .ok (.iand, 1) := by decide +kernel
theorem d_Bytes_get_21 : decode prog_2_method_3_code 21 = .ok (.goto 4, 3) := by decide +kernel
theorem d_Bytes_get_24 : decode prog_2_method_3_code 24 = .ok (.iconst 0, 1) := by decide +kernel
theorem d_Bytes_get_25 : decode prog_2_method_3_code 25 = .ok (.ireturn, 1) := by decide +kernel
theorem d_Bytes_has_0 : decode prog_2_method_2_code 0 = .ok (.iload_n 1, 1) := by decide +kernel
theorem d_Bytes_has_1 : decode prog_2_method_2_code 1 = .ok (.ifCond .lt 15, 3) := by decide +kernel
theorem d_Bytes_has_4 : decode prog_2_method_2_code 4 = .ok (.iload_n 1, 1) := by decide +kernel
theorem d_Bytes_has_5 : decode prog_2_method_2_code 5 = .ok (.aload_n 0, 1) := by decide +kernel
theorem d_Bytes_has_6 : decode prog_2_method_2_code 6 = .ok (.getfield 15, 3) := by decide +kernel
theorem d_Bytes_has_9 : decode prog_2_method_2_code 9 = .ok (.if_icmp .ge 7, 3) := by decide +kernel
theorem d_Bytes_has_12 : decode prog_2_method_2_code 12 = .ok (.iconst 1, 1) := by decide +kernel
theorem d_Bytes_has_13 : decode prog_2_method_2_code 13 = .ok (.goto 4, 3) := by decide +kernel
theorem d_Bytes_has_16 : decode prog_2_method_2_code 16 = .ok (.iconst 0, 1) := by decide +kernel
theorem d_Bytes_has_17 : decode prog_2_method_2_code 17 = .ok (.ireturn, 1) := by decide +kernel
theorem d_Bytes_set_0 : decode prog_2_method_4_code 0 = .ok (.iload_n 1, 1) := by decide +kernel
theorem d_Bytes_set_1 : decode prog_2_method_4_code 1 = .ok (.ifCond .lt 18, 3) := by decide +kernel
theorem d_Bytes_set_4 : decode prog_2_method_4_code 4 = .ok (.iload_n 1, 1) := by decide +kernel
theorem d_Bytes_set_5 : decode prog_2_method_4_code 5 = .ok (.sipush 2400, 3) := by decide +kernel
theorem d_Bytes_set_8 : decode prog_2_method_4_code 8 = .ok (.if_icmp .ge 11, 3) := by decide +kernel
theorem d_Bytes_set_11 : decode prog_2_method_4_code 11 = .ok (.aload_n 0, 1) := by decide +kernel
theorem d_Bytes_set_12 : decode prog_2_method_4_code 12 = .ok (.getfield 9, 3) := by decide +kernel
theorem d_Bytes_set_15 : decode prog_2_method_4_code 15 = .ok (.iload_n 1, 1) := by decide +kernel
theorem d_Bytes_set_16 : decode prog_2_method_4_code 16 = .ok (.iload_n 2, 1) := by decide +kernel
theorem d_Bytes_set_17 : decode prog_2_method_4_code 17 = .ok (.i2b, 1) := by decide +kernel
theorem d_Bytes_set_18 : decode prog_2_method_4_code 18 = .ok (.bastore, 1) := by decide +kernel
theorem d_Bytes_set_19 : decode prog_2_method_4_code 19 = .ok (.return_, 1) := by decide +kernel
theorem d_Eye_pick_0 : decode prog_3_method_3_code 0 = .ok (.aload_n 0, 1) := by decide +kernel
theorem d_Eye_pick_1 : decode prog_3_method_3_code 1 = .ok (.getfield 7, 3) := by decide +kernel
theorem d_Eye_pick_4 : decode prog_3_method_3_code 4 = .ok (.aload_n 0, 1) := by decide +kernel
theorem d_Eye_pick_5 : decode prog_3_method_3_code 5 = .ok (.getfield 29, 3) := by decide +kernel
theorem d_Eye_pick_8 : decode prog_3_method_3_code 8 = .ok (.iconst 3, 1) := by decide +kernel
theorem d_Eye_pick_9 : decode prog_3_method_3_code 9 = .ok (.ishr, 1) := by decide +kernel
theorem d_Eye_pick_10 : decode prog_3_method_3_code 10 = .ok (.invokevirtual 32, 3) := by decide +kernel
theorem d_Eye_pick_13 : decode prog_3_method_3_code 13 = .ok (.bipush 7, 2) := by decide +kernel
theorem d_Eye_pick_15 : decode prog_3_method_3_code 15 = .ok (.aload_n 0, 1) := by decide +kernel
theorem d_Eye_pick_16 : decode prog_3_method_3_code 16 = .ok (.getfield 29, 3) := by decide +kernel
theorem d_Eye_pick_19 : decode prog_3_method_3_code 19 = .ok (.bipush 7, 2) := by decide +kernel
theorem d_Eye_pick_21 : decode prog_3_method_3_code 21 = .ok (.iand, 1) := by decide +kernel
theorem d_Eye_pick_22 : decode prog_3_method_3_code 22 = .ok (.isub, 1) := by decide +kernel
theorem d_Eye_pick_23 : decode prog_3_method_3_code 23 = .ok (.ishr, 1) := by decide +kernel
theorem d_Eye_pick_24 : decode prog_3_method_3_code 24 = .ok (.iconst 1, 1) := by decide +kernel
theorem d_Eye_pick_25 : decode prog_3_method_3_code 25 = .ok (.iand, 1) := by decide +kernel
theorem d_Eye_pick_26 : decode prog_3_method_3_code 26 = .ok (.ireturn, 1) := by decide +kernel
theorem d_Eye_start_0 : decode prog_3_method_2_code 0 = .ok (.aload_n 0, 1) := by decide +kernel
theorem d_Eye_start_1 : decode prog_3_method_2_code 1 = .ok (.iload_n 1, 1) := by decide +kernel
theorem d_Eye_start_2 : decode prog_3_method_2_code 2 = .ok (.aload_n 0, 1) := by decide +kernel
theorem d_Eye_start_3 : decode prog_3_method_2_code 3 = .ok (.getfield 7, 3) := by decide +kernel
theorem d_Eye_start_6 : decode prog_3_method_2_code 6 = .ok (.getfield 13, 3) := by decide +kernel
theorem d_Eye_start_9 : decode prog_3_method_2_code 9 = .ok (.bipush 8, 2) := by decide +kernel
theorem d_Eye_start_11 : decode prog_3_method_2_code 11 = .ok (.imul, 1) := by decide +kernel
theorem d_Eye_start_12 : decode prog_3_method_2_code 12 = .ok (.invokestatic 19, 3) := by decide +kernel
theorem d_Eye_start_15 : decode prog_3_method_2_code 15 = .ok (.invokespecial 25, 3) := by decide +kernel
theorem d_Eye_start_18 : decode prog_3_method_2_code 18 = .ok (.return_, 1) := by decide +kernel
theorem d_FW_bitsOf_0 : decode prog_1_method_23_code 0 = .ok (.iconst 0, 1) := by decide +kernel
theorem d_FW_bitsOf_1 : decode prog_1_method_23_code 1 = .ok (.istore_n 1, 1) := by decide +kernel
theorem d_FW_bitsOf_2 : decode prog_1_method_23_code 2 = .ok (.iload_n 1, 1) := by decide +kernel
theorem d_FW_bitsOf_3 : decode prog_1_method_23_code 3 = .ok (.bipush 31, 2) := by decide +kernel
theorem d_FW_bitsOf_5 : decode prog_1_method_23_code 5 = .ok (.if_icmp .ge 15, 3) := by decide +kernel
theorem d_FW_bitsOf_8 : decode prog_1_method_23_code 8 = .ok (.iload_n 0, 1) := by decide +kernel
theorem d_FW_bitsOf_9 : decode prog_1_method_23_code 9 = .ok (.iload_n 1, 1) := by decide +kernel
theorem d_FW_bitsOf_10 : decode prog_1_method_23_code 10 = .ok (.ishr, 1) := by decide +kernel
theorem d_FW_bitsOf_11 : decode prog_1_method_23_code 11 = .ok (.ifCond .le 9, 3) := by decide +kernel
theorem d_FW_bitsOf_14 : decode prog_1_method_23_code 14 = .ok (.iinc 1 1, 3) := by decide +kernel
theorem d_FW_bitsOf_17 : decode prog_1_method_23_code 17 = .ok (.goto (-15), 3) := by decide +kernel
theorem d_FW_bitsOf_20 : decode prog_1_method_23_code 20 = .ok (.iload_n 1, 1) := by decide +kernel
theorem d_FW_bitsOf_21 : decode prog_1_method_23_code 21 = .ok (.ireturn, 1) := by decide +kernel
theorem d_FW_clear_0 : decode prog_1_method_16_code 0 = .ok (.aload_n 0, 1) := by decide +kernel
theorem d_FW_clear_1 : decode prog_1_method_16_code 1 = .ok (.getfield 10, 3) := by decide +kernel
theorem d_FW_clear_4 : decode prog_1_method_16_code 4 = .ok (.invokevirtual 245, 3) := by decide +kernel
theorem d_FW_clear_7 : decode prog_1_method_16_code 7 = .ok (.aload_n 0, 1) := by decide +kernel
theorem d_FW_clear_8 : decode prog_1_method_16_code 8 = .ok (.getfield 34, 3) := by decide +kernel
theorem d_FW_clear_11 : decode prog_1_method_16_code 11 = .ok (.iconst 0, 1) := by decide +kernel
theorem d_FW_clear_12 : decode prog_1_method_16_code 12 = .ok (.invokevirtual 126, 3) := by decide +kernel
theorem d_FW_clear_15 : decode prog_1_method_16_code 15 = .ok (.aload_n 0, 1) := by decide +kernel
theorem d_FW_clear_16 : decode prog_1_method_16_code 16 = .ok (.getfield 57, 3) := by decide +kernel
theorem d_FW_clear_19 : decode prog_1_method_16_code 19 = .ok (.invokevirtual 248, 3) := by decide +kernel
theorem d_FW_clear_22 : decode prog_1_method_16_code 22 = .ok (.aload_n 0, 1) := by decide +kernel
theorem d_FW_clear_23 : decode prog_1_method_16_code 23 = .ok (.getfield 26, 3) := by decide +kernel
theorem d_FW_clear_26 : decode prog_1_method_16_code 26 = .ok (.iconst 0, 1) := by decide +kernel
theorem d_FW_clear_27 : decode prog_1_method_16_code 27 = .ok (.putfield 170, 3) := by decide +kernel
theorem d_FW_clear_30 : decode prog_1_method_16_code 30 = .ok (.aload_n 0, 1) := by decide +kernel
theorem d_FW_clear_31 : decode prog_1_method_16_code 31 = .ok (.iconst 0, 1) := by decide +kernel
theorem d_FW_clear_32 : decode prog_1_method_16_code 32 = .ok (.putfield 191, 3) := by decide +kernel
theorem d_FW_clear_35 : decode prog_1_method_16_code 35 = .ok (.return_, 1) := by decide +kernel
theorem d_FW_columnOf_0 : decode prog_1_method_21_code 0 = .ok (.iload_n 0, 1) := by decide +kernel
theorem d_FW_columnOf_1 : decode prog_1_method_21_code 1 = .ok (.bipush 15, 2) := by decide +kernel
theorem d_FW_columnOf_3 : decode prog_1_method_21_code 3 = .ok (.iand, 1) := by decide +kernel
theorem d_FW_columnOf_4 : decode prog_1_method_21_code 4 = .ok (.ireturn, 1) := by decide +kernel
theorem d_FW_headBits_0 : decode prog_1_method_17_code 0 = .ok (.aload_n 0, 1) := by decide +kernel
theorem d_FW_headBits_1 : decode prog_1_method_17_code 1 = .ok (.getfield 48, 3) := by decide +kernel
theorem d_FW_headBits_4 : decode prog_1_method_17_code 4 = .ok (.ldc 123, 2) := by decide +kernel
theorem d_FW_headBits_6 : decode prog_1_method_17_code 6 = .ok (.invokevirtual 160, 3) := by decide +kernel
theorem d_FW_headBits_9 : decode prog_1_method_17_code 9 = .ok (.aload_n 0, 1) := by decide +kernel
theorem d_FW_headBits_10 : decode prog_1_method_17_code 10 = .ok (.getfield 48, 3) := by decide +kernel
theorem d_FW_headBits_13 : decode prog_1_method_17_code 13 = .ok (.aload_n 0, 1) := by decide +kernel
theorem d_FW_headBits_14 : decode prog_1_method_17_code 14 = .ok (.getfield 10, 3) := by decide +kernel
theorem d_FW_headBits_17 : decode prog_1_method_17_code 17 = .ok (.invokestatic 130, 3) := by decide +kernel
theorem d_FW_headBits_20 : decode prog_1_method_17_code 20 = .ok (.aload_n 0, 1) := by decide +kernel
theorem d_FW_headBits_21 : decode prog_1_method_17_code 21 = .ok (.getfield 48, 3) := by decide +kernel
theorem d_FW_headBits_24 : decode prog_1_method_17_code 24 = .ok (.getfield 251, 3) := by decide +kernel
theorem d_FW_headBits_27 : decode prog_1_method_17_code 27 = .ok (.ireturn, 1) := by decide +kernel
theorem d_FW_nearestSide_0 : decode prog_1_method_19_code 0 = .ok (.iconst 1, 1) := by decide +kernel
theorem d_FW_nearestSide_1 : decode prog_1_method_19_code 1 = .ok (.bipush 16, 2) := by decide +kernel
theorem d_FW_nearestSide_3 : decode prog_1_method_19_code 3 = .ok (.iload_n 0, 1) := by decide +kernel
theorem d_FW_nearestSide_4 : decode prog_1_method_19_code 4 = .ok (.invokestatic 183, 3) := by decide +kernel
theorem d_FW_nearestSide_7 : decode prog_1_method_19_code 7 = .ok (.invokestatic 252, 3) := by decide +kernel
theorem d_FW_nearestSide_10 : decode prog_1_method_19_code 10 = .ok (.ireturn, 1) := by decide +kernel
theorem d_FW_rowOf_0 : decode prog_1_method_22_code 0 = .ok (.iload_n 0, 1) := by decide +kernel
theorem d_FW_rowOf_1 : decode prog_1_method_22_code 1 = .ok (.iconst 4, 1) := by decide +kernel
theorem d_FW_rowOf_2 : decode prog_1_method_22_code 2 = .ok (.ishr, 1) := by decide +kernel
theorem d_FW_rowOf_3 : decode prog_1_method_22_code 3 = .ok (.ireturn, 1) := by decide +kernel
theorem d_FW_sampleOf_0 : decode prog_1_method_20_code 0 = .ok (.iload_n 1, 1) := by decide +kernel
theorem d_FW_sampleOf_1 : decode prog_1_method_20_code 1 = .ok (.bipush 16, 2) := by decide +kernel
theorem d_FW_sampleOf_3 : decode prog_1_method_20_code 3 = .ok (.imul, 1) := by decide +kernel
theorem d_FW_sampleOf_4 : decode prog_1_method_20_code 4 = .ok (.iload_n 0, 1) := by decide +kernel
theorem d_FW_sampleOf_5 : decode prog_1_method_20_code 5 = .ok (.iadd, 1) := by decide +kernel
theorem d_FW_sampleOf_6 : decode prog_1_method_20_code 6 = .ok (.ireturn, 1) := by decide +kernel
theorem d_FW_told_0 : decode prog_1_method_15_code 0 = .ok (.aload_n 0, 1) := by decide +kernel
theorem d_FW_told_1 : decode prog_1_method_15_code 1 = .ok (.getfield 10, 3) := by decide +kernel
theorem d_FW_told_4 : decode prog_1_method_15_code 4 = .ok (.invokevirtual 116, 3) := by decide +kernel
theorem d_FW_told_7 : decode prog_1_method_15_code 7 = .ok (.iload_n 1, 1) := by decide +kernel
theorem d_FW_told_8 : decode prog_1_method_15_code 8 = .ok (.tableswitch 121 0 7 #[48, 59, 70, 81, 92, 100, 105, 113], 48) := by decide +kernel
theorem d_FW_told_56 : decode prog_1_method_15_code 56 = .ok (.aload_n 0, 1) := by decide +kernel
theorem d_FW_told_57 : decode prog_1_method_15_code 57 = .ok (.getfield 10, 3) := by decide +kernel
theorem d_FW_told_60 : decode prog_1_method_15_code 60 = .ok (.getfield 67, 3) := by decide +kernel
theorem d_FW_told_63 : decode prog_1_method_15_code 63 = .ok (.getfield 228, 3) := by decide +kernel
theorem d_FW_told_66 : decode prog_1_method_15_code 66 = .ok (.ireturn, 1) := by decide +kernel
theorem d_FW_told_67 : decode prog_1_method_15_code 67 = .ok (.aload_n 0, 1) := by decide +kernel
theorem d_FW_told_68 : decode prog_1_method_15_code 68 = .ok (.getfield 10, 3) := by decide +kernel
theorem d_FW_told_71 : decode prog_1_method_15_code 71 = .ok (.getfield 67, 3) := by decide +kernel
theorem d_FW_told_74 : decode prog_1_method_15_code 74 = .ok (.getfield 231, 3) := by decide +kernel
theorem d_FW_told_77 : decode prog_1_method_15_code 77 = .ok (.ireturn, 1) := by decide +kernel
theorem d_FW_told_78 : decode prog_1_method_15_code 78 = .ok (.aload_n 0, 1) := by decide +kernel
theorem d_FW_told_79 : decode prog_1_method_15_code 79 = .ok (.getfield 10, 3) := by decide +kernel
theorem d_FW_told_82 : decode prog_1_method_15_code 82 = .ok (.getfield 67, 3) := by decide +kernel
theorem d_FW_told_85 : decode prog_1_method_15_code 85 = .ok (.getfield 234, 3) := by decide +kernel
theorem d_FW_told_88 : decode prog_1_method_15_code 88 = .ok (.ireturn, 1) := by decide +kernel
theorem d_FW_told_89 : decode prog_1_method_15_code 89 = .ok (.aload_n 0, 1) := by decide +kernel
theorem d_FW_told_90 : decode prog_1_method_15_code 90 = .ok (.getfield 10, 3) := by decide +kernel
theorem d_FW_told_93 : decode prog_1_method_15_code 93 = .ok (.getfield 67, 3) := by decide +kernel
theorem d_FW_told_96 : decode prog_1_method_15_code 96 = .ok (.getfield 155, 3) := by decide +kernel
theorem d_FW_told_99 : decode prog_1_method_15_code 99 = .ok (.ireturn, 1) := by decide +kernel
theorem d_FW_told_100 : decode prog_1_method_15_code 100 = .ok (.aload_n 0, 1) := by decide +kernel
theorem d_FW_told_101 : decode prog_1_method_15_code 101 = .ok (.getfield 10, 3) := by decide +kernel
theorem d_FW_told_104 : decode prog_1_method_15_code 104 = .ok (.getfield 235, 3) := by decide +kernel
theorem d_FW_told_107 : decode prog_1_method_15_code 107 = .ok (.ireturn, 1) := by decide +kernel
theorem d_FW_told_108 : decode prog_1_method_15_code 108 = .ok (.aload_n 0, 1) := by decide +kernel
theorem d_FW_told_109 : decode prog_1_method_15_code 109 = .ok (.invokevirtual 238, 3) := by decide +kernel
theorem d_FW_told_112 : decode prog_1_method_15_code 112 = .ok (.ireturn, 1) := by decide +kernel
theorem d_FW_told_113 : decode prog_1_method_15_code 113 = .ok (.aload_n 0, 1) := by decide +kernel
theorem d_FW_told_114 : decode prog_1_method_15_code 114 = .ok (.getfield 34, 3) := by decide +kernel
theorem d_FW_told_117 : decode prog_1_method_15_code 117 = .ok (.getfield 138, 3) := by decide +kernel
theorem d_FW_told_120 : decode prog_1_method_15_code 120 = .ok (.ireturn, 1) := by decide +kernel
theorem d_FW_told_121 : decode prog_1_method_15_code 121 = .ok (.aload_n 0, 1) := by decide +kernel
theorem d_FW_told_122 : decode prog_1_method_15_code 122 = .ok (.getfield 26, 3) := by decide +kernel
theorem d_FW_told_125 : decode prog_1_method_15_code 125 = .ok (.getfield 170, 3) := by decide +kernel
theorem d_FW_told_128 : decode prog_1_method_15_code 128 = .ok (.ireturn, 1) := by decide +kernel
theorem d_FW_told_129 : decode prog_1_method_15_code 129 = .ok (.aload_n 0, 1) := by decide +kernel
theorem d_FW_told_130 : decode prog_1_method_15_code 130 = .ok (.iload_n 1, 1) := by decide +kernel
theorem d_FW_told_131 : decode prog_1_method_15_code 131 = .ok (.invokevirtual 242, 3) := by decide +kernel
theorem d_FW_told_134 : decode prog_1_method_15_code 134 = .ok (.ireturn, 1) := by decide +kernel
theorem d_FW_toldOfSeen_0 : decode prog_1_method_18_code 0 = .ok (.iload_n 1, 1) := by decide +kernel
theorem d_FW_toldOfSeen_1 : decode prog_1_method_18_code 1 = .ok (.tableswitch 142 8 12 #[35, 57, 79, 101, 123], 35) := by decide +kernel
theorem d_FW_toldOfSeen_36 : decode prog_1_method_18_code 36 = .ok (.aload_n 0, 1) := by decide +kernel
theorem d_FW_toldOfSeen_37 : decode prog_1_method_18_code 37 = .ok (.getfield 191, 3) := by decide +kernel
theorem d_FW_toldOfSeen_40 : decode prog_1_method_18_code 40 = .ok (.ifCond .eq 16, 3) := by decide +kernel
theorem d_FW_toldOfSeen_43 : decode prog_1_method_18_code 43 = .ok (.aload_n 0, 1) := by decide +kernel
theorem d_FW_toldOfSeen_44 : decode prog_1_method_18_code 44 = .ok (.getfield 16, 3) := by decide +kernel
theorem d_FW_toldOfSeen_47 : decode prog_1_method_18_code 47 = .ok (.getfield 67, 3) := by decide +kernel
theorem d_FW_toldOfSeen_50 : decode prog_1_method_18_code 50 = .ok (.getfield 228, 3) := by decide +kernel
theorem d_FW_toldOfSeen_53 : decode prog_1_method_18_code 53 = .ok (.goto 4, 3) := by decide +kernel
theorem d_FW_toldOfSeen_56 : decode prog_1_method_18_code 56 = .ok (.iconst 0, 1) := by decide +kernel
theorem d_FW_toldOfSeen_57 : decode prog_1_method_18_code 57 = .ok (.ireturn, 1) := by decide +kernel
theorem d_FW_toldOfSeen_58 : decode prog_1_method_18_code 58 = .ok (.aload_n 0, 1) := by decide +kernel
theorem d_FW_toldOfSeen_59 : decode prog_1_method_18_code 59 = .ok (.getfield 191, 3) := by decide +kernel
theorem d_FW_toldOfSeen_62 : decode prog_1_method_18_code 62 = .ok (.ifCond .eq 16, 3) := by decide +kernel
theorem d_FW_toldOfSeen_65 : decode prog_1_method_18_code 65 = .ok (.aload_n 0, 1) := by decide +kernel
theorem d_FW_toldOfSeen_66 : decode prog_1_method_18_code 66 = .ok (.getfield 16, 3) := by decide +kernel
theorem d_FW_toldOfSeen_69 : decode prog_1_method_18_code 69 = .ok (.getfield 67, 3) := by decide +kernel
theorem d_FW_toldOfSeen_72 : decode prog_1_method_18_code 72 = .ok (.getfield 231, 3) := by decide +kernel
theorem d_FW_toldOfSeen_75 : decode prog_1_method_18_code 75 = .ok (.goto 4, 3) := by decide +kernel
theorem d_FW_toldOfSeen_78 : decode prog_1_method_18_code 78 = .ok (.iconst 0, 1) := by decide +kernel
theorem d_FW_toldOfSeen_79 : decode prog_1_method_18_code 79 = .ok (.ireturn, 1) := by decide +kernel
theorem d_FW_toldOfSeen_80 : decode prog_1_method_18_code 80 = .ok (.aload_n 0, 1) := by decide +kernel
theorem d_FW_toldOfSeen_81 : decode prog_1_method_18_code 81 = .ok (.getfield 191, 3) := by decide +kernel
theorem d_FW_toldOfSeen_84 : decode prog_1_method_18_code 84 = .ok (.ifCond .eq 16, 3) := by decide +kernel
theorem d_FW_toldOfSeen_87 : decode prog_1_method_18_code 87 = .ok (.aload_n 0, 1) := by decide +kernel
theorem d_FW_toldOfSeen_88 : decode prog_1_method_18_code 88 = .ok (.getfield 16, 3) := by decide +kernel
theorem d_FW_toldOfSeen_91 : decode prog_1_method_18_code 91 = .ok (.getfield 67, 3) := by decide +kernel
theorem d_FW_toldOfSeen_94 : decode prog_1_method_18_code 94 = .ok (.getfield 234, 3) := by decide +kernel
theorem d_FW_toldOfSeen_97 : decode prog_1_method_18_code 97 = .ok (.goto 4, 3) := by decide +kernel
theorem d_FW_toldOfSeen_100 : decode prog_1_method_18_code 100 = .ok (.iconst 0, 1) := by decide +kernel
theorem d_FW_toldOfSeen_101 : decode prog_1_method_18_code 101 = .ok (.ireturn, 1) := by decide +kernel
theorem d_FW_toldOfSeen_102 : decode prog_1_method_18_code 102 = .ok (.aload_n 0, 1) := by decide +kernel
theorem d_FW_toldOfSeen_103 : decode prog_1_method_18_code 103 = .ok (.getfield 191, 3) := by decide +kernel
theorem d_FW_toldOfSeen_106 : decode prog_1_method_18_code 106 = .ok (.ifCond .eq 16, 3) := by decide +kernel
theorem d_FW_toldOfSeen_109 : decode prog_1_method_18_code 109 = .ok (.aload_n 0, 1) := by decide +kernel
theorem d_FW_toldOfSeen_110 : decode prog_1_method_18_code 110 = .ok (.getfield 16, 3) := by decide +kernel
theorem d_FW_toldOfSeen_113 : decode prog_1_method_18_code 113 = .ok (.getfield 67, 3) := by decide +kernel
theorem d_FW_toldOfSeen_116 : decode prog_1_method_18_code 116 = .ok (.getfield 155, 3) := by decide +kernel
theorem d_FW_toldOfSeen_119 : decode prog_1_method_18_code 119 = .ok (.goto 4, 3) := by decide +kernel
theorem d_FW_toldOfSeen_122 : decode prog_1_method_18_code 122 = .ok (.iconst 0, 1) := by decide +kernel
theorem d_FW_toldOfSeen_123 : decode prog_1_method_18_code 123 = .ok (.ireturn, 1) := by decide +kernel
theorem d_FW_toldOfSeen_124 : decode prog_1_method_18_code 124 = .ok (.aload_n 0, 1) := by decide +kernel
theorem d_FW_toldOfSeen_125 : decode prog_1_method_18_code 125 = .ok (.getfield 191, 3) := by decide +kernel
theorem d_FW_toldOfSeen_128 : decode prog_1_method_18_code 128 = .ok (.ifCond .eq 13, 3) := by decide +kernel
theorem d_FW_toldOfSeen_131 : decode prog_1_method_18_code 131 = .ok (.aload_n 0, 1) := by decide +kernel
theorem d_FW_toldOfSeen_132 : decode prog_1_method_18_code 132 = .ok (.getfield 16, 3) := by decide +kernel
theorem d_FW_toldOfSeen_135 : decode prog_1_method_18_code 135 = .ok (.getfield 235, 3) := by decide +kernel
theorem d_FW_toldOfSeen_138 : decode prog_1_method_18_code 138 = .ok (.goto 4, 3) := by decide +kernel
theorem d_FW_toldOfSeen_141 : decode prog_1_method_18_code 141 = .ok (.iconst 0, 1) := by decide +kernel
theorem d_FW_toldOfSeen_142 : decode prog_1_method_18_code 142 = .ok (.ireturn, 1) := by decide +kernel
theorem d_FW_toldOfSeen_143 : decode prog_1_method_18_code 143 = .ok (.iconst (-1), 1) := by decide +kernel
theorem d_FW_toldOfSeen_144 : decode prog_1_method_18_code 144 = .ok (.ireturn, 1) := by decide +kernel
theorem d_Head_read_0 : decode prog_4_method_3_code 0 = .ok (.aload_n 0, 1) := by decide +kernel
theorem d_Head_read_1 : decode prog_4_method_3_code 1 = .ok (.iconst 4, 1) := by decide +kernel
theorem d_Head_read_2 : decode prog_4_method_3_code 2 = .ok (.invokevirtual 47, 3) := by decide +kernel
theorem d_Head_read_5 : decode prog_4_method_3_code 5 = .ok (.iconst 1, 1) := by decide +kernel
theorem d_Head_read_6 : decode prog_4_method_3_code 6 = .ok (.iadd, 1) := by decide +kernel
theorem d_Head_read_7 : decode prog_4_method_3_code 7 = .ok (.istore_n 2, 1) := by decide +kernel
theorem d_Head_read_8 : decode prog_4_method_3_code 8 = .ok (.aload_n 0, 1) := by decide +kernel
theorem d_Head_read_9 : decode prog_4_method_3_code 9 = .ok (.iconst 4, 1) := by decide +kernel
theorem d_Head_read_10 : decode prog_4_method_3_code 10 = .ok (.invokevirtual 47, 3) := by decide +kernel
theorem d_Head_read_13 : decode prog_4_method_3_code 13 = .ok (.iconst 1, 1) := by decide +kernel
theorem d_Head_read_14 : decode prog_4_method_3_code 14 = .ok (.iadd, 1) := by decide +kernel
theorem d_Head_read_15 : decode prog_4_method_3_code 15 = .ok (.istore_n 3, 1) := by decide +kernel
theorem d_Head_read_16 : decode prog_4_method_3_code 16 = .ok (.aload_n 0, 1) := by decide +kernel
theorem d_Head_read_17 : decode prog_4_method_3_code 17 = .ok (.iconst 5, 1) := by decide +kernel
theorem d_Head_read_18 : decode prog_4_method_3_code 18 = .ok (.invokevirtual 47, 3) := by decide +kernel
theorem d_Head_read_21 : decode prog_4_method_3_code 21 = .ok (.istore 4, 2) := by decide +kernel
theorem d_Head_read_23 : decode prog_4_method_3_code 23 = .ok (.iload 4, 2) := by decide +kernel
theorem d_Head_read_25 : decode prog_4_method_3_code 25 = .ok (.iconst (-1), 1) := by decide +kernel
theorem d_Head_read_26 : decode prog_4_method_3_code 26 = .ok (.if_icmp .eq 10, 3) := by decide +kernel
theorem d_Head_read_29 : decode prog_4_method_3_code 29 = .ok (.iload 4, 2) := by decide +kernel
theorem d_Head_read_31 : decode prog_4_method_3_code 31 = .ok (.bipush 20, 2) := by decide +kernel
theorem d_Head_read_33 : decode prog_4_method_3_code 33 = .ok (.if_icmp .le 5, 3) := by decide +kernel
theorem d_Head_read_36 : decode prog_4_method_3_code 36 = .ok (.iconst 0, 1) := by decide +kernel
theorem d_Head_read_37 : decode prog_4_method_3_code 37 = .ok (.ireturn, 1) := by decide +kernel
theorem d_Head_read_38 : decode prog_4_method_3_code 38 = .ok (.aload_n 1, 1) := by decide +kernel
theorem d_Head_read_39 : decode prog_4_method_3_code 39 = .ok (.iload_n 2, 1) := by decide +kernel
theorem d_Head_read_40 : decode prog_4_method_3_code 40 = .ok (.iload_n 3, 1) := by decide +kernel
theorem d_Head_read_41 : decode prog_4_method_3_code 41 = .ok (.iload 4, 2) := by decide +kernel
theorem d_Head_read_43 : decode prog_4_method_3_code 43 = .ok (.invokevirtual 51, 3) := by decide +kernel
theorem d_Head_read_46 : decode prog_4_method_3_code 46 = .ok (.aload_n 0, 1) := by decide +kernel
theorem d_Head_read_47 : decode prog_4_method_3_code 47 = .ok (.aload_n 1, 1) := by decide +kernel
theorem d_Head_read_48 : decode prog_4_method_3_code 48 = .ok (.getfield 9, 3) := by decide +kernel
theorem d_Head_read_51 : decode prog_4_method_3_code 51 = .ok (.invokestatic 55, 3) := by decide +kernel
theorem d_Head_read_54 : decode prog_4_method_3_code 54 = .ok (.ireturn, 1) := by decide +kernel
theorem d_Head_readRun_0 : decode prog_4_method_6_code 0 = .ok (.iconst 0, 1) := by decide +kernel
theorem d_Head_readRun_1 : decode prog_4_method_6_code 1 = .ok (.istore_n 1, 1) := by decide +kernel
theorem d_Head_readRun_2 : decode prog_4_method_6_code 2 = .ok (.aload_n 0, 1) := by decide +kernel
theorem d_Head_readRun_3 : decode prog_4_method_6_code 3 = .ok (.iconst 0, 1) := by decide +kernel
theorem d_Head_readRun_4 : decode prog_4_method_6_code 4 = .ok (.invokevirtual 66, 3) := by decide +kernel
theorem d_Head_readRun_7 : decode prog_4_method_6_code 7 = .ok (.istore_n 2, 1) := by decide +kernel
theorem d_Head_readRun_8 : decode prog_4_method_6_code 8 = .ok (.iload_n 2, 1) := by decide +kernel
theorem d_Head_readRun_9 : decode prog_4_method_6_code 9 = .ok (.ifCond .ne 21, 3) := by decide +kernel
theorem d_Head_readRun_12 : decode prog_4_method_6_code 12 = .ok (.iload_n 1, 1) := by decide +kernel
theorem d_Head_readRun_13 : decode prog_4_method_6_code 13 = .ok (.bipush 16, 2) := by decide +kernel
theorem d_Head_readRun_15 : decode prog_4_method_6_code 15 = .ok (.if_icmp .ge 15, 3) := by decide +kernel
theorem d_Head_readRun_18 : decode prog_4_method_6_code 18 = .ok (.iinc 1 1, 3) := by decide +kernel
theorem d_Head_readRun_21 : decode prog_4_method_6_code 21 = .ok (.aload_n 0, 1) := by decide +kernel
theorem d_Head_readRun_22 : decode prog_4_method_6_code 22 = .ok (.iconst 0, 1) := by decide +kernel
theorem d_Head_readRun_23 : decode prog_4_method_6_code 23 = .ok (.invokevirtual 66, 3) := by decide +kernel
theorem d_Head_readRun_26 : decode prog_4_method_6_code 26 = .ok (.istore_n 2, 1) := by decide +kernel
theorem d_Head_readRun_27 : decode prog_4_method_6_code 27 = .ok (.goto (-19), 3) := by decide +kernel
theorem d_Head_readRun_30 : decode prog_4_method_6_code 30 = .ok (.iload_n 2, 1) := by decide +kernel
theorem d_Head_readRun_31 : decode prog_4_method_6_code 31 = .ok (.iconst 1, 1) := by decide +kernel
theorem d_Head_readRun_32 : decode prog_4_method_6_code 32 = .ok (.if_icmp .eq 5, 3) := by decide +kernel
theorem d_Head_readRun_35 : decode prog_4_method_6_code 35 = .ok (.iconst (-1), 1) := by decide +kernel
theorem d_Head_readRun_36 : decode prog_4_method_6_code 36 = .ok (.ireturn, 1) := by decide +kernel
theorem d_Head_readRun_37 : decode prog_4_method_6_code 37 = .ok (.aload_n 0, 1) := by decide +kernel
theorem d_Head_readRun_38 : decode prog_4_method_6_code 38 = .ok (.iload_n 1, 1) := by decide +kernel
theorem d_Head_readRun_39 : decode prog_4_method_6_code 39 = .ok (.invokevirtual 47, 3) := by decide +kernel
theorem d_Head_readRun_42 : decode prog_4_method_6_code 42 = .ok (.istore_n 3, 1) := by decide +kernel
theorem d_Head_readRun_43 : decode prog_4_method_6_code 43 = .ok (.iload_n 3, 1) := by decide +kernel
theorem d_Head_readRun_44 : decode prog_4_method_6_code 44 = .ok (.iconst (-1), 1) := by decide +kernel
theorem d_Head_readRun_45 : decode prog_4_method_6_code 45 = .ok (.if_icmp .ne 7, 3) := by decide +kernel
theorem d_Head_readRun_48 : decode prog_4_method_6_code 48 = .ok (.iconst (-1), 1) := by decide +kernel
theorem d_Head_readRun_49 : decode prog_4_method_6_code 49 = .ok (.goto 10, 3) := by decide +kernel
theorem d_Head_readRun_52 : decode prog_4_method_6_code 52 = .ok (.iconst 1, 1) := by decide +kernel
theorem d_Head_readRun_53 : decode prog_4_method_6_code 53 = .ok (.iload_n 1, 1) := by decide +kernel
theorem d_Head_readRun_54 : decode prog_4_method_6_code 54 = .ok (.ishl, 1) := by decide +kernel
theorem d_Head_readRun_55 : decode prog_4_method_6_code 55 = .ok (.iload_n 3, 1) := by decide +kernel
theorem d_Head_readRun_56 : decode prog_4_method_6_code 56 = .ok (.iadd, 1) := by decide +kernel
theorem d_Head_readRun_57 : decode prog_4_method_6_code 57 = .ok (.iconst 1, 1) := by decide +kernel
theorem d_Head_readRun_58 : decode prog_4_method_6_code 58 = .ok (.isub, 1) := by decide +kernel
theorem d_Head_readRun_59 : decode prog_4_method_6_code 59 = .ok (.ireturn, 1) := by decide +kernel
theorem d_Head_readRuns_0 : decode prog_4_method_5_code 0 = .ok (.iconst 0, 1) := by decide +kernel
theorem d_Head_readRuns_1 : decode prog_4_method_5_code 1 = .ok (.istore_n 2, 1) := by decide +kernel
theorem d_Head_readRuns_2 : decode prog_4_method_5_code 2 = .ok (.aload_n 0, 1) := by decide +kernel
theorem d_Head_readRuns_3 : decode prog_4_method_5_code 3 = .ok (.invokestatic 62, 3) := by decide +kernel
theorem d_Head_readRuns_6 : decode prog_4_method_5_code 6 = .ok (.istore_n 3, 1) := by decide +kernel
theorem d_Head_readRuns_7 : decode prog_4_method_5_code 7 = .ok (.iload_n 3, 1) := by decide +kernel
theorem d_Head_readRuns_8 : decode prog_4_method_5_code 8 = .ok (.iconst (-1), 1) := by decide +kernel
theorem d_Head_readRuns_9 : decode prog_4_method_5_code 9 = .ok (.if_icmp .ne 5, 3) := by decide +kernel
theorem d_Head_readRuns_12 : decode prog_4_method_5_code 12 = .ok (.iconst 0, 1) := by decide +kernel
theorem d_Head_readRuns_13 : decode prog_4_method_5_code 13 = .ok (.ireturn, 1) := by decide +kernel
theorem d_Head_readRuns_14 : decode prog_4_method_5_code 14 = .ok (.iconst 0, 1) := by decide +kernel
theorem d_Head_readRuns_15 : decode prog_4_method_5_code 15 = .ok (.istore 4, 2) := by decide +kernel
theorem d_Head_readRuns_17 : decode prog_4_method_5_code 17 = .ok (.iload 4, 2) := by decide +kernel
theorem d_Head_readRuns_19 : decode prog_4_method_5_code 19 = .ok (.aload_n 1, 1) := by decide +kernel
theorem d_Head_readRuns_20 : decode prog_4_method_5_code 20 = .ok (.getfield 27, 3) := by decide +kernel
theorem d_Head_readRuns_23 : decode prog_4_method_5_code 23 = .ok (.if_icmp .ge 69, 3) := by decide +kernel
theorem d_Head_readRuns_26 : decode prog_4_method_5_code 26 = .ok (.iconst 0, 1) := by decide +kernel
theorem d_Head_readRuns_27 : decode prog_4_method_5_code 27 = .ok (.istore 5, 2) := by decide +kernel
theorem d_Head_readRuns_29 : decode prog_4_method_5_code 29 = .ok (.iload 5, 2) := by decide +kernel
theorem d_Head_readRuns_31 : decode prog_4_method_5_code 31 = .ok (.aload_n 1, 1) := by decide +kernel
theorem d_Head_readRuns_32 : decode prog_4_method_5_code 32 = .ok (.getfield 15, 3) := by decide +kernel
theorem d_Head_readRuns_35 : decode prog_4_method_5_code 35 = .ok (.if_icmp .ge 51, 3) := by decide +kernel
theorem d_Head_readRuns_38 : decode prog_4_method_5_code 38 = .ok (.iload_n 3, 1) := by decide +kernel
theorem d_Head_readRuns_39 : decode prog_4_method_5_code 39 = .ok (.ifCond .ne 18, 3) := by decide +kernel
theorem d_Head_readRuns_42 : decode prog_4_method_5_code 42 = .ok (.aload_n 0, 1) := by decide +kernel
theorem d_Head_readRuns_43 : decode prog_4_method_5_code 43 = .ok (.invokestatic 62, 3) := by decide +kernel
theorem d_Head_readRuns_46 : decode prog_4_method_5_code 46 = .ok (.istore_n 3, 1) := by decide +kernel
theorem d_Head_readRuns_47 : decode prog_4_method_5_code 47 = .ok (.iload_n 2, 1) := by decide +kernel
theorem d_Head_readRuns_48 : decode prog_4_method_5_code 48 = .ok (.ifCond .ne 7, 3) := by decide +kernel
theorem d_Head_readRuns_51 : decode prog_4_method_5_code 51 = .ok (.iconst 1, 1) := by decide +kernel
theorem d_Head_readRuns_52 : decode prog_4_method_5_code 52 = .ok (.goto 4, 3) := by decide +kernel
theorem d_Head_readRuns_55 : decode prog_4_method_5_code 55 = .ok (.iconst 0, 1) := by decide +kernel
theorem d_Head_readRuns_56 : decode prog_4_method_5_code 56 = .ok (.istore_n 2, 1) := by decide +kernel
theorem d_Head_readRuns_57 : decode prog_4_method_5_code 57 = .ok (.iload_n 3, 1) := by decide +kernel
theorem d_Head_readRuns_58 : decode prog_4_method_5_code 58 = .ok (.iconst 1, 1) := by decide +kernel
theorem d_Head_readRuns_59 : decode prog_4_method_5_code 59 = .ok (.if_icmp .ge 5, 3) := by decide +kernel
theorem d_Head_readRuns_62 : decode prog_4_method_5_code 62 = .ok (.iconst 0, 1) := by decide +kernel
theorem d_Head_readRuns_63 : decode prog_4_method_5_code 63 = .ok (.ireturn, 1) := by decide +kernel
theorem d_Head_readRuns_64 : decode prog_4_method_5_code 64 = .ok (.aload_n 1, 1) := by decide +kernel
theorem d_Head_readRuns_65 : decode prog_4_method_5_code 65 = .ok (.getfield 33, 3) := by decide +kernel
theorem d_Head_readRuns_68 : decode prog_4_method_5_code 68 = .ok (.iload 5, 2) := by decide +kernel
theorem d_Head_readRuns_70 : decode prog_4_method_5_code 70 = .ok (.iload 4, 2) := by decide +kernel
theorem d_Head_readRuns_72 : decode prog_4_method_5_code 72 = .ok (.invokestatic 37, 3) := by decide +kernel
theorem d_Head_readRuns_75 : decode prog_4_method_5_code 75 = .ok (.iload_n 2, 1) := by decide +kernel
theorem d_Head_readRuns_76 : decode prog_4_method_5_code 76 = .ok (.bastore, 1) := by decide +kernel
theorem d_Head_readRuns_77 : decode prog_4_method_5_code 77 = .ok (.iinc 3 (-1), 3) := by decide +kernel
theorem d_Head_readRuns_80 : decode prog_4_method_5_code 80 = .ok (.iinc 5 1, 3) := by decide +kernel
theorem d_Head_readRuns_83 : decode prog_4_method_5_code 83 = .ok (.goto (-54), 3) := by decide +kernel
theorem d_Head_readRuns_86 : decode prog_4_method_5_code 86 = .ok (.iinc 4 1, 3) := by decide +kernel
theorem d_Head_readRuns_89 : decode prog_4_method_5_code 89 = .ok (.goto (-72), 3) := by decide +kernel
theorem d_Head_readRuns_92 : decode prog_4_method_5_code 92 = .ok (.iload_n 3, 1) := by decide +kernel
theorem d_Head_readRuns_93 : decode prog_4_method_5_code 93 = .ok (.ifCond .ne 7, 3) := by decide +kernel
theorem d_Head_readRuns_96 : decode prog_4_method_5_code 96 = .ok (.iconst 1, 1) := by decide +kernel
theorem d_Head_readRuns_97 : decode prog_4_method_5_code 97 = .ok (.goto 4, 3) := by decide +kernel
theorem d_Head_readRuns_100 : decode prog_4_method_5_code 100 = .ok (.iconst 0, 1) := by decide +kernel
theorem d_Head_readRuns_101 : decode prog_4_method_5_code 101 = .ok (.ireturn, 1) := by decide +kernel
theorem d_Head_write_0 : decode prog_4_method_2_code 0 = .ok (.aload_n 1, 1) := by decide +kernel
theorem d_Head_write_1 : decode prog_4_method_2_code 1 = .ok (.getfield 9, 3) := by decide +kernel
theorem d_Head_write_4 : decode prog_4_method_2_code 4 = .ok (.astore_n 2, 1) := by decide +kernel
theorem d_Head_write_5 : decode prog_4_method_2_code 5 = .ok (.aload_n 0, 1) := by decide +kernel
theorem d_Head_write_6 : decode prog_4_method_2_code 6 = .ok (.aload_n 2, 1) := by decide +kernel
theorem d_Head_write_7 : decode prog_4_method_2_code 7 = .ok (.getfield 15, 3) := by decide +kernel
theorem d_Head_write_10 : decode prog_4_method_2_code 10 = .ok (.iconst 1, 1) := by decide +kernel
theorem d_Head_write_11 : decode prog_4_method_2_code 11 = .ok (.isub, 1) := by decide +kernel
theorem d_Head_write_12 : decode prog_4_method_2_code 12 = .ok (.iconst 4, 1) := by decide +kernel
theorem d_Head_write_13 : decode prog_4_method_2_code 13 = .ok (.invokevirtual 21, 3) := by decide +kernel
theorem d_Head_write_16 : decode prog_4_method_2_code 16 = .ok (.aload_n 0, 1) := by decide +kernel
theorem d_Head_write_17 : decode prog_4_method_2_code 17 = .ok (.aload_n 2, 1) := by decide +kernel
theorem d_Head_write_18 : decode prog_4_method_2_code 18 = .ok (.getfield 27, 3) := by decide +kernel
theorem d_Head_write_21 : decode prog_4_method_2_code 21 = .ok (.iconst 1, 1) := by decide +kernel
theorem d_Head_write_22 : decode prog_4_method_2_code 22 = .ok (.isub, 1) := by decide +kernel
theorem d_Head_write_23 : decode prog_4_method_2_code 23 = .ok (.iconst 4, 1) := by decide +kernel
theorem d_Head_write_24 : decode prog_4_method_2_code 24 = .ok (.invokevirtual 21, 3) := by decide +kernel
theorem d_Head_write_27 : decode prog_4_method_2_code 27 = .ok (.aload_n 0, 1) := by decide +kernel
theorem d_Head_write_28 : decode prog_4_method_2_code 28 = .ok (.aload_n 1, 1) := by decide +kernel
theorem d_Head_write_29 : decode prog_4_method_2_code 29 = .ok (.getfield 30, 3) := by decide +kernel
theorem d_Head_write_32 : decode prog_4_method_2_code 32 = .ok (.iconst 5, 1) := by decide +kernel
theorem d_Head_write_33 : decode prog_4_method_2_code 33 = .ok (.invokevirtual 21, 3) := by decide +kernel
theorem d_Head_write_36 : decode prog_4_method_2_code 36 = .ok (.iconst 0, 1) := by decide +kernel
theorem d_Head_write_37 : decode prog_4_method_2_code 37 = .ok (.istore_n 3, 1) := by decide +kernel
theorem d_Head_write_38 : decode prog_4_method_2_code 38 = .ok (.iconst 0, 1) := by decide +kernel
theorem d_Head_write_39 : decode prog_4_method_2_code 39 = .ok (.istore 4, 2) := by decide +kernel
theorem d_Head_write_41 : decode prog_4_method_2_code 41 = .ok (.iconst 0, 1) := by decide +kernel
theorem d_Head_write_42 : decode prog_4_method_2_code 42 = .ok (.istore 5, 2) := by decide +kernel
theorem d_Head_write_44 : decode prog_4_method_2_code 44 = .ok (.iload 5, 2) := by decide +kernel
theorem d_Head_write_46 : decode prog_4_method_2_code 46 = .ok (.aload_n 2, 1) := by decide +kernel
theorem d_Head_write_47 : decode prog_4_method_2_code 47 = .ok (.getfield 27, 3) := by decide +kernel
theorem d_Head_write_50 : decode prog_4_method_2_code 50 = .ok (.if_icmp .ge 65, 3) := by decide +kernel
theorem d_Head_write_53 : decode prog_4_method_2_code 53 = .ok (.iconst 0, 1) := by decide +kernel
theorem d_Head_write_54 : decode prog_4_method_2_code 54 = .ok (.istore 6, 2) := by decide +kernel
theorem d_Head_write_56 : decode prog_4_method_2_code 56 = .ok (.iload 6, 2) := by decide +kernel
theorem d_Head_write_58 : decode prog_4_method_2_code 58 = .ok (.aload_n 2, 1) := by decide +kernel
theorem d_Head_write_59 : decode prog_4_method_2_code 59 = .ok (.getfield 15, 3) := by decide +kernel
theorem d_Head_write_62 : decode prog_4_method_2_code 62 = .ok (.if_icmp .ge 47, 3) := by decide +kernel
theorem d_Head_write_65 : decode prog_4_method_2_code 65 = .ok (.aload_n 2, 1) := by decide +kernel
theorem d_Head_write_66 : decode prog_4_method_2_code 66 = .ok (.getfield 33, 3) := by decide +kernel
theorem d_Head_write_69 : decode prog_4_method_2_code 69 = .ok (.iload 6, 2) := by decide +kernel
theorem d_Head_write_71 : decode prog_4_method_2_code 71 = .ok (.iload 5, 2) := by decide +kernel
theorem d_Head_write_73 : decode prog_4_method_2_code 73 = .ok (.invokestatic 37, 3) := by decide +kernel
theorem d_Head_write_76 : decode prog_4_method_2_code 76 = .ok (.baload, 1) := by decide +kernel
theorem d_Head_write_77 : decode prog_4_method_2_code 77 = .ok (.iload_n 3, 1) := by decide +kernel
theorem d_Head_write_78 : decode prog_4_method_2_code 78 = .ok (.if_icmp .eq 22, 3) := by decide +kernel
theorem d_Head_write_81 : decode prog_4_method_2_code 81 = .ok (.aload_n 0, 1) := by decide +kernel
theorem d_Head_write_82 : decode prog_4_method_2_code 82 = .ok (.iload 4, 2) := by decide +kernel
theorem d_Head_write_84 : decode prog_4_method_2_code 84 = .ok (.invokestatic 41, 3) := by decide +kernel
theorem d_Head_write_87 : decode prog_4_method_2_code 87 = .ok (.iload_n 3, 1) := by decide +kernel
theorem d_Head_write_88 : decode prog_4_method_2_code 88 = .ok (.ifCond .ne 7, 3) := by decide +kernel
theorem d_Head_write_91 : decode prog_4_method_2_code 91 = .ok (.iconst 1, 1) := by decide +kernel
theorem d_Head_write_92 : decode prog_4_method_2_code 92 = .ok (.goto 4, 3) := by decide +kernel
theorem d_Head_write_95 : decode prog_4_method_2_code 95 = .ok (.iconst 0, 1) := by decide +kernel
theorem d_Head_write_96 : decode prog_4_method_2_code 96 = .ok (.istore_n 3, 1) := by decide +kernel
theorem d_Head_write_97 : decode prog_4_method_2_code 97 = .ok (.iconst 0, 1) := by decide +kernel
theorem d_Head_write_98 : decode prog_4_method_2_code 98 = .ok (.istore 4, 2) := by decide +kernel
theorem d_Head_write_100 : decode prog_4_method_2_code 100 = .ok (.iinc 4 1, 3) := by decide +kernel
theorem d_Head_write_103 : decode prog_4_method_2_code 103 = .ok (.iinc 6 1, 3) := by decide +kernel
theorem d_Head_write_106 : decode prog_4_method_2_code 106 = .ok (.goto (-50), 3) := by decide +kernel
theorem d_Head_write_109 : decode prog_4_method_2_code 109 = .ok (.iinc 5 1, 3) := by decide +kernel
theorem d_Head_write_112 : decode prog_4_method_2_code 112 = .ok (.goto (-68), 3) := by decide +kernel
theorem d_Head_write_115 : decode prog_4_method_2_code 115 = .ok (.aload_n 0, 1) := by decide +kernel
theorem d_Head_write_116 : decode prog_4_method_2_code 116 = .ok (.iload 4, 2) := by decide +kernel
theorem d_Head_write_118 : decode prog_4_method_2_code 118 = .ok (.invokestatic 41, 3) := by decide +kernel
theorem d_Head_write_121 : decode prog_4_method_2_code 121 = .ok (.return_, 1) := by decide +kernel
theorem d_Head_writeRun_0 : decode prog_4_method_4_code 0 = .ok (.iload_n 1, 1) := by decide +kernel
theorem d_Head_writeRun_1 : decode prog_4_method_4_code 1 = .ok (.iconst 1, 1) := by decide +kernel
theorem d_Head_writeRun_2 : decode prog_4_method_4_code 2 = .ok (.iadd, 1) := by decide +kernel
theorem d_Head_writeRun_3 : decode prog_4_method_4_code 3 = .ok (.invokestatic 59, 3) := by decide +kernel
theorem d_Head_writeRun_6 : decode prog_4_method_4_code 6 = .ok (.istore_n 2, 1) := by decide +kernel
theorem d_Head_writeRun_7 : decode prog_4_method_4_code 7 = .ok (.aload_n 0, 1) := by decide +kernel
theorem d_Head_writeRun_8 : decode prog_4_method_4_code 8 = .ok (.iconst 0, 1) := by decide +kernel
theorem d_Head_writeRun_9 : decode prog_4_method_4_code 9 = .ok (.iload_n 2, 1) := by decide +kernel
theorem d_Head_writeRun_10 : decode prog_4_method_4_code 10 = .ok (.iconst 1, 1) := by decide +kernel
theorem d_Head_writeRun_11 : decode prog_4_method_4_code 11 = .ok (.isub, 1) := by decide +kernel
theorem d_Head_writeRun_12 : decode prog_4_method_4_code 12 = .ok (.invokevirtual 21, 3) := by decide +kernel
theorem d_Head_writeRun_15 : decode prog_4_method_4_code 15 = .ok (.aload_n 0, 1) := by decide +kernel
theorem d_Head_writeRun_16 : decode prog_4_method_4_code 16 = .ok (.iload_n 1, 1) := by decide +kernel
theorem d_Head_writeRun_17 : decode prog_4_method_4_code 17 = .ok (.iconst 1, 1) := by decide +kernel
theorem d_Head_writeRun_18 : decode prog_4_method_4_code 18 = .ok (.iadd, 1) := by decide +kernel
theorem d_Head_writeRun_19 : decode prog_4_method_4_code 19 = .ok (.iload_n 2, 1) := by decide +kernel
theorem d_Head_writeRun_20 : decode prog_4_method_4_code 20 = .ok (.invokevirtual 21, 3) := by decide +kernel
theorem d_Head_writeRun_23 : decode prog_4_method_4_code 23 = .ok (.return_, 1) := by decide +kernel
theorem d_Lifting_back_0 : decode prog_5_method_3_code 0 = .ok (.iconst 2, 1) := by decide +kernel
theorem d_Lifting_back_1 : decode prog_5_method_3_code 1 = .ok (.istore_n 1, 1) := by decide +kernel
theorem d_Lifting_back_2 : decode prog_5_method_3_code 2 = .ok (.iload_n 1, 1) := by decide +kernel
theorem d_Lifting_back_3 : decode prog_5_method_3_code 3 = .ok (.ifCond .lt 41, 3) := by decide +kernel
theorem d_Lifting_back_6 : decode prog_5_method_3_code 6 = .ok (.aload_n 0, 1) := by decide +kernel
theorem d_Lifting_back_7 : decode prog_5_method_3_code 7 = .ok (.iload_n 1, 1) := by decide +kernel
theorem d_Lifting_back_8 : decode prog_5_method_3_code 8 = .ok (.iconst 0, 1) := by decide +kernel
theorem d_Lifting_back_9 : decode prog_5_method_3_code 9 = .ok (.iconst 0, 1) := by decide +kernel
theorem d_Lifting_back_10 : decode prog_5_method_3_code 10 = .ok (.iconst (-1), 1) := by decide +kernel
theorem d_Lifting_back_11 : decode prog_5_method_3_code 11 = .ok (.invokevirtual 19, 3) := by decide +kernel
theorem d_Lifting_back_14 : decode prog_5_method_3_code 14 = .ok (.aload_n 0, 1) := by decide +kernel
theorem d_Lifting_back_15 : decode prog_5_method_3_code 15 = .ok (.iload_n 1, 1) := by decide +kernel
theorem d_Lifting_back_16 : decode prog_5_method_3_code 16 = .ok (.iconst 0, 1) := by decide +kernel
theorem d_Lifting_back_17 : decode prog_5_method_3_code 17 = .ok (.iconst 1, 1) := by decide +kernel
theorem d_Lifting_back_18 : decode prog_5_method_3_code 18 = .ok (.iconst (-1), 1) := by decide +kernel
theorem d_Lifting_back_19 : decode prog_5_method_3_code 19 = .ok (.invokevirtual 19, 3) := by decide +kernel
theorem d_Lifting_back_22 : decode prog_5_method_3_code 22 = .ok (.aload_n 0, 1) := by decide +kernel
theorem d_Lifting_back_23 : decode prog_5_method_3_code 23 = .ok (.iload_n 1, 1) := by decide +kernel
theorem d_Lifting_back_24 : decode prog_5_method_3_code 24 = .ok (.iconst 1, 1) := by decide +kernel
theorem d_Lifting_back_25 : decode prog_5_method_3_code 25 = .ok (.iconst 0, 1) := by decide +kernel
theorem d_Lifting_back_26 : decode prog_5_method_3_code 26 = .ok (.iconst (-1), 1) := by decide +kernel
theorem d_Lifting_back_27 : decode prog_5_method_3_code 27 = .ok (.invokevirtual 19, 3) := by decide +kernel
theorem d_Lifting_back_30 : decode prog_5_method_3_code 30 = .ok (.aload_n 0, 1) := by decide +kernel
theorem d_Lifting_back_31 : decode prog_5_method_3_code 31 = .ok (.iload_n 1, 1) := by decide +kernel
theorem d_Lifting_back_32 : decode prog_5_method_3_code 32 = .ok (.iconst 1, 1) := by decide +kernel
theorem d_Lifting_back_33 : decode prog_5_method_3_code 33 = .ok (.iconst 1, 1) := by decide +kernel
theorem d_Lifting_back_34 : decode prog_5_method_3_code 34 = .ok (.iconst (-1), 1) := by decide +kernel
theorem d_Lifting_back_35 : decode prog_5_method_3_code 35 = .ok (.invokevirtual 19, 3) := by decide +kernel
theorem d_Lifting_back_38 : decode prog_5_method_3_code 38 = .ok (.iinc 1 (-1), 3) := by decide +kernel
theorem d_Lifting_back_41 : decode prog_5_method_3_code 41 = .ok (.goto (-39), 3) := by decide +kernel
theorem d_Lifting_back_44 : decode prog_5_method_3_code 44 = .ok (.return_, 1) := by decide +kernel
theorem d_Lifting_change_0 : decode prog_5_method_5_code 0 = .ok (.aload_n 0, 1) := by decide +kernel
theorem d_Lifting_change_1 : decode prog_5_method_5_code 1 = .ok (.getfield 9, 3) := by decide +kernel
theorem d_Lifting_change_4 : decode prog_5_method_5_code 4 = .ok (.iload_n 1, 1) := by decide +kernel
theorem d_Lifting_change_5 : decode prog_5_method_5_code 5 = .ok (.iload_n 2, 1) := by decide +kernel
theorem d_Lifting_change_6 : decode prog_5_method_5_code 6 = .ok (.invokevirtual 40, 3) := by decide +kernel
theorem d_Lifting_change_9 : decode prog_5_method_5_code 9 = .ok (.istore 6, 2) := by decide +kernel
theorem d_Lifting_change_11 : decode prog_5_method_5_code 11 = .ok (.iload 6, 2) := by decide +kernel
theorem d_Lifting_change_13 : decode prog_5_method_5_code 13 = .ok (.iconst (-1), 1) := by decide +kernel
theorem d_Lifting_change_14 : decode prog_5_method_5_code 14 = .ok (.if_icmp .ne 5, 3) := by decide +kernel
theorem d_Lifting_change_17 : decode prog_5_method_5_code 17 = .ok (.iconst 0, 1) := by decide +kernel
theorem d_Lifting_change_18 : decode prog_5_method_5_code 18 = .ok (.ireturn, 1) := by decide +kernel
theorem d_Lifting_change_19 : decode prog_5_method_5_code 19 = .ok (.aload_n 0, 1) := by decide +kernel
theorem d_Lifting_change_20 : decode prog_5_method_5_code 20 = .ok (.getfield 9, 3) := by decide +kernel
theorem d_Lifting_change_23 : decode prog_5_method_5_code 23 = .ok (.iload_n 1, 1) := by decide +kernel
theorem d_Lifting_change_24 : decode prog_5_method_5_code 24 = .ok (.iload_n 3, 1) := by decide +kernel
theorem d_Lifting_change_25 : decode prog_5_method_5_code 25 = .ok (.isub, 1) := by decide +kernel
theorem d_Lifting_change_26 : decode prog_5_method_5_code 26 = .ok (.iload_n 2, 1) := by decide +kernel
theorem d_Lifting_change_27 : decode prog_5_method_5_code 27 = .ok (.iload 4, 2) := by decide +kernel
theorem d_Lifting_change_29 : decode prog_5_method_5_code 29 = .ok (.isub, 1) := by decide +kernel
theorem d_Lifting_change_30 : decode prog_5_method_5_code 30 = .ok (.invokevirtual 40, 3) := by decide +kernel
theorem d_Lifting_change_33 : decode prog_5_method_5_code 33 = .ok (.iload 6, 2) := by decide +kernel
theorem d_Lifting_change_35 : decode prog_5_method_5_code 35 = .ok (.if_icmp .ne 7, 3) := by decide +kernel
theorem d_Lifting_change_38 : decode prog_5_method_5_code 38 = .ok (.iconst 1, 1) := by decide +kernel
theorem d_Lifting_change_39 : decode prog_5_method_5_code 39 = .ok (.goto 4, 3) := by decide +kernel
theorem d_Lifting_change_42 : decode prog_5_method_5_code 42 = .ok (.iconst 0, 1) := by decide +kernel
theorem d_Lifting_change_43 : decode prog_5_method_5_code 43 = .ok (.istore 7, 2) := by decide +kernel
theorem d_Lifting_change_45 : decode prog_5_method_5_code 45 = .ok (.aload_n 0, 1) := by decide +kernel
theorem d_Lifting_change_46 : decode prog_5_method_5_code 46 = .ok (.getfield 9, 3) := by decide +kernel
theorem d_Lifting_change_49 : decode prog_5_method_5_code 49 = .ok (.iload_n 1, 1) := by decide +kernel
theorem d_Lifting_change_50 : decode prog_5_method_5_code 50 = .ok (.iload_n 3, 1) := by decide +kernel
theorem d_Lifting_change_51 : decode prog_5_method_5_code 51 = .ok (.iadd, 1) := by decide +kernel
theorem d_Lifting_change_52 : decode prog_5_method_5_code 52 = .ok (.iload_n 2, 1) := by decide +kernel
theorem d_Lifting_change_53 : decode prog_5_method_5_code 53 = .ok (.iload 4, 2) := by decide +kernel
theorem d_Lifting_change_55 : decode prog_5_method_5_code 55 = .ok (.iadd, 1) := by decide +kernel
theorem d_Lifting_change_56 : decode prog_5_method_5_code 56 = .ok (.invokevirtual 40, 3) := by decide +kernel
theorem d_Lifting_change_59 : decode prog_5_method_5_code 59 = .ok (.iload 6, 2) := by decide +kernel
theorem d_Lifting_change_61 : decode prog_5_method_5_code 61 = .ok (.if_icmp .ne 7, 3) := by decide +kernel
theorem d_Lifting_change_64 : decode prog_5_method_5_code 64 = .ok (.iconst 1, 1) := by decide +kernel
theorem d_Lifting_change_65 : decode prog_5_method_5_code 65 = .ok (.goto 4, 3) := by decide +kernel
theorem d_Lifting_change_68 : decode prog_5_method_5_code 68 = .ok (.iconst 0, 1) := by decide +kernel
theorem d_Lifting_change_69 : decode prog_5_method_5_code 69 = .ok (.istore 8, 2) := by decide +kernel
theorem d_Lifting_change_71 : decode prog_5_method_5_code 71 = .ok (.iload 7, 2) := by decide +kernel
theorem d_Lifting_change_73 : decode prog_5_method_5_code 73 = .ok (.ifCond .ne 10, 3) := by decide +kernel
theorem d_Lifting_change_76 : decode prog_5_method_5_code 76 = .ok (.iload 8, 2) := by decide +kernel
theorem d_Lifting_change_78 : decode prog_5_method_5_code 78 = .ok (.ifCond .ne 5, 3) := by decide +kernel
theorem d_Lifting_change_81 : decode prog_5_method_5_code 81 = .ok (.iconst 0, 1) := by decide +kernel
theorem d_Lifting_change_82 : decode prog_5_method_5_code 82 = .ok (.ireturn, 1) := by decide +kernel
theorem d_Lifting_change_83 : decode prog_5_method_5_code 83 = .ok (.iload 7, 2) := by decide +kernel
theorem d_Lifting_change_85 : decode prog_5_method_5_code 85 = .ok (.ifCond .eq 21, 3) := by decide +kernel
theorem d_Lifting_change_88 : decode prog_5_method_5_code 88 = .ok (.aload_n 0, 1) := by decide +kernel
theorem d_Lifting_change_89 : decode prog_5_method_5_code 89 = .ok (.getfield 15, 3) := by decide +kernel
theorem d_Lifting_change_92 : decode prog_5_method_5_code 92 = .ok (.iload_n 1, 1) := by decide +kernel
theorem d_Lifting_change_93 : decode prog_5_method_5_code 93 = .ok (.iload_n 3, 1) := by decide +kernel
theorem d_Lifting_change_94 : decode prog_5_method_5_code 94 = .ok (.isub, 1) := by decide +kernel
theorem d_Lifting_change_95 : decode prog_5_method_5_code 95 = .ok (.iload_n 2, 1) := by decide +kernel
theorem d_Lifting_change_96 : decode prog_5_method_5_code 96 = .ok (.iload 4, 2) := by decide +kernel
theorem d_Lifting_change_98 : decode prog_5_method_5_code 98 = .ok (.isub, 1) := by decide +kernel
theorem d_Lifting_change_99 : decode prog_5_method_5_code 99 = .ok (.invokestatic 32, 3) := by decide +kernel
theorem d_Lifting_change_102 : decode prog_5_method_5_code 102 = .ok (.iaload, 1) := by decide +kernel
theorem d_Lifting_change_103 : decode prog_5_method_5_code 103 = .ok (.goto 18, 3) := by decide +kernel
theorem d_Lifting_change_106 : decode prog_5_method_5_code 106 = .ok (.aload_n 0, 1) := by decide +kernel
theorem d_Lifting_change_107 : decode prog_5_method_5_code 107 = .ok (.getfield 15, 3) := by decide +kernel
theorem d_Lifting_change_110 : decode prog_5_method_5_code 110 = .ok (.iload_n 1, 1) := by decide +kernel
theorem d_Lifting_change_111 : decode prog_5_method_5_code 111 = .ok (.iload_n 3, 1) := by decide +kernel
theorem d_Lifting_change_112 : decode prog_5_method_5_code 112 = .ok (.iadd, 1) := by decide +kernel
theorem d_Lifting_change_113 : decode prog_5_method_5_code 113 = .ok (.iload_n 2, 1) := by decide +kernel
theorem d_Lifting_change_114 : decode prog_5_method_5_code 114 = .ok (.iload 4, 2) := by decide +kernel
theorem d_Lifting_change_116 : decode prog_5_method_5_code 116 = .ok (.iadd, 1) := by decide +kernel
theorem d_Lifting_change_117 : decode prog_5_method_5_code 117 = .ok (.invokestatic 32, 3) := by decide +kernel
theorem d_Lifting_change_120 : decode prog_5_method_5_code 120 = .ok (.iaload, 1) := by decide +kernel
theorem d_Lifting_change_121 : decode prog_5_method_5_code 121 = .ok (.istore 9, 2) := by decide +kernel
theorem d_Lifting_change_123 : decode prog_5_method_5_code 123 = .ok (.iload 8, 2) := by decide +kernel
theorem d_Lifting_change_125 : decode prog_5_method_5_code 125 = .ok (.ifCond .eq 21, 3) := by decide +kernel
theorem d_Lifting_change_128 : decode prog_5_method_5_code 128 = .ok (.aload_n 0, 1) := by decide +kernel
theorem d_Lifting_change_129 : decode prog_5_method_5_code 129 = .ok (.getfield 15, 3) := by decide +kernel
theorem d_Lifting_change_132 : decode prog_5_method_5_code 132 = .ok (.iload_n 1, 1) := by decide +kernel
theorem d_Lifting_change_133 : decode prog_5_method_5_code 133 = .ok (.iload_n 3, 1) := by decide +kernel
theorem d_Lifting_change_134 : decode prog_5_method_5_code 134 = .ok (.iadd, 1) := by decide +kernel
theorem d_Lifting_change_135 : decode prog_5_method_5_code 135 = .ok (.iload_n 2, 1) := by decide +kernel
theorem d_Lifting_change_136 : decode prog_5_method_5_code 136 = .ok (.iload 4, 2) := by decide +kernel
theorem d_Lifting_change_138 : decode prog_5_method_5_code 138 = .ok (.iadd, 1) := by decide +kernel
theorem d_Lifting_change_139 : decode prog_5_method_5_code 139 = .ok (.invokestatic 32, 3) := by decide +kernel
theorem d_Lifting_change_142 : decode prog_5_method_5_code 142 = .ok (.iaload, 1) := by decide +kernel
theorem d_Lifting_change_143 : decode prog_5_method_5_code 143 = .ok (.goto 5, 3) := by decide +kernel
theorem d_Lifting_change_146 : decode prog_5_method_5_code 146 = .ok (.iload 9, 2) := by decide +kernel
theorem d_Lifting_change_148 : decode prog_5_method_5_code 148 = .ok (.istore 10, 2) := by decide +kernel
theorem d_Lifting_change_150 : decode prog_5_method_5_code 150 = .ok (.iload 5, 2) := by decide +kernel
theorem d_Lifting_change_152 : decode prog_5_method_5_code 152 = .ok (.iconst 1, 1) := by decide +kernel
theorem d_Lifting_change_153 : decode prog_5_method_5_code 153 = .ok (.if_icmp .ne 14, 3) := by decide +kernel
theorem d_Lifting_change_156 : decode prog_5_method_5_code 156 = .ok (.iload 9, 2) := by decide +kernel
theorem d_Lifting_change_158 : decode prog_5_method_5_code 158 = .ok (.iload 10, 2) := by decide +kernel
theorem d_Lifting_change_160 : decode prog_5_method_5_code 160 = .ok (.iadd, 1) := by decide +kernel
theorem d_Lifting_change_161 : decode prog_5_method_5_code 161 = .ok (.iconst 1, 1) := by decide +kernel
theorem d_Lifting_change_162 : decode prog_5_method_5_code 162 = .ok (.ishr, 1) := by decide +kernel
theorem d_Lifting_change_163 : decode prog_5_method_5_code 163 = .ok (.ineg, 1) := by decide +kernel
theorem d_Lifting_change_164 : decode prog_5_method_5_code 164 = .ok (.goto 12, 3) := by decide +kernel
theorem d_Lifting_change_167 : decode prog_5_method_5_code 167 = .ok (.iload 9, 2) := by decide +kernel
theorem d_Lifting_change_169 : decode prog_5_method_5_code 169 = .ok (.iload 10, 2) := by decide +kernel
theorem d_Lifting_change_171 : decode prog_5_method_5_code 171 = .ok (.iadd, 1) := by decide +kernel
theorem d_Lifting_change_172 : decode prog_5_method_5_code 172 = .ok (.iconst 2, 1) := by decide +kernel
theorem d_Lifting_change_173 : decode prog_5_method_5_code 173 = .ok (.iadd, 1) := by decide +kernel
theorem d_Lifting_change_174 : decode prog_5_method_5_code 174 = .ok (.iconst 2, 1) := by decide +kernel
theorem d_Lifting_change_175 : decode prog_5_method_5_code 175 = .ok (.ishr, 1) := by decide +kernel
theorem d_Lifting_change_176 : decode prog_5_method_5_code 176 = .ok (.ireturn, 1) := by decide +kernel
theorem d_Lifting_forth_0 : decode prog_5_method_2_code 0 = .ok (.iconst 0, 1) := by decide +kernel
theorem d_Lifting_forth_1 : decode prog_5_method_2_code 1 = .ok (.istore_n 1, 1) := by decide +kernel
theorem d_Lifting_forth_2 : decode prog_5_method_2_code 2 = .ok (.iload_n 1, 1) := by decide +kernel
theorem d_Lifting_forth_3 : decode prog_5_method_2_code 3 = .ok (.iconst 2, 1) := by decide +kernel
theorem d_Lifting_forth_4 : decode prog_5_method_2_code 4 = .ok (.if_icmp .gt 41, 3) := by decide +kernel
theorem d_Lifting_forth_7 : decode prog_5_method_2_code 7 = .ok (.aload_n 0, 1) := by decide +kernel
theorem d_Lifting_forth_8 : decode prog_5_method_2_code 8 = .ok (.iload_n 1, 1) := by decide +kernel
theorem d_Lifting_forth_9 : decode prog_5_method_2_code 9 = .ok (.iconst 1, 1) := by decide +kernel
theorem d_Lifting_forth_10 : decode prog_5_method_2_code 10 = .ok (.iconst 1, 1) := by decide +kernel
theorem d_Lifting_forth_11 : decode prog_5_method_2_code 11 = .ok (.iconst 1, 1) := by decide +kernel
theorem d_Lifting_forth_12 : decode prog_5_method_2_code 12 = .ok (.invokevirtual 19, 3) := by decide +kernel
theorem d_Lifting_forth_15 : decode prog_5_method_2_code 15 = .ok (.aload_n 0, 1) := by decide +kernel
theorem d_Lifting_forth_16 : decode prog_5_method_2_code 16 = .ok (.iload_n 1, 1) := by decide +kernel
theorem d_Lifting_forth_17 : decode prog_5_method_2_code 17 = .ok (.iconst 1, 1) := by decide +kernel
theorem d_Lifting_forth_18 : decode prog_5_method_2_code 18 = .ok (.iconst 0, 1) := by decide +kernel
theorem d_Lifting_forth_19 : decode prog_5_method_2_code 19 = .ok (.iconst 1, 1) := by decide +kernel
theorem d_Lifting_forth_20 : decode prog_5_method_2_code 20 = .ok (.invokevirtual 19, 3) := by decide +kernel
theorem d_Lifting_forth_23 : decode prog_5_method_2_code 23 = .ok (.aload_n 0, 1) := by decide +kernel
theorem d_Lifting_forth_24 : decode prog_5_method_2_code 24 = .ok (.iload_n 1, 1) := by decide +kernel
theorem d_Lifting_forth_25 : decode prog_5_method_2_code 25 = .ok (.iconst 0, 1) := by decide +kernel
theorem d_Lifting_forth_26 : decode prog_5_method_2_code 26 = .ok (.iconst 1, 1) := by decide +kernel
theorem d_Lifting_forth_27 : decode prog_5_method_2_code 27 = .ok (.iconst 1, 1) := by decide +kernel
theorem d_Lifting_forth_28 : decode prog_5_method_2_code 28 = .ok (.invokevirtual 19, 3) := by decide +kernel
theorem d_Lifting_forth_31 : decode prog_5_method_2_code 31 = .ok (.aload_n 0, 1) := by decide +kernel
theorem d_Lifting_forth_32 : decode prog_5_method_2_code 32 = .ok (.iload_n 1, 1) := by decide +kernel
theorem d_Lifting_forth_33 : decode prog_5_method_2_code 33 = .ok (.iconst 0, 1) := by decide +kernel
theorem d_Lifting_forth_34 : decode prog_5_method_2_code 34 = .ok (.iconst 0, 1) := by decide +kernel
theorem d_Lifting_forth_35 : decode prog_5_method_2_code 35 = .ok (.iconst 1, 1) := by decide +kernel
theorem d_Lifting_forth_36 : decode prog_5_method_2_code 36 = .ok (.invokevirtual 19, 3) := by decide +kernel
theorem d_Lifting_forth_39 : decode prog_5_method_2_code 39 = .ok (.iinc 1 1, 3) := by decide +kernel
theorem d_Lifting_forth_42 : decode prog_5_method_2_code 42 = .ok (.goto (-40), 3) := by decide +kernel
theorem d_Lifting_forth_45 : decode prog_5_method_2_code 45 = .ok (.return_, 1) := by decide +kernel
theorem d_Lifting_sweep_0 : decode prog_5_method_4_code 0 = .ok (.iconst 1, 1) := by decide +kernel
theorem d_Lifting_sweep_1 : decode prog_5_method_4_code 1 = .ok (.iload_n 1, 1) := by decide +kernel
theorem d_Lifting_sweep_2 : decode prog_5_method_4_code 2 = .ok (.ishl, 1) := by decide +kernel
theorem d_Lifting_sweep_3 : decode prog_5_method_4_code 3 = .ok (.istore 5, 2) := by decide +kernel
theorem d_Lifting_sweep_5 : decode prog_5_method_4_code 5 = .ok (.iload_n 2, 1) := by decide +kernel
theorem d_Lifting_sweep_6 : decode prog_5_method_4_code 6 = .ok (.ifCond .eq 8, 3) := by decide +kernel
theorem d_Lifting_sweep_9 : decode prog_5_method_4_code 9 = .ok (.iload 5, 2) := by decide +kernel
theorem d_Lifting_sweep_11 : decode prog_5_method_4_code 11 = .ok (.goto 4, 3) := by decide +kernel
theorem d_Lifting_sweep_14 : decode prog_5_method_4_code 14 = .ok (.iconst 0, 1) := by decide +kernel
theorem d_Lifting_sweep_15 : decode prog_5_method_4_code 15 = .ok (.istore 6, 2) := by decide +kernel
theorem d_Lifting_sweep_17 : decode prog_5_method_4_code 17 = .ok (.iload_n 2, 1) := by decide +kernel
theorem d_Lifting_sweep_18 : decode prog_5_method_4_code 18 = .ok (.ifCond .eq 7, 3) := by decide +kernel
theorem d_Lifting_sweep_21 : decode prog_5_method_4_code 21 = .ok (.iconst 0, 1) := by decide +kernel
theorem d_Lifting_sweep_22 : decode prog_5_method_4_code 22 = .ok (.goto 5, 3) := by decide +kernel
theorem d_Lifting_sweep_25 : decode prog_5_method_4_code 25 = .ok (.iload 5, 2) := by decide +kernel
theorem d_Lifting_sweep_27 : decode prog_5_method_4_code 27 = .ok (.istore 7, 2) := by decide +kernel
theorem d_Lifting_sweep_29 : decode prog_5_method_4_code 29 = .ok (.iconst 0, 1) := by decide +kernel
theorem d_Lifting_sweep_30 : decode prog_5_method_4_code 30 = .ok (.istore 8, 2) := by decide +kernel
theorem d_Lifting_sweep_32 : decode prog_5_method_4_code 32 = .ok (.iload 8, 2) := by decide +kernel
theorem d_Lifting_sweep_34 : decode prog_5_method_4_code 34 = .ok (.aload_n 0, 1) := by decide +kernel
theorem d_Lifting_sweep_35 : decode prog_5_method_4_code 35 = .ok (.getfield 9, 3) := by decide +kernel
theorem d_Lifting_sweep_38 : decode prog_5_method_4_code 38 = .ok (.getfield 23, 3) := by decide +kernel
theorem d_Lifting_sweep_41 : decode prog_5_method_4_code 41 = .ok (.if_icmp .ge 92, 3) := by decide +kernel
theorem d_Lifting_sweep_44 : decode prog_5_method_4_code 44 = .ok (.iconst 0, 1) := by decide +kernel
theorem d_Lifting_sweep_45 : decode prog_5_method_4_code 45 = .ok (.istore 9, 2) := by decide +kernel
theorem d_Lifting_sweep_47 : decode prog_5_method_4_code 47 = .ok (.iload 9, 2) := by decide +kernel
theorem d_Lifting_sweep_49 : decode prog_5_method_4_code 49 = .ok (.aload_n 0, 1) := by decide +kernel
theorem d_Lifting_sweep_50 : decode prog_5_method_4_code 50 = .ok (.getfield 9, 3) := by decide +kernel
theorem d_Lifting_sweep_53 : decode prog_5_method_4_code 53 = .ok (.getfield 29, 3) := by decide +kernel
theorem d_Lifting_sweep_56 : decode prog_5_method_4_code 56 = .ok (.if_icmp .ge 67, 3) := by decide +kernel
theorem d_Lifting_sweep_59 : decode prog_5_method_4_code 59 = .ok (.iload_n 2, 1) := by decide +kernel
theorem d_Lifting_sweep_60 : decode prog_5_method_4_code 60 = .ok (.ifCond .eq 8, 3) := by decide +kernel
theorem d_Lifting_sweep_63 : decode prog_5_method_4_code 63 = .ok (.iload 9, 2) := by decide +kernel
theorem d_Lifting_sweep_65 : decode prog_5_method_4_code 65 = .ok (.goto 5, 3) := by decide +kernel
theorem d_Lifting_sweep_68 : decode prog_5_method_4_code 68 = .ok (.iload 8, 2) := by decide +kernel
theorem d_Lifting_sweep_70 : decode prog_5_method_4_code 70 = .ok (.iload_n 1, 1) := by decide +kernel
theorem d_Lifting_sweep_71 : decode prog_5_method_4_code 71 = .ok (.ishr, 1) := by decide +kernel
theorem d_Lifting_sweep_72 : decode prog_5_method_4_code 72 = .ok (.istore 10, 2) := by decide +kernel
theorem d_Lifting_sweep_74 : decode prog_5_method_4_code 74 = .ok (.iload 10, 2) := by decide +kernel
theorem d_Lifting_sweep_76 : decode prog_5_method_4_code 76 = .ok (.iconst 1, 1) := by decide +kernel
theorem d_Lifting_sweep_77 : decode prog_5_method_4_code 77 = .ok (.iand, 1) := by decide +kernel
theorem d_Lifting_sweep_78 : decode prog_5_method_4_code 78 = .ok (.iload_n 3, 1) := by decide +kernel
theorem d_Lifting_sweep_79 : decode prog_5_method_4_code 79 = .ok (.if_icmp .ne 34, 3) := by decide +kernel
theorem d_Lifting_sweep_82 : decode prog_5_method_4_code 82 = .ok (.aload_n 0, 1) := by decide +kernel
theorem d_Lifting_sweep_83 : decode prog_5_method_4_code 83 = .ok (.getfield 15, 3) := by decide +kernel
theorem d_Lifting_sweep_86 : decode prog_5_method_4_code 86 = .ok (.iload 9, 2) := by decide +kernel
theorem d_Lifting_sweep_88 : decode prog_5_method_4_code 88 = .ok (.iload 8, 2) := by decide +kernel
theorem d_Lifting_sweep_90 : decode prog_5_method_4_code 90 = .ok (.invokestatic 32, 3) := by decide +kernel
theorem d_Lifting_sweep_93 : decode prog_5_method_4_code 93 = .ok (.dup2, 1) := by decide +kernel
theorem d_Lifting_sweep_94 : decode prog_5_method_4_code 94 = .ok (.iaload, 1) := by decide +kernel
theorem d_Lifting_sweep_95 : decode prog_5_method_4_code 95 = .ok (.iload 4, 2) := by decide +kernel
theorem d_Lifting_sweep_97 : decode prog_5_method_4_code 97 = .ok (.aload_n 0, 1) := by decide +kernel
theorem d_Lifting_sweep_98 : decode prog_5_method_4_code 98 = .ok (.iload 9, 2) := by decide +kernel
theorem d_Lifting_sweep_100 : decode prog_5_method_4_code 100 = .ok (.iload 8, 2) := by decide +kernel
theorem d_Lifting_sweep_102 : decode prog_5_method_4_code 102 = .ok (.iload 6, 2) := by decide +kernel
theorem d_Lifting_sweep_104 : decode prog_5_method_4_code 104 = .ok (.iload 7, 2) := by decide +kernel
theorem d_Lifting_sweep_106 : decode prog_5_method_4_code 106 = .ok (.iload_n 3, 1) := by decide +kernel
theorem d_Lifting_sweep_107 : decode prog_5_method_4_code 107 = .ok (.invokevirtual 36, 3) := by decide +kernel
theorem d_Lifting_sweep_110 : decode prog_5_method_4_code 110 = .ok (.imul, 1) := by decide +kernel
theorem d_Lifting_sweep_111 : decode prog_5_method_4_code 111 = .ok (.iadd, 1) := by decide +kernel
theorem d_Lifting_sweep_112 : decode prog_5_method_4_code 112 = .ok (.iastore, 1) := by decide +kernel
theorem d_Lifting_sweep_113 : decode prog_5_method_4_code 113 = .ok (.iload 9, 2) := by decide +kernel
theorem d_Lifting_sweep_115 : decode prog_5_method_4_code 115 = .ok (.iload 5, 2) := by decide +kernel
theorem d_Lifting_sweep_117 : decode prog_5_method_4_code 117 = .ok (.iadd, 1) := by decide +kernel
theorem d_Lifting_sweep_118 : decode prog_5_method_4_code 118 = .ok (.istore 9, 2) := by decide +kernel
theorem d_Lifting_sweep_120 : decode prog_5_method_4_code 120 = .ok (.goto (-73), 3) := by decide +kernel
theorem d_Lifting_sweep_123 : decode prog_5_method_4_code 123 = .ok (.iload 8, 2) := by decide +kernel
theorem d_Lifting_sweep_125 : decode prog_5_method_4_code 125 = .ok (.iload 5, 2) := by decide +kernel
theorem d_Lifting_sweep_127 : decode prog_5_method_4_code 127 = .ok (.iadd, 1) := by decide +kernel
theorem d_Lifting_sweep_128 : decode prog_5_method_4_code 128 = .ok (.istore 8, 2) := by decide +kernel
theorem d_Lifting_sweep_130 : decode prog_5_method_4_code 130 = .ok (.goto (-98), 3) := by decide +kernel
theorem d_Lifting_sweep_133 : decode prog_5_method_4_code 133 = .ok (.return_, 1) := by decide +kernel
theorem d_Pen_pick_0 : decode prog_6_method_3_code 0 = .ok (.aload_n 0, 1) := by decide +kernel
theorem d_Pen_pick_1 : decode prog_6_method_3_code 1 = .ok (.getfield 31, 3) := by decide +kernel
theorem d_Pen_pick_4 : decode prog_6_method_3_code 4 = .ok (.iconst 3, 1) := by decide +kernel
theorem d_Pen_pick_5 : decode prog_6_method_3_code 5 = .ok (.ishr, 1) := by decide +kernel
theorem d_Pen_pick_6 : decode prog_6_method_3_code 6 = .ok (.istore_n 2, 1) := by decide +kernel
theorem d_Pen_pick_7 : decode prog_6_method_3_code 7 = .ok (.iload_n 2, 1) := by decide +kernel
theorem d_Pen_pick_8 : decode prog_6_method_3_code 8 = .ok (.aload_n 0, 1) := by decide +kernel
theorem d_Pen_pick_9 : decode prog_6_method_3_code 9 = .ok (.getfield 9, 3) := by decide +kernel
theorem d_Pen_pick_12 : decode prog_6_method_3_code 12 = .ok (.getfield 25, 3) := by decide +kernel
theorem d_Pen_pick_15 : decode prog_6_method_3_code 15 = .ok (.if_icmp .ne 11, 3) := by decide +kernel
theorem d_Pen_pick_18 : decode prog_6_method_3_code 18 = .ok (.aload_n 0, 1) := by decide +kernel
theorem d_Pen_pick_19 : decode prog_6_method_3_code 19 = .ok (.getfield 9, 3) := by decide +kernel
theorem d_Pen_pick_22 : decode prog_6_method_3_code 22 = .ok (.iconst 0, 1) := by decide +kernel
theorem d_Pen_pick_23 : decode prog_6_method_3_code 23 = .ok (.invokevirtual 34, 3) := by decide +kernel
theorem d_Pen_pick_26 : decode prog_6_method_3_code 26 = .ok (.aload_n 0, 1) := by decide +kernel
theorem d_Pen_pick_27 : decode prog_6_method_3_code 27 = .ok (.getfield 9, 3) := by decide +kernel
theorem d_Pen_pick_30 : decode prog_6_method_3_code 30 = .ok (.iload_n 2, 1) := by decide +kernel
theorem d_Pen_pick_31 : decode prog_6_method_3_code 31 = .ok (.aload_n 0, 1) := by decide +kernel
theorem d_Pen_pick_32 : decode prog_6_method_3_code 32 = .ok (.getfield 9, 3) := by decide +kernel
theorem d_Pen_pick_35 : decode prog_6_method_3_code 35 = .ok (.iload_n 2, 1) := by decide +kernel
theorem d_Pen_pick_36 : decode prog_6_method_3_code 36 = .ok (.invokevirtual 37, 3) := by decide +kernel
theorem d_Pen_pick_39 : decode prog_6_method_3_code 39 = .ok (.iload_n 1, 1) := by decide +kernel
theorem d_Pen_pick_40 : decode prog_6_method_3_code 40 = .ok (.bipush 7, 2) := by decide +kernel
theorem d_Pen_pick_42 : decode prog_6_method_3_code 42 = .ok (.aload_n 0, 1) := by decide +kernel
theorem d_Pen_pick_43 : decode prog_6_method_3_code 43 = .ok (.getfield 31, 3) := by decide +kernel
theorem d_Pen_pick_46 : decode prog_6_method_3_code 46 = .ok (.bipush 7, 2) := by decide +kernel
theorem d_Pen_pick_48 : decode prog_6_method_3_code 48 = .ok (.iand, 1) := by decide +kernel
theorem d_Pen_pick_49 : decode prog_6_method_3_code 49 = .ok (.isub, 1) := by decide +kernel
theorem d_Pen_pick_50 : decode prog_6_method_3_code 50 = .ok (.ishl, 1) := by decide +kernel
theorem d_Pen_pick_51 : decode prog_6_method_3_code 51 = .ok (.ior, 1) := by decide +kernel
theorem d_Pen_pick_52 : decode prog_6_method_3_code 52 = .ok (.invokevirtual 41, 3) := by decide +kernel
theorem d_Pen_pick_55 : decode prog_6_method_3_code 55 = .ok (.iload_n 1, 1) := by decide +kernel
theorem d_Pen_pick_56 : decode prog_6_method_3_code 56 = .ok (.ireturn, 1) := by decide +kernel
theorem d_Pen_start_0 : decode prog_6_method_2_code 0 = .ok (.aload_n 0, 1) := by decide +kernel
theorem d_Pen_start_1 : decode prog_6_method_2_code 1 = .ok (.iload_n 1, 1) := by decide +kernel
theorem d_Pen_start_2 : decode prog_6_method_2_code 2 = .ok (.sipush 19200, 3) := by decide +kernel
theorem d_Pen_start_5 : decode prog_6_method_2_code 5 = .ok (.invokestatic 15, 3) := by decide +kernel
theorem d_Pen_start_8 : decode prog_6_method_2_code 8 = .ok (.invokespecial 21, 3) := by decide +kernel
theorem d_Pen_start_11 : decode prog_6_method_2_code 11 = .ok (.aload_n 0, 1) := by decide +kernel
theorem d_Pen_start_12 : decode prog_6_method_2_code 12 = .ok (.getfield 9, 3) := by decide +kernel
theorem d_Pen_start_15 : decode prog_6_method_2_code 15 = .ok (.iconst 0, 1) := by decide +kernel
theorem d_Pen_start_16 : decode prog_6_method_2_code 16 = .ok (.putfield 25, 3) := by decide +kernel
theorem d_Pen_start_19 : decode prog_6_method_2_code 19 = .ok (.return_, 1) := by decide +kernel
theorem d_Picture_begin_0 : decode prog_7_method_5_code 0 = .ok (.aload_n 0, 1) := by decide +kernel
theorem d_Picture_begin_1 : decode prog_7_method_5_code 1 = .ok (.getfield 12, 3) := by decide +kernel
theorem d_Picture_begin_4 : decode prog_7_method_5_code 4 = .ok (.iload_n 1, 1) := by decide +kernel
theorem d_Picture_begin_5 : decode prog_7_method_5_code 5 = .ok (.iload_n 2, 1) := by decide +kernel
theorem d_Picture_begin_6 : decode prog_7_method_5_code 6 = .ok (.invokevirtual 80, 3) := by decide +kernel
theorem d_Picture_begin_9 : decode prog_7_method_5_code 9 = .ok (.aload_n 0, 1) := by decide +kernel
theorem d_Picture_begin_10 : decode prog_7_method_5_code 10 = .ok (.getfield 22, 3) := by decide +kernel
theorem d_Picture_begin_13 : decode prog_7_method_5_code 13 = .ok (.iconst 0, 1) := by decide +kernel
theorem d_Picture_begin_14 : decode prog_7_method_5_code 14 = .ok (.invokestatic 84, 3) := by decide +kernel
theorem d_Picture_begin_17 : decode prog_7_method_5_code 17 = .ok (.aload_n 0, 1) := by decide +kernel
theorem d_Picture_begin_18 : decode prog_7_method_5_code 18 = .ok (.iload_n 3, 1) := by decide +kernel
theorem d_Picture_begin_19 : decode prog_7_method_5_code 19 = .ok (.putfield 77, 3) := by decide +kernel
theorem d_Picture_begin_22 : decode prog_7_method_5_code 22 = .ok (.return_, 1) := by decide +kernel
theorem d_Picture_coverRun_0 : decode prog_7_method_2_code 0 = .ok (.iload_n 3, 1) := by decide +kernel
theorem d_Picture_coverRun_1 : decode prog_7_method_2_code 1 = .ok (.aload_n 0, 1) := by decide +kernel
theorem d_Picture_coverRun_2 : decode prog_7_method_2_code 2 = .ok (.getfield 12, 3) := by decide +kernel
theorem d_Picture_coverRun_5 : decode prog_7_method_2_code 5 = .ok (.getfield 34, 3) := by decide +kernel
theorem d_Picture_coverRun_8 : decode prog_7_method_2_code 8 = .ok (.iload_n 1, 1) := by decide +kernel
theorem d_Picture_coverRun_9 : decode prog_7_method_2_code 9 = .ok (.isub, 1) := by decide +kernel
theorem d_Picture_coverRun_10 : decode prog_7_method_2_code 10 = .ok (.invokestatic 38, 3) := by decide +kernel
theorem d_Picture_coverRun_13 : decode prog_7_method_2_code 13 = .ok (.istore 5, 2) := by decide +kernel
theorem d_Picture_coverRun_15 : decode prog_7_method_2_code 15 = .ok (.iconst 0, 1) := by decide +kernel
theorem d_Picture_coverRun_16 : decode prog_7_method_2_code 16 = .ok (.istore 6, 2) := by decide +kernel
theorem d_Picture_coverRun_18 : decode prog_7_method_2_code 18 = .ok (.iconst 0, 1) := by decide +kernel
theorem d_Picture_coverRun_19 : decode prog_7_method_2_code 19 = .ok (.istore 7, 2) := by decide +kernel
theorem d_Picture_coverRun_21 : decode prog_7_method_2_code 21 = .ok (.iload 7, 2) := by decide +kernel
theorem d_Picture_coverRun_23 : decode prog_7_method_2_code 23 = .ok (.iload 5, 2) := by decide +kernel
theorem d_Picture_coverRun_25 : decode prog_7_method_2_code 25 = .ok (.if_icmp .ge 49, 3) := by decide +kernel
theorem d_Picture_coverRun_28 : decode prog_7_method_2_code 28 = .ok (.iload_n 1, 1) := by decide +kernel
theorem d_Picture_coverRun_29 : decode prog_7_method_2_code 29 = .ok (.iload 7, 2) := by decide +kernel
theorem d_Picture_coverRun_31 : decode prog_7_method_2_code 31 = .ok (.iadd, 1) := by decide +kernel
theorem d_Picture_coverRun_32 : decode prog_7_method_2_code 32 = .ok (.iload_n 2, 1) := by decide +kernel
theorem d_Picture_coverRun_33 : decode prog_7_method_2_code 33 = .ok (.invokestatic 44, 3) := by decide +kernel
theorem d_Picture_coverRun_36 : decode prog_7_method_2_code 36 = .ok (.istore 8, 2) := by decide +kernel
theorem d_Picture_coverRun_38 : decode prog_7_method_2_code 38 = .ok (.aload_n 0, 1) := by decide +kernel
theorem d_Picture_coverRun_39 : decode prog_7_method_2_code 39 = .ok (.getfield 12, 3) := by decide +kernel
theorem d_Picture_coverRun_42 : decode prog_7_method_2_code 42 = .ok (.getfield 47, 3) := by decide +kernel
theorem d_Picture_coverRun_45 : decode prog_7_method_2_code 45 = .ok (.iload 8, 2) := by decide +kernel
theorem d_Picture_coverRun_47 : decode prog_7_method_2_code 47 = .ok (.baload, 1) := by decide +kernel
theorem d_Picture_coverRun_48 : decode prog_7_method_2_code 48 = .ok (.iload 4, 2) := by decide +kernel
theorem d_Picture_coverRun_50 : decode prog_7_method_2_code 50 = .ok (.if_icmp .eq 18, 3) := by decide +kernel
theorem d_Picture_coverRun_53 : decode prog_7_method_2_code 53 = .ok (.aload_n 0, 1) := by decide +kernel
theorem d_Picture_coverRun_54 : decode prog_7_method_2_code 54 = .ok (.getfield 12, 3) := by decide +kernel
theorem d_Picture_coverRun_57 : decode prog_7_method_2_code 57 = .ok (.getfield 47, 3) := by decide +kernel
theorem d_Picture_coverRun_60 : decode prog_7_method_2_code 60 = .ok (.iload 8, 2) := by decide +kernel
theorem d_Picture_coverRun_62 : decode prog_7_method_2_code 62 = .ok (.iload 4, 2) := by decide +kernel
theorem d_Picture_coverRun_64 : decode prog_7_method_2_code 64 = .ok (.bastore, 1) := by decide +kernel
theorem d_Picture_coverRun_65 : decode prog_7_method_2_code 65 = .ok (.iinc 6 1, 3) := by decide +kernel
theorem d_Picture_coverRun_68 : decode prog_7_method_2_code 68 = .ok (.iinc 7 1, 3) := by decide +kernel
theorem d_Picture_coverRun_71 : decode prog_7_method_2_code 71 = .ok (.goto (-50), 3) := by decide +kernel
theorem d_Picture_coverRun_74 : decode prog_7_method_2_code 74 = .ok (.aload_n 0, 1) := by decide +kernel
theorem d_Picture_coverRun_75 : decode prog_7_method_2_code 75 = .ok (.aload_n 0, 1) := by decide +kernel
theorem d_Picture_coverRun_76 : decode prog_7_method_2_code 76 = .ok (.getfield 51, 3) := by decide +kernel
theorem d_Picture_coverRun_79 : decode prog_7_method_2_code 79 = .ok (.ifCond .ne 8, 3) := by decide +kernel
theorem d_Picture_coverRun_82 : decode prog_7_method_2_code 82 = .ok (.iload 6, 2) := by decide +kernel
theorem d_Picture_coverRun_84 : decode prog_7_method_2_code 84 = .ok (.ifCond .le 7, 3) := by decide +kernel
theorem d_Picture_coverRun_87 : decode prog_7_method_2_code 87 = .ok (.iconst 1, 1) := by decide +kernel
theorem d_Picture_coverRun_88 : decode prog_7_method_2_code 88 = .ok (.goto 4, 3) := by decide +kernel
theorem d_Picture_coverRun_91 : decode prog_7_method_2_code 91 = .ok (.iconst 0, 1) := by decide +kernel
theorem d_Picture_coverRun_92 : decode prog_7_method_2_code 92 = .ok (.putfield 51, 3) := by decide +kernel
theorem d_Picture_coverRun_95 : decode prog_7_method_2_code 95 = .ok (.iload 6, 2) := by decide +kernel
theorem d_Picture_coverRun_97 : decode prog_7_method_2_code 97 = .ok (.ireturn, 1) := by decide +kernel
theorem d_Picture_distance_0 : decode prog_7_method_7_code 0 = .ok (.lconst 0, 1) := by decide +kernel
theorem d_Picture_distance_1 : decode prog_7_method_7_code 1 = .ok (.lstore_n 3, 1) := by decide +kernel
theorem d_Picture_distance_2 : decode prog_7_method_7_code 2 = .ok (.iconst 0, 1) := by decide +kernel
theorem d_Picture_distance_3 : decode prog_7_method_7_code 3 = .ok (.istore 5, 2) := by decide +kernel
theorem d_Picture_distance_5 : decode prog_7_method_7_code 5 = .ok (.iload 5, 2) := by decide +kernel
theorem d_Picture_distance_7 : decode prog_7_method_7_code 7 = .ok (.sipush 256, 3) := by decide +kernel
theorem d_Picture_distance_10 : decode prog_7_method_7_code 10 = .ok (.if_icmp .ge 47, 3) := by decide +kernel
theorem d_Picture_distance_13 : decode prog_7_method_7_code 13 = .ok (.aload_n 0, 1) := by decide +kernel
theorem d_Picture_distance_14 : decode prog_7_method_7_code 14 = .ok (.getfield 12, 3) := by decide +kernel
theorem d_Picture_distance_17 : decode prog_7_method_7_code 17 = .ok (.getfield 93, 3) := by decide +kernel
theorem d_Picture_distance_20 : decode prog_7_method_7_code 20 = .ok (.iload 5, 2) := by decide +kernel
theorem d_Picture_distance_22 : decode prog_7_method_7_code 22 = .ok (.iaload, 1) := by decide +kernel
theorem d_Picture_distance_23 : decode prog_7_method_7_code 23 = .ok (.iload_n 2, 1) := by decide +kernel
theorem d_Picture_distance_24 : decode prog_7_method_7_code 24 = .ok (.if_icmp .ne 27, 3) := by decide +kernel
theorem d_Picture_distance_27 : decode prog_7_method_7_code 27 = .ok (.aload_n 0, 1) := by decide +kernel
theorem d_Picture_distance_28 : decode prog_7_method_7_code 28 = .ok (.getfield 22, 3) := by decide +kernel
theorem d_Picture_distance_31 : decode prog_7_method_7_code 31 = .ok (.iload 5, 2) := by decide +kernel
theorem d_Picture_distance_33 : decode prog_7_method_7_code 33 = .ok (.iaload, 1) := by decide +kernel
theorem d_Picture_distance_34 : decode prog_7_method_7_code 34 = .ok (.i2l, 1) := by decide +kernel
theorem d_Picture_distance_35 : decode prog_7_method_7_code 35 = .ok (.aload_n 1, 1) := by decide +kernel
theorem d_Picture_distance_36 : decode prog_7_method_7_code 36 = .ok (.iload 5, 2) := by decide +kernel
theorem d_Picture_distance_38 : decode prog_7_method_7_code 38 = .ok (.iaload, 1) := by decide +kernel
theorem d_Picture_distance_39 : decode prog_7_method_7_code 39 = .ok (.i2l, 1) := by decide +kernel
theorem d_Picture_distance_40 : decode prog_7_method_7_code 40 = .ok (.lsub, 1) := by decide +kernel
theorem d_Picture_distance_41 : decode prog_7_method_7_code 41 = .ok (.lstore 6, 2) := by decide +kernel
theorem d_Picture_distance_43 : decode prog_7_method_7_code 43 = .ok (.lload_n 3, 1) := by decide +kernel
theorem d_Picture_distance_44 : decode prog_7_method_7_code 44 = .ok (.lload 6, 2) := by decide +kernel
theorem d_Picture_distance_46 : decode prog_7_method_7_code 46 = .ok (.lload 6, 2) := by decide +kernel
theorem d_Picture_distance_48 : decode prog_7_method_7_code 48 = .ok (.lmul, 1) := by decide +kernel
theorem d_Picture_distance_49 : decode prog_7_method_7_code 49 = .ok (.ladd, 1) := by decide +kernel
theorem d_Picture_distance_50 : decode prog_7_method_7_code 50 = .ok (.lstore_n 3, 1) := by decide +kernel
theorem d_Picture_distance_51 : decode prog_7_method_7_code 51 = .ok (.iinc 5 1, 3) := by decide +kernel
theorem d_Picture_distance_54 : decode prog_7_method_7_code 54 = .ok (.goto (-49), 3) := by decide +kernel
theorem d_Picture_distance_57 : decode prog_7_method_7_code 57 = .ok (.lload_n 3, 1) := by decide +kernel
theorem d_Picture_distance_58 : decode prog_7_method_7_code 58 = .ok (.lreturn, 1) := by decide +kernel
theorem d_Picture_fillRun_0 : decode prog_7_method_3_code 0 = .ok (.iload_n 3, 1) := by decide +kernel
theorem d_Picture_fillRun_1 : decode prog_7_method_3_code 1 = .ok (.aload_n 0, 1) := by decide +kernel
theorem d_Picture_fillRun_2 : decode prog_7_method_3_code 2 = .ok (.getfield 12, 3) := by decide +kernel
theorem d_Picture_fillRun_5 : decode prog_7_method_3_code 5 = .ok (.getfield 34, 3) := by decide +kernel
theorem d_Picture_fillRun_8 : decode prog_7_method_3_code 8 = .ok (.iload_n 1, 1) := by decide +kernel
theorem d_Picture_fillRun_9 : decode prog_7_method_3_code 9 = .ok (.isub, 1) := by decide +kernel
theorem d_Picture_fillRun_10 : decode prog_7_method_3_code 10 = .ok (.invokestatic 38, 3) := by decide +kernel
theorem d_Picture_fillRun_13 : decode prog_7_method_3_code 13 = .ok (.istore 5, 2) := by decide +kernel
theorem d_Picture_fillRun_15 : decode prog_7_method_3_code 15 = .ok (.iconst 0, 1) := by decide +kernel
theorem d_Picture_fillRun_16 : decode prog_7_method_3_code 16 = .ok (.istore 6, 2) := by decide +kernel
theorem d_Picture_fillRun_18 : decode prog_7_method_3_code 18 = .ok (.iconst 0, 1) := by decide +kernel
theorem d_Picture_fillRun_19 : decode prog_7_method_3_code 19 = .ok (.istore 7, 2) := by decide +kernel
theorem d_Picture_fillRun_21 : decode prog_7_method_3_code 21 = .ok (.iload 7, 2) := by decide +kernel
theorem d_Picture_fillRun_23 : decode prog_7_method_3_code 23 = .ok (.iload 5, 2) := by decide +kernel
theorem d_Picture_fillRun_25 : decode prog_7_method_3_code 25 = .ok (.if_icmp .ge 43, 3) := by decide +kernel
theorem d_Picture_fillRun_28 : decode prog_7_method_3_code 28 = .ok (.iload_n 1, 1) := by decide +kernel
theorem d_Picture_fillRun_29 : decode prog_7_method_3_code 29 = .ok (.iload 7, 2) := by decide +kernel
theorem d_Picture_fillRun_31 : decode prog_7_method_3_code 31 = .ok (.iadd, 1) := by decide +kernel
theorem d_Picture_fillRun_32 : decode prog_7_method_3_code 32 = .ok (.iload_n 2, 1) := by decide +kernel
theorem d_Picture_fillRun_33 : decode prog_7_method_3_code 33 = .ok (.invokestatic 44, 3) := by decide +kernel
theorem d_Picture_fillRun_36 : decode prog_7_method_3_code 36 = .ok (.istore 8, 2) := by decide +kernel
theorem d_Picture_fillRun_38 : decode prog_7_method_3_code 38 = .ok (.aload_n 0, 1) := by decide +kernel
theorem d_Picture_fillRun_39 : decode prog_7_method_3_code 39 = .ok (.getfield 18, 3) := by decide +kernel
theorem d_Picture_fillRun_42 : decode prog_7_method_3_code 42 = .ok (.iload 8, 2) := by decide +kernel
theorem d_Picture_fillRun_44 : decode prog_7_method_3_code 44 = .ok (.iaload, 1) := by decide +kernel
theorem d_Picture_fillRun_45 : decode prog_7_method_3_code 45 = .ok (.iload 4, 2) := by decide +kernel
theorem d_Picture_fillRun_47 : decode prog_7_method_3_code 47 = .ok (.if_icmp .eq 15, 3) := by decide +kernel
theorem d_Picture_fillRun_50 : decode prog_7_method_3_code 50 = .ok (.aload_n 0, 1) := by decide +kernel
theorem d_Picture_fillRun_51 : decode prog_7_method_3_code 51 = .ok (.getfield 18, 3) := by decide +kernel
theorem d_Picture_fillRun_54 : decode prog_7_method_3_code 54 = .ok (.iload 8, 2) := by decide +kernel
theorem d_Picture_fillRun_56 : decode prog_7_method_3_code 56 = .ok (.iload 4, 2) := by decide +kernel
theorem d_Picture_fillRun_58 : decode prog_7_method_3_code 58 = .ok (.iastore, 1) := by decide +kernel
theorem d_Picture_fillRun_59 : decode prog_7_method_3_code 59 = .ok (.iinc 6 1, 3) := by decide +kernel
theorem d_Picture_fillRun_62 : decode prog_7_method_3_code 62 = .ok (.iinc 7 1, 3) := by decide +kernel
theorem d_Picture_fillRun_65 : decode prog_7_method_3_code 65 = .ok (.goto (-44), 3) := by decide +kernel
theorem d_Picture_fillRun_68 : decode prog_7_method_3_code 68 = .ok (.aload_n 0, 1) := by decide +kernel
theorem d_Picture_fillRun_69 : decode prog_7_method_3_code 69 = .ok (.aload_n 0, 1) := by decide +kernel
theorem d_Picture_fillRun_70 : decode prog_7_method_3_code 70 = .ok (.getfield 51, 3) := by decide +kernel
theorem d_Picture_fillRun_73 : decode prog_7_method_3_code 73 = .ok (.ifCond .ne 8, 3) := by decide +kernel
theorem d_Picture_fillRun_76 : decode prog_7_method_3_code 76 = .ok (.iload 6, 2) := by decide +kernel
theorem d_Picture_fillRun_78 : decode prog_7_method_3_code 78 = .ok (.ifCond .le 7, 3) := by decide +kernel
theorem d_Picture_fillRun_81 : decode prog_7_method_3_code 81 = .ok (.iconst 1, 1) := by decide +kernel
theorem d_Picture_fillRun_82 : decode prog_7_method_3_code 82 = .ok (.goto 4, 3) := by decide +kernel
theorem d_Picture_fillRun_85 : decode prog_7_method_3_code 85 = .ok (.iconst 0, 1) := by decide +kernel
theorem d_Picture_fillRun_86 : decode prog_7_method_3_code 86 = .ok (.putfield 51, 3) := by decide +kernel
theorem d_Picture_fillRun_89 : decode prog_7_method_3_code 89 = .ok (.iload 6, 2) := by decide +kernel
theorem d_Picture_fillRun_91 : decode prog_7_method_3_code 91 = .ok (.ireturn, 1) := by decide +kernel
theorem d_Picture_renew_0 : decode prog_7_method_4_code 0 = .ok (.aload_n 0, 1) := by decide +kernel
theorem d_Picture_renew_1 : decode prog_7_method_4_code 1 = .ok (.getfield 51, 3) := by decide +kernel
theorem d_Picture_renew_4 : decode prog_7_method_4_code 4 = .ok (.ifCond .ne 4, 3) := by decide +kernel
theorem d_Picture_renew_7 : decode prog_7_method_4_code 7 = .ok (.return_, 1) := by decide +kernel
theorem d_Picture_renew_8 : decode prog_7_method_4_code 8 = .ok (.aload_n 0, 1) := by decide +kernel
theorem d_Picture_renew_9 : decode prog_7_method_4_code 9 = .ok (.getfield 12, 3) := by decide +kernel
theorem d_Picture_renew_12 : decode prog_7_method_4_code 12 = .ok (.invokevirtual 55, 3) := by decide +kernel
theorem d_Picture_renew_15 : decode prog_7_method_4_code 15 = .ok (.aload_n 0, 1) := by decide +kernel
theorem d_Picture_renew_16 : decode prog_7_method_4_code 16 = .ok (.getfield 18, 3) := by decide +kernel
theorem d_Picture_renew_19 : decode prog_7_method_4_code 19 = .ok (.iconst 0, 1) := by decide +kernel
theorem d_Picture_renew_20 : decode prog_7_method_4_code 20 = .ok (.aload_n 0, 1) := by decide +kernel
theorem d_Picture_renew_21 : decode prog_7_method_4_code 21 = .ok (.getfield 22, 3) := by decide +kernel
theorem d_Picture_renew_24 : decode prog_7_method_4_code 24 = .ok (.iconst 0, 1) := by decide +kernel
theorem d_Picture_renew_25 : decode prog_7_method_4_code 25 = .ok (.sipush 256, 3) := by decide +kernel
theorem d_Picture_renew_28 : decode prog_7_method_4_code 28 = .ok (.invokestatic 58, 3) := by decide +kernel
theorem d_Picture_renew_31 : decode prog_7_method_4_code 31 = .ok (.aload_n 0, 1) := by decide +kernel
theorem d_Picture_renew_32 : decode prog_7_method_4_code 32 = .ok (.getfield 30, 3) := by decide +kernel
theorem d_Picture_renew_35 : decode prog_7_method_4_code 35 = .ok (.invokevirtual 64, 3) := by decide +kernel
theorem d_Picture_renew_38 : decode prog_7_method_4_code 38 = .ok (.iconst 0, 1) := by decide +kernel
theorem d_Picture_renew_39 : decode prog_7_method_4_code 39 = .ok (.istore_n 1, 1) := by decide +kernel
theorem d_Picture_renew_40 : decode prog_7_method_4_code 40 = .ok (.iconst 0, 1) := by decide +kernel
theorem d_Picture_renew_41 : decode prog_7_method_4_code 41 = .ok (.istore_n 2, 1) := by decide +kernel
theorem d_Picture_renew_42 : decode prog_7_method_4_code 42 = .ok (.iload_n 2, 1) := by decide +kernel
theorem d_Picture_renew_43 : decode prog_7_method_4_code 43 = .ok (.sipush 256, 3) := by decide +kernel
theorem d_Picture_renew_46 : decode prog_7_method_4_code 46 = .ok (.if_icmp .ge 35, 3) := by decide +kernel
theorem d_Picture_renew_49 : decode prog_7_method_4_code 49 = .ok (.aload_n 0, 1) := by decide +kernel
theorem d_Picture_renew_50 : decode prog_7_method_4_code 50 = .ok (.getfield 12, 3) := by decide +kernel
theorem d_Picture_renew_53 : decode prog_7_method_4_code 53 = .ok (.getfield 47, 3) := by decide +kernel
theorem d_Picture_renew_56 : decode prog_7_method_4_code 56 = .ok (.iload_n 2, 1) := by decide +kernel
theorem d_Picture_renew_57 : decode prog_7_method_4_code 57 = .ok (.baload, 1) := by decide +kernel
theorem d_Picture_renew_58 : decode prog_7_method_4_code 58 = .ok (.ifCond .eq 17, 3) := by decide +kernel
theorem d_Picture_renew_61 : decode prog_7_method_4_code 61 = .ok (.iload_n 1, 1) := by decide +kernel
theorem d_Picture_renew_62 : decode prog_7_method_4_code 62 = .ok (.aload_n 0, 1) := by decide +kernel
theorem d_Picture_renew_63 : decode prog_7_method_4_code 63 = .ok (.getfield 22, 3) := by decide +kernel
theorem d_Picture_renew_66 : decode prog_7_method_4_code 66 = .ok (.iload_n 2, 1) := by decide +kernel
theorem d_Picture_renew_67 : decode prog_7_method_4_code 67 = .ok (.iaload, 1) := by decide +kernel
theorem d_Picture_renew_68 : decode prog_7_method_4_code 68 = .ok (.invokestatic 67, 3) := by decide +kernel
theorem d_Picture_renew_71 : decode prog_7_method_4_code 71 = .ok (.invokestatic 71, 3) := by decide +kernel
theorem d_Picture_renew_74 : decode prog_7_method_4_code 74 = .ok (.istore_n 1, 1) := by decide +kernel
theorem d_Picture_renew_75 : decode prog_7_method_4_code 75 = .ok (.iinc 2 1, 3) := by decide +kernel
theorem d_Picture_renew_78 : decode prog_7_method_4_code 78 = .ok (.goto (-36), 3) := by decide +kernel
theorem d_Picture_renew_81 : decode prog_7_method_4_code 81 = .ok (.aload_n 0, 1) := by decide +kernel
theorem d_Picture_renew_82 : decode prog_7_method_4_code 82 = .ok (.iload_n 1, 1) := by decide +kernel
theorem d_Picture_renew_83 : decode prog_7_method_4_code 83 = .ok (.invokestatic 74, 3) := by decide +kernel
theorem d_Picture_renew_86 : decode prog_7_method_4_code 86 = .ok (.putfield 77, 3) := by decide +kernel
theorem d_Picture_renew_89 : decode prog_7_method_4_code 89 = .ok (.aload_n 0, 1) := by decide +kernel
theorem d_Picture_renew_90 : decode prog_7_method_4_code 90 = .ok (.iconst 0, 1) := by decide +kernel
theorem d_Picture_renew_91 : decode prog_7_method_4_code 91 = .ok (.putfield 51, 3) := by decide +kernel
theorem d_Picture_renew_94 : decode prog_7_method_4_code 94 = .ok (.return_, 1) := by decide +kernel
theorem d_Picture_restore_0 : decode prog_7_method_6_code 0 = .ok (.aload_n 1, 1) := by decide +kernel
theorem d_Picture_restore_1 : decode prog_7_method_6_code 1 = .ok (.iconst 0, 1) := by decide +kernel
theorem d_Picture_restore_2 : decode prog_7_method_6_code 2 = .ok (.aload_n 0, 1) := by decide +kernel
theorem d_Picture_restore_3 : decode prog_7_method_6_code 3 = .ok (.getfield 22, 3) := by decide +kernel
theorem d_Picture_restore_6 : decode prog_7_method_6_code 6 = .ok (.iconst 0, 1) := by decide +kernel
theorem d_Picture_restore_7 : decode prog_7_method_6_code 7 = .ok (.sipush 256, 3) := by decide +kernel
theorem d_Picture_restore_10 : decode prog_7_method_6_code 10 = .ok (.invokestatic 58, 3) := by decide +kernel
theorem d_Picture_restore_13 : decode prog_7_method_6_code 13 = .ok (.aload_n 0, 1) := by decide +kernel
theorem d_Picture_restore_14 : decode prog_7_method_6_code 14 = .ok (.getfield 30, 3) := by decide +kernel
theorem d_Picture_restore_17 : decode prog_7_method_6_code 17 = .ok (.invokevirtual 90, 3) := by decide +kernel
theorem d_Picture_restore_20 : decode prog_7_method_6_code 20 = .ok (.iconst 0, 1) := by decide +kernel
theorem d_Picture_restore_21 : decode prog_7_method_6_code 21 = .ok (.istore_n 2, 1) := by decide +kernel
theorem d_Picture_restore_22 : decode prog_7_method_6_code 22 = .ok (.iload_n 2, 1) := by decide +kernel
theorem d_Picture_restore_23 : decode prog_7_method_6_code 23 = .ok (.sipush 256, 3) := by decide +kernel
theorem d_Picture_restore_26 : decode prog_7_method_6_code 26 = .ok (.if_icmp .ge 31, 3) := by decide +kernel
theorem d_Picture_restore_29 : decode prog_7_method_6_code 29 = .ok (.aload_n 0, 1) := by decide +kernel
theorem d_Picture_restore_30 : decode prog_7_method_6_code 30 = .ok (.getfield 18, 3) := by decide +kernel
theorem d_Picture_restore_33 : decode prog_7_method_6_code 33 = .ok (.iload_n 2, 1) := by decide +kernel
theorem d_Picture_restore_34 : decode prog_7_method_6_code 34 = .ok (.iconst 0, 1) := by decide +kernel
theorem d_Picture_restore_35 : decode prog_7_method_6_code 35 = .ok (.sipush 255, 3) := by decide +kernel
theorem d_Picture_restore_38 : decode prog_7_method_6_code 38 = .ok (.aload_n 0, 1) := by decide +kernel
theorem d_Picture_restore_39 : decode prog_7_method_6_code 39 = .ok (.getfield 22, 3) := by decide +kernel
theorem d_Picture_restore_42 : decode prog_7_method_6_code 42 = .ok (.iload_n 2, 1) := by decide +kernel
theorem d_Picture_restore_43 : decode prog_7_method_6_code 43 = .ok (.iaload, 1) := by decide +kernel
theorem d_Picture_restore_44 : decode prog_7_method_6_code 44 = .ok (.invokestatic 38, 3) := by decide +kernel
theorem d_Picture_restore_47 : decode prog_7_method_6_code 47 = .ok (.invokestatic 71, 3) := by decide +kernel
theorem d_Picture_restore_50 : decode prog_7_method_6_code 50 = .ok (.iastore, 1) := by decide +kernel
theorem d_Picture_restore_51 : decode prog_7_method_6_code 51 = .ok (.iinc 2 1, 3) := by decide +kernel
theorem d_Picture_restore_54 : decode prog_7_method_6_code 54 = .ok (.goto (-32), 3) := by decide +kernel
theorem d_Picture_restore_57 : decode prog_7_method_6_code 57 = .ok (.return_, 1) := by decide +kernel
theorem d_Picture_wipe_0 : decode prog_7_method_8_code 0 = .ok (.aload_n 0, 1) := by decide +kernel
theorem d_Picture_wipe_1 : decode prog_7_method_8_code 1 = .ok (.getfield 12, 3) := by decide +kernel
theorem d_Picture_wipe_4 : decode prog_7_method_8_code 4 = .ok (.aload_n 0, 1) := by decide +kernel
theorem d_Picture_wipe_5 : decode prog_7_method_8_code 5 = .ok (.getfield 12, 3) := by decide +kernel
theorem d_Picture_wipe_8 : decode prog_7_method_8_code 8 = .ok (.getfield 34, 3) := by decide +kernel
theorem d_Picture_wipe_11 : decode prog_7_method_8_code 11 = .ok (.aload_n 0, 1) := by decide +kernel
theorem d_Picture_wipe_12 : decode prog_7_method_8_code 12 = .ok (.getfield 12, 3) := by decide +kernel
theorem d_Picture_wipe_15 : decode prog_7_method_8_code 15 = .ok (.getfield 96, 3) := by decide +kernel
theorem d_Picture_wipe_18 : decode prog_7_method_8_code 18 = .ok (.invokevirtual 80, 3) := by decide +kernel
theorem d_Picture_wipe_21 : decode prog_7_method_8_code 21 = .ok (.aload_n 0, 1) := by decide +kernel
theorem d_Picture_wipe_22 : decode prog_7_method_8_code 22 = .ok (.getfield 18, 3) := by decide +kernel
theorem d_Picture_wipe_25 : decode prog_7_method_8_code 25 = .ok (.iconst 0, 1) := by decide +kernel
theorem d_Picture_wipe_26 : decode prog_7_method_8_code 26 = .ok (.invokestatic 84, 3) := by decide +kernel
theorem d_Picture_wipe_29 : decode prog_7_method_8_code 29 = .ok (.aload_n 0, 1) := by decide +kernel
theorem d_Picture_wipe_30 : decode prog_7_method_8_code 30 = .ok (.iconst 1, 1) := by decide +kernel
theorem d_Picture_wipe_31 : decode prog_7_method_8_code 31 = .ok (.putfield 51, 3) := by decide +kernel
theorem d_Picture_wipe_34 : decode prog_7_method_8_code 34 = .ok (.return_, 1) := by decide +kernel
theorem d_Shape_findParts_0 : decode prog_8_method_5_code 0 = .ok (.aload_n 0, 1) := by decide +kernel
theorem d_Shape_findParts_1 : decode prog_8_method_5_code 1 = .ok (.getfield 15, 3) := by decide +kernel
theorem d_Shape_findParts_4 : decode prog_8_method_5_code 4 = .ok (.iconst (-1), 1) := by decide +kernel
theorem d_Shape_findParts_5 : decode prog_8_method_5_code 5 = .ok (.invokestatic 46, 3) := by decide +kernel
theorem d_Shape_findParts_8 : decode prog_8_method_5_code 8 = .ok (.aload_n 0, 1) := by decide +kernel
theorem d_Shape_findParts_9 : decode prog_8_method_5_code 9 = .ok (.iconst 0, 1) := by decide +kernel
theorem d_Shape_findParts_10 : decode prog_8_method_5_code 10 = .ok (.putfield 52, 3) := by decide +kernel
theorem d_Shape_findParts_13 : decode prog_8_method_5_code 13 = .ok (.aload_n 0, 1) := by decide +kernel
theorem d_Shape_findParts_14 : decode prog_8_method_5_code 14 = .ok (.iconst 0, 1) := by decide +kernel
theorem d_Shape_findParts_15 : decode prog_8_method_5_code 15 = .ok (.putfield 55, 3) := by decide +kernel
theorem d_Shape_findParts_18 : decode prog_8_method_5_code 18 = .ok (.iconst 0, 1) := by decide +kernel
theorem d_Shape_findParts_19 : decode prog_8_method_5_code 19 = .ok (.istore_n 1, 1) := by decide +kernel
theorem d_Shape_findParts_20 : decode prog_8_method_5_code 20 = .ok (.iload_n 1, 1) := by decide +kernel
theorem d_Shape_findParts_21 : decode prog_8_method_5_code 21 = .ok (.aload_n 0, 1) := by decide +kernel
theorem d_Shape_findParts_22 : decode prog_8_method_5_code 22 = .ok (.getfield 32, 3) := by decide +kernel
theorem d_Shape_findParts_25 : decode prog_8_method_5_code 25 = .ok (.if_icmp .ge 65, 3) := by decide +kernel
theorem d_Shape_findParts_28 : decode prog_8_method_5_code 28 = .ok (.iconst 0, 1) := by decide +kernel
theorem d_Shape_findParts_29 : decode prog_8_method_5_code 29 = .ok (.istore_n 2, 1) := by decide +kernel
theorem d_Shape_findParts_30 : decode prog_8_method_5_code 30 = .ok (.iload_n 2, 1) := by decide +kernel
theorem d_Shape_findParts_31 : decode prog_8_method_5_code 31 = .ok (.aload_n 0, 1) := by decide +kernel
theorem d_Shape_findParts_32 : decode prog_8_method_5_code 32 = .ok (.getfield 28, 3) := by decide +kernel
theorem d_Shape_findParts_35 : decode prog_8_method_5_code 35 = .ok (.if_icmp .ge 49, 3) := by decide +kernel
theorem d_Shape_findParts_38 : decode prog_8_method_5_code 38 = .ok (.iload_n 2, 1) := by decide +kernel
theorem d_Shape_findParts_39 : decode prog_8_method_5_code 39 = .ok (.iload_n 1, 1) := by decide +kernel
theorem d_Shape_findParts_40 : decode prog_8_method_5_code 40 = .ok (.invokestatic 42, 3) := by decide +kernel
theorem d_Shape_findParts_43 : decode prog_8_method_5_code 43 = .ok (.istore_n 3, 1) := by decide +kernel
theorem d_Shape_findParts_44 : decode prog_8_method_5_code 44 = .ok (.aload_n 0, 1) := by decide +kernel
theorem d_Shape_findParts_45 : decode prog_8_method_5_code 45 = .ok (.getfield 9, 3) := by decide +kernel
theorem d_Shape_findParts_48 : decode prog_8_method_5_code 48 = .ok (.iload_n 3, 1) := by decide +kernel
theorem d_Shape_findParts_49 : decode prog_8_method_5_code 49 = .ok (.baload, 1) := by decide +kernel
theorem d_Shape_findParts_50 : decode prog_8_method_5_code 50 = .ok (.ifCond .eq 28, 3) := by decide +kernel
theorem d_Shape_findParts_53 : decode prog_8_method_5_code 53 = .ok (.aload_n 0, 1) := by decide +kernel
theorem d_Shape_findParts_54 : decode prog_8_method_5_code 54 = .ok (.getfield 15, 3) := by decide +kernel
theorem d_Shape_findParts_57 : decode prog_8_method_5_code 57 = .ok (.iload_n 3, 1) := by decide +kernel
theorem d_Shape_findParts_58 : decode prog_8_method_5_code 58 = .ok (.iaload, 1) := by decide +kernel
theorem d_Shape_findParts_59 : decode prog_8_method_5_code 59 = .ok (.iconst (-1), 1) := by decide +kernel
theorem d_Shape_findParts_60 : decode prog_8_method_5_code 60 = .ok (.if_icmp .ne 18, 3) := by decide +kernel
theorem d_Shape_findParts_63 : decode prog_8_method_5_code 63 = .ok (.aload_n 0, 1) := by decide +kernel
theorem d_Shape_findParts_64 : decode prog_8_method_5_code 64 = .ok (.getfield 52, 3) := by decide +kernel
theorem d_Shape_findParts_67 : decode prog_8_method_5_code 67 = .ok (.sipush 256, 3) := by decide +kernel
theorem d_Shape_findParts_70 : decode prog_8_method_5_code 70 = .ok (.if_icmp .ge 8, 3) := by decide +kernel
theorem d_Shape_findParts_73 : decode prog_8_method_5_code 73 = .ok (.aload_n 0, 1) := by decide +kernel
theorem d_Shape_findParts_74 : decode prog_8_method_5_code 74 = .ok (.iload_n 3, 1) := by decide +kernel
theorem d_Shape_findParts_75 : decode prog_8_method_5_code 75 = .ok (.invokevirtual 58, 3) := by decide +kernel
theorem d_Shape_findParts_78 : decode prog_8_method_5_code 78 = .ok (.iinc 2 1, 3) := by decide +kernel
theorem d_Shape_findParts_81 : decode prog_8_method_5_code 81 = .ok (.goto (-51), 3) := by decide +kernel
theorem d_Shape_findParts_84 : decode prog_8_method_5_code 84 = .ok (.iinc 1 1, 3) := by decide +kernel
theorem d_Shape_findParts_87 : decode prog_8_method_5_code 87 = .ok (.goto (-67), 3) := by decide +kernel
theorem d_Shape_findParts_90 : decode prog_8_method_5_code 90 = .ok (.return_, 1) := by decide +kernel
theorem d_Shape_has_0 : decode prog_8_method_3_code 0 = .ok (.iload_n 1, 1) := by decide +kernel
theorem d_Shape_has_1 : decode prog_8_method_3_code 1 = .ok (.ifCond .lt 27, 3) := by decide +kernel
theorem d_Shape_has_4 : decode prog_8_method_3_code 4 = .ok (.iload_n 1, 1) := by decide +kernel
theorem d_Shape_has_5 : decode prog_8_method_3_code 5 = .ok (.aload_n 0, 1) := by decide +kernel
theorem d_Shape_has_6 : decode prog_8_method_3_code 6 = .ok (.getfield 28, 3) := by decide +kernel
theorem d_Shape_has_9 : decode prog_8_method_3_code 9 = .ok (.if_icmp .ge 19, 3) := by decide +kernel
theorem d_Shape_has_12 : decode prog_8_method_3_code 12 = .ok (.iload_n 2, 1) := by decide +kernel
theorem d_Shape_has_13 : decode prog_8_method_3_code 13 = .ok (.ifCond .lt 15, 3) := by decide +kernel
theorem d_Shape_has_16 : decode prog_8_method_3_code 16 = .ok (.iload_n 2, 1) := by decide +kernel
theorem d_Shape_has_17 : decode prog_8_method_3_code 17 = .ok (.aload_n 0, 1) := by decide +kernel
theorem d_Shape_has_18 : decode prog_8_method_3_code 18 = .ok (.getfield 32, 3) := by decide +kernel
theorem d_Shape_has_21 : decode prog_8_method_3_code 21 = .ok (.if_icmp .ge 7, 3) := by decide +kernel
theorem d_Shape_has_24 : decode prog_8_method_3_code 24 = .ok (.iconst 1, 1) := by decide +kernel
theorem d_Shape_has_25 : decode prog_8_method_3_code 25 = .ok (.goto 4, 3) := by decide +kernel
theorem d_Shape_has_28 : decode prog_8_method_3_code 28 = .ok (.iconst 0, 1) := by decide +kernel
theorem d_Shape_has_29 : decode prog_8_method_3_code 29 = .ok (.ireturn, 1) := by decide +kernel
theorem d_Shape_join_0 : decode prog_8_method_7_code 0 = .ok (.aload_n 0, 1) := by decide +kernel
theorem d_Shape_join_1 : decode prog_8_method_7_code 1 = .ok (.getfield 9, 3) := by decide +kernel
theorem d_Shape_join_4 : decode prog_8_method_7_code 4 = .ok (.iload_n 1, 1) := by decide +kernel
theorem d_Shape_join_5 : decode prog_8_method_7_code 5 = .ok (.baload, 1) := by decide +kernel
theorem d_Shape_join_6 : decode prog_8_method_7_code 6 = .ok (.ifCond .eq 20, 3) := by decide +kernel
theorem d_Shape_join_9 : decode prog_8_method_7_code 9 = .ok (.aload_n 0, 1) := by decide +kernel
theorem d_Shape_join_10 : decode prog_8_method_7_code 10 = .ok (.getfield 15, 3) := by decide +kernel
theorem d_Shape_join_13 : decode prog_8_method_7_code 13 = .ok (.iload_n 1, 1) := by decide +kernel
theorem d_Shape_join_14 : decode prog_8_method_7_code 14 = .ok (.iaload, 1) := by decide +kernel
theorem d_Shape_join_15 : decode prog_8_method_7_code 15 = .ok (.iconst (-1), 1) := by decide +kernel
theorem d_Shape_join_16 : decode prog_8_method_7_code 16 = .ok (.if_icmp .ne 10, 3) := by decide +kernel
theorem d_Shape_join_19 : decode prog_8_method_7_code 19 = .ok (.iload_n 2, 1) := by decide +kernel
theorem d_Shape_join_20 : decode prog_8_method_7_code 20 = .ok (.sipush 256, 3) := by decide +kernel
theorem d_Shape_join_23 : decode prog_8_method_7_code 23 = .ok (.if_icmp .lt 5, 3) := by decide +kernel
theorem d_Shape_join_26 : decode prog_8_method_7_code 26 = .ok (.iload_n 2, 1) := by decide +kernel
theorem d_Shape_join_27 : decode prog_8_method_7_code 27 = .ok (.ireturn, 1) := by decide +kernel
theorem d_Shape_join_28 : decode prog_8_method_7_code 28 = .ok (.aload_n 0, 1) := by decide +kernel
theorem d_Shape_join_29 : decode prog_8_method_7_code 29 = .ok (.getfield 15, 3) := by decide +kernel
theorem d_Shape_join_32 : decode prog_8_method_7_code 32 = .ok (.iload_n 1, 1) := by decide +kernel
theorem d_Shape_join_33 : decode prog_8_method_7_code 33 = .ok (.aload_n 0, 1) := by decide +kernel
theorem d_Shape_join_34 : decode prog_8_method_7_code 34 = .ok (.getfield 52, 3) := by decide +kernel
theorem d_Shape_join_37 : decode prog_8_method_7_code 37 = .ok (.iastore, 1) := by decide +kernel
theorem d_Shape_join_38 : decode prog_8_method_7_code 38 = .ok (.aload_n 0, 1) := by decide +kernel
theorem d_Shape_join_39 : decode prog_8_method_7_code 39 = .ok (.getfield 25, 3) := by decide +kernel
theorem d_Shape_join_42 : decode prog_8_method_7_code 42 = .ok (.iload_n 2, 1) := by decide +kernel
theorem d_Shape_join_43 : decode prog_8_method_7_code 43 = .ok (.iload_n 1, 1) := by decide +kernel
theorem d_Shape_join_44 : decode prog_8_method_7_code 44 = .ok (.iastore, 1) := by decide +kernel
theorem d_Shape_join_45 : decode prog_8_method_7_code 45 = .ok (.iload_n 2, 1) := by decide +kernel
theorem d_Shape_join_46 : decode prog_8_method_7_code 46 = .ok (.iconst 1, 1) := by decide +kernel
theorem d_Shape_join_47 : decode prog_8_method_7_code 47 = .ok (.iadd, 1) := by decide +kernel
theorem d_Shape_join_48 : decode prog_8_method_7_code 48 = .ok (.ireturn, 1) := by decide +kernel
theorem d_Shape_partHere_0 : decode prog_8_method_4_code 0 = .ok (.aload_n 0, 1) := by decide +kernel
theorem d_Shape_partHere_1 : decode prog_8_method_4_code 1 = .ok (.iload_n 1, 1) := by decide +kernel
theorem d_Shape_partHere_2 : decode prog_8_method_4_code 2 = .ok (.iload_n 2, 1) := by decide +kernel
theorem d_Shape_partHere_3 : decode prog_8_method_4_code 3 = .ok (.invokevirtual 38, 3) := by decide +kernel
theorem d_Shape_partHere_6 : decode prog_8_method_4_code 6 = .ok (.ifCond .eq 16, 3) := by decide +kernel
theorem d_Shape_partHere_9 : decode prog_8_method_4_code 9 = .ok (.aload_n 0, 1) := by decide +kernel
theorem d_Shape_partHere_10 : decode prog_8_method_4_code 10 = .ok (.getfield 15, 3) := by decide +kernel
theorem d_Shape_partHere_13 : decode prog_8_method_4_code 13 = .ok (.iload_n 1, 1) := by decide +kernel
theorem d_Shape_partHere_14 : decode prog_8_method_4_code 14 = .ok (.iload_n 2, 1) := by decide +kernel
theorem d_Shape_partHere_15 : decode prog_8_method_4_code 15 = .ok (.invokestatic 42, 3) := by decide +kernel
theorem d_Shape_partHere_18 : decode prog_8_method_4_code 18 = .ok (.iaload, 1) := by decide +kernel
theorem d_Shape_partHere_19 : decode prog_8_method_4_code 19 = .ok (.goto 4, 3) := by decide +kernel
theorem d_Shape_partHere_22 : decode prog_8_method_4_code 22 = .ok (.iconst (-1), 1) := by decide +kernel
theorem d_Shape_partHere_23 : decode prog_8_method_4_code 23 = .ok (.ireturn, 1) := by decide +kernel
theorem d_Shape_resize_0 : decode prog_8_method_2_code 0 = .ok (.aload_n 0, 1) := by decide +kernel
theorem d_Shape_resize_1 : decode prog_8_method_2_code 1 = .ok (.iload_n 1, 1) := by decide +kernel
theorem d_Shape_resize_2 : decode prog_8_method_2_code 2 = .ok (.putfield 28, 3) := by decide +kernel
theorem d_Shape_resize_5 : decode prog_8_method_2_code 5 = .ok (.aload_n 0, 1) := by decide +kernel
theorem d_Shape_resize_6 : decode prog_8_method_2_code 6 = .ok (.iload_n 2, 1) := by decide +kernel
theorem d_Shape_resize_7 : decode prog_8_method_2_code 7 = .ok (.putfield 32, 3) := by decide +kernel
theorem d_Shape_resize_10 : decode prog_8_method_2_code 10 = .ok (.iconst 0, 1) := by decide +kernel
theorem d_Shape_resize_11 : decode prog_8_method_2_code 11 = .ok (.istore_n 3, 1) := by decide +kernel
theorem d_Shape_resize_12 : decode prog_8_method_2_code 12 = .ok (.iload_n 3, 1) := by decide +kernel
theorem d_Shape_resize_13 : decode prog_8_method_2_code 13 = .ok (.sipush 256, 3) := by decide +kernel
theorem d_Shape_resize_16 : decode prog_8_method_2_code 16 = .ok (.if_icmp .ge 16, 3) := by decide +kernel
theorem d_Shape_resize_19 : decode prog_8_method_2_code 19 = .ok (.aload_n 0, 1) := by decide +kernel
theorem d_Shape_resize_20 : decode prog_8_method_2_code 20 = .ok (.getfield 9, 3) := by decide +kernel
theorem d_Shape_resize_23 : decode prog_8_method_2_code 23 = .ok (.iload_n 3, 1) := by decide +kernel
theorem d_Shape_resize_24 : decode prog_8_method_2_code 24 = .ok (.iconst 0, 1) := by decide +kernel
theorem d_Shape_resize_25 : decode prog_8_method_2_code 25 = .ok (.bastore, 1) := by decide +kernel
theorem d_Shape_resize_26 : decode prog_8_method_2_code 26 = .ok (.iinc 3 1, 3) := by decide +kernel
theorem d_Shape_resize_29 : decode prog_8_method_2_code 29 = .ok (.goto (-17), 3) := by decide +kernel
theorem d_Shape_resize_32 : decode prog_8_method_2_code 32 = .ok (.aload_n 0, 1) := by decide +kernel
theorem d_Shape_resize_33 : decode prog_8_method_2_code 33 = .ok (.invokevirtual 35, 3) := by decide +kernel
theorem d_Shape_resize_36 : decode prog_8_method_2_code 36 = .ok (.return_, 1) := by decide +kernel
theorem d_Shape_spread_0 : decode prog_8_method_6_code 0 = .ok (.aload_n 0, 1) := by decide +kernel
theorem d_Shape_spread_1 : decode prog_8_method_6_code 1 = .ok (.iload_n 1, 1) := by decide +kernel
theorem d_Shape_spread_2 : decode prog_8_method_6_code 2 = .ok (.iconst 0, 1) := by decide +kernel
theorem d_Shape_spread_3 : decode prog_8_method_6_code 3 = .ok (.invokevirtual 62, 3) := by decide +kernel
theorem d_Shape_spread_6 : decode prog_8_method_6_code 6 = .ok (.istore_n 2, 1) := by decide +kernel
theorem d_Shape_spread_7 : decode prog_8_method_6_code 7 = .ok (.iconst 0, 1) := by decide +kernel
theorem d_Shape_spread_8 : decode prog_8_method_6_code 8 = .ok (.istore_n 3, 1) := by decide +kernel
theorem d_Shape_spread_9 : decode prog_8_method_6_code 9 = .ok (.iload_n 3, 1) := by decide +kernel
theorem d_Shape_spread_10 : decode prog_8_method_6_code 10 = .ok (.iload_n 2, 1) := by decide +kernel
theorem d_Shape_spread_11 : decode prog_8_method_6_code 11 = .ok (.if_icmp .ge 148, 3) := by decide +kernel
theorem d_Shape_spread_14 : decode prog_8_method_6_code 14 = .ok (.iload_n 3, 1) := by decide +kernel
theorem d_Shape_spread_15 : decode prog_8_method_6_code 15 = .ok (.sipush 256, 3) := by decide +kernel
theorem d_Shape_spread_18 : decode prog_8_method_6_code 18 = .ok (.if_icmp .ge 141, 3) := by decide +kernel
theorem d_Shape_spread_21 : decode prog_8_method_6_code 21 = .ok (.aload_n 0, 1) := by decide +kernel
theorem d_Shape_spread_22 : decode prog_8_method_6_code 22 = .ok (.getfield 25, 3) := by decide +kernel
theorem d_Shape_spread_25 : decode prog_8_method_6_code 25 = .ok (.iload_n 3, 1) := by decide +kernel
theorem d_Shape_spread_26 : decode prog_8_method_6_code 26 = .ok (.iaload, 1) := by decide +kernel
theorem d_Shape_spread_27 : decode prog_8_method_6_code 27 = .ok (.istore 4, 2) := by decide +kernel
theorem d_Shape_spread_29 : decode prog_8_method_6_code 29 = .ok (.iload 4, 2) := by decide +kernel
theorem d_Shape_spread_31 : decode prog_8_method_6_code 31 = .ok (.invokestatic 65, 3) := by decide +kernel
theorem d_Shape_spread_34 : decode prog_8_method_6_code 34 = .ok (.istore 5, 2) := by decide +kernel
theorem d_Shape_spread_36 : decode prog_8_method_6_code 36 = .ok (.iload 4, 2) := by decide +kernel
theorem d_Shape_spread_38 : decode prog_8_method_6_code 38 = .ok (.invokestatic 69, 3) := by decide +kernel
theorem d_Shape_spread_41 : decode prog_8_method_6_code 41 = .ok (.istore 6, 2) := by decide +kernel
theorem d_Shape_spread_43 : decode prog_8_method_6_code 43 = .ok (.aload_n 0, 1) := by decide +kernel
theorem d_Shape_spread_44 : decode prog_8_method_6_code 44 = .ok (.iload 5, 2) := by decide +kernel
theorem d_Shape_spread_46 : decode prog_8_method_6_code 46 = .ok (.iconst 1, 1) := by decide +kernel
theorem d_Shape_spread_47 : decode prog_8_method_6_code 47 = .ok (.isub, 1) := by decide +kernel
theorem d_Shape_spread_48 : decode prog_8_method_6_code 48 = .ok (.iload 6, 2) := by decide +kernel
theorem d_Shape_spread_50 : decode prog_8_method_6_code 50 = .ok (.invokevirtual 38, 3) := by decide +kernel
theorem d_Shape_spread_53 : decode prog_8_method_6_code 53 = .ok (.ifCond .eq 15, 3) := by decide +kernel
theorem d_Shape_spread_56 : decode prog_8_method_6_code 56 = .ok (.aload_n 0, 1) := by decide +kernel
theorem d_Shape_spread_57 : decode prog_8_method_6_code 57 = .ok (.iload 4, 2) := by decide +kernel
theorem d_Shape_spread_59 : decode prog_8_method_6_code 59 = .ok (.iconst 1, 1) := by decide +kernel
theorem d_Shape_spread_60 : decode prog_8_method_6_code 60 = .ok (.isub, 1) := by decide +kernel
theorem d_Shape_spread_61 : decode prog_8_method_6_code 61 = .ok (.iload_n 2, 1) := by decide +kernel
theorem d_Shape_spread_62 : decode prog_8_method_6_code 62 = .ok (.invokevirtual 62, 3) := by decide +kernel
theorem d_Shape_spread_65 : decode prog_8_method_6_code 65 = .ok (.goto 4, 3) := by decide +kernel
theorem d_Shape_spread_68 : decode prog_8_method_6_code 68 = .ok (.iload_n 2, 1) := by decide +kernel
theorem d_Shape_spread_69 : decode prog_8_method_6_code 69 = .ok (.istore_n 2, 1) := by decide +kernel
theorem d_Shape_spread_70 : decode prog_8_method_6_code 70 = .ok (.aload_n 0, 1) := by decide +kernel
theorem d_Shape_spread_71 : decode prog_8_method_6_code 71 = .ok (.iload 5, 2) := by decide +kernel
theorem d_Shape_spread_73 : decode prog_8_method_6_code 73 = .ok (.iconst 1, 1) := by decide +kernel
theorem d_Shape_spread_74 : decode prog_8_method_6_code 74 = .ok (.iadd, 1) := by decide +kernel
theorem d_Shape_spread_75 : decode prog_8_method_6_code 75 = .ok (.iload 6, 2) := by decide +kernel
theorem d_Shape_spread_77 : decode prog_8_method_6_code 77 = .ok (.invokevirtual 38, 3) := by decide +kernel
theorem d_Shape_spread_80 : decode prog_8_method_6_code 80 = .ok (.ifCond .eq 15, 3) := by decide +kernel
theorem d_Shape_spread_83 : decode prog_8_method_6_code 83 = .ok (.aload_n 0, 1) := by decide +kernel
theorem d_Shape_spread_84 : decode prog_8_method_6_code 84 = .ok (.iload 4, 2) := by decide +kernel
theorem d_Shape_spread_86 : decode prog_8_method_6_code 86 = .ok (.iconst 1, 1) := by decide +kernel
theorem d_Shape_spread_87 : decode prog_8_method_6_code 87 = .ok (.iadd, 1) := by decide +kernel
theorem d_Shape_spread_88 : decode prog_8_method_6_code 88 = .ok (.iload_n 2, 1) := by decide +kernel
theorem d_Shape_spread_89 : decode prog_8_method_6_code 89 = .ok (.invokevirtual 62, 3) := by decide +kernel
theorem d_Shape_spread_92 : decode prog_8_method_6_code 92 = .ok (.goto 4, 3) := by decide +kernel
theorem d_Shape_spread_95 : decode prog_8_method_6_code 95 = .ok (.iload_n 2, 1) := by decide +kernel
theorem d_Shape_spread_96 : decode prog_8_method_6_code 96 = .ok (.istore_n 2, 1) := by decide +kernel
theorem d_Shape_spread_97 : decode prog_8_method_6_code 97 = .ok (.aload_n 0, 1) := by decide +kernel
theorem d_Shape_spread_98 : decode prog_8_method_6_code 98 = .ok (.iload 5, 2) := by decide +kernel
theorem d_Shape_spread_100 : decode prog_8_method_6_code 100 = .ok (.iload 6, 2) := by decide +kernel
theorem d_Shape_spread_102 : decode prog_8_method_6_code 102 = .ok (.iconst 1, 1) := by decide +kernel
theorem d_Shape_spread_103 : decode prog_8_method_6_code 103 = .ok (.isub, 1) := by decide +kernel
theorem d_Shape_spread_104 : decode prog_8_method_6_code 104 = .ok (.invokevirtual 38, 3) := by decide +kernel
theorem d_Shape_spread_107 : decode prog_8_method_6_code 107 = .ok (.ifCond .eq 16, 3) := by decide +kernel
theorem d_Shape_spread_110 : decode prog_8_method_6_code 110 = .ok (.aload_n 0, 1) := by decide +kernel
theorem d_Shape_spread_111 : decode prog_8_method_6_code 111 = .ok (.iload 4, 2) := by decide +kernel
theorem d_Shape_spread_113 : decode prog_8_method_6_code 113 = .ok (.bipush 16, 2) := by decide +kernel
theorem d_Shape_spread_115 : decode prog_8_method_6_code 115 = .ok (.isub, 1) := by decide +kernel
theorem d_Shape_spread_116 : decode prog_8_method_6_code 116 = .ok (.iload_n 2, 1) := by decide +kernel
theorem d_Shape_spread_117 : decode prog_8_method_6_code 117 = .ok (.invokevirtual 62, 3) := by decide +kernel
theorem d_Shape_spread_120 : decode prog_8_method_6_code 120 = .ok (.goto 4, 3) := by decide +kernel
theorem d_Shape_spread_123 : decode prog_8_method_6_code 123 = .ok (.iload_n 2, 1) := by decide +kernel
theorem d_Shape_spread_124 : decode prog_8_method_6_code 124 = .ok (.istore_n 2, 1) := by decide +kernel
theorem d_Shape_spread_125 : decode prog_8_method_6_code 125 = .ok (.aload_n 0, 1) := by decide +kernel
theorem d_Shape_spread_126 : decode prog_8_method_6_code 126 = .ok (.iload 5, 2) := by decide +kernel
theorem d_Shape_spread_128 : decode prog_8_method_6_code 128 = .ok (.iload 6, 2) := by decide +kernel
theorem d_Shape_spread_130 : decode prog_8_method_6_code 130 = .ok (.iconst 1, 1) := by decide +kernel
theorem d_Shape_spread_131 : decode prog_8_method_6_code 131 = .ok (.iadd, 1) := by decide +kernel
theorem d_Shape_spread_132 : decode prog_8_method_6_code 132 = .ok (.invokevirtual 38, 3) := by decide +kernel
theorem d_Shape_spread_135 : decode prog_8_method_6_code 135 = .ok (.ifCond .eq 16, 3) := by decide +kernel
theorem d_Shape_spread_138 : decode prog_8_method_6_code 138 = .ok (.aload_n 0, 1) := by decide +kernel
theorem d_Shape_spread_139 : decode prog_8_method_6_code 139 = .ok (.iload 4, 2) := by decide +kernel
theorem d_Shape_spread_141 : decode prog_8_method_6_code 141 = .ok (.bipush 16, 2) := by decide +kernel
theorem d_Shape_spread_143 : decode prog_8_method_6_code 143 = .ok (.iadd, 1) := by decide +kernel
theorem d_Shape_spread_144 : decode prog_8_method_6_code 144 = .ok (.iload_n 2, 1) := by decide +kernel
theorem d_Shape_spread_145 : decode prog_8_method_6_code 145 = .ok (.invokevirtual 62, 3) := by decide +kernel
theorem d_Shape_spread_148 : decode prog_8_method_6_code 148 = .ok (.goto 4, 3) := by decide +kernel
theorem d_Shape_spread_151 : decode prog_8_method_6_code 151 = .ok (.iload_n 2, 1) := by decide +kernel
theorem d_Shape_spread_152 : decode prog_8_method_6_code 152 = .ok (.istore_n 2, 1) := by decide +kernel
theorem d_Shape_spread_153 : decode prog_8_method_6_code 153 = .ok (.iinc 3 1, 3) := by decide +kernel
theorem d_Shape_spread_156 : decode prog_8_method_6_code 156 = .ok (.goto (-147), 3) := by decide +kernel
theorem d_Shape_spread_159 : decode prog_8_method_6_code 159 = .ok (.aload_n 0, 1) := by decide +kernel
theorem d_Shape_spread_160 : decode prog_8_method_6_code 160 = .ok (.getfield 22, 3) := by decide +kernel
theorem d_Shape_spread_163 : decode prog_8_method_6_code 163 = .ok (.aload_n 0, 1) := by decide +kernel
theorem d_Shape_spread_164 : decode prog_8_method_6_code 164 = .ok (.getfield 52, 3) := by decide +kernel
theorem d_Shape_spread_167 : decode prog_8_method_6_code 167 = .ok (.iload_n 1, 1) := by decide +kernel
theorem d_Shape_spread_168 : decode prog_8_method_6_code 168 = .ok (.iastore, 1) := by decide +kernel
theorem d_Shape_spread_169 : decode prog_8_method_6_code 169 = .ok (.aload_n 0, 1) := by decide +kernel
theorem d_Shape_spread_170 : decode prog_8_method_6_code 170 = .ok (.getfield 19, 3) := by decide +kernel
theorem d_Shape_spread_173 : decode prog_8_method_6_code 173 = .ok (.aload_n 0, 1) := by decide +kernel
theorem d_Shape_spread_174 : decode prog_8_method_6_code 174 = .ok (.getfield 52, 3) := by decide +kernel
theorem d_Shape_spread_177 : decode prog_8_method_6_code 177 = .ok (.iload_n 2, 1) := by decide +kernel
theorem d_Shape_spread_178 : decode prog_8_method_6_code 178 = .ok (.iastore, 1) := by decide +kernel
theorem d_Shape_spread_179 : decode prog_8_method_6_code 179 = .ok (.aload_n 0, 1) := by decide +kernel
theorem d_Shape_spread_180 : decode prog_8_method_6_code 180 = .ok (.dup, 1) := by decide +kernel
theorem d_Shape_spread_181 : decode prog_8_method_6_code 181 = .ok (.getfield 55, 3) := by decide +kernel
theorem d_Shape_spread_184 : decode prog_8_method_6_code 184 = .ok (.iload_n 2, 1) := by decide +kernel
theorem d_Shape_spread_185 : decode prog_8_method_6_code 185 = .ok (.iadd, 1) := by decide +kernel
theorem d_Shape_spread_186 : decode prog_8_method_6_code 186 = .ok (.putfield 55, 3) := by decide +kernel
theorem d_Shape_spread_189 : decode prog_8_method_6_code 189 = .ok (.aload_n 0, 1) := by decide +kernel
theorem d_Shape_spread_190 : decode prog_8_method_6_code 190 = .ok (.dup, 1) := by decide +kernel
theorem d_Shape_spread_191 : decode prog_8_method_6_code 191 = .ok (.getfield 52, 3) := by decide +kernel
theorem d_Shape_spread_194 : decode prog_8_method_6_code 194 = .ok (.iconst 1, 1) := by decide +kernel
theorem d_Shape_spread_195 : decode prog_8_method_6_code 195 = .ok (.iadd, 1) := by decide +kernel
theorem d_Shape_spread_196 : decode prog_8_method_6_code 196 = .ok (.putfield 52, 3) := by decide +kernel
theorem d_Shape_spread_199 : decode prog_8_method_6_code 199 = .ok (.return_, 1) := by decide +kernel
theorem d_Tape_hear_0 : decode prog_9_method_6_code 0 = .ok (.iconst 0, 1) := by decide +kernel
theorem d_Tape_hear_1 : decode prog_9_method_6_code 1 = .ok (.istore_n 2, 1) := by decide +kernel
theorem d_Tape_hear_2 : decode prog_9_method_6_code 2 = .ok (.iconst 0, 1) := by decide +kernel
theorem d_Tape_hear_3 : decode prog_9_method_6_code 3 = .ok (.istore_n 3, 1) := by decide +kernel
theorem d_Tape_hear_4 : decode prog_9_method_6_code 4 = .ok (.iload_n 3, 1) := by decide +kernel
theorem d_Tape_hear_5 : decode prog_9_method_6_code 5 = .ok (.iload_n 1, 1) := by decide +kernel
theorem d_Tape_hear_6 : decode prog_9_method_6_code 6 = .ok (.if_icmp .ge 31, 3) := by decide +kernel
theorem d_Tape_hear_9 : decode prog_9_method_6_code 9 = .ok (.aload_n 0, 1) := by decide +kernel
theorem d_Tape_hear_10 : decode prog_9_method_6_code 10 = .ok (.iconst 0, 1) := by decide +kernel
theorem d_Tape_hear_11 : decode prog_9_method_6_code 11 = .ok (.invokevirtual 26, 3) := by decide +kernel
theorem d_Tape_hear_14 : decode prog_9_method_6_code 14 = .ok (.istore 4, 2) := by decide +kernel
theorem d_Tape_hear_16 : decode prog_9_method_6_code 16 = .ok (.iload 4, 2) := by decide +kernel
theorem d_Tape_hear_18 : decode prog_9_method_6_code 18 = .ok (.iconst (-1), 1) := by decide +kernel
theorem d_Tape_hear_19 : decode prog_9_method_6_code 19 = .ok (.if_icmp .ne 5, 3) := by decide +kernel
theorem d_Tape_hear_22 : decode prog_9_method_6_code 22 = .ok (.iconst (-1), 1) := by decide +kernel
theorem d_Tape_hear_23 : decode prog_9_method_6_code 23 = .ok (.ireturn, 1) := by decide +kernel
theorem d_Tape_hear_24 : decode prog_9_method_6_code 24 = .ok (.iload_n 2, 1) := by decide +kernel
theorem d_Tape_hear_25 : decode prog_9_method_6_code 25 = .ok (.iconst 2, 1) := by decide +kernel
theorem d_Tape_hear_26 : decode prog_9_method_6_code 26 = .ok (.imul, 1) := by decide +kernel
theorem d_Tape_hear_27 : decode prog_9_method_6_code 27 = .ok (.iload 4, 2) := by decide +kernel
theorem d_Tape_hear_29 : decode prog_9_method_6_code 29 = .ok (.iadd, 1) := by decide +kernel
theorem d_Tape_hear_30 : decode prog_9_method_6_code 30 = .ok (.istore_n 2, 1) := by decide +kernel
theorem d_Tape_hear_31 : decode prog_9_method_6_code 31 = .ok (.iinc 3 1, 3) := by decide +kernel
theorem d_Tape_hear_34 : decode prog_9_method_6_code 34 = .ok (.goto (-30), 3) := by decide +kernel
theorem d_Tape_hear_37 : decode prog_9_method_6_code 37 = .ok (.iload_n 2, 1) := by decide +kernel
theorem d_Tape_hear_38 : decode prog_9_method_6_code 38 = .ok (.ireturn, 1) := by decide +kernel
theorem d_Tape_next_0 : decode prog_9_method_3_code 0 = .ok (.aload_n 0, 1) := by decide +kernel
theorem d_Tape_next_1 : decode prog_9_method_3_code 1 = .ok (.getfield 9, 3) := by decide +kernel
theorem d_Tape_next_4 : decode prog_9_method_3_code 4 = .ok (.aload_n 0, 1) := by decide +kernel
theorem d_Tape_next_5 : decode prog_9_method_3_code 5 = .ok (.getfield 19, 3) := by decide +kernel
theorem d_Tape_next_8 : decode prog_9_method_3_code 8 = .ok (.if_icmp .lt 10, 3) := by decide +kernel
theorem d_Tape_next_11 : decode prog_9_method_3_code 11 = .ok (.aload_n 0, 1) := by decide +kernel
theorem d_Tape_next_12 : decode prog_9_method_3_code 12 = .ok (.iconst 1, 1) := by decide +kernel
theorem d_Tape_next_13 : decode prog_9_method_3_code 13 = .ok (.putfield 15, 3) := by decide +kernel
theorem d_Tape_next_16 : decode prog_9_method_3_code 16 = .ok (.iconst (-1), 1) := by decide +kernel
theorem d_Tape_next_17 : decode prog_9_method_3_code 17 = .ok (.ireturn, 1) := by decide +kernel
theorem d_Tape_next_18 : decode prog_9_method_3_code 18 = .ok (.aload_n 0, 1) := by decide +kernel
theorem d_Tape_next_19 : decode prog_9_method_3_code 19 = .ok (.iload_n 1, 1) := by decide +kernel
theorem d_Tape_next_20 : decode prog_9_method_3_code 20 = .ok (.invokevirtual 22, 3) := by decide +kernel
theorem d_Tape_next_23 : decode prog_9_method_3_code 23 = .ok (.istore_n 2, 1) := by decide +kernel
theorem d_Tape_next_24 : decode prog_9_method_3_code 24 = .ok (.aload_n 0, 1) := by decide +kernel
theorem d_Tape_next_25 : decode prog_9_method_3_code 25 = .ok (.dup, 1) := by decide +kernel
theorem d_Tape_next_26 : decode prog_9_method_3_code 26 = .ok (.getfield 9, 3) := by decide +kernel
theorem d_Tape_next_29 : decode prog_9_method_3_code 29 = .ok (.iconst 1, 1) := by decide +kernel
theorem d_Tape_next_30 : decode prog_9_method_3_code 30 = .ok (.iadd, 1) := by decide +kernel
theorem d_Tape_next_31 : decode prog_9_method_3_code 31 = .ok (.putfield 9, 3) := by decide +kernel
theorem d_Tape_next_34 : decode prog_9_method_3_code 34 = .ok (.iload_n 2, 1) := by decide +kernel
theorem d_Tape_next_35 : decode prog_9_method_3_code 35 = .ok (.ireturn, 1) := by decide +kernel
theorem d_Tape_pick_0 : decode prog_9_method_4_code 0 = .ok (.iload_n 1, 1) := by decide +kernel
theorem d_Tape_pick_1 : decode prog_9_method_4_code 1 = .ok (.ireturn, 1) := by decide +kernel
theorem d_Tape_say_0 : decode prog_9_method_5_code 0 = .ok (.iload_n 2, 1) := by decide +kernel
theorem d_Tape_say_1 : decode prog_9_method_5_code 1 = .ok (.iconst 1, 1) := by decide +kernel
theorem d_Tape_say_2 : decode prog_9_method_5_code 2 = .ok (.isub, 1) := by decide +kernel
theorem d_Tape_say_3 : decode prog_9_method_5_code 3 = .ok (.istore_n 3, 1) := by decide +kernel
theorem d_Tape_say_4 : decode prog_9_method_5_code 4 = .ok (.iload_n 3, 1) := by decide +kernel
theorem d_Tape_say_5 : decode prog_9_method_5_code 5 = .ok (.ifCond .lt 19, 3) := by decide +kernel
theorem d_Tape_say_8 : decode prog_9_method_5_code 8 = .ok (.aload_n 0, 1) := by decide +kernel
theorem d_Tape_say_9 : decode prog_9_method_5_code 9 = .ok (.iload_n 1, 1) := by decide +kernel
theorem d_Tape_say_10 : decode prog_9_method_5_code 10 = .ok (.iload_n 3, 1) := by decide +kernel
theorem d_Tape_say_11 : decode prog_9_method_5_code 11 = .ok (.ishr, 1) := by decide +kernel
theorem d_Tape_say_12 : decode prog_9_method_5_code 12 = .ok (.iconst 1, 1) := by decide +kernel
theorem d_Tape_say_13 : decode prog_9_method_5_code 13 = .ok (.iand, 1) := by decide +kernel
theorem d_Tape_say_14 : decode prog_9_method_5_code 14 = .ok (.invokevirtual 26, 3) := by decide +kernel
theorem d_Tape_say_17 : decode prog_9_method_5_code 17 = .ok (.pop, 1) := by decide +kernel
theorem d_Tape_say_18 : decode prog_9_method_5_code 18 = .ok (.iinc 3 (-1), 3) := by decide +kernel
theorem d_Tape_say_21 : decode prog_9_method_5_code 21 = .ok (.goto (-17), 3) := by decide +kernel
theorem d_Tape_say_24 : decode prog_9_method_5_code 24 = .ok (.return_, 1) := by decide +kernel
theorem d_Tape_start_0 : decode prog_9_method_2_code 0 = .ok (.aload_n 0, 1) := by decide +kernel
theorem d_Tape_start_1 : decode prog_9_method_2_code 1 = .ok (.iconst 0, 1) := by decide +kernel
theorem d_Tape_start_2 : decode prog_9_method_2_code 2 = .ok (.putfield 9, 3) := by decide +kernel
theorem d_Tape_start_5 : decode prog_9_method_2_code 5 = .ok (.aload_n 0, 1) := by decide +kernel
theorem d_Tape_start_6 : decode prog_9_method_2_code 6 = .ok (.iconst 0, 1) := by decide +kernel
theorem d_Tape_start_7 : decode prog_9_method_2_code 7 = .ok (.putfield 15, 3) := by decide +kernel
theorem d_Tape_start_10 : decode prog_9_method_2_code 10 = .ok (.aload_n 0, 1) := by decide +kernel
theorem d_Tape_start_11 : decode prog_9_method_2_code 11 = .ok (.iload_n 1, 1) := by decide +kernel
theorem d_Tape_start_12 : decode prog_9_method_2_code 12 = .ok (.putfield 19, 3) := by decide +kernel
theorem d_Tape_start_15 : decode prog_9_method_2_code 15 = .ok (.return_, 1) := by decide +kernel
theorem d_Walk_forget_0 : decode prog_10_method_3_code 0 = .ok (.aload_n 0, 1) := by decide +kernel
theorem d_Walk_forget_1 : decode prog_10_method_3_code 1 = .ok (.getfield 9, 3) := by decide +kernel
theorem d_Walk_forget_4 : decode prog_10_method_3_code 4 = .ok (.iconst 0, 1) := by decide +kernel
theorem d_Walk_forget_5 : decode prog_10_method_3_code 5 = .ok (.invokestatic 52, 3) := by decide +kernel
theorem d_Walk_forget_8 : decode prog_10_method_3_code 8 = .ok (.aload_n 0, 1) := by decide +kernel
theorem d_Walk_forget_9 : decode prog_10_method_3_code 9 = .ok (.getfield 15, 3) := by decide +kernel
theorem d_Walk_forget_12 : decode prog_10_method_3_code 12 = .ok (.iconst 0, 1) := by decide +kernel
theorem d_Walk_forget_13 : decode prog_10_method_3_code 13 = .ok (.invokestatic 52, 3) := by decide +kernel
theorem d_Walk_forget_16 : decode prog_10_method_3_code 16 = .ok (.iconst 0, 1) := by decide +kernel
theorem d_Walk_forget_17 : decode prog_10_method_3_code 17 = .ok (.istore_n 1, 1) := by decide +kernel
theorem d_Walk_forget_18 : decode prog_10_method_3_code 18 = .ok (.iload_n 1, 1) := by decide +kernel
theorem d_Walk_forget_19 : decode prog_10_method_3_code 19 = .ok (.sipush 340, 3) := by decide +kernel
theorem d_Walk_forget_22 : decode prog_10_method_3_code 22 = .ok (.if_icmp .ge 16, 3) := by decide +kernel
theorem d_Walk_forget_25 : decode prog_10_method_3_code 25 = .ok (.aload_n 0, 1) := by decide +kernel
theorem d_Walk_forget_26 : decode prog_10_method_3_code 26 = .ok (.getfield 21, 3) := by decide +kernel
theorem d_Walk_forget_29 : decode prog_10_method_3_code 29 = .ok (.iload_n 1, 1) := by decide +kernel
theorem d_Walk_forget_30 : decode prog_10_method_3_code 30 = .ok (.iconst 0, 1) := by decide +kernel
theorem d_Walk_forget_31 : decode prog_10_method_3_code 31 = .ok (.bastore, 1) := by decide +kernel
theorem d_Walk_forget_32 : decode prog_10_method_3_code 32 = .ok (.iinc 1 1, 3) := by decide +kernel
theorem d_Walk_forget_35 : decode prog_10_method_3_code 35 = .ok (.goto (-17), 3) := by decide +kernel
theorem d_Walk_forget_38 : decode prog_10_method_3_code 38 = .ok (.return_, 1) := by decide +kernel
theorem d_Walk_go_0 : decode prog_10_method_2_code 0 = .ok (.aload_n 0, 1) := by decide +kernel
theorem d_Walk_go_1 : decode prog_10_method_2_code 1 = .ok (.invokevirtual 33, 3) := by decide +kernel
theorem d_Walk_go_4 : decode prog_10_method_2_code 4 = .ok (.aload_n 0, 1) := by decide +kernel
theorem d_Walk_go_5 : decode prog_10_method_2_code 5 = .ok (.invokevirtual 36, 3) := by decide +kernel
theorem d_Walk_go_8 : decode prog_10_method_2_code 8 = .ok (.aload_n 0, 1) := by decide +kernel
theorem d_Walk_go_9 : decode prog_10_method_2_code 9 = .ok (.aload_n 0, 1) := by decide +kernel
theorem d_Walk_go_10 : decode prog_10_method_2_code 10 = .ok (.getfield 29, 3) := by decide +kernel
theorem d_Walk_go_13 : decode prog_10_method_2_code 13 = .ok (.getfield 39, 3) := by decide +kernel
theorem d_Walk_go_16 : decode prog_10_method_2_code 16 = .ok (.iconst 1, 1) := by decide +kernel
theorem d_Walk_go_17 : decode prog_10_method_2_code 17 = .ok (.isub, 1) := by decide +kernel
theorem d_Walk_go_18 : decode prog_10_method_2_code 18 = .ok (.putfield 45, 3) := by decide +kernel
theorem d_Walk_go_21 : decode prog_10_method_2_code 21 = .ok (.aload_n 0, 1) := by decide +kernel
theorem d_Walk_go_22 : decode prog_10_method_2_code 22 = .ok (.getfield 45, 3) := by decide +kernel
theorem d_Walk_go_25 : decode prog_10_method_2_code 25 = .ok (.ifCond .lt 40, 3) := by decide +kernel
theorem d_Walk_go_28 : decode prog_10_method_2_code 28 = .ok (.iconst 0, 1) := by decide +kernel
theorem d_Walk_go_29 : decode prog_10_method_2_code 29 = .ok (.istore_n 1, 1) := by decide +kernel
theorem d_Walk_go_30 : decode prog_10_method_2_code 30 = .ok (.iload_n 1, 1) := by decide +kernel
theorem d_Walk_go_31 : decode prog_10_method_2_code 31 = .ok (.iconst 4, 1) := by decide +kernel
theorem d_Walk_go_32 : decode prog_10_method_2_code 32 = .ok (.if_icmp .ge 20, 3) := by decide +kernel
theorem d_Walk_go_35 : decode prog_10_method_2_code 35 = .ok (.aload_n 0, 1) := by decide +kernel
theorem d_Walk_go_36 : decode prog_10_method_2_code 36 = .ok (.iconst 3, 1) := by decide +kernel
theorem d_Walk_go_37 : decode prog_10_method_2_code 37 = .ok (.iload_n 1, 1) := by decide +kernel
theorem d_Walk_go_38 : decode prog_10_method_2_code 38 = .ok (.iconst 1, 1) := by decide +kernel
theorem d_Walk_go_39 : decode prog_10_method_2_code 39 = .ok (.iand, 1) := by decide +kernel
theorem d_Walk_go_40 : decode prog_10_method_2_code 40 = .ok (.iload_n 1, 1) := by decide +kernel
theorem d_Walk_go_41 : decode prog_10_method_2_code 41 = .ok (.iconst 1, 1) := by decide +kernel
theorem d_Walk_go_42 : decode prog_10_method_2_code 42 = .ok (.ishr, 1) := by decide +kernel
theorem d_Walk_go_43 : decode prog_10_method_2_code 43 = .ok (.invokevirtual 48, 3) := by decide +kernel
theorem d_Walk_go_46 : decode prog_10_method_2_code 46 = .ok (.iinc 1 1, 3) := by decide +kernel
theorem d_Walk_go_49 : decode prog_10_method_2_code 49 = .ok (.goto (-19), 3) := by decide +kernel
theorem d_Walk_go_52 : decode prog_10_method_2_code 52 = .ok (.aload_n 0, 1) := by decide +kernel
theorem d_Walk_go_53 : decode prog_10_method_2_code 53 = .ok (.dup, 1) := by decide +kernel
theorem d_Walk_go_54 : decode prog_10_method_2_code 54 = .ok (.getfield 45, 3) := by decide +kernel
theorem d_Walk_go_57 : decode prog_10_method_2_code 57 = .ok (.iconst 1, 1) := by decide +kernel
theorem d_Walk_go_58 : decode prog_10_method_2_code 58 = .ok (.isub, 1) := by decide +kernel
theorem d_Walk_go_59 : decode prog_10_method_2_code 59 = .ok (.putfield 45, 3) := by decide +kernel
theorem d_Walk_go_62 : decode prog_10_method_2_code 62 = .ok (.goto (-41), 3) := by decide +kernel
theorem d_Walk_go_65 : decode prog_10_method_2_code 65 = .ok (.return_, 1) := by decide +kernel
theorem d_Walk_goThrough_0 : decode prog_10_method_7_code 0 = .ok (.aload_n 0, 1) := by decide +kernel
theorem d_Walk_goThrough_1 : decode prog_10_method_7_code 1 = .ok (.getfield 25, 3) := by decide +kernel
theorem d_Walk_goThrough_4 : decode prog_10_method_7_code 4 = .ok (.getfield 90, 3) := by decide +kernel
theorem d_Walk_goThrough_7 : decode prog_10_method_7_code 7 = .ok (.ifCond .ne 7, 3) := by decide +kernel
theorem d_Walk_goThrough_10 : decode prog_10_method_7_code 10 = .ok (.iload_n 1, 1) := by decide +kernel
theorem d_Walk_goThrough_11 : decode prog_10_method_7_code 11 = .ok (.ifCond .ge 4, 3) := by decide +kernel
theorem d_Walk_goThrough_14 : decode prog_10_method_7_code 14 = .ok (.return_, 1) := by decide +kernel
theorem d_Walk_goThrough_15 : decode prog_10_method_7_code 15 = .ok (.iload_n 1, 1) := by decide +kernel
theorem d_Walk_goThrough_16 : decode prog_10_method_7_code 16 = .ok (.iload_n 2, 1) := by decide +kernel
theorem d_Walk_goThrough_17 : decode prog_10_method_7_code 17 = .ok (.iload_n 3, 1) := by decide +kernel
theorem d_Walk_goThrough_18 : decode prog_10_method_7_code 18 = .ok (.invokestatic 76, 3) := by decide +kernel
theorem d_Walk_goThrough_21 : decode prog_10_method_7_code 21 = .ok (.istore 4, 2) := by decide +kernel
theorem d_Walk_goThrough_23 : decode prog_10_method_7_code 23 = .ok (.aload_n 0, 1) := by decide +kernel
theorem d_Walk_goThrough_24 : decode prog_10_method_7_code 24 = .ok (.getfield 18, 3) := by decide +kernel
theorem d_Walk_goThrough_27 : decode prog_10_method_7_code 27 = .ok (.iload 4, 2) := by decide +kernel
theorem d_Walk_goThrough_29 : decode prog_10_method_7_code 29 = .ok (.iaload, 1) := by decide +kernel
theorem d_Walk_goThrough_30 : decode prog_10_method_7_code 30 = .ok (.iconst (-1), 1) := by decide +kernel
theorem d_Walk_goThrough_31 : decode prog_10_method_7_code 31 = .ok (.if_icmp .ne 4, 3) := by decide +kernel
theorem d_Walk_goThrough_34 : decode prog_10_method_7_code 34 = .ok (.return_, 1) := by decide +kernel
theorem d_Walk_goThrough_35 : decode prog_10_method_7_code 35 = .ok (.aload_n 0, 1) := by decide +kernel
theorem d_Walk_goThrough_36 : decode prog_10_method_7_code 36 = .ok (.getfield 21, 3) := by decide +kernel
theorem d_Walk_goThrough_39 : decode prog_10_method_7_code 39 = .ok (.iload 4, 2) := by decide +kernel
theorem d_Walk_goThrough_41 : decode prog_10_method_7_code 41 = .ok (.baload, 1) := by decide +kernel
theorem d_Walk_goThrough_42 : decode prog_10_method_7_code 42 = .ok (.istore 5, 2) := by decide +kernel
theorem d_Walk_goThrough_44 : decode prog_10_method_7_code 44 = .ok (.iload 5, 2) := by decide +kernel
theorem d_Walk_goThrough_46 : decode prog_10_method_7_code 46 = .ok (.ifCond .ne 14, 3) := by decide +kernel
theorem d_Walk_goThrough_49 : decode prog_10_method_7_code 49 = .ok (.aload_n 0, 1) := by decide +kernel
theorem d_Walk_goThrough_50 : decode prog_10_method_7_code 50 = .ok (.iload_n 1, 1) := by decide +kernel
theorem d_Walk_goThrough_51 : decode prog_10_method_7_code 51 = .ok (.iload 4, 2) := by decide +kernel
theorem d_Walk_goThrough_53 : decode prog_10_method_7_code 53 = .ok (.invokevirtual 96, 3) := by decide +kernel
theorem d_Walk_goThrough_56 : decode prog_10_method_7_code 56 = .ok (.ifCond .ne 4, 3) := by decide +kernel
theorem d_Walk_goThrough_59 : decode prog_10_method_7_code 59 = .ok (.return_, 1) := by decide +kernel
theorem d_Walk_goThrough_60 : decode prog_10_method_7_code 60 = .ok (.iload_n 1, 1) := by decide +kernel
theorem d_Walk_goThrough_61 : decode prog_10_method_7_code 61 = .ok (.ifCond .ne 12, 3) := by decide +kernel
theorem d_Walk_goThrough_64 : decode prog_10_method_7_code 64 = .ok (.aload_n 0, 1) := by decide +kernel
theorem d_Walk_goThrough_65 : decode prog_10_method_7_code 65 = .ok (.iload 4, 2) := by decide +kernel
theorem d_Walk_goThrough_67 : decode prog_10_method_7_code 67 = .ok (.iload 5, 2) := by decide +kernel
theorem d_Walk_goThrough_69 : decode prog_10_method_7_code 69 = .ok (.invokevirtual 100, 3) := by decide +kernel
theorem d_Walk_goThrough_72 : decode prog_10_method_7_code 72 = .ok (.return_, 1) := by decide +kernel
theorem d_Walk_goThrough_73 : decode prog_10_method_7_code 73 = .ok (.iconst 0, 1) := by decide +kernel
theorem d_Walk_goThrough_74 : decode prog_10_method_7_code 74 = .ok (.istore 6, 2) := by decide +kernel
theorem d_Walk_goThrough_76 : decode prog_10_method_7_code 76 = .ok (.iload 6, 2) := by decide +kernel
theorem d_Walk_goThrough_78 : decode prog_10_method_7_code 78 = .ok (.iconst 4, 1) := by decide +kernel
theorem d_Walk_goThrough_79 : decode prog_10_method_7_code 79 = .ok (.if_icmp .ge 32, 3) := by decide +kernel
theorem d_Walk_goThrough_82 : decode prog_10_method_7_code 82 = .ok (.aload_n 0, 1) := by decide +kernel
theorem d_Walk_goThrough_83 : decode prog_10_method_7_code 83 = .ok (.iload_n 1, 1) := by decide +kernel
theorem d_Walk_goThrough_84 : decode prog_10_method_7_code 84 = .ok (.iconst 1, 1) := by decide +kernel
theorem d_Walk_goThrough_85 : decode prog_10_method_7_code 85 = .ok (.isub, 1) := by decide +kernel
theorem d_Walk_goThrough_86 : decode prog_10_method_7_code 86 = .ok (.iload_n 2, 1) := by decide +kernel
theorem d_Walk_goThrough_87 : decode prog_10_method_7_code 87 = .ok (.iconst 2, 1) := by decide +kernel
theorem d_Walk_goThrough_88 : decode prog_10_method_7_code 88 = .ok (.imul, 1) := by decide +kernel
theorem d_Walk_goThrough_89 : decode prog_10_method_7_code 89 = .ok (.iload 6, 2) := by decide +kernel
theorem d_Walk_goThrough_91 : decode prog_10_method_7_code 91 = .ok (.iconst 1, 1) := by decide +kernel
theorem d_Walk_goThrough_92 : decode prog_10_method_7_code 92 = .ok (.iand, 1) := by decide +kernel
theorem d_Walk_goThrough_93 : decode prog_10_method_7_code 93 = .ok (.iadd, 1) := by decide +kernel
theorem d_Walk_goThrough_94 : decode prog_10_method_7_code 94 = .ok (.iload_n 3, 1) := by decide +kernel
theorem d_Walk_goThrough_95 : decode prog_10_method_7_code 95 = .ok (.iconst 2, 1) := by decide +kernel
theorem d_Walk_goThrough_96 : decode prog_10_method_7_code 96 = .ok (.imul, 1) := by decide +kernel
theorem d_Walk_goThrough_97 : decode prog_10_method_7_code 97 = .ok (.iload 6, 2) := by decide +kernel
theorem d_Walk_goThrough_99 : decode prog_10_method_7_code 99 = .ok (.iconst 1, 1) := by decide +kernel
theorem d_Walk_goThrough_100 : decode prog_10_method_7_code 100 = .ok (.ishr, 1) := by decide +kernel
theorem d_Walk_goThrough_101 : decode prog_10_method_7_code 101 = .ok (.iadd, 1) := by decide +kernel
theorem d_Walk_goThrough_102 : decode prog_10_method_7_code 102 = .ok (.invokevirtual 48, 3) := by decide +kernel
theorem d_Walk_goThrough_105 : decode prog_10_method_7_code 105 = .ok (.iinc 6 1, 3) := by decide +kernel
theorem d_Walk_goThrough_108 : decode prog_10_method_7_code 108 = .ok (.goto (-32), 3) := by decide +kernel
theorem d_Walk_goThrough_111 : decode prog_10_method_7_code 111 = .ok (.return_, 1) := by decide +kernel
theorem d_Walk_greatestBelow_0 : decode prog_10_method_5_code 0 = .ok (.iconst (-1), 1) := by decide +kernel
theorem d_Walk_greatestBelow_1 : decode prog_10_method_5_code 1 = .ok (.istore 4, 2) := by decide +kernel
theorem d_Walk_greatestBelow_3 : decode prog_10_method_5_code 3 = .ok (.iconst 0, 1) := by decide +kernel
theorem d_Walk_greatestBelow_4 : decode prog_10_method_5_code 4 = .ok (.istore 5, 2) := by decide +kernel
theorem d_Walk_greatestBelow_6 : decode prog_10_method_5_code 6 = .ok (.iload 5, 2) := by decide +kernel
theorem d_Walk_greatestBelow_8 : decode prog_10_method_5_code 8 = .ok (.iconst 4, 1) := by decide +kernel
theorem d_Walk_greatestBelow_9 : decode prog_10_method_5_code 9 = .ok (.if_icmp .ge 47, 3) := by decide +kernel
theorem d_Walk_greatestBelow_12 : decode prog_10_method_5_code 12 = .ok (.iload_n 1, 1) := by decide +kernel
theorem d_Walk_greatestBelow_13 : decode prog_10_method_5_code 13 = .ok (.iconst 1, 1) := by decide +kernel
theorem d_Walk_greatestBelow_14 : decode prog_10_method_5_code 14 = .ok (.isub, 1) := by decide +kernel
theorem d_Walk_greatestBelow_15 : decode prog_10_method_5_code 15 = .ok (.iload_n 2, 1) := by decide +kernel
theorem d_Walk_greatestBelow_16 : decode prog_10_method_5_code 16 = .ok (.iconst 2, 1) := by decide +kernel
theorem d_Walk_greatestBelow_17 : decode prog_10_method_5_code 17 = .ok (.imul, 1) := by decide +kernel
theorem d_Walk_greatestBelow_18 : decode prog_10_method_5_code 18 = .ok (.iload 5, 2) := by decide +kernel
theorem d_Walk_greatestBelow_20 : decode prog_10_method_5_code 20 = .ok (.iconst 1, 1) := by decide +kernel
theorem d_Walk_greatestBelow_21 : decode prog_10_method_5_code 21 = .ok (.iand, 1) := by decide +kernel
theorem d_Walk_greatestBelow_22 : decode prog_10_method_5_code 22 = .ok (.iadd, 1) := by decide +kernel
theorem d_Walk_greatestBelow_23 : decode prog_10_method_5_code 23 = .ok (.iload_n 3, 1) := by decide +kernel
theorem d_Walk_greatestBelow_24 : decode prog_10_method_5_code 24 = .ok (.iconst 2, 1) := by decide +kernel
theorem d_Walk_greatestBelow_25 : decode prog_10_method_5_code 25 = .ok (.imul, 1) := by decide +kernel
theorem d_Walk_greatestBelow_26 : decode prog_10_method_5_code 26 = .ok (.iload 5, 2) := by decide +kernel
theorem d_Walk_greatestBelow_28 : decode prog_10_method_5_code 28 = .ok (.iconst 1, 1) := by decide +kernel
theorem d_Walk_greatestBelow_29 : decode prog_10_method_5_code 29 = .ok (.ishr, 1) := by decide +kernel
theorem d_Walk_greatestBelow_30 : decode prog_10_method_5_code 30 = .ok (.iadd, 1) := by decide +kernel
theorem d_Walk_greatestBelow_31 : decode prog_10_method_5_code 31 = .ok (.invokestatic 76, 3) := by decide +kernel
theorem d_Walk_greatestBelow_34 : decode prog_10_method_5_code 34 = .ok (.istore 6, 2) := by decide +kernel
theorem d_Walk_greatestBelow_36 : decode prog_10_method_5_code 36 = .ok (.iload 4, 2) := by decide +kernel
theorem d_Walk_greatestBelow_38 : decode prog_10_method_5_code 38 = .ok (.aload_n 0, 1) := by decide +kernel
theorem d_Walk_greatestBelow_39 : decode prog_10_method_5_code 39 = .ok (.getfield 18, 3) := by decide +kernel
theorem d_Walk_greatestBelow_42 : decode prog_10_method_5_code 42 = .ok (.iload 6, 2) := by decide +kernel
theorem d_Walk_greatestBelow_44 : decode prog_10_method_5_code 44 = .ok (.iaload, 1) := by decide +kernel
theorem d_Walk_greatestBelow_45 : decode prog_10_method_5_code 45 = .ok (.invokestatic 83, 3) := by decide +kernel
theorem d_Walk_greatestBelow_48 : decode prog_10_method_5_code 48 = .ok (.istore 4, 2) := by decide +kernel
theorem d_Walk_greatestBelow_50 : decode prog_10_method_5_code 50 = .ok (.iinc 5 1, 3) := by decide +kernel
theorem d_Walk_greatestBelow_53 : decode prog_10_method_5_code 53 = .ok (.goto (-47), 3) := by decide +kernel
theorem d_Walk_greatestBelow_56 : decode prog_10_method_5_code 56 = .ok (.iload 4, 2) := by decide +kernel
theorem d_Walk_greatestBelow_58 : decode prog_10_method_5_code 58 = .ok (.ireturn, 1) := by decide +kernel
theorem d_Walk_learn_0 : decode prog_10_method_9_code 0 = .ok (.aload_n 0, 1) := by decide +kernel
theorem d_Walk_learn_1 : decode prog_10_method_9_code 1 = .ok (.getfield 29, 3) := by decide +kernel
theorem d_Walk_learn_4 : decode prog_10_method_9_code 4 = .ok (.getfield 67, 3) := by decide +kernel
theorem d_Walk_learn_7 : decode prog_10_method_9_code 7 = .ok (.iload_n 1, 1) := by decide +kernel
theorem d_Walk_learn_8 : decode prog_10_method_9_code 8 = .ok (.iaload, 1) := by decide +kernel
theorem d_Walk_learn_9 : decode prog_10_method_9_code 9 = .ok (.istore_n 3, 1) := by decide +kernel
theorem d_Walk_learn_10 : decode prog_10_method_9_code 10 = .ok (.iconst 1, 1) := by decide +kernel
theorem d_Walk_learn_11 : decode prog_10_method_9_code 11 = .ok (.aload_n 0, 1) := by decide +kernel
theorem d_Walk_learn_12 : decode prog_10_method_9_code 12 = .ok (.getfield 45, 3) := by decide +kernel
theorem d_Walk_learn_15 : decode prog_10_method_9_code 15 = .ok (.ishl, 1) := by decide +kernel
theorem d_Walk_learn_16 : decode prog_10_method_9_code 16 = .ok (.istore 4, 2) := by decide +kernel
theorem d_Walk_learn_18 : decode prog_10_method_9_code 18 = .ok (.iload_n 2, 1) := by decide +kernel
theorem d_Walk_learn_19 : decode prog_10_method_9_code 19 = .ok (.ifCond .ne 54, 3) := by decide +kernel
theorem d_Walk_learn_22 : decode prog_10_method_9_code 22 = .ok (.aload_n 0, 1) := by decide +kernel
theorem d_Walk_learn_23 : decode prog_10_method_9_code 23 = .ok (.getfield 25, 3) := by decide +kernel
theorem d_Walk_learn_26 : decode prog_10_method_9_code 26 = .ok (.iload_n 3, 1) := by decide +kernel
theorem d_Walk_learn_27 : decode prog_10_method_9_code 27 = .ok (.ifCond .ge 7, 3) := by decide +kernel
theorem d_Walk_learn_30 : decode prog_10_method_9_code 30 = .ok (.iconst 1, 1) := by decide +kernel
theorem d_Walk_learn_31 : decode prog_10_method_9_code 31 = .ok (.goto 4, 3) := by decide +kernel
theorem d_Walk_learn_34 : decode prog_10_method_9_code 34 = .ok (.iconst 0, 1) := by decide +kernel
theorem d_Walk_learn_35 : decode prog_10_method_9_code 35 = .ok (.invokevirtual 104, 3) := by decide +kernel
theorem d_Walk_learn_38 : decode prog_10_method_9_code 38 = .ok (.istore 5, 2) := by decide +kernel
theorem d_Walk_learn_40 : decode prog_10_method_9_code 40 = .ok (.aload_n 0, 1) := by decide +kernel
theorem d_Walk_learn_41 : decode prog_10_method_9_code 41 = .ok (.getfield 9, 3) := by decide +kernel
theorem d_Walk_learn_44 : decode prog_10_method_9_code 44 = .ok (.iload_n 1, 1) := by decide +kernel
theorem d_Walk_learn_45 : decode prog_10_method_9_code 45 = .ok (.iload 5, 2) := by decide +kernel
theorem d_Walk_learn_47 : decode prog_10_method_9_code 47 = .ok (.iconst (-1), 1) := by decide +kernel
theorem d_Walk_learn_48 : decode prog_10_method_9_code 48 = .ok (.if_icmp .ne 7, 3) := by decide +kernel
theorem d_Walk_learn_51 : decode prog_10_method_9_code 51 = .ok (.iconst 0, 1) := by decide +kernel
theorem d_Walk_learn_52 : decode prog_10_method_9_code 52 = .ok (.goto 17, 3) := by decide +kernel
theorem d_Walk_learn_55 : decode prog_10_method_9_code 55 = .ok (.iload 5, 2) := by decide +kernel
theorem d_Walk_learn_57 : decode prog_10_method_9_code 57 = .ok (.iconst 1, 1) := by decide +kernel
theorem d_Walk_learn_58 : decode prog_10_method_9_code 58 = .ok (.if_icmp .ne 9, 3) := by decide +kernel
theorem d_Walk_learn_61 : decode prog_10_method_9_code 61 = .ok (.iload 4, 2) := by decide +kernel
theorem d_Walk_learn_63 : decode prog_10_method_9_code 63 = .ok (.ineg, 1) := by decide +kernel
theorem d_Walk_learn_64 : decode prog_10_method_9_code 64 = .ok (.goto 5, 3) := by decide +kernel
theorem d_Walk_learn_67 : decode prog_10_method_9_code 67 = .ok (.iload 4, 2) := by decide +kernel
theorem d_Walk_learn_69 : decode prog_10_method_9_code 69 = .ok (.iastore, 1) := by decide +kernel
theorem d_Walk_learn_70 : decode prog_10_method_9_code 70 = .ok (.goto 51, 3) := by decide +kernel
theorem d_Walk_learn_73 : decode prog_10_method_9_code 73 = .ok (.aload_n 0, 1) := by decide +kernel
theorem d_Walk_learn_74 : decode prog_10_method_9_code 74 = .ok (.getfield 25, 3) := by decide +kernel
theorem d_Walk_learn_77 : decode prog_10_method_9_code 77 = .ok (.iload_n 3, 1) := by decide +kernel
theorem d_Walk_learn_78 : decode prog_10_method_9_code 78 = .ok (.invokestatic 70, 3) := by decide +kernel
theorem d_Walk_learn_81 : decode prog_10_method_9_code 81 = .ok (.aload_n 0, 1) := by decide +kernel
theorem d_Walk_learn_82 : decode prog_10_method_9_code 82 = .ok (.getfield 45, 3) := by decide +kernel
theorem d_Walk_learn_85 : decode prog_10_method_9_code 85 = .ok (.ishr, 1) := by decide +kernel
theorem d_Walk_learn_86 : decode prog_10_method_9_code 86 = .ok (.iconst 1, 1) := by decide +kernel
theorem d_Walk_learn_87 : decode prog_10_method_9_code 87 = .ok (.iand, 1) := by decide +kernel
theorem d_Walk_learn_88 : decode prog_10_method_9_code 88 = .ok (.invokevirtual 104, 3) := by decide +kernel
theorem d_Walk_learn_91 : decode prog_10_method_9_code 91 = .ok (.iconst 1, 1) := by decide +kernel
theorem d_Walk_learn_92 : decode prog_10_method_9_code 92 = .ok (.if_icmp .ne 29, 3) := by decide +kernel
theorem d_Walk_learn_95 : decode prog_10_method_9_code 95 = .ok (.aload_n 0, 1) := by decide +kernel
theorem d_Walk_learn_96 : decode prog_10_method_9_code 96 = .ok (.getfield 9, 3) := by decide +kernel
theorem d_Walk_learn_99 : decode prog_10_method_9_code 99 = .ok (.iload_n 1, 1) := by decide +kernel
theorem d_Walk_learn_100 : decode prog_10_method_9_code 100 = .ok (.dup2, 1) := by decide +kernel
theorem d_Walk_learn_101 : decode prog_10_method_9_code 101 = .ok (.iaload, 1) := by decide +kernel
theorem d_Walk_learn_102 : decode prog_10_method_9_code 102 = .ok (.aload_n 0, 1) := by decide +kernel
theorem d_Walk_learn_103 : decode prog_10_method_9_code 103 = .ok (.getfield 9, 3) := by decide +kernel
theorem d_Walk_learn_106 : decode prog_10_method_9_code 106 = .ok (.iload_n 1, 1) := by decide +kernel
theorem d_Walk_learn_107 : decode prog_10_method_9_code 107 = .ok (.iaload, 1) := by decide +kernel
theorem d_Walk_learn_108 : decode prog_10_method_9_code 108 = .ok (.ifCond .ge 9, 3) := by decide +kernel
theorem d_Walk_learn_111 : decode prog_10_method_9_code 111 = .ok (.iload 4, 2) := by decide +kernel
theorem d_Walk_learn_113 : decode prog_10_method_9_code 113 = .ok (.ineg, 1) := by decide +kernel
theorem d_Walk_learn_114 : decode prog_10_method_9_code 114 = .ok (.goto 5, 3) := by decide +kernel
theorem d_Walk_learn_117 : decode prog_10_method_9_code 117 = .ok (.iload 4, 2) := by decide +kernel
theorem d_Walk_learn_119 : decode prog_10_method_9_code 119 = .ok (.iadd, 1) := by decide +kernel
theorem d_Walk_learn_120 : decode prog_10_method_9_code 120 = .ok (.iastore, 1) := by decide +kernel
theorem d_Walk_learn_121 : decode prog_10_method_9_code 121 = .ok (.return_, 1) := by decide +kernel
theorem d_Walk_measure_0 : decode prog_10_method_4_code 0 = .ok (.aload_n 0, 1) := by decide +kernel
theorem d_Walk_measure_1 : decode prog_10_method_4_code 1 = .ok (.getfield 18, 3) := by decide +kernel
theorem d_Walk_measure_4 : decode prog_10_method_4_code 4 = .ok (.iconst (-1), 1) := by decide +kernel
theorem d_Walk_measure_5 : decode prog_10_method_4_code 5 = .ok (.invokestatic 52, 3) := by decide +kernel
theorem d_Walk_measure_8 : decode prog_10_method_4_code 8 = .ok (.iconst 0, 1) := by decide +kernel
theorem d_Walk_measure_9 : decode prog_10_method_4_code 9 = .ok (.istore_n 1, 1) := by decide +kernel
theorem d_Walk_measure_10 : decode prog_10_method_4_code 10 = .ok (.iload_n 1, 1) := by decide +kernel
theorem d_Walk_measure_11 : decode prog_10_method_4_code 11 = .ok (.sipush 256, 3) := by decide +kernel
theorem d_Walk_measure_14 : decode prog_10_method_4_code 14 = .ok (.if_icmp .ge 42, 3) := by decide +kernel
theorem d_Walk_measure_17 : decode prog_10_method_4_code 17 = .ok (.aload_n 0, 1) := by decide +kernel
theorem d_Walk_measure_18 : decode prog_10_method_4_code 18 = .ok (.getfield 29, 3) := by decide +kernel
theorem d_Walk_measure_21 : decode prog_10_method_4_code 21 = .ok (.getfield 58, 3) := by decide +kernel
theorem d_Walk_measure_24 : decode prog_10_method_4_code 24 = .ok (.getfield 62, 3) := by decide +kernel
theorem d_Walk_measure_27 : decode prog_10_method_4_code 27 = .ok (.iload_n 1, 1) := by decide +kernel
theorem d_Walk_measure_28 : decode prog_10_method_4_code 28 = .ok (.baload, 1) := by decide +kernel
theorem d_Walk_measure_29 : decode prog_10_method_4_code 29 = .ok (.ifCond .eq 21, 3) := by decide +kernel
theorem d_Walk_measure_32 : decode prog_10_method_4_code 32 = .ok (.aload_n 0, 1) := by decide +kernel
theorem d_Walk_measure_33 : decode prog_10_method_4_code 33 = .ok (.getfield 18, 3) := by decide +kernel
theorem d_Walk_measure_36 : decode prog_10_method_4_code 36 = .ok (.iload_n 1, 1) := by decide +kernel
theorem d_Walk_measure_37 : decode prog_10_method_4_code 37 = .ok (.aload_n 0, 1) := by decide +kernel
theorem d_Walk_measure_38 : decode prog_10_method_4_code 38 = .ok (.getfield 29, 3) := by decide +kernel
theorem d_Walk_measure_41 : decode prog_10_method_4_code 41 = .ok (.getfield 67, 3) := by decide +kernel
theorem d_Walk_measure_44 : decode prog_10_method_4_code 44 = .ok (.iload_n 1, 1) := by decide +kernel
theorem d_Walk_measure_45 : decode prog_10_method_4_code 45 = .ok (.iaload, 1) := by decide +kernel
theorem d_Walk_measure_46 : decode prog_10_method_4_code 46 = .ok (.invokestatic 70, 3) := by decide +kernel
theorem d_Walk_measure_49 : decode prog_10_method_4_code 49 = .ok (.iastore, 1) := by decide +kernel
theorem d_Walk_measure_50 : decode prog_10_method_4_code 50 = .ok (.iinc 1 1, 3) := by decide +kernel
theorem d_Walk_measure_53 : decode prog_10_method_4_code 53 = .ok (.goto (-43), 3) := by decide +kernel
theorem d_Walk_measure_56 : decode prog_10_method_4_code 56 = .ok (.iconst 1, 1) := by decide +kernel
theorem d_Walk_measure_57 : decode prog_10_method_4_code 57 = .ok (.istore_n 1, 1) := by decide +kernel
theorem d_Walk_measure_58 : decode prog_10_method_4_code 58 = .ok (.iload_n 1, 1) := by decide +kernel
theorem d_Walk_measure_59 : decode prog_10_method_4_code 59 = .ok (.iconst 3, 1) := by decide +kernel
theorem d_Walk_measure_60 : decode prog_10_method_4_code 60 = .ok (.if_icmp .gt 62, 3) := by decide +kernel
theorem d_Walk_measure_63 : decode prog_10_method_4_code 63 = .ok (.bipush 16, 2) := by decide +kernel
theorem d_Walk_measure_65 : decode prog_10_method_4_code 65 = .ok (.iload_n 1, 1) := by decide +kernel
theorem d_Walk_measure_66 : decode prog_10_method_4_code 66 = .ok (.ishr, 1) := by decide +kernel
theorem d_Walk_measure_67 : decode prog_10_method_4_code 67 = .ok (.istore_n 2, 1) := by decide +kernel
theorem d_Walk_measure_68 : decode prog_10_method_4_code 68 = .ok (.iconst 0, 1) := by decide +kernel
theorem d_Walk_measure_69 : decode prog_10_method_4_code 69 = .ok (.istore_n 3, 1) := by decide +kernel
theorem d_Walk_measure_70 : decode prog_10_method_4_code 70 = .ok (.iload_n 3, 1) := by decide +kernel
theorem d_Walk_measure_71 : decode prog_10_method_4_code 71 = .ok (.iload_n 2, 1) := by decide +kernel
theorem d_Walk_measure_72 : decode prog_10_method_4_code 72 = .ok (.if_icmp .ge 44, 3) := by decide +kernel
theorem d_Walk_measure_75 : decode prog_10_method_4_code 75 = .ok (.iconst 0, 1) := by decide +kernel
theorem d_Walk_measure_76 : decode prog_10_method_4_code 76 = .ok (.istore 4, 2) := by decide +kernel
theorem d_Walk_measure_78 : decode prog_10_method_4_code 78 = .ok (.iload 4, 2) := by decide +kernel
theorem d_Walk_measure_80 : decode prog_10_method_4_code 80 = .ok (.iload_n 2, 1) := by decide +kernel
theorem d_Walk_measure_81 : decode prog_10_method_4_code 81 = .ok (.if_icmp .ge 29, 3) := by decide +kernel
theorem d_Walk_measure_84 : decode prog_10_method_4_code 84 = .ok (.aload_n 0, 1) := by decide +kernel
theorem d_Walk_measure_85 : decode prog_10_method_4_code 85 = .ok (.getfield 18, 3) := by decide +kernel
theorem d_Walk_measure_88 : decode prog_10_method_4_code 88 = .ok (.iload_n 1, 1) := by decide +kernel
theorem d_Walk_measure_89 : decode prog_10_method_4_code 89 = .ok (.iload 4, 2) := by decide +kernel
theorem d_Walk_measure_91 : decode prog_10_method_4_code 91 = .ok (.iload_n 3, 1) := by decide +kernel
theorem d_Walk_measure_92 : decode prog_10_method_4_code 92 = .ok (.invokestatic 76, 3) := by decide +kernel
theorem d_Walk_measure_95 : decode prog_10_method_4_code 95 = .ok (.aload_n 0, 1) := by decide +kernel
theorem d_Walk_measure_96 : decode prog_10_method_4_code 96 = .ok (.iload_n 1, 1) := by decide +kernel
theorem d_Walk_measure_97 : decode prog_10_method_4_code 97 = .ok (.iload 4, 2) := by decide +kernel
theorem d_Walk_measure_99 : decode prog_10_method_4_code 99 = .ok (.iload_n 3, 1) := by decide +kernel
theorem d_Walk_measure_100 : decode prog_10_method_4_code 100 = .ok (.invokevirtual 80, 3) := by decide +kernel
theorem d_Walk_measure_103 : decode prog_10_method_4_code 103 = .ok (.iastore, 1) := by decide +kernel
theorem d_Walk_measure_104 : decode prog_10_method_4_code 104 = .ok (.iinc 4 1, 3) := by decide +kernel
theorem d_Walk_measure_107 : decode prog_10_method_4_code 107 = .ok (.goto (-29), 3) := by decide +kernel
theorem d_Walk_measure_110 : decode prog_10_method_4_code 110 = .ok (.iinc 3 1, 3) := by decide +kernel
theorem d_Walk_measure_113 : decode prog_10_method_4_code 113 = .ok (.goto (-43), 3) := by decide +kernel
theorem d_Walk_measure_116 : decode prog_10_method_4_code 116 = .ok (.iinc 1 1, 3) := by decide +kernel
theorem d_Walk_measure_119 : decode prog_10_method_4_code 119 = .ok (.goto (-61), 3) := by decide +kernel
theorem d_Walk_measure_122 : decode prog_10_method_4_code 122 = .ok (.return_, 1) := by decide +kernel
theorem d_Walk_opens_0 : decode prog_10_method_8_code 0 = .ok (.aload_n 0, 1) := by decide +kernel
theorem d_Walk_opens_1 : decode prog_10_method_8_code 1 = .ok (.getfield 25, 3) := by decide +kernel
theorem d_Walk_opens_4 : decode prog_10_method_8_code 4 = .ok (.aload_n 0, 1) := by decide +kernel
theorem d_Walk_opens_5 : decode prog_10_method_8_code 5 = .ok (.getfield 18, 3) := by decide +kernel
theorem d_Walk_opens_8 : decode prog_10_method_8_code 8 = .ok (.iload_n 2, 1) := by decide +kernel
theorem d_Walk_opens_9 : decode prog_10_method_8_code 9 = .ok (.iaload, 1) := by decide +kernel
theorem d_Walk_opens_10 : decode prog_10_method_8_code 10 = .ok (.iconst 1, 1) := by decide +kernel
theorem d_Walk_opens_11 : decode prog_10_method_8_code 11 = .ok (.aload_n 0, 1) := by decide +kernel
theorem d_Walk_opens_12 : decode prog_10_method_8_code 12 = .ok (.getfield 45, 3) := by decide +kernel
theorem d_Walk_opens_15 : decode prog_10_method_8_code 15 = .ok (.ishl, 1) := by decide +kernel
theorem d_Walk_opens_16 : decode prog_10_method_8_code 16 = .ok (.if_icmp .lt 7, 3) := by decide +kernel
theorem d_Walk_opens_19 : decode prog_10_method_8_code 19 = .ok (.iconst 1, 1) := by decide +kernel
theorem d_Walk_opens_20 : decode prog_10_method_8_code 20 = .ok (.goto 4, 3) := by decide +kernel
theorem d_Walk_opens_23 : decode prog_10_method_8_code 23 = .ok (.iconst 0, 1) := by decide +kernel
theorem d_Walk_opens_24 : decode prog_10_method_8_code 24 = .ok (.invokevirtual 104, 3) := by decide +kernel
theorem d_Walk_opens_27 : decode prog_10_method_8_code 27 = .ok (.istore_n 3, 1) := by decide +kernel
theorem d_Walk_opens_28 : decode prog_10_method_8_code 28 = .ok (.iload_n 3, 1) := by decide +kernel
theorem d_Walk_opens_29 : decode prog_10_method_8_code 29 = .ok (.ifCond .ne 13, 3) := by decide +kernel
theorem d_Walk_opens_32 : decode prog_10_method_8_code 32 = .ok (.aload_n 0, 1) := by decide +kernel
theorem d_Walk_opens_33 : decode prog_10_method_8_code 33 = .ok (.getfield 15, 3) := by decide +kernel
theorem d_Walk_opens_36 : decode prog_10_method_8_code 36 = .ok (.iload_n 1, 1) := by decide +kernel
theorem d_Walk_opens_37 : decode prog_10_method_8_code 37 = .ok (.dup2, 1) := by decide +kernel
theorem d_Walk_opens_38 : decode prog_10_method_8_code 38 = .ok (.iaload, 1) := by decide +kernel
theorem d_Walk_opens_39 : decode prog_10_method_8_code 39 = .ok (.iconst 1, 1) := by decide +kernel
theorem d_Walk_opens_40 : decode prog_10_method_8_code 40 = .ok (.iadd, 1) := by decide +kernel
theorem d_Walk_opens_41 : decode prog_10_method_8_code 41 = .ok (.iastore, 1) := by decide +kernel
theorem d_Walk_opens_42 : decode prog_10_method_8_code 42 = .ok (.aload_n 0, 1) := by decide +kernel
theorem d_Walk_opens_43 : decode prog_10_method_8_code 43 = .ok (.getfield 21, 3) := by decide +kernel
theorem d_Walk_opens_46 : decode prog_10_method_8_code 46 = .ok (.iload_n 2, 1) := by decide +kernel
theorem d_Walk_opens_47 : decode prog_10_method_8_code 47 = .ok (.iload_n 3, 1) := by decide +kernel
theorem d_Walk_opens_48 : decode prog_10_method_8_code 48 = .ok (.iconst 1, 1) := by decide +kernel
theorem d_Walk_opens_49 : decode prog_10_method_8_code 49 = .ok (.if_icmp .ne 7, 3) := by decide +kernel
theorem d_Walk_opens_52 : decode prog_10_method_8_code 52 = .ok (.iconst 1, 1) := by decide +kernel
theorem d_Walk_opens_53 : decode prog_10_method_8_code 53 = .ok (.goto 4, 3) := by decide +kernel
theorem d_Walk_opens_56 : decode prog_10_method_8_code 56 = .ok (.iconst 0, 1) := by decide +kernel
theorem d_Walk_opens_57 : decode prog_10_method_8_code 57 = .ok (.bastore, 1) := by decide +kernel
theorem d_Walk_opens_58 : decode prog_10_method_8_code 58 = .ok (.aload_n 0, 1) := by decide +kernel
theorem d_Walk_opens_59 : decode prog_10_method_8_code 59 = .ok (.getfield 21, 3) := by decide +kernel
theorem d_Walk_opens_62 : decode prog_10_method_8_code 62 = .ok (.iload_n 2, 1) := by decide +kernel
theorem d_Walk_opens_63 : decode prog_10_method_8_code 63 = .ok (.baload, 1) := by decide +kernel
theorem d_Walk_opens_64 : decode prog_10_method_8_code 64 = .ok (.ireturn, 1) := by decide +kernel
theorem d_Walk_squareOf_0 : decode prog_10_method_6_code 0 = .ok (.getstatic 87, 3) := by decide +kernel
theorem d_Walk_squareOf_3 : decode prog_10_method_6_code 3 = .ok (.iload_n 0, 1) := by decide +kernel
theorem d_Walk_squareOf_4 : decode prog_10_method_6_code 4 = .ok (.iaload, 1) := by decide +kernel
theorem d_Walk_squareOf_5 : decode prog_10_method_6_code 5 = .ok (.iload_n 2, 1) := by decide +kernel
theorem d_Walk_squareOf_6 : decode prog_10_method_6_code 6 = .ok (.iconst 4, 1) := by decide +kernel
theorem d_Walk_squareOf_7 : decode prog_10_method_6_code 7 = .ok (.iload_n 0, 1) := by decide +kernel
theorem d_Walk_squareOf_8 : decode prog_10_method_6_code 8 = .ok (.isub, 1) := by decide +kernel
theorem d_Walk_squareOf_9 : decode prog_10_method_6_code 9 = .ok (.ishl, 1) := by decide +kernel
theorem d_Walk_squareOf_10 : decode prog_10_method_6_code 10 = .ok (.iadd, 1) := by decide +kernel
theorem d_Walk_squareOf_11 : decode prog_10_method_6_code 11 = .ok (.iload_n 1, 1) := by decide +kernel
theorem d_Walk_squareOf_12 : decode prog_10_method_6_code 12 = .ok (.iadd, 1) := by decide +kernel
theorem d_Walk_squareOf_13 : decode prog_10_method_6_code 13 = .ok (.ireturn, 1) := by decide +kernel
