def y_Arrays_fill : MethodName := ⟨"java/util/Arrays", "fill", "([II)V"⟩
abbrev ws_Arrays_fill : List Cond := Cond.code y_Arrays_fill prog_23_method_103_code 4 none :: gt
def y_FW_bitsOf : MethodName := ⟨"FreeWavelets", "bitsOf", "(I)I"⟩
abbrev ws_FW_bitsOf : List Cond := Cond.code y_FW_bitsOf prog_1_method_23_code 2 (some .int) :: gt
def y_FW_columnOf : MethodName := ⟨"FreeWavelets", "columnOf", "(I)I"⟩
abbrev ws_FW_columnOf : List Cond := Cond.code y_FW_columnOf prog_1_method_21_code 1 (some .int) :: gt
def y_FW_nearestSide : MethodName := ⟨"FreeWavelets", "nearestSide", "(I)I"⟩
abbrev ws_FW_nearestSide : List Cond := Cond.code y_FW_nearestSide prog_1_method_19_code 1 (some .int) :: gt
def y_FW_rowOf : MethodName := ⟨"FreeWavelets", "rowOf", "(I)I"⟩
abbrev ws_FW_rowOf : List Cond := Cond.code y_FW_rowOf prog_1_method_22_code 1 (some .int) :: gt
def y_FW_sampleOf : MethodName := ⟨"FreeWavelets", "sampleOf", "(II)I"⟩
abbrev ws_FW_sampleOf : List Cond := Cond.code y_FW_sampleOf prog_1_method_20_code 2 (some .int) :: gt
def y_Shape_findParts : MethodName := ⟨"FreeWavelets$Shape", "findParts", "()V"⟩
abbrev ws_Shape_findParts : List Cond := Cond.code y_Shape_findParts prog_8_method_5_code 4 none :: gt
def y_Shape_has : MethodName := ⟨"FreeWavelets$Shape", "has", "(II)Z"⟩
abbrev ws_Shape_has : List Cond := Cond.code y_Shape_has prog_8_method_3_code 3 (some .boolean) :: gt
def y_Shape_join : MethodName := ⟨"FreeWavelets$Shape", "join", "(II)I"⟩
abbrev ws_Shape_join : List Cond := Cond.code y_Shape_join prog_8_method_7_code 3 (some .int) :: gt
def y_Shape_resize : MethodName := ⟨"FreeWavelets$Shape", "resize", "(II)V"⟩
abbrev ws_Shape_resize : List Cond := Cond.code y_Shape_resize prog_8_method_2_code 4 none :: gt
def y_Shape_spread : MethodName := ⟨"FreeWavelets$Shape", "spread", "(I)V"⟩
abbrev ws_Shape_spread : List Cond := Cond.code y_Shape_spread prog_8_method_6_code 7 none :: gt
theorem d_Arrays_fill_0 : decode prog_23_method_103_code 0 = .ok (.iconst 0, 1) := by decide +kernel
theorem d_Arrays_fill_1 : decode prog_23_method_103_code 1 = .ok (.istore_n 2, 1) := by decide +kernel
theorem d_Arrays_fill_2 : decode prog_23_method_103_code 2 = .ok (.aload_n 0, 1) := by decide +kernel
theorem d_Arrays_fill_3 : decode prog_23_method_103_code 3 = .ok (.arraylength, 1) := by decide +kernel
theorem d_Arrays_fill_4 : decode prog_23_method_103_code 4 = .ok (.istore_n 3, 1) := by decide +kernel
theorem d_Arrays_fill_5 : decode prog_23_method_103_code 5 = .ok (.iload_n 2, 1) := by decide +kernel
theorem d_Arrays_fill_6 : decode prog_23_method_103_code 6 = .ok (.iload_n 3, 1) := by decide +kernel
theorem d_Arrays_fill_7 : decode prog_23_method_103_code 7 = .ok (.if_icmp .ge 13, 3) := by decide +kernel
theorem d_Arrays_fill_10 : decode prog_23_method_103_code 10 = .ok (.aload_n 0, 1) := by decide +kernel
theorem d_Arrays_fill_11 : decode prog_23_method_103_code 11 = .ok (.iload_n 2, 1) := by decide +kernel
theorem d_Arrays_fill_12 : decode prog_23_method_103_code 12 = .ok (.iload_n 1, 1) := by decide +kernel
theorem d_Arrays_fill_13 : decode prog_23_method_103_code 13 = .ok (.iastore, 1) := by decide +kernel
theorem d_Arrays_fill_14 : decode prog_23_method_103_code 14 = .ok (.iinc 2 1, 3) := by decide +kernel
theorem d_Arrays_fill_17 : decode prog_23_method_103_code 17 = .ok (.goto (-12), 3) := by decide +kernel
theorem d_Arrays_fill_20 : decode prog_23_method_103_code 20 = .ok (.return_, 1) := by decide +kernel
theorem d_FW_bitsOf_0 : decode prog_1_method_23_code 0 = .ok (.iconst 0, 1) := by decide +kernel
theorem d_FW_bitsOf_1 : decode prog_1_method_23_code 1 = .ok (.istore_n 1, 1) := by decide +kernel
theorem d_FW_bitsOf_2 : decode prog_1_method_23_code 2 = .ok (.iload_n 1, 1) := by decide +kernel
theorem d_FW_bitsOf_3 : decode prog_1_method_23_code 3 = .ok (.bipush 31, 2) := by decide +kernel
theorem d_FW_bitsOf_5 : decode prog_1_method_23_code 5 = .ok (.if_icmp .ge 15, 3) := by decide +kernel
theorem d_FW_bitsOf_8 : decode prog_1_method_23_code 8 = .ok (.iload_n 0, 1) := by decide +kernel
theorem d_FW_bitsOf_9 : decode prog_1_method_23_code 9 = .ok (.iload_n 1, 1) := by decide +kernel
theorem d_FW_bitsOf_10 : decode prog_1_method_23_code 10 = .ok (.ishr, 1) := by decide +kernel
theorem d_FW_bitsOf_11 : decode prog_1_method_23_code 11 = .ok (.ifCond .le 9, 3) := by decide +kernel
theorem d_FW_bitsOf_14 : decode prog_1_method_23_code 14 = .ok (.iinc 1 1, 3) := by decide +kernel
theorem d_FW_bitsOf_17 : decode prog_1_method_23_code 17 = .ok (.goto (-15), 3) := by decide +kernel
theorem d_FW_bitsOf_20 : decode prog_1_method_23_code 20 = .ok (.iload_n 1, 1) := by decide +kernel
theorem d_FW_bitsOf_21 : decode prog_1_method_23_code 21 = .ok (.ireturn, 1) := by decide +kernel
theorem d_FW_columnOf_0 : decode prog_1_method_21_code 0 = .ok (.iload_n 0, 1) := by decide +kernel
theorem d_FW_columnOf_1 : decode prog_1_method_21_code 1 = .ok (.bipush 15, 2) := by decide +kernel
theorem d_FW_columnOf_3 : decode prog_1_method_21_code 3 = .ok (.iand, 1) := by decide +kernel
theorem d_FW_columnOf_4 : decode prog_1_method_21_code 4 = .ok (.ireturn, 1) := by decide +kernel
theorem d_FW_nearestSide_0 : decode prog_1_method_19_code 0 = .ok (.iconst 1, 1) := by decide +kernel
theorem d_FW_nearestSide_1 : decode prog_1_method_19_code 1 = .ok (.bipush 16, 2) := by decide +kernel
theorem d_FW_nearestSide_3 : decode prog_1_method_19_code 3 = .ok (.iload_n 0, 1) := by decide +kernel
theorem d_FW_nearestSide_4 : decode prog_1_method_19_code 4 = .ok (.invokestatic 183, 3) := by decide +kernel
theorem d_FW_nearestSide_7 : decode prog_1_method_19_code 7 = .ok (.invokestatic 252, 3) := by decide +kernel
theorem d_FW_nearestSide_10 : decode prog_1_method_19_code 10 = .ok (.ireturn, 1) := by decide +kernel
theorem d_FW_rowOf_0 : decode prog_1_method_22_code 0 = .ok (.iload_n 0, 1) := by decide +kernel
theorem d_FW_rowOf_1 : decode prog_1_method_22_code 1 = .ok (.iconst 4, 1) := by decide +kernel
theorem d_FW_rowOf_2 : decode prog_1_method_22_code 2 = .ok (.ishr, 1) := by decide +kernel
theorem d_FW_rowOf_3 : decode prog_1_method_22_code 3 = .ok (.ireturn, 1) := by decide +kernel
theorem d_FW_sampleOf_0 : decode prog_1_method_20_code 0 = .ok (.iload_n 1, 1) := by decide +kernel
theorem d_FW_sampleOf_1 : decode prog_1_method_20_code 1 = .ok (.bipush 16, 2) := by decide +kernel
theorem d_FW_sampleOf_3 : decode prog_1_method_20_code 3 = .ok (.imul, 1) := by decide +kernel
theorem d_FW_sampleOf_4 : decode prog_1_method_20_code 4 = .ok (.iload_n 0, 1) := by decide +kernel
theorem d_FW_sampleOf_5 : decode prog_1_method_20_code 5 = .ok (.iadd, 1) := by decide +kernel
theorem d_FW_sampleOf_6 : decode prog_1_method_20_code 6 = .ok (.ireturn, 1) := by decide +kernel
theorem d_Shape_findParts_0 : decode prog_8_method_5_code 0 = .ok (.aload_n 0, 1) := by decide +kernel
theorem d_Shape_findParts_1 : decode prog_8_method_5_code 1 = .ok (.getfield 15, 3) := by decide +kernel
theorem d_Shape_findParts_4 : decode prog_8_method_5_code 4 = .ok (.iconst (-1), 1) := by decide +kernel
theorem d_Shape_findParts_5 : decode prog_8_method_5_code 5 = .ok (.invokestatic 46, 3) := by decide +kernel
theorem d_Shape_findParts_8 : decode prog_8_method_5_code 8 = .ok (.aload_n 0, 1) := by decide +kernel
theorem d_Shape_findParts_9 : decode prog_8_method_5_code 9 = .ok (.iconst 0, 1) := by decide +kernel
theorem d_Shape_findParts_10 : decode prog_8_method_5_code 10 = .ok (.putfield 52, 3) := by decide +kernel
theorem d_Shape_findParts_13 : decode prog_8_method_5_code 13 = .ok (.aload_n 0, 1) := by decide +kernel
theorem d_Shape_findParts_14 : decode prog_8_method_5_code 14 = .ok (.iconst 0, 1) := by decide +kernel
theorem d_Shape_findParts_15 : decode prog_8_method_5_code 15 = .ok (.putfield 55, 3) := by decide +kernel
theorem d_Shape_findParts_18 : decode prog_8_method_5_code 18 = .ok (.iconst 0, 1) := by decide +kernel
theorem d_Shape_findParts_19 : decode prog_8_method_5_code 19 = .ok (.istore_n 1, 1) := by decide +kernel
theorem d_Shape_findParts_20 : decode prog_8_method_5_code 20 = .ok (.iload_n 1, 1) := by decide +kernel
theorem d_Shape_findParts_21 : decode prog_8_method_5_code 21 = .ok (.aload_n 0, 1) := by decide +kernel
theorem d_Shape_findParts_22 : decode prog_8_method_5_code 22 = .ok (.getfield 32, 3) := by decide +kernel
theorem d_Shape_findParts_25 : decode prog_8_method_5_code 25 = .ok (.if_icmp .ge 55, 3) := by decide +kernel
theorem d_Shape_findParts_28 : decode prog_8_method_5_code 28 = .ok (.iconst 0, 1) := by decide +kernel
theorem d_Shape_findParts_29 : decode prog_8_method_5_code 29 = .ok (.istore_n 2, 1) := by decide +kernel
theorem d_Shape_findParts_30 : decode prog_8_method_5_code 30 = .ok (.iload_n 2, 1) := by decide +kernel
theorem d_Shape_findParts_31 : decode prog_8_method_5_code 31 = .ok (.aload_n 0, 1) := by decide +kernel
theorem d_Shape_findParts_32 : decode prog_8_method_5_code 32 = .ok (.getfield 28, 3) := by decide +kernel
theorem d_Shape_findParts_35 : decode prog_8_method_5_code 35 = .ok (.if_icmp .ge 39, 3) := by decide +kernel
theorem d_Shape_findParts_38 : decode prog_8_method_5_code 38 = .ok (.iload_n 2, 1) := by decide +kernel
theorem d_Shape_findParts_39 : decode prog_8_method_5_code 39 = .ok (.iload_n 1, 1) := by decide +kernel
theorem d_Shape_findParts_40 : decode prog_8_method_5_code 40 = .ok (.invokestatic 42, 3) := by decide +kernel
theorem d_Shape_findParts_43 : decode prog_8_method_5_code 43 = .ok (.istore_n 3, 1) := by decide +kernel
theorem d_Shape_findParts_44 : decode prog_8_method_5_code 44 = .ok (.aload_n 0, 1) := by decide +kernel
theorem d_Shape_findParts_45 : decode prog_8_method_5_code 45 = .ok (.getfield 9, 3) := by decide +kernel
theorem d_Shape_findParts_48 : decode prog_8_method_5_code 48 = .ok (.iload_n 3, 1) := by decide +kernel
theorem d_Shape_findParts_49 : decode prog_8_method_5_code 49 = .ok (.baload, 1) := by decide +kernel
theorem d_Shape_findParts_50 : decode prog_8_method_5_code 50 = .ok (.ifCond .eq 18, 3) := by decide +kernel
theorem d_Shape_findParts_53 : decode prog_8_method_5_code 53 = .ok (.aload_n 0, 1) := by decide +kernel
theorem d_Shape_findParts_54 : decode prog_8_method_5_code 54 = .ok (.getfield 15, 3) := by decide +kernel
theorem d_Shape_findParts_57 : decode prog_8_method_5_code 57 = .ok (.iload_n 3, 1) := by decide +kernel
theorem d_Shape_findParts_58 : decode prog_8_method_5_code 58 = .ok (.iaload, 1) := by decide +kernel
theorem d_Shape_findParts_59 : decode prog_8_method_5_code 59 = .ok (.iconst (-1), 1) := by decide +kernel
theorem d_Shape_findParts_60 : decode prog_8_method_5_code 60 = .ok (.if_icmp .ne 8, 3) := by decide +kernel
theorem d_Shape_findParts_63 : decode prog_8_method_5_code 63 = .ok (.aload_n 0, 1) := by decide +kernel
theorem d_Shape_findParts_64 : decode prog_8_method_5_code 64 = .ok (.iload_n 3, 1) := by decide +kernel
theorem d_Shape_findParts_65 : decode prog_8_method_5_code 65 = .ok (.invokevirtual 58, 3) := by decide +kernel
theorem d_Shape_findParts_68 : decode prog_8_method_5_code 68 = .ok (.iinc 2 1, 3) := by decide +kernel
theorem d_Shape_findParts_71 : decode prog_8_method_5_code 71 = .ok (.goto (-41), 3) := by decide +kernel
theorem d_Shape_findParts_74 : decode prog_8_method_5_code 74 = .ok (.iinc 1 1, 3) := by decide +kernel
theorem d_Shape_findParts_77 : decode prog_8_method_5_code 77 = .ok (.goto (-57), 3) := by decide +kernel
theorem d_Shape_findParts_80 : decode prog_8_method_5_code 80 = .ok (.return_, 1) := by decide +kernel
theorem d_Shape_has_0 : decode prog_8_method_3_code 0 = .ok (.iload_n 1, 1) := by decide +kernel
theorem d_Shape_has_1 : decode prog_8_method_3_code 1 = .ok (.ifCond .lt 27, 3) := by decide +kernel
theorem d_Shape_has_4 : decode prog_8_method_3_code 4 = .ok (.iload_n 1, 1) := by decide +kernel
theorem d_Shape_has_5 : decode prog_8_method_3_code 5 = .ok (.aload_n 0, 1) := by decide +kernel
theorem d_Shape_has_6 : decode prog_8_method_3_code 6 = .ok (.getfield 28, 3) := by decide +kernel
theorem d_Shape_has_9 : decode prog_8_method_3_code 9 = .ok (.if_icmp .ge 19, 3) := by decide +kernel
theorem d_Shape_has_12 : decode prog_8_method_3_code 12 = .ok (.iload_n 2, 1) := by decide +kernel
theorem d_Shape_has_13 : decode prog_8_method_3_code 13 = .ok (.ifCond .lt 15, 3) := by decide +kernel
theorem d_Shape_has_16 : decode prog_8_method_3_code 16 = .ok (.iload_n 2, 1) := by decide +kernel
theorem d_Shape_has_17 : decode prog_8_method_3_code 17 = .ok (.aload_n 0, 1) := by decide +kernel
theorem d_Shape_has_18 : decode prog_8_method_3_code 18 = .ok (.getfield 32, 3) := by decide +kernel
theorem d_Shape_has_21 : decode prog_8_method_3_code 21 = .ok (.if_icmp .ge 7, 3) := by decide +kernel
theorem d_Shape_has_24 : decode prog_8_method_3_code 24 = .ok (.iconst 1, 1) := by decide +kernel
theorem d_Shape_has_25 : decode prog_8_method_3_code 25 = .ok (.goto 4, 3) := by decide +kernel
theorem d_Shape_has_28 : decode prog_8_method_3_code 28 = .ok (.iconst 0, 1) := by decide +kernel
theorem d_Shape_has_29 : decode prog_8_method_3_code 29 = .ok (.ireturn, 1) := by decide +kernel
theorem d_Shape_join_0 : decode prog_8_method_7_code 0 = .ok (.aload_n 0, 1) := by decide +kernel
theorem d_Shape_join_1 : decode prog_8_method_7_code 1 = .ok (.getfield 9, 3) := by decide +kernel
theorem d_Shape_join_4 : decode prog_8_method_7_code 4 = .ok (.iload_n 1, 1) := by decide +kernel
theorem d_Shape_join_5 : decode prog_8_method_7_code 5 = .ok (.baload, 1) := by decide +kernel
theorem d_Shape_join_6 : decode prog_8_method_7_code 6 = .ok (.ifCond .eq 20, 3) := by decide +kernel
theorem d_Shape_join_9 : decode prog_8_method_7_code 9 = .ok (.aload_n 0, 1) := by decide +kernel
theorem d_Shape_join_10 : decode prog_8_method_7_code 10 = .ok (.getfield 15, 3) := by decide +kernel
theorem d_Shape_join_13 : decode prog_8_method_7_code 13 = .ok (.iload_n 1, 1) := by decide +kernel
theorem d_Shape_join_14 : decode prog_8_method_7_code 14 = .ok (.iaload, 1) := by decide +kernel
theorem d_Shape_join_15 : decode prog_8_method_7_code 15 = .ok (.iconst (-1), 1) := by decide +kernel
theorem d_Shape_join_16 : decode prog_8_method_7_code 16 = .ok (.if_icmp .ne 10, 3) := by decide +kernel
theorem d_Shape_join_19 : decode prog_8_method_7_code 19 = .ok (.iload_n 2, 1) := by decide +kernel
theorem d_Shape_join_20 : decode prog_8_method_7_code 20 = .ok (.sipush 256, 3) := by decide +kernel
theorem d_Shape_join_23 : decode prog_8_method_7_code 23 = .ok (.if_icmp .lt 5, 3) := by decide +kernel
theorem d_Shape_join_26 : decode prog_8_method_7_code 26 = .ok (.iload_n 2, 1) := by decide +kernel
theorem d_Shape_join_27 : decode prog_8_method_7_code 27 = .ok (.ireturn, 1) := by decide +kernel
theorem d_Shape_join_28 : decode prog_8_method_7_code 28 = .ok (.aload_n 0, 1) := by decide +kernel
theorem d_Shape_join_29 : decode prog_8_method_7_code 29 = .ok (.getfield 15, 3) := by decide +kernel
theorem d_Shape_join_32 : decode prog_8_method_7_code 32 = .ok (.iload_n 1, 1) := by decide +kernel
theorem d_Shape_join_33 : decode prog_8_method_7_code 33 = .ok (.aload_n 0, 1) := by decide +kernel
theorem d_Shape_join_34 : decode prog_8_method_7_code 34 = .ok (.getfield 52, 3) := by decide +kernel
theorem d_Shape_join_37 : decode prog_8_method_7_code 37 = .ok (.iastore, 1) := by decide +kernel
theorem d_Shape_join_38 : decode prog_8_method_7_code 38 = .ok (.aload_n 0, 1) := by decide +kernel
theorem d_Shape_join_39 : decode prog_8_method_7_code 39 = .ok (.getfield 25, 3) := by decide +kernel
theorem d_Shape_join_42 : decode prog_8_method_7_code 42 = .ok (.iload_n 2, 1) := by decide +kernel
theorem d_Shape_join_43 : decode prog_8_method_7_code 43 = .ok (.iload_n 1, 1) := by decide +kernel
theorem d_Shape_join_44 : decode prog_8_method_7_code 44 = .ok (.iastore, 1) := by decide +kernel
theorem d_Shape_join_45 : decode prog_8_method_7_code 45 = .ok (.iload_n 2, 1) := by decide +kernel
theorem d_Shape_join_46 : decode prog_8_method_7_code 46 = .ok (.iconst 1, 1) := by decide +kernel
theorem d_Shape_join_47 : decode prog_8_method_7_code 47 = .ok (.iadd, 1) := by decide +kernel
theorem d_Shape_join_48 : decode prog_8_method_7_code 48 = .ok (.ireturn, 1) := by decide +kernel
theorem d_Shape_resize_0 : decode prog_8_method_2_code 0 = .ok (.aload_n 0, 1) := by decide +kernel
theorem d_Shape_resize_1 : decode prog_8_method_2_code 1 = .ok (.iload_n 1, 1) := by decide +kernel
theorem d_Shape_resize_2 : decode prog_8_method_2_code 2 = .ok (.putfield 28, 3) := by decide +kernel
theorem d_Shape_resize_5 : decode prog_8_method_2_code 5 = .ok (.aload_n 0, 1) := by decide +kernel
theorem d_Shape_resize_6 : decode prog_8_method_2_code 6 = .ok (.iload_n 2, 1) := by decide +kernel
theorem d_Shape_resize_7 : decode prog_8_method_2_code 7 = .ok (.putfield 32, 3) := by decide +kernel
theorem d_Shape_resize_10 : decode prog_8_method_2_code 10 = .ok (.iconst 0, 1) := by decide +kernel
theorem d_Shape_resize_11 : decode prog_8_method_2_code 11 = .ok (.istore_n 3, 1) := by decide +kernel
theorem d_Shape_resize_12 : decode prog_8_method_2_code 12 = .ok (.iload_n 3, 1) := by decide +kernel
theorem d_Shape_resize_13 : decode prog_8_method_2_code 13 = .ok (.sipush 256, 3) := by decide +kernel
theorem d_Shape_resize_16 : decode prog_8_method_2_code 16 = .ok (.if_icmp .ge 16, 3) := by decide +kernel
theorem d_Shape_resize_19 : decode prog_8_method_2_code 19 = .ok (.aload_n 0, 1) := by decide +kernel
theorem d_Shape_resize_20 : decode prog_8_method_2_code 20 = .ok (.getfield 9, 3) := by decide +kernel
theorem d_Shape_resize_23 : decode prog_8_method_2_code 23 = .ok (.iload_n 3, 1) := by decide +kernel
theorem d_Shape_resize_24 : decode prog_8_method_2_code 24 = .ok (.iconst 0, 1) := by decide +kernel
theorem d_Shape_resize_25 : decode prog_8_method_2_code 25 = .ok (.bastore, 1) := by decide +kernel
theorem d_Shape_resize_26 : decode prog_8_method_2_code 26 = .ok (.iinc 3 1, 3) := by decide +kernel
theorem d_Shape_resize_29 : decode prog_8_method_2_code 29 = .ok (.goto (-17), 3) := by decide +kernel
theorem d_Shape_resize_32 : decode prog_8_method_2_code 32 = .ok (.aload_n 0, 1) := by decide +kernel
theorem d_Shape_resize_33 : decode prog_8_method_2_code 33 = .ok (.invokevirtual 35, 3) := by decide +kernel
theorem d_Shape_resize_36 : decode prog_8_method_2_code 36 = .ok (.return_, 1) := by decide +kernel
theorem d_Shape_spread_0 : decode prog_8_method_6_code 0 = .ok (.aload_n 0, 1) := by decide +kernel
theorem d_Shape_spread_1 : decode prog_8_method_6_code 1 = .ok (.iload_n 1, 1) := by decide +kernel
theorem d_Shape_spread_2 : decode prog_8_method_6_code 2 = .ok (.iconst 0, 1) := by decide +kernel
theorem d_Shape_spread_3 : decode prog_8_method_6_code 3 = .ok (.invokevirtual 62, 3) := by decide +kernel
theorem d_Shape_spread_6 : decode prog_8_method_6_code 6 = .ok (.istore_n 2, 1) := by decide +kernel
theorem d_Shape_spread_7 : decode prog_8_method_6_code 7 = .ok (.iconst 0, 1) := by decide +kernel
theorem d_Shape_spread_8 : decode prog_8_method_6_code 8 = .ok (.istore_n 3, 1) := by decide +kernel
theorem d_Shape_spread_9 : decode prog_8_method_6_code 9 = .ok (.iload_n 3, 1) := by decide +kernel
theorem d_Shape_spread_10 : decode prog_8_method_6_code 10 = .ok (.iload_n 2, 1) := by decide +kernel
theorem d_Shape_spread_11 : decode prog_8_method_6_code 11 = .ok (.if_icmp .ge 148, 3) := by decide +kernel
theorem d_Shape_spread_14 : decode prog_8_method_6_code 14 = .ok (.iload_n 3, 1) := by decide +kernel
theorem d_Shape_spread_15 : decode prog_8_method_6_code 15 = .ok (.sipush 256, 3) := by decide +kernel
theorem d_Shape_spread_18 : decode prog_8_method_6_code 18 = .ok (.if_icmp .ge 141, 3) := by decide +kernel
theorem d_Shape_spread_21 : decode prog_8_method_6_code 21 = .ok (.aload_n 0, 1) := by decide +kernel
theorem d_Shape_spread_22 : decode prog_8_method_6_code 22 = .ok (.getfield 25, 3) := by decide +kernel
theorem d_Shape_spread_25 : decode prog_8_method_6_code 25 = .ok (.iload_n 3, 1) := by decide +kernel
theorem d_Shape_spread_26 : decode prog_8_method_6_code 26 = .ok (.iaload, 1) := by decide +kernel
theorem d_Shape_spread_27 : decode prog_8_method_6_code 27 = .ok (.istore 4, 2) := by decide +kernel
theorem d_Shape_spread_29 : decode prog_8_method_6_code 29 = .ok (.iload 4, 2) := by decide +kernel
theorem d_Shape_spread_31 : decode prog_8_method_6_code 31 = .ok (.invokestatic 65, 3) := by decide +kernel
theorem d_Shape_spread_34 : decode prog_8_method_6_code 34 = .ok (.istore 5, 2) := by decide +kernel
theorem d_Shape_spread_36 : decode prog_8_method_6_code 36 = .ok (.iload 4, 2) := by decide +kernel
theorem d_Shape_spread_38 : decode prog_8_method_6_code 38 = .ok (.invokestatic 69, 3) := by decide +kernel
theorem d_Shape_spread_41 : decode prog_8_method_6_code 41 = .ok (.istore 6, 2) := by decide +kernel
theorem d_Shape_spread_43 : decode prog_8_method_6_code 43 = .ok (.aload_n 0, 1) := by decide +kernel
theorem d_Shape_spread_44 : decode prog_8_method_6_code 44 = .ok (.iload 5, 2) := by decide +kernel
theorem d_Shape_spread_46 : decode prog_8_method_6_code 46 = .ok (.iconst 1, 1) := by decide +kernel
theorem d_Shape_spread_47 : decode prog_8_method_6_code 47 = .ok (.isub, 1) := by decide +kernel
theorem d_Shape_spread_48 : decode prog_8_method_6_code 48 = .ok (.iload 6, 2) := by decide +kernel
theorem d_Shape_spread_50 : decode prog_8_method_6_code 50 = .ok (.invokevirtual 38, 3) := by decide +kernel
theorem d_Shape_spread_53 : decode prog_8_method_6_code 53 = .ok (.ifCond .eq 15, 3) := by decide +kernel
theorem d_Shape_spread_56 : decode prog_8_method_6_code 56 = .ok (.aload_n 0, 1) := by decide +kernel
theorem d_Shape_spread_57 : decode prog_8_method_6_code 57 = .ok (.iload 4, 2) := by decide +kernel
theorem d_Shape_spread_59 : decode prog_8_method_6_code 59 = .ok (.iconst 1, 1) := by decide +kernel
theorem d_Shape_spread_60 : decode prog_8_method_6_code 60 = .ok (.isub, 1) := by decide +kernel
theorem d_Shape_spread_61 : decode prog_8_method_6_code 61 = .ok (.iload_n 2, 1) := by decide +kernel
theorem d_Shape_spread_62 : decode prog_8_method_6_code 62 = .ok (.invokevirtual 62, 3) := by decide +kernel
theorem d_Shape_spread_65 : decode prog_8_method_6_code 65 = .ok (.goto 4, 3) := by decide +kernel
theorem d_Shape_spread_68 : decode prog_8_method_6_code 68 = .ok (.iload_n 2, 1) := by decide +kernel
theorem d_Shape_spread_69 : decode prog_8_method_6_code 69 = .ok (.istore_n 2, 1) := by decide +kernel
theorem d_Shape_spread_70 : decode prog_8_method_6_code 70 = .ok (.aload_n 0, 1) := by decide +kernel
theorem d_Shape_spread_71 : decode prog_8_method_6_code 71 = .ok (.iload 5, 2) := by decide +kernel
theorem d_Shape_spread_73 : decode prog_8_method_6_code 73 = .ok (.iconst 1, 1) := by decide +kernel
theorem d_Shape_spread_74 : decode prog_8_method_6_code 74 = .ok (.iadd, 1) := by decide +kernel
theorem d_Shape_spread_75 : decode prog_8_method_6_code 75 = .ok (.iload 6, 2) := by decide +kernel
theorem d_Shape_spread_77 : decode prog_8_method_6_code 77 = .ok (.invokevirtual 38, 3) := by decide +kernel
theorem d_Shape_spread_80 : decode prog_8_method_6_code 80 = .ok (.ifCond .eq 15, 3) := by decide +kernel
theorem d_Shape_spread_83 : decode prog_8_method_6_code 83 = .ok (.aload_n 0, 1) := by decide +kernel
theorem d_Shape_spread_84 : decode prog_8_method_6_code 84 = .ok (.iload 4, 2) := by decide +kernel
theorem d_Shape_spread_86 : decode prog_8_method_6_code 86 = .ok (.iconst 1, 1) := by decide +kernel
theorem d_Shape_spread_87 : decode prog_8_method_6_code 87 = .ok (.iadd, 1) := by decide +kernel
theorem d_Shape_spread_88 : decode prog_8_method_6_code 88 = .ok (.iload_n 2, 1) := by decide +kernel
theorem d_Shape_spread_89 : decode prog_8_method_6_code 89 = .ok (.invokevirtual 62, 3) := by decide +kernel
theorem d_Shape_spread_92 : decode prog_8_method_6_code 92 = .ok (.goto 4, 3) := by decide +kernel
theorem d_Shape_spread_95 : decode prog_8_method_6_code 95 = .ok (.iload_n 2, 1) := by decide +kernel
theorem d_Shape_spread_96 : decode prog_8_method_6_code 96 = .ok (.istore_n 2, 1) := by decide +kernel
theorem d_Shape_spread_97 : decode prog_8_method_6_code 97 = .ok (.aload_n 0, 1) := by decide +kernel
theorem d_Shape_spread_98 : decode prog_8_method_6_code 98 = .ok (.iload 5, 2) := by decide +kernel
theorem d_Shape_spread_100 : decode prog_8_method_6_code 100 = .ok (.iload 6, 2) := by decide +kernel
theorem d_Shape_spread_102 : decode prog_8_method_6_code 102 = .ok (.iconst 1, 1) := by decide +kernel
theorem d_Shape_spread_103 : decode prog_8_method_6_code 103 = .ok (.isub, 1) := by decide +kernel
theorem d_Shape_spread_104 : decode prog_8_method_6_code 104 = .ok (.invokevirtual 38, 3) := by decide +kernel
theorem d_Shape_spread_107 : decode prog_8_method_6_code 107 = .ok (.ifCond .eq 16, 3) := by decide +kernel
theorem d_Shape_spread_110 : decode prog_8_method_6_code 110 = .ok (.aload_n 0, 1) := by decide +kernel
theorem d_Shape_spread_111 : decode prog_8_method_6_code 111 = .ok (.iload 4, 2) := by decide +kernel
theorem d_Shape_spread_113 : decode prog_8_method_6_code 113 = .ok (.bipush 16, 2) := by decide +kernel
theorem d_Shape_spread_115 : decode prog_8_method_6_code 115 = .ok (.isub, 1) := by decide +kernel
theorem d_Shape_spread_116 : decode prog_8_method_6_code 116 = .ok (.iload_n 2, 1) := by decide +kernel
theorem d_Shape_spread_117 : decode prog_8_method_6_code 117 = .ok (.invokevirtual 62, 3) := by decide +kernel
theorem d_Shape_spread_120 : decode prog_8_method_6_code 120 = .ok (.goto 4, 3) := by decide +kernel
theorem d_Shape_spread_123 : decode prog_8_method_6_code 123 = .ok (.iload_n 2, 1) := by decide +kernel
theorem d_Shape_spread_124 : decode prog_8_method_6_code 124 = .ok (.istore_n 2, 1) := by decide +kernel
theorem d_Shape_spread_125 : decode prog_8_method_6_code 125 = .ok (.aload_n 0, 1) := by decide +kernel
theorem d_Shape_spread_126 : decode prog_8_method_6_code 126 = .ok (.iload 5, 2) := by decide +kernel
theorem d_Shape_spread_128 : decode prog_8_method_6_code 128 = .ok (.iload 6, 2) := by decide +kernel
theorem d_Shape_spread_130 : decode prog_8_method_6_code 130 = .ok (.iconst 1, 1) := by decide +kernel
theorem d_Shape_spread_131 : decode prog_8_method_6_code 131 = .ok (.iadd, 1) := by decide +kernel
theorem d_Shape_spread_132 : decode prog_8_method_6_code 132 = .ok (.invokevirtual 38, 3) := by decide +kernel
theorem d_Shape_spread_135 : decode prog_8_method_6_code 135 = .ok (.ifCond .eq 16, 3) := by decide +kernel
theorem d_Shape_spread_138 : decode prog_8_method_6_code 138 = .ok (.aload_n 0, 1) := by decide +kernel
theorem d_Shape_spread_139 : decode prog_8_method_6_code 139 = .ok (.iload 4, 2) := by decide +kernel
theorem d_Shape_spread_141 : decode prog_8_method_6_code 141 = .ok (.bipush 16, 2) := by decide +kernel
theorem d_Shape_spread_143 : decode prog_8_method_6_code 143 = .ok (.iadd, 1) := by decide +kernel
theorem d_Shape_spread_144 : decode prog_8_method_6_code 144 = .ok (.iload_n 2, 1) := by decide +kernel
theorem d_Shape_spread_145 : decode prog_8_method_6_code 145 = .ok (.invokevirtual 62, 3) := by decide +kernel
theorem d_Shape_spread_148 : decode prog_8_method_6_code 148 = .ok (.goto 4, 3) := by decide +kernel
theorem d_Shape_spread_151 : decode prog_8_method_6_code 151 = .ok (.iload_n 2, 1) := by decide +kernel
theorem d_Shape_spread_152 : decode prog_8_method_6_code 152 = .ok (.istore_n 2, 1) := by decide +kernel
theorem d_Shape_spread_153 : decode prog_8_method_6_code 153 = .ok (.iinc 3 1, 3) := by decide +kernel
theorem d_Shape_spread_156 : decode prog_8_method_6_code 156 = .ok (.goto (-147), 3) := by decide +kernel
theorem d_Shape_spread_159 : decode prog_8_method_6_code 159 = .ok (.aload_n 0, 1) := by decide +kernel
theorem d_Shape_spread_160 : decode prog_8_method_6_code 160 = .ok (.getfield 22, 3) := by decide +kernel
theorem d_Shape_spread_163 : decode prog_8_method_6_code 163 = .ok (.aload_n 0, 1) := by decide +kernel
theorem d_Shape_spread_164 : decode prog_8_method_6_code 164 = .ok (.getfield 52, 3) := by decide +kernel
theorem d_Shape_spread_167 : decode prog_8_method_6_code 167 = .ok (.iload_n 1, 1) := by decide +kernel
theorem d_Shape_spread_168 : decode prog_8_method_6_code 168 = .ok (.iastore, 1) := by decide +kernel
theorem d_Shape_spread_169 : decode prog_8_method_6_code 169 = .ok (.aload_n 0, 1) := by decide +kernel
theorem d_Shape_spread_170 : decode prog_8_method_6_code 170 = .ok (.getfield 19, 3) := by decide +kernel
theorem d_Shape_spread_173 : decode prog_8_method_6_code 173 = .ok (.aload_n 0, 1) := by decide +kernel
theorem d_Shape_spread_174 : decode prog_8_method_6_code 174 = .ok (.getfield 52, 3) := by decide +kernel
theorem d_Shape_spread_177 : decode prog_8_method_6_code 177 = .ok (.iload_n 2, 1) := by decide +kernel
theorem d_Shape_spread_178 : decode prog_8_method_6_code 178 = .ok (.iastore, 1) := by decide +kernel
theorem d_Shape_spread_179 : decode prog_8_method_6_code 179 = .ok (.aload_n 0, 1) := by decide +kernel
theorem d_Shape_spread_180 : decode prog_8_method_6_code 180 = .ok (.dup, 1) := by decide +kernel
theorem d_Shape_spread_181 : decode prog_8_method_6_code 181 = .ok (.getfield 55, 3) := by decide +kernel
theorem d_Shape_spread_184 : decode prog_8_method_6_code 184 = .ok (.iload_n 2, 1) := by decide +kernel
theorem d_Shape_spread_185 : decode prog_8_method_6_code 185 = .ok (.iadd, 1) := by decide +kernel
theorem d_Shape_spread_186 : decode prog_8_method_6_code 186 = .ok (.putfield 55, 3) := by decide +kernel
theorem d_Shape_spread_189 : decode prog_8_method_6_code 189 = .ok (.aload_n 0, 1) := by decide +kernel
theorem d_Shape_spread_190 : decode prog_8_method_6_code 190 = .ok (.dup, 1) := by decide +kernel
theorem d_Shape_spread_191 : decode prog_8_method_6_code 191 = .ok (.getfield 52, 3) := by decide +kernel
theorem d_Shape_spread_194 : decode prog_8_method_6_code 194 = .ok (.iconst 1, 1) := by decide +kernel
theorem d_Shape_spread_195 : decode prog_8_method_6_code 195 = .ok (.iadd, 1) := by decide +kernel
theorem d_Shape_spread_196 : decode prog_8_method_6_code 196 = .ok (.putfield 52, 3) := by decide +kernel
theorem d_Shape_spread_199 : decode prog_8_method_6_code 199 = .ok (.return_, 1) := by decide +kernel
theorem k_0 : Cond.selects "FreeWavelets$Shape" ⟨"FreeWavelets$Shape", "spread", "(I)V"⟩ ⟨"FreeWavelets$Shape", "spread", "(I)V"⟩ ∈ gt := mem_gt (List.mem_of_getElem? (i := 0) (by decide +kernel)) rfl
theorem k_1 : Cond.selects "FreeWavelets$Shape" ⟨"FreeWavelets$Shape", "join", "(II)I"⟩ ⟨"FreeWavelets$Shape", "join", "(II)I"⟩ ∈ gt := mem_gt (List.mem_of_getElem? (i := 1) (by decide +kernel)) rfl
theorem k_29 : Cond.initialized "FreeWavelets" ∈ gt := mem_gt (List.mem_of_getElem? (i := 29) (by decide +kernel)) rfl
theorem k_31 : Cond.initialized "FreeWavelets$Shape" ∈ gt := mem_gt (List.mem_of_getElem? (i := 31) (by decide +kernel)) rfl
theorem k_38 : Cond.initialized "java/lang/Math" ∈ gt := mem_gt (List.mem_of_getElem? (i := 38) (by decide +kernel)) rfl
theorem k_39 : Cond.initialized "java/util/Arrays" ∈ gt := mem_gt (List.mem_of_getElem? (i := 39) (by decide +kernel)) rfl
theorem k_70 : Cond.fieldLink "FreeWavelets$Shape" 9 "FreeWavelets$Shape" "inside" "[Z" ∈ gt := mem_gt (List.mem_of_getElem? (i := 70) (by decide +kernel)) rfl
theorem k_75 : Cond.fieldLink "FreeWavelets$Shape" 15 "FreeWavelets$Shape" "partOf" "[I" ∈ gt := mem_gt (List.mem_of_getElem? (i := 75) (by decide +kernel)) rfl
theorem k_77 : Cond.fieldLink "FreeWavelets$Shape" 19 "FreeWavelets$Shape" "sizeOf" "[I" ∈ gt := mem_gt (List.mem_of_getElem? (i := 77) (by decide +kernel)) rfl
theorem k_79 : Cond.fieldLink "FreeWavelets$Shape" 22 "FreeWavelets$Shape" "firstOf" "[I" ∈ gt := mem_gt (List.mem_of_getElem? (i := 79) (by decide +kernel)) rfl
theorem k_81 : Cond.fieldLink "FreeWavelets$Shape" 28 "FreeWavelets$Shape" "width" "I" ∈ gt := mem_gt (List.mem_of_getElem? (i := 81) (by decide +kernel)) rfl
theorem k_86 : Cond.fieldLink "FreeWavelets$Shape" 32 "FreeWavelets$Shape" "height" "I" ∈ gt := mem_gt (List.mem_of_getElem? (i := 86) (by decide +kernel)) rfl
theorem k_91 : Cond.fieldLink "FreeWavelets$Shape" 52 "FreeWavelets$Shape" "parts" "I" ∈ gt := mem_gt (List.mem_of_getElem? (i := 91) (by decide +kernel)) rfl
theorem k_93 : Cond.fieldLink "FreeWavelets$Shape" 55 "FreeWavelets$Shape" "count" "I" ∈ gt := mem_gt (List.mem_of_getElem? (i := 93) (by decide +kernel)) rfl
theorem k_95 : Cond.fieldLink "FreeWavelets$Shape" 25 "FreeWavelets$Shape" "queue" "[I" ∈ gt := mem_gt (List.mem_of_getElem? (i := 95) (by decide +kernel)) rfl
theorem k_258 : Cond.methodLink "FreeWavelets" 183 ⟨"java/lang/Math", "min", "(II)I"⟩ ∈ gt := mem_gt (List.mem_of_getElem? (i := 258) (by decide +kernel)) rfl
theorem k_259 : Cond.static ⟨"java/lang/Math", "min", "(II)I"⟩ ∈ gt := mem_gt (List.mem_of_getElem? (i := 259) (by decide +kernel)) rfl
theorem k_260 : Cond.code ⟨"java/lang/Math", "min", "(II)I"⟩ prog_17_method_69_code 2 (some .int) ∈ gt := mem_gt (List.mem_of_getElem? (i := 260) (by decide +kernel)) rfl
theorem k_261 : Cond.methodLink "FreeWavelets" 252 ⟨"java/lang/Math", "max", "(II)I"⟩ ∈ gt := mem_gt (List.mem_of_getElem? (i := 261) (by decide +kernel)) rfl
theorem k_262 : Cond.static ⟨"java/lang/Math", "max", "(II)I"⟩ ∈ gt := mem_gt (List.mem_of_getElem? (i := 262) (by decide +kernel)) rfl
theorem k_263 : Cond.code ⟨"java/lang/Math", "max", "(II)I"⟩ prog_17_method_65_code 2 (some .int) ∈ gt := mem_gt (List.mem_of_getElem? (i := 263) (by decide +kernel)) rfl
theorem k_268 : Cond.methodLink "FreeWavelets$Shape" 35 ⟨"FreeWavelets$Shape", "findParts", "()V"⟩ ∈ gt := mem_gt (List.mem_of_getElem? (i := 268) (by decide +kernel)) rfl
theorem k_269 : Cond.instanceMethod ⟨"FreeWavelets$Shape", "findParts", "()V"⟩ ∈ gt := mem_gt (List.mem_of_getElem? (i := 269) (by decide +kernel)) rfl
theorem k_270 : Cond.selects "FreeWavelets$Shape" ⟨"FreeWavelets$Shape", "findParts", "()V"⟩ ⟨"FreeWavelets$Shape", "findParts", "()V"⟩ ∈ gt := mem_gt (List.mem_of_getElem? (i := 270) (by decide +kernel)) rfl
theorem k_271 : Cond.code ⟨"FreeWavelets$Shape", "findParts", "()V"⟩ prog_8_method_5_code 4 none ∈ gt := mem_gt (List.mem_of_getElem? (i := 271) (by decide +kernel)) rfl
theorem k_272 : Cond.methodLink "FreeWavelets$Shape" 46 ⟨"java/util/Arrays", "fill", "([II)V"⟩ ∈ gt := mem_gt (List.mem_of_getElem? (i := 272) (by decide +kernel)) rfl
theorem k_273 : Cond.static ⟨"java/util/Arrays", "fill", "([II)V"⟩ ∈ gt := mem_gt (List.mem_of_getElem? (i := 273) (by decide +kernel)) rfl
theorem k_274 : Cond.code ⟨"java/util/Arrays", "fill", "([II)V"⟩ prog_23_method_103_code 4 none ∈ gt := mem_gt (List.mem_of_getElem? (i := 274) (by decide +kernel)) rfl
theorem k_275 : Cond.methodLinkNest "FreeWavelets$Shape" 42 ⟨"FreeWavelets", "sampleOf", "(II)I"⟩ "FreeWavelets" ∈ lw_tbl := List.mem_of_getElem? (i := 275) (by decide +kernel)
theorem k_276 : Cond.static ⟨"FreeWavelets", "sampleOf", "(II)I"⟩ ∈ gt := mem_gt (List.mem_of_getElem? (i := 276) (by decide +kernel)) rfl
theorem k_277 : Cond.code ⟨"FreeWavelets", "sampleOf", "(II)I"⟩ prog_1_method_20_code 2 (some .int) ∈ gt := mem_gt (List.mem_of_getElem? (i := 277) (by decide +kernel)) rfl
theorem k_278 : Cond.methodLink "FreeWavelets$Shape" 58 ⟨"FreeWavelets$Shape", "spread", "(I)V"⟩ ∈ gt := mem_gt (List.mem_of_getElem? (i := 278) (by decide +kernel)) rfl
theorem k_280 : Cond.instanceMethod ⟨"FreeWavelets$Shape", "spread", "(I)V"⟩ ∈ gt := mem_gt (List.mem_of_getElem? (i := 280) (by decide +kernel)) rfl
theorem k_281 : Cond.code ⟨"FreeWavelets$Shape", "spread", "(I)V"⟩ prog_8_method_6_code 7 none ∈ gt := mem_gt (List.mem_of_getElem? (i := 281) (by decide +kernel)) rfl
theorem k_282 : Cond.methodLink "FreeWavelets$Shape" 62 ⟨"FreeWavelets$Shape", "join", "(II)I"⟩ ∈ gt := mem_gt (List.mem_of_getElem? (i := 282) (by decide +kernel)) rfl
theorem k_284 : Cond.instanceMethod ⟨"FreeWavelets$Shape", "join", "(II)I"⟩ ∈ gt := mem_gt (List.mem_of_getElem? (i := 284) (by decide +kernel)) rfl
theorem k_285 : Cond.code ⟨"FreeWavelets$Shape", "join", "(II)I"⟩ prog_8_method_7_code 3 (some .int) ∈ gt := mem_gt (List.mem_of_getElem? (i := 285) (by decide +kernel)) rfl
theorem k_286 : Cond.methodLinkNest "FreeWavelets$Shape" 65 ⟨"FreeWavelets", "columnOf", "(I)I"⟩ "FreeWavelets" ∈ lw_tbl := List.mem_of_getElem? (i := 286) (by decide +kernel)
theorem k_287 : Cond.static ⟨"FreeWavelets", "columnOf", "(I)I"⟩ ∈ gt := mem_gt (List.mem_of_getElem? (i := 287) (by decide +kernel)) rfl
theorem k_288 : Cond.code ⟨"FreeWavelets", "columnOf", "(I)I"⟩ prog_1_method_21_code 1 (some .int) ∈ gt := mem_gt (List.mem_of_getElem? (i := 288) (by decide +kernel)) rfl
theorem k_289 : Cond.methodLinkNest "FreeWavelets$Shape" 69 ⟨"FreeWavelets", "rowOf", "(I)I"⟩ "FreeWavelets" ∈ lw_tbl := List.mem_of_getElem? (i := 289) (by decide +kernel)
theorem k_290 : Cond.static ⟨"FreeWavelets", "rowOf", "(I)I"⟩ ∈ gt := mem_gt (List.mem_of_getElem? (i := 290) (by decide +kernel)) rfl
theorem k_291 : Cond.code ⟨"FreeWavelets", "rowOf", "(I)I"⟩ prog_1_method_22_code 1 (some .int) ∈ gt := mem_gt (List.mem_of_getElem? (i := 291) (by decide +kernel)) rfl
theorem k_292 : Cond.methodLink "FreeWavelets$Shape" 38 ⟨"FreeWavelets$Shape", "has", "(II)Z"⟩ ∈ gt := mem_gt (List.mem_of_getElem? (i := 292) (by decide +kernel)) rfl
theorem k_293 : Cond.instanceMethod ⟨"FreeWavelets$Shape", "has", "(II)Z"⟩ ∈ gt := mem_gt (List.mem_of_getElem? (i := 293) (by decide +kernel)) rfl
theorem k_294 : Cond.selects "FreeWavelets$Shape" ⟨"FreeWavelets$Shape", "has", "(II)Z"⟩ ⟨"FreeWavelets$Shape", "has", "(II)Z"⟩ ∈ gt := mem_gt (List.mem_of_getElem? (i := 294) (by decide +kernel)) rfl
theorem k_295 : Cond.code ⟨"FreeWavelets$Shape", "has", "(II)Z"⟩ prog_8_method_3_code 3 (some .boolean) ∈ gt := mem_gt (List.mem_of_getElem? (i := 295) (by decide +kernel)) rfl
