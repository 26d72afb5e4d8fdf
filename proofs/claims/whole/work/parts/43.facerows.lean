def y_FW_alter : MethodName := ⟨"FreeWavelets", "alter", "(II)I"⟩
abbrev ws_FW_alter : List Cond := Cond.code y_FW_alter prog_1_method_11_code 4 (some .int) :: gt
def y_FW_at : MethodName := ⟨"FreeWavelets", "at", "(II)I"⟩
abbrev ws_FW_at : List Cond := Cond.code y_FW_at prog_1_method_13_code 4 (some .int) :: gt
def y_FW_byteAt : MethodName := ⟨"FreeWavelets", "byteAt", "(I)I"⟩
abbrev ws_FW_byteAt : List Cond := Cond.code y_FW_byteAt prog_1_method_6_code 2 (some .int) :: gt
def y_FW_decode : MethodName := ⟨"FreeWavelets", "decode", "(I)I"⟩
abbrev ws_FW_decode : List Cond := Cond.code y_FW_decode prog_1_method_12_code 2 (some .int) :: gt
def y_FW_encode : MethodName := ⟨"FreeWavelets", "encode", "(I)I"⟩
abbrev ws_FW_encode : List Cond := Cond.code y_FW_encode prog_1_method_5_code 2 (some .int) :: gt
def y_FW_error : MethodName := ⟨"FreeWavelets", "error", "(II)J"⟩
abbrev ws_FW_error : List Cond := Cond.code y_FW_error prog_1_method_8_code 3 (some .long) :: gt
def y_FW_feed : MethodName := ⟨"FreeWavelets", "feed", "(I)I"⟩
abbrev ws_FW_feed : List Cond := Cond.code y_FW_feed prog_1_method_9_code 2 (some .int) :: gt
def y_FW_mask : MethodName := ⟨"FreeWavelets", "mask", "(IIIZ)I"⟩
abbrev ws_FW_mask : List Cond := Cond.code y_FW_mask prog_1_method_2_code 5 (some .int) :: gt
def y_FW_part : MethodName := ⟨"FreeWavelets", "part", "(II)I"⟩
abbrev ws_FW_part : List Cond := Cond.code y_FW_part prog_1_method_14_code 3 (some .int) :: gt
def y_FW_pass : MethodName := ⟨"FreeWavelets", "pass", "(II)I"⟩
abbrev ws_FW_pass : List Cond := Cond.code y_FW_pass prog_1_method_10_code 5 (some .int) :: gt
def y_FW_put : MethodName := ⟨"FreeWavelets", "put", "(IIII)I"⟩
abbrev ws_FW_put : List Cond := Cond.code y_FW_put prog_1_method_3_code 5 (some .int) :: gt
def y_FW_wave : MethodName := ⟨"FreeWavelets", "wave", "(II)I"⟩
abbrev ws_FW_wave : List Cond := Cond.code y_FW_wave prog_1_method_4_code 4 (some .int) :: gt
def y_FW_zeros : MethodName := ⟨"FreeWavelets", "zeros", "(I)I"⟩
abbrev ws_FW_zeros : List Cond := Cond.code y_FW_zeros prog_1_method_7_code 2 (some .int) :: gt
theorem d_FW_alter_0 : decode prog_1_method_11_code 0 = .ok (.aload_n 0, 1) := by decide +kernel
theorem d_FW_alter_1 : decode prog_1_method_11_code 1 = .ok (.getfield 26, 3) := by decide +kernel
theorem d_FW_alter_4 : decode prog_1_method_11_code 4 = .ok (.iload_n 1, 1) := by decide +kernel
theorem d_FW_alter_5 : decode prog_1_method_11_code 5 = .ok (.invokevirtual 142, 3) := by decide +kernel
theorem d_FW_alter_8 : decode prog_1_method_11_code 8 = .ok (.ifCond .ne 13, 3) := by decide +kernel
theorem d_FW_alter_11 : decode prog_1_method_11_code 11 = .ok (.new 85, 3) := by decide +kernel
theorem d_FW_alter_14 : decode prog_1_method_11_code 14 = .ok (.dup, 1) := by decide +kernel
theorem d_FW_alter_15 : decode prog_1_method_11_code 15 = .ok (.ldc 145, 2) := by decide +kernel
theorem d_FW_alter_17 : decode prog_1_method_11_code 17 = .ok (.invokespecial 89, 3) := by decide +kernel
theorem d_FW_alter_20 : decode prog_1_method_11_code 20 = .ok (.athrow, 1) := by decide +kernel
theorem d_FW_alter_21 : decode prog_1_method_11_code 21 = .ok (.iload_n 2, 1) := by decide +kernel
theorem d_FW_alter_22 : decode prog_1_method_11_code 22 = .ok (.ifCond .lt 10, 3) := by decide +kernel
theorem d_FW_alter_25 : decode prog_1_method_11_code 25 = .ok (.iload_n 2, 1) := by decide +kernel
theorem d_FW_alter_26 : decode prog_1_method_11_code 26 = .ok (.sipush 255, 3) := by decide +kernel
theorem d_FW_alter_29 : decode prog_1_method_11_code 29 = .ok (.if_icmp .le 13, 3) := by decide +kernel
theorem d_FW_alter_32 : decode prog_1_method_11_code 32 = .ok (.new 92, 3) := by decide +kernel
theorem d_FW_alter_35 : decode prog_1_method_11_code 35 = .ok (.dup, 1) := by decide +kernel
theorem d_FW_alter_36 : decode prog_1_method_11_code 36 = .ok (.ldc 168, 2) := by decide +kernel
theorem d_FW_alter_38 : decode prog_1_method_11_code 38 = .ok (.invokespecial 96, 3) := by decide +kernel
theorem d_FW_alter_41 : decode prog_1_method_11_code 41 = .ok (.athrow, 1) := by decide +kernel
theorem d_FW_alter_42 : decode prog_1_method_11_code 42 = .ok (.aload_n 0, 1) := by decide +kernel
theorem d_FW_alter_43 : decode prog_1_method_11_code 43 = .ok (.getfield 26, 3) := by decide +kernel
theorem d_FW_alter_46 : decode prog_1_method_11_code 46 = .ok (.iload_n 1, 1) := by decide +kernel
theorem d_FW_alter_47 : decode prog_1_method_11_code 47 = .ok (.invokevirtual 147, 3) := by decide +kernel
theorem d_FW_alter_50 : decode prog_1_method_11_code 50 = .ok (.istore_n 3, 1) := by decide +kernel
theorem d_FW_alter_51 : decode prog_1_method_11_code 51 = .ok (.aload_n 0, 1) := by decide +kernel
theorem d_FW_alter_52 : decode prog_1_method_11_code 52 = .ok (.getfield 26, 3) := by decide +kernel
theorem d_FW_alter_55 : decode prog_1_method_11_code 55 = .ok (.iload_n 1, 1) := by decide +kernel
theorem d_FW_alter_56 : decode prog_1_method_11_code 56 = .ok (.iload_n 2, 1) := by decide +kernel
theorem d_FW_alter_57 : decode prog_1_method_11_code 57 = .ok (.invokevirtual 188, 3) := by decide +kernel
theorem d_FW_alter_60 : decode prog_1_method_11_code 60 = .ok (.iload_n 3, 1) := by decide +kernel
theorem d_FW_alter_61 : decode prog_1_method_11_code 61 = .ok (.ireturn, 1) := by decide +kernel
theorem d_FW_at_0 : decode prog_1_method_13_code 0 = .ok (.aload_n 0, 1) := by decide +kernel
theorem d_FW_at_1 : decode prog_1_method_13_code 1 = .ok (.getfield 191, 3) := by decide +kernel
theorem d_FW_at_4 : decode prog_1_method_13_code 4 = .ok (.ifCond .ne 13, 3) := by decide +kernel
theorem d_FW_at_7 : decode prog_1_method_13_code 7 = .ok (.new 208, 3) := by decide +kernel
theorem d_FW_at_10 : decode prog_1_method_13_code 10 = .ok (.dup, 1) := by decide +kernel
theorem d_FW_at_11 : decode prog_1_method_13_code 11 = .ok (.ldc 210, 2) := by decide +kernel
theorem d_FW_at_13 : decode prog_1_method_13_code 13 = .ok (.invokespecial 212, 3) := by decide +kernel
theorem d_FW_at_16 : decode prog_1_method_13_code 16 = .ok (.athrow, 1) := by decide +kernel
theorem d_FW_at_17 : decode prog_1_method_13_code 17 = .ok (.aload_n 0, 1) := by decide +kernel
theorem d_FW_at_18 : decode prog_1_method_13_code 18 = .ok (.getfield 16, 3) := by decide +kernel
theorem d_FW_at_21 : decode prog_1_method_13_code 21 = .ok (.getfield 67, 3) := by decide +kernel
theorem d_FW_at_24 : decode prog_1_method_13_code 24 = .ok (.iload_n 1, 1) := by decide +kernel
theorem d_FW_at_25 : decode prog_1_method_13_code 25 = .ok (.iload_n 2, 1) := by decide +kernel
theorem d_FW_at_26 : decode prog_1_method_13_code 26 = .ok (.invokevirtual 81, 3) := by decide +kernel
theorem d_FW_at_29 : decode prog_1_method_13_code 29 = .ok (.ifCond .ne 13, 3) := by decide +kernel
theorem d_FW_at_32 : decode prog_1_method_13_code 32 = .ok (.new 85, 3) := by decide +kernel
theorem d_FW_at_35 : decode prog_1_method_13_code 35 = .ok (.dup, 1) := by decide +kernel
theorem d_FW_at_36 : decode prog_1_method_13_code 36 = .ok (.ldc 87, 2) := by decide +kernel
theorem d_FW_at_38 : decode prog_1_method_13_code 38 = .ok (.invokespecial 89, 3) := by decide +kernel
theorem d_FW_at_41 : decode prog_1_method_13_code 41 = .ok (.athrow, 1) := by decide +kernel
theorem d_FW_at_42 : decode prog_1_method_13_code 42 = .ok (.iload_n 1, 1) := by decide +kernel
theorem d_FW_at_43 : decode prog_1_method_13_code 43 = .ok (.iload_n 2, 1) := by decide +kernel
theorem d_FW_at_44 : decode prog_1_method_13_code 44 = .ok (.invokestatic 107, 3) := by decide +kernel
theorem d_FW_at_47 : decode prog_1_method_13_code 47 = .ok (.istore_n 3, 1) := by decide +kernel
theorem d_FW_at_48 : decode prog_1_method_13_code 48 = .ok (.aload_n 0, 1) := by decide +kernel
theorem d_FW_at_49 : decode prog_1_method_13_code 49 = .ok (.getfield 16, 3) := by decide +kernel
theorem d_FW_at_52 : decode prog_1_method_13_code 52 = .ok (.getfield 67, 3) := by decide +kernel
theorem d_FW_at_55 : decode prog_1_method_13_code 55 = .ok (.getfield 111, 3) := by decide +kernel
theorem d_FW_at_58 : decode prog_1_method_13_code 58 = .ok (.iload_n 3, 1) := by decide +kernel
theorem d_FW_at_59 : decode prog_1_method_13_code 59 = .ok (.baload, 1) := by decide +kernel
theorem d_FW_at_60 : decode prog_1_method_13_code 60 = .ok (.ifCond .eq 15, 3) := by decide +kernel
theorem d_FW_at_63 : decode prog_1_method_13_code 63 = .ok (.aload_n 0, 1) := by decide +kernel
theorem d_FW_at_64 : decode prog_1_method_13_code 64 = .ok (.getfield 16, 3) := by decide +kernel
theorem d_FW_at_67 : decode prog_1_method_13_code 67 = .ok (.getfield 213, 3) := by decide +kernel
theorem d_FW_at_70 : decode prog_1_method_13_code 70 = .ok (.iload_n 3, 1) := by decide +kernel
theorem d_FW_at_71 : decode prog_1_method_13_code 71 = .ok (.iaload, 1) := by decide +kernel
theorem d_FW_at_72 : decode prog_1_method_13_code 72 = .ok (.goto 4, 3) := by decide +kernel
theorem d_FW_at_75 : decode prog_1_method_13_code 75 = .ok (.iconst (-1), 1) := by decide +kernel
theorem d_FW_at_76 : decode prog_1_method_13_code 76 = .ok (.ireturn, 1) := by decide +kernel
theorem d_FW_byteAt_0 : decode prog_1_method_6_code 0 = .ok (.aload_n 0, 1) := by decide +kernel
theorem d_FW_byteAt_1 : decode prog_1_method_6_code 1 = .ok (.getfield 22, 3) := by decide +kernel
theorem d_FW_byteAt_4 : decode prog_1_method_6_code 4 = .ok (.iload_n 1, 1) := by decide +kernel
theorem d_FW_byteAt_5 : decode prog_1_method_6_code 5 = .ok (.invokevirtual 142, 3) := by decide +kernel
theorem d_FW_byteAt_8 : decode prog_1_method_6_code 8 = .ok (.ifCond .ne 13, 3) := by decide +kernel
theorem d_FW_byteAt_11 : decode prog_1_method_6_code 11 = .ok (.new 85, 3) := by decide +kernel
theorem d_FW_byteAt_14 : decode prog_1_method_6_code 14 = .ok (.dup, 1) := by decide +kernel
theorem d_FW_byteAt_15 : decode prog_1_method_6_code 15 = .ok (.ldc 145, 2) := by decide +kernel
theorem d_FW_byteAt_17 : decode prog_1_method_6_code 17 = .ok (.invokespecial 89, 3) := by decide +kernel
theorem d_FW_byteAt_20 : decode prog_1_method_6_code 20 = .ok (.athrow, 1) := by decide +kernel
theorem d_FW_byteAt_21 : decode prog_1_method_6_code 21 = .ok (.aload_n 0, 1) := by decide +kernel
theorem d_FW_byteAt_22 : decode prog_1_method_6_code 22 = .ok (.getfield 22, 3) := by decide +kernel
theorem d_FW_byteAt_25 : decode prog_1_method_6_code 25 = .ok (.iload_n 1, 1) := by decide +kernel
theorem d_FW_byteAt_26 : decode prog_1_method_6_code 26 = .ok (.invokevirtual 147, 3) := by decide +kernel
theorem d_FW_byteAt_29 : decode prog_1_method_6_code 29 = .ok (.ireturn, 1) := by decide +kernel
theorem d_FW_decode_0 : decode prog_1_method_12_code 0 = .ok (.iload_n 1, 1) := by decide +kernel
theorem d_FW_decode_1 : decode prog_1_method_12_code 1 = .ok (.ifCond .lt 9, 3) := by decide +kernel
theorem d_FW_decode_4 : decode prog_1_method_12_code 4 = .ok (.iload_n 1, 1) := by decide +kernel
theorem d_FW_decode_5 : decode prog_1_method_12_code 5 = .ok (.ldc 123, 2) := by decide +kernel
theorem d_FW_decode_7 : decode prog_1_method_12_code 7 = .ok (.if_icmp .le 13, 3) := by decide +kernel
theorem d_FW_decode_10 : decode prog_1_method_12_code 10 = .ok (.new 92, 3) := by decide +kernel
theorem d_FW_decode_13 : decode prog_1_method_12_code 13 = .ok (.dup, 1) := by decide +kernel
theorem d_FW_decode_14 : decode prog_1_method_12_code 14 = .ok (.ldc 124, 2) := by decide +kernel
theorem d_FW_decode_16 : decode prog_1_method_12_code 16 = .ok (.invokespecial 96, 3) := by decide +kernel
theorem d_FW_decode_19 : decode prog_1_method_12_code 19 = .ok (.athrow, 1) := by decide +kernel
theorem d_FW_decode_20 : decode prog_1_method_12_code 20 = .ok (.aload_n 0, 1) := by decide +kernel
theorem d_FW_decode_21 : decode prog_1_method_12_code 21 = .ok (.iconst 0, 1) := by decide +kernel
theorem d_FW_decode_22 : decode prog_1_method_12_code 22 = .ok (.putfield 191, 3) := by decide +kernel
theorem d_FW_decode_25 : decode prog_1_method_12_code 25 = .ok (.aload_n 0, 1) := by decide +kernel
theorem d_FW_decode_26 : decode prog_1_method_12_code 26 = .ok (.getfield 41, 3) := by decide +kernel
theorem d_FW_decode_29 : decode prog_1_method_12_code 29 = .ok (.iload_n 1, 1) := by decide +kernel
theorem d_FW_decode_30 : decode prog_1_method_12_code 30 = .ok (.invokevirtual 195, 3) := by decide +kernel
theorem d_FW_decode_33 : decode prog_1_method_12_code 33 = .ok (.aload_n 0, 1) := by decide +kernel
theorem d_FW_decode_34 : decode prog_1_method_12_code 34 = .ok (.getfield 41, 3) := by decide +kernel
theorem d_FW_decode_37 : decode prog_1_method_12_code 37 = .ok (.aload_n 0, 1) := by decide +kernel
theorem d_FW_decode_38 : decode prog_1_method_12_code 38 = .ok (.getfield 16, 3) := by decide +kernel
theorem d_FW_decode_41 : decode prog_1_method_12_code 41 = .ok (.invokestatic 196, 3) := by decide +kernel
theorem d_FW_decode_44 : decode prog_1_method_12_code 44 = .ok (.ifCond .ne 5, 3) := by decide +kernel
theorem d_FW_decode_47 : decode prog_1_method_12_code 47 = .ok (.iconst (-1), 1) := by decide +kernel
theorem d_FW_decode_48 : decode prog_1_method_12_code 48 = .ok (.ireturn, 1) := by decide +kernel
theorem d_FW_decode_49 : decode prog_1_method_12_code 49 = .ok (.aload_n 0, 1) := by decide +kernel
theorem d_FW_decode_50 : decode prog_1_method_12_code 50 = .ok (.getfield 16, 3) := by decide +kernel
theorem d_FW_decode_53 : decode prog_1_method_12_code 53 = .ok (.getfield 67, 3) := by decide +kernel
theorem d_FW_decode_56 : decode prog_1_method_12_code 56 = .ok (.invokevirtual 200, 3) := by decide +kernel
theorem d_FW_decode_59 : decode prog_1_method_12_code 59 = .ok (.aload_n 0, 1) := by decide +kernel
theorem d_FW_decode_60 : decode prog_1_method_12_code 60 = .ok (.getfield 61, 3) := by decide +kernel
theorem d_FW_decode_63 : decode prog_1_method_12_code 63 = .ok (.invokevirtual 135, 3) := by decide +kernel
theorem d_FW_decode_66 : decode prog_1_method_12_code 66 = .ok (.aload_n 0, 1) := by decide +kernel
theorem d_FW_decode_67 : decode prog_1_method_12_code 67 = .ok (.getfield 16, 3) := by decide +kernel
theorem d_FW_decode_70 : decode prog_1_method_12_code 70 = .ok (.aload_n 0, 1) := by decide +kernel
theorem d_FW_decode_71 : decode prog_1_method_12_code 71 = .ok (.getfield 61, 3) := by decide +kernel
theorem d_FW_decode_74 : decode prog_1_method_12_code 74 = .ok (.getfield 161, 3) := by decide +kernel
theorem d_FW_decode_77 : decode prog_1_method_12_code 77 = .ok (.invokevirtual 203, 3) := by decide +kernel
theorem d_FW_decode_80 : decode prog_1_method_12_code 80 = .ok (.aload_n 0, 1) := by decide +kernel
theorem d_FW_decode_81 : decode prog_1_method_12_code 81 = .ok (.iconst 1, 1) := by decide +kernel
theorem d_FW_decode_82 : decode prog_1_method_12_code 82 = .ok (.putfield 191, 3) := by decide +kernel
theorem d_FW_decode_85 : decode prog_1_method_12_code 85 = .ok (.aload_n 0, 1) := by decide +kernel
theorem d_FW_decode_86 : decode prog_1_method_12_code 86 = .ok (.getfield 41, 3) := by decide +kernel
theorem d_FW_decode_89 : decode prog_1_method_12_code 89 = .ok (.getfield 207, 3) := by decide +kernel
theorem d_FW_decode_92 : decode prog_1_method_12_code 92 = .ok (.ireturn, 1) := by decide +kernel
theorem d_FW_encode_0 : decode prog_1_method_5_code 0 = .ok (.iload_n 1, 1) := by decide +kernel
theorem d_FW_encode_1 : decode prog_1_method_5_code 1 = .ok (.ifCond .lt 9, 3) := by decide +kernel
theorem d_FW_encode_4 : decode prog_1_method_5_code 4 = .ok (.iload_n 1, 1) := by decide +kernel
theorem d_FW_encode_5 : decode prog_1_method_5_code 5 = .ok (.ldc 123, 2) := by decide +kernel
theorem d_FW_encode_7 : decode prog_1_method_5_code 7 = .ok (.if_icmp .le 13, 3) := by decide +kernel
theorem d_FW_encode_10 : decode prog_1_method_5_code 10 = .ok (.new 92, 3) := by decide +kernel
theorem d_FW_encode_13 : decode prog_1_method_5_code 13 = .ok (.dup, 1) := by decide +kernel
theorem d_FW_encode_14 : decode prog_1_method_5_code 14 = .ok (.ldc 124, 2) := by decide +kernel
theorem d_FW_encode_16 : decode prog_1_method_5_code 16 = .ok (.invokespecial 96, 3) := by decide +kernel
theorem d_FW_encode_19 : decode prog_1_method_5_code 19 = .ok (.athrow, 1) := by decide +kernel
theorem d_FW_encode_20 : decode prog_1_method_5_code 20 = .ok (.aload_n 0, 1) := by decide +kernel
theorem d_FW_encode_21 : decode prog_1_method_5_code 21 = .ok (.getfield 10, 3) := by decide +kernel
theorem d_FW_encode_24 : decode prog_1_method_5_code 24 = .ok (.invokevirtual 116, 3) := by decide +kernel
theorem d_FW_encode_27 : decode prog_1_method_5_code 27 = .ok (.aload_n 0, 1) := by decide +kernel
theorem d_FW_encode_28 : decode prog_1_method_5_code 28 = .ok (.getfield 34, 3) := by decide +kernel
theorem d_FW_encode_31 : decode prog_1_method_5_code 31 = .ok (.iload_n 1, 1) := by decide +kernel
theorem d_FW_encode_32 : decode prog_1_method_5_code 32 = .ok (.invokevirtual 126, 3) := by decide +kernel
theorem d_FW_encode_35 : decode prog_1_method_5_code 35 = .ok (.aload_n 0, 1) := by decide +kernel
theorem d_FW_encode_36 : decode prog_1_method_5_code 36 = .ok (.getfield 34, 3) := by decide +kernel
theorem d_FW_encode_39 : decode prog_1_method_5_code 39 = .ok (.aload_n 0, 1) := by decide +kernel
theorem d_FW_encode_40 : decode prog_1_method_5_code 40 = .ok (.getfield 10, 3) := by decide +kernel
theorem d_FW_encode_43 : decode prog_1_method_5_code 43 = .ok (.invokestatic 130, 3) := by decide +kernel
theorem d_FW_encode_46 : decode prog_1_method_5_code 46 = .ok (.aload_n 0, 1) := by decide +kernel
theorem d_FW_encode_47 : decode prog_1_method_5_code 47 = .ok (.getfield 57, 3) := by decide +kernel
theorem d_FW_encode_50 : decode prog_1_method_5_code 50 = .ok (.invokevirtual 135, 3) := by decide +kernel
theorem d_FW_encode_53 : decode prog_1_method_5_code 53 = .ok (.aload_n 0, 1) := by decide +kernel
theorem d_FW_encode_54 : decode prog_1_method_5_code 54 = .ok (.getfield 34, 3) := by decide +kernel
theorem d_FW_encode_57 : decode prog_1_method_5_code 57 = .ok (.getfield 138, 3) := by decide +kernel
theorem d_FW_encode_60 : decode prog_1_method_5_code 60 = .ok (.ireturn, 1) := by decide +kernel
theorem d_FW_error_0 : decode prog_1_method_8_code 0 = .ok (.iload_n 1, 1) := by decide +kernel
theorem d_FW_error_1 : decode prog_1_method_8_code 1 = .ok (.ifCond .lt 9, 3) := by decide +kernel
theorem d_FW_error_4 : decode prog_1_method_8_code 4 = .ok (.iload_n 1, 1) := by decide +kernel
theorem d_FW_error_5 : decode prog_1_method_8_code 5 = .ok (.ldc 123, 2) := by decide +kernel
theorem d_FW_error_7 : decode prog_1_method_8_code 7 = .ok (.if_icmp .le 13, 3) := by decide +kernel
theorem d_FW_error_10 : decode prog_1_method_8_code 10 = .ok (.new 92, 3) := by decide +kernel
theorem d_FW_error_13 : decode prog_1_method_8_code 13 = .ok (.dup, 1) := by decide +kernel
theorem d_FW_error_14 : decode prog_1_method_8_code 14 = .ok (.ldc 124, 2) := by decide +kernel
theorem d_FW_error_16 : decode prog_1_method_8_code 16 = .ok (.invokespecial 96, 3) := by decide +kernel
theorem d_FW_error_19 : decode prog_1_method_8_code 19 = .ok (.athrow, 1) := by decide +kernel
theorem d_FW_error_20 : decode prog_1_method_8_code 20 = .ok (.aload_n 0, 1) := by decide +kernel
theorem d_FW_error_21 : decode prog_1_method_8_code 21 = .ok (.getfield 10, 3) := by decide +kernel
theorem d_FW_error_24 : decode prog_1_method_8_code 24 = .ok (.invokevirtual 116, 3) := by decide +kernel
theorem d_FW_error_27 : decode prog_1_method_8_code 27 = .ok (.iload_n 2, 1) := by decide +kernel
theorem d_FW_error_28 : decode prog_1_method_8_code 28 = .ok (.ifCond .lt 17, 3) := by decide +kernel
theorem d_FW_error_31 : decode prog_1_method_8_code 31 = .ok (.iload_n 2, 1) := by decide +kernel
theorem d_FW_error_32 : decode prog_1_method_8_code 32 = .ok (.aload_n 0, 1) := by decide +kernel
theorem d_FW_error_33 : decode prog_1_method_8_code 33 = .ok (.getfield 10, 3) := by decide +kernel
theorem d_FW_error_36 : decode prog_1_method_8_code 36 = .ok (.getfield 67, 3) := by decide +kernel
theorem d_FW_error_39 : decode prog_1_method_8_code 39 = .ok (.getfield 155, 3) := by decide +kernel
theorem d_FW_error_42 : decode prog_1_method_8_code 42 = .ok (.if_icmp .lt 13, 3) := by decide +kernel
theorem d_FW_error_45 : decode prog_1_method_8_code 45 = .ok (.new 85, 3) := by decide +kernel
theorem d_FW_error_48 : decode prog_1_method_8_code 48 = .ok (.dup, 1) := by decide +kernel
theorem d_FW_error_49 : decode prog_1_method_8_code 49 = .ok (.ldc 158, 2) := by decide +kernel
theorem d_FW_error_51 : decode prog_1_method_8_code 51 = .ok (.invokespecial 89, 3) := by decide +kernel
theorem d_FW_error_54 : decode prog_1_method_8_code 54 = .ok (.athrow, 1) := by decide +kernel
theorem d_FW_error_55 : decode prog_1_method_8_code 55 = .ok (.aload_n 0, 1) := by decide +kernel
theorem d_FW_error_56 : decode prog_1_method_8_code 56 = .ok (.getfield 48, 3) := by decide +kernel
theorem d_FW_error_59 : decode prog_1_method_8_code 59 = .ok (.iload_n 1, 1) := by decide +kernel
theorem d_FW_error_60 : decode prog_1_method_8_code 60 = .ok (.invokevirtual 160, 3) := by decide +kernel
theorem d_FW_error_63 : decode prog_1_method_8_code 63 = .ok (.aload_n 0, 1) := by decide +kernel
theorem d_FW_error_64 : decode prog_1_method_8_code 64 = .ok (.getfield 48, 3) := by decide +kernel
theorem d_FW_error_67 : decode prog_1_method_8_code 67 = .ok (.aload_n 0, 1) := by decide +kernel
theorem d_FW_error_68 : decode prog_1_method_8_code 68 = .ok (.getfield 10, 3) := by decide +kernel
theorem d_FW_error_71 : decode prog_1_method_8_code 71 = .ok (.invokestatic 130, 3) := by decide +kernel
theorem d_FW_error_74 : decode prog_1_method_8_code 74 = .ok (.aload_n 0, 1) := by decide +kernel
theorem d_FW_error_75 : decode prog_1_method_8_code 75 = .ok (.getfield 64, 3) := by decide +kernel
theorem d_FW_error_78 : decode prog_1_method_8_code 78 = .ok (.invokevirtual 135, 3) := by decide +kernel
theorem d_FW_error_81 : decode prog_1_method_8_code 81 = .ok (.aload_n 0, 1) := by decide +kernel
theorem d_FW_error_82 : decode prog_1_method_8_code 82 = .ok (.getfield 10, 3) := by decide +kernel
theorem d_FW_error_85 : decode prog_1_method_8_code 85 = .ok (.aload_n 0, 1) := by decide +kernel
theorem d_FW_error_86 : decode prog_1_method_8_code 86 = .ok (.getfield 64, 3) := by decide +kernel
theorem d_FW_error_89 : decode prog_1_method_8_code 89 = .ok (.getfield 161, 3) := by decide +kernel
theorem d_FW_error_92 : decode prog_1_method_8_code 92 = .ok (.iload_n 2, 1) := by decide +kernel
theorem d_FW_error_93 : decode prog_1_method_8_code 93 = .ok (.invokevirtual 164, 3) := by decide +kernel
theorem d_FW_error_96 : decode prog_1_method_8_code 96 = .ok (.lreturn, 1) := by decide +kernel
theorem d_FW_feed_0 : decode prog_1_method_9_code 0 = .ok (.iload_n 1, 1) := by decide +kernel
theorem d_FW_feed_1 : decode prog_1_method_9_code 1 = .ok (.ifCond .lt 10, 3) := by decide +kernel
theorem d_FW_feed_4 : decode prog_1_method_9_code 4 = .ok (.iload_n 1, 1) := by decide +kernel
theorem d_FW_feed_5 : decode prog_1_method_9_code 5 = .ok (.sipush 255, 3) := by decide +kernel
theorem d_FW_feed_8 : decode prog_1_method_9_code 8 = .ok (.if_icmp .le 13, 3) := by decide +kernel
theorem d_FW_feed_11 : decode prog_1_method_9_code 11 = .ok (.new 92, 3) := by decide +kernel
theorem d_FW_feed_14 : decode prog_1_method_9_code 14 = .ok (.dup, 1) := by decide +kernel
theorem d_FW_feed_15 : decode prog_1_method_9_code 15 = .ok (.ldc 168, 2) := by decide +kernel
theorem d_FW_feed_17 : decode prog_1_method_9_code 17 = .ok (.invokespecial 96, 3) := by decide +kernel
theorem d_FW_feed_20 : decode prog_1_method_9_code 20 = .ok (.athrow, 1) := by decide +kernel
theorem d_FW_feed_21 : decode prog_1_method_9_code 21 = .ok (.aload_n 0, 1) := by decide +kernel
theorem d_FW_feed_22 : decode prog_1_method_9_code 22 = .ok (.getfield 26, 3) := by decide +kernel
theorem d_FW_feed_25 : decode prog_1_method_9_code 25 = .ok (.getfield 170, 3) := by decide +kernel
theorem d_FW_feed_28 : decode prog_1_method_9_code 28 = .ok (.sipush 2400, 3) := by decide +kernel
theorem d_FW_feed_31 : decode prog_1_method_9_code 31 = .ok (.if_icmp .lt 13, 3) := by decide +kernel
theorem d_FW_feed_34 : decode prog_1_method_9_code 34 = .ok (.new 173, 3) := by decide +kernel
theorem d_FW_feed_37 : decode prog_1_method_9_code 37 = .ok (.dup, 1) := by decide +kernel
theorem d_FW_feed_38 : decode prog_1_method_9_code 38 = .ok (.ldc 175, 2) := by decide +kernel
theorem d_FW_feed_40 : decode prog_1_method_9_code 40 = .ok (.invokespecial 177, 3) := by decide +kernel
theorem d_FW_feed_43 : decode prog_1_method_9_code 43 = .ok (.athrow, 1) := by decide +kernel
theorem d_FW_feed_44 : decode prog_1_method_9_code 44 = .ok (.aload_n 0, 1) := by decide +kernel
theorem d_FW_feed_45 : decode prog_1_method_9_code 45 = .ok (.getfield 26, 3) := by decide +kernel
theorem d_FW_feed_48 : decode prog_1_method_9_code 48 = .ok (.iload_n 1, 1) := by decide +kernel
theorem d_FW_feed_49 : decode prog_1_method_9_code 49 = .ok (.invokevirtual 178, 3) := by decide +kernel
theorem d_FW_feed_52 : decode prog_1_method_9_code 52 = .ok (.aload_n 0, 1) := by decide +kernel
theorem d_FW_feed_53 : decode prog_1_method_9_code 53 = .ok (.getfield 26, 3) := by decide +kernel
theorem d_FW_feed_56 : decode prog_1_method_9_code 56 = .ok (.getfield 170, 3) := by decide +kernel
theorem d_FW_feed_59 : decode prog_1_method_9_code 59 = .ok (.ireturn, 1) := by decide +kernel
theorem d_FW_mask_0 : decode prog_1_method_2_code 0 = .ok (.aload_n 0, 1) := by decide +kernel
theorem d_FW_mask_1 : decode prog_1_method_2_code 1 = .ok (.getfield 10, 3) := by decide +kernel
theorem d_FW_mask_4 : decode prog_1_method_2_code 4 = .ok (.getfield 67, 3) := by decide +kernel
theorem d_FW_mask_7 : decode prog_1_method_2_code 7 = .ok (.iload_n 1, 1) := by decide +kernel
theorem d_FW_mask_8 : decode prog_1_method_2_code 8 = .ok (.iload_n 2, 1) := by decide +kernel
theorem d_FW_mask_9 : decode prog_1_method_2_code 9 = .ok (.invokevirtual 81, 3) := by decide +kernel
theorem d_FW_mask_12 : decode prog_1_method_2_code 12 = .ok (.ifCond .ne 13, 3) := by decide +kernel
theorem d_FW_mask_15 : decode prog_1_method_2_code 15 = .ok (.new 85, 3) := by decide +kernel
theorem d_FW_mask_18 : decode prog_1_method_2_code 18 = .ok (.dup, 1) := by decide +kernel
theorem d_FW_mask_19 : decode prog_1_method_2_code 19 = .ok (.ldc 87, 2) := by decide +kernel
theorem d_FW_mask_21 : decode prog_1_method_2_code 21 = .ok (.invokespecial 89, 3) := by decide +kernel
theorem d_FW_mask_24 : decode prog_1_method_2_code 24 = .ok (.athrow, 1) := by decide +kernel
theorem d_FW_mask_25 : decode prog_1_method_2_code 25 = .ok (.iload_n 3, 1) := by decide +kernel
theorem d_FW_mask_26 : decode prog_1_method_2_code 26 = .ok (.iconst 1, 1) := by decide +kernel
theorem d_FW_mask_27 : decode prog_1_method_2_code 27 = .ok (.if_icmp .ge 13, 3) := by decide +kernel
theorem d_FW_mask_30 : decode prog_1_method_2_code 30 = .ok (.new 92, 3) := by decide +kernel
theorem d_FW_mask_33 : decode prog_1_method_2_code 33 = .ok (.dup, 1) := by decide +kernel
theorem d_FW_mask_34 : decode prog_1_method_2_code 34 = .ok (.ldc 94, 2) := by decide +kernel
theorem d_FW_mask_36 : decode prog_1_method_2_code 36 = .ok (.invokespecial 96, 3) := by decide +kernel
theorem d_FW_mask_39 : decode prog_1_method_2_code 39 = .ok (.athrow, 1) := by decide +kernel
theorem d_FW_mask_40 : decode prog_1_method_2_code 40 = .ok (.aload_n 0, 1) := by decide +kernel
theorem d_FW_mask_41 : decode prog_1_method_2_code 41 = .ok (.getfield 10, 3) := by decide +kernel
theorem d_FW_mask_44 : decode prog_1_method_2_code 44 = .ok (.iload_n 1, 1) := by decide +kernel
theorem d_FW_mask_45 : decode prog_1_method_2_code 45 = .ok (.iload_n 2, 1) := by decide +kernel
theorem d_FW_mask_46 : decode prog_1_method_2_code 46 = .ok (.iload_n 3, 1) := by decide +kernel
theorem d_FW_mask_47 : decode prog_1_method_2_code 47 = .ok (.iload 4, 2) := by decide +kernel
theorem d_FW_mask_49 : decode prog_1_method_2_code 49 = .ok (.invokevirtual 97, 3) := by decide +kernel
theorem d_FW_mask_52 : decode prog_1_method_2_code 52 = .ok (.ireturn, 1) := by decide +kernel
theorem d_FW_part_0 : decode prog_1_method_14_code 0 = .ok (.aload_n 0, 1) := by decide +kernel
theorem d_FW_part_1 : decode prog_1_method_14_code 1 = .ok (.getfield 10, 3) := by decide +kernel
theorem d_FW_part_4 : decode prog_1_method_14_code 4 = .ok (.invokevirtual 116, 3) := by decide +kernel
theorem d_FW_part_7 : decode prog_1_method_14_code 7 = .ok (.iload_n 1, 1) := by decide +kernel
theorem d_FW_part_8 : decode prog_1_method_14_code 8 = .ok (.ifCond .lt 17, 3) := by decide +kernel
theorem d_FW_part_11 : decode prog_1_method_14_code 11 = .ok (.iload_n 1, 1) := by decide +kernel
theorem d_FW_part_12 : decode prog_1_method_14_code 12 = .ok (.aload_n 0, 1) := by decide +kernel
theorem d_FW_part_13 : decode prog_1_method_14_code 13 = .ok (.getfield 10, 3) := by decide +kernel
theorem d_FW_part_16 : decode prog_1_method_14_code 16 = .ok (.getfield 67, 3) := by decide +kernel
theorem d_FW_part_19 : decode prog_1_method_14_code 19 = .ok (.getfield 155, 3) := by decide +kernel
theorem d_FW_part_22 : decode prog_1_method_14_code 22 = .ok (.if_icmp .lt 13, 3) := by decide +kernel
theorem d_FW_part_25 : decode prog_1_method_14_code 25 = .ok (.new 85, 3) := by decide +kernel
theorem d_FW_part_28 : decode prog_1_method_14_code 28 = .ok (.dup, 1) := by decide +kernel
theorem d_FW_part_29 : decode prog_1_method_14_code 29 = .ok (.ldc 158, 2) := by decide +kernel
theorem d_FW_part_31 : decode prog_1_method_14_code 31 = .ok (.invokespecial 89, 3) := by decide +kernel
theorem d_FW_part_34 : decode prog_1_method_14_code 34 = .ok (.athrow, 1) := by decide +kernel
theorem d_FW_part_35 : decode prog_1_method_14_code 35 = .ok (.iload_n 2, 1) := by decide +kernel
theorem d_FW_part_36 : decode prog_1_method_14_code 36 = .ok (.tableswitch 73 0 2 #[28, 41, 57], 28) := by decide +kernel
theorem d_FW_part_64 : decode prog_1_method_14_code 64 = .ok (.aload_n 0, 1) := by decide +kernel
theorem d_FW_part_65 : decode prog_1_method_14_code 65 = .ok (.getfield 10, 3) := by decide +kernel
theorem d_FW_part_68 : decode prog_1_method_14_code 68 = .ok (.getfield 67, 3) := by decide +kernel
theorem d_FW_part_71 : decode prog_1_method_14_code 71 = .ok (.getfield 216, 3) := by decide +kernel
theorem d_FW_part_74 : decode prog_1_method_14_code 74 = .ok (.iload_n 1, 1) := by decide +kernel
theorem d_FW_part_75 : decode prog_1_method_14_code 75 = .ok (.iaload, 1) := by decide +kernel
theorem d_FW_part_76 : decode prog_1_method_14_code 76 = .ok (.ireturn, 1) := by decide +kernel
theorem d_FW_part_77 : decode prog_1_method_14_code 77 = .ok (.aload_n 0, 1) := by decide +kernel
theorem d_FW_part_78 : decode prog_1_method_14_code 78 = .ok (.getfield 10, 3) := by decide +kernel
theorem d_FW_part_81 : decode prog_1_method_14_code 81 = .ok (.getfield 67, 3) := by decide +kernel
theorem d_FW_part_84 : decode prog_1_method_14_code 84 = .ok (.getfield 219, 3) := by decide +kernel
theorem d_FW_part_87 : decode prog_1_method_14_code 87 = .ok (.iload_n 1, 1) := by decide +kernel
theorem d_FW_part_88 : decode prog_1_method_14_code 88 = .ok (.iaload, 1) := by decide +kernel
theorem d_FW_part_89 : decode prog_1_method_14_code 89 = .ok (.invokestatic 222, 3) := by decide +kernel
theorem d_FW_part_92 : decode prog_1_method_14_code 92 = .ok (.ireturn, 1) := by decide +kernel
theorem d_FW_part_93 : decode prog_1_method_14_code 93 = .ok (.aload_n 0, 1) := by decide +kernel
theorem d_FW_part_94 : decode prog_1_method_14_code 94 = .ok (.getfield 10, 3) := by decide +kernel
theorem d_FW_part_97 : decode prog_1_method_14_code 97 = .ok (.getfield 67, 3) := by decide +kernel
theorem d_FW_part_100 : decode prog_1_method_14_code 100 = .ok (.getfield 219, 3) := by decide +kernel
theorem d_FW_part_103 : decode prog_1_method_14_code 103 = .ok (.iload_n 1, 1) := by decide +kernel
theorem d_FW_part_104 : decode prog_1_method_14_code 104 = .ok (.iaload, 1) := by decide +kernel
theorem d_FW_part_105 : decode prog_1_method_14_code 105 = .ok (.invokestatic 225, 3) := by decide +kernel
theorem d_FW_part_108 : decode prog_1_method_14_code 108 = .ok (.ireturn, 1) := by decide +kernel
theorem d_FW_part_109 : decode prog_1_method_14_code 109 = .ok (.iconst (-1), 1) := by decide +kernel
theorem d_FW_part_110 : decode prog_1_method_14_code 110 = .ok (.ireturn, 1) := by decide +kernel
theorem d_FW_pass_0 : decode prog_1_method_10_code 0 = .ok (.aload_n 0, 1) := by decide +kernel
theorem d_FW_pass_1 : decode prog_1_method_10_code 1 = .ok (.getfield 22, 3) := by decide +kernel
theorem d_FW_pass_4 : decode prog_1_method_10_code 4 = .ok (.iload_n 1, 1) := by decide +kernel
theorem d_FW_pass_5 : decode prog_1_method_10_code 5 = .ok (.invokevirtual 142, 3) := by decide +kernel
theorem d_FW_pass_8 : decode prog_1_method_10_code 8 = .ok (.ifCond .ne 13, 3) := by decide +kernel
theorem d_FW_pass_11 : decode prog_1_method_10_code 11 = .ok (.new 85, 3) := by decide +kernel
theorem d_FW_pass_14 : decode prog_1_method_10_code 14 = .ok (.dup, 1) := by decide +kernel
theorem d_FW_pass_15 : decode prog_1_method_10_code 15 = .ok (.ldc 145, 2) := by decide +kernel
theorem d_FW_pass_17 : decode prog_1_method_10_code 17 = .ok (.invokespecial 89, 3) := by decide +kernel
theorem d_FW_pass_20 : decode prog_1_method_10_code 20 = .ok (.athrow, 1) := by decide +kernel
theorem d_FW_pass_21 : decode prog_1_method_10_code 21 = .ok (.iload_n 2, 1) := by decide +kernel
theorem d_FW_pass_22 : decode prog_1_method_10_code 22 = .ok (.ifCond .ge 13, 3) := by decide +kernel
theorem d_FW_pass_25 : decode prog_1_method_10_code 25 = .ok (.new 92, 3) := by decide +kernel
theorem d_FW_pass_28 : decode prog_1_method_10_code 28 = .ok (.dup, 1) := by decide +kernel
theorem d_FW_pass_29 : decode prog_1_method_10_code 29 = .ok (.ldc 181, 2) := by decide +kernel
theorem d_FW_pass_31 : decode prog_1_method_10_code 31 = .ok (.invokespecial 96, 3) := by decide +kernel
theorem d_FW_pass_34 : decode prog_1_method_10_code 34 = .ok (.athrow, 1) := by decide +kernel
theorem d_FW_pass_35 : decode prog_1_method_10_code 35 = .ok (.iload_n 2, 1) := by decide +kernel
theorem d_FW_pass_36 : decode prog_1_method_10_code 36 = .ok (.aload_n 0, 1) := by decide +kernel
theorem d_FW_pass_37 : decode prog_1_method_10_code 37 = .ok (.getfield 22, 3) := by decide +kernel
theorem d_FW_pass_40 : decode prog_1_method_10_code 40 = .ok (.getfield 170, 3) := by decide +kernel
theorem d_FW_pass_43 : decode prog_1_method_10_code 43 = .ok (.iload_n 1, 1) := by decide +kernel
theorem d_FW_pass_44 : decode prog_1_method_10_code 44 = .ok (.isub, 1) := by decide +kernel
theorem d_FW_pass_45 : decode prog_1_method_10_code 45 = .ok (.invokestatic 183, 3) := by decide +kernel
theorem d_FW_pass_48 : decode prog_1_method_10_code 48 = .ok (.istore_n 3, 1) := by decide +kernel
theorem d_FW_pass_49 : decode prog_1_method_10_code 49 = .ok (.iload_n 3, 1) := by decide +kernel
theorem d_FW_pass_50 : decode prog_1_method_10_code 50 = .ok (.sipush 2400, 3) := by decide +kernel
theorem d_FW_pass_53 : decode prog_1_method_10_code 53 = .ok (.aload_n 0, 1) := by decide +kernel
theorem d_FW_pass_54 : decode prog_1_method_10_code 54 = .ok (.getfield 26, 3) := by decide +kernel
theorem d_FW_pass_57 : decode prog_1_method_10_code 57 = .ok (.getfield 170, 3) := by decide +kernel
theorem d_FW_pass_60 : decode prog_1_method_10_code 60 = .ok (.isub, 1) := by decide +kernel
theorem d_FW_pass_61 : decode prog_1_method_10_code 61 = .ok (.if_icmp .le 13, 3) := by decide +kernel
theorem d_FW_pass_64 : decode prog_1_method_10_code 64 = .ok (.new 173, 3) := by decide +kernel
theorem d_FW_pass_67 : decode prog_1_method_10_code 67 = .ok (.dup, 1) := by decide +kernel
theorem d_FW_pass_68 : decode prog_1_method_10_code 68 = .ok (.ldc 175, 2) := by decide +kernel
theorem d_FW_pass_70 : decode prog_1_method_10_code 70 = .ok (.invokespecial 177, 3) := by decide +kernel
theorem d_FW_pass_73 : decode prog_1_method_10_code 73 = .ok (.athrow, 1) := by decide +kernel
theorem d_FW_pass_74 : decode prog_1_method_10_code 74 = .ok (.iconst 0, 1) := by decide +kernel
theorem d_FW_pass_75 : decode prog_1_method_10_code 75 = .ok (.istore 4, 2) := by decide +kernel
theorem d_FW_pass_77 : decode prog_1_method_10_code 77 = .ok (.iload 4, 2) := by decide +kernel
theorem d_FW_pass_79 : decode prog_1_method_10_code 79 = .ok (.iload_n 3, 1) := by decide +kernel
theorem d_FW_pass_80 : decode prog_1_method_10_code 80 = .ok (.if_icmp .ge 27, 3) := by decide +kernel
theorem d_FW_pass_83 : decode prog_1_method_10_code 83 = .ok (.aload_n 0, 1) := by decide +kernel
theorem d_FW_pass_84 : decode prog_1_method_10_code 84 = .ok (.getfield 26, 3) := by decide +kernel
theorem d_FW_pass_87 : decode prog_1_method_10_code 87 = .ok (.aload_n 0, 1) := by decide +kernel
theorem d_FW_pass_88 : decode prog_1_method_10_code 88 = .ok (.getfield 22, 3) := by decide +kernel
theorem d_FW_pass_91 : decode prog_1_method_10_code 91 = .ok (.iload_n 1, 1) := by decide +kernel
theorem d_FW_pass_92 : decode prog_1_method_10_code 92 = .ok (.iload 4, 2) := by decide +kernel
theorem d_FW_pass_94 : decode prog_1_method_10_code 94 = .ok (.iadd, 1) := by decide +kernel
theorem d_FW_pass_95 : decode prog_1_method_10_code 95 = .ok (.invokevirtual 147, 3) := by decide +kernel
theorem d_FW_pass_98 : decode prog_1_method_10_code 98 = .ok (.invokevirtual 178, 3) := by decide +kernel
theorem d_FW_pass_101 : decode prog_1_method_10_code 101 = .ok (.iinc 4 1, 3) := by decide +kernel
theorem d_FW_pass_104 : decode prog_1_method_10_code 104 = .ok (.goto (-27), 3) := by decide +kernel
theorem d_FW_pass_107 : decode prog_1_method_10_code 107 = .ok (.iload_n 3, 1) := by decide +kernel
theorem d_FW_pass_108 : decode prog_1_method_10_code 108 = .ok (.ireturn, 1) := by decide +kernel
theorem d_FW_put_0 : decode prog_1_method_3_code 0 = .ok (.aload_n 0, 1) := by decide +kernel
theorem d_FW_put_1 : decode prog_1_method_3_code 1 = .ok (.getfield 10, 3) := by decide +kernel
theorem d_FW_put_4 : decode prog_1_method_3_code 4 = .ok (.getfield 67, 3) := by decide +kernel
theorem d_FW_put_7 : decode prog_1_method_3_code 7 = .ok (.iload_n 1, 1) := by decide +kernel
theorem d_FW_put_8 : decode prog_1_method_3_code 8 = .ok (.iload_n 2, 1) := by decide +kernel
theorem d_FW_put_9 : decode prog_1_method_3_code 9 = .ok (.invokevirtual 81, 3) := by decide +kernel
theorem d_FW_put_12 : decode prog_1_method_3_code 12 = .ok (.ifCond .ne 13, 3) := by decide +kernel
theorem d_FW_put_15 : decode prog_1_method_3_code 15 = .ok (.new 85, 3) := by decide +kernel
theorem d_FW_put_18 : decode prog_1_method_3_code 18 = .ok (.dup, 1) := by decide +kernel
theorem d_FW_put_19 : decode prog_1_method_3_code 19 = .ok (.ldc 87, 2) := by decide +kernel
theorem d_FW_put_21 : decode prog_1_method_3_code 21 = .ok (.invokespecial 89, 3) := by decide +kernel
theorem d_FW_put_24 : decode prog_1_method_3_code 24 = .ok (.athrow, 1) := by decide +kernel
theorem d_FW_put_25 : decode prog_1_method_3_code 25 = .ok (.iload_n 3, 1) := by decide +kernel
theorem d_FW_put_26 : decode prog_1_method_3_code 26 = .ok (.iconst 1, 1) := by decide +kernel
theorem d_FW_put_27 : decode prog_1_method_3_code 27 = .ok (.if_icmp .ge 13, 3) := by decide +kernel
theorem d_FW_put_30 : decode prog_1_method_3_code 30 = .ok (.new 92, 3) := by decide +kernel
theorem d_FW_put_33 : decode prog_1_method_3_code 33 = .ok (.dup, 1) := by decide +kernel
theorem d_FW_put_34 : decode prog_1_method_3_code 34 = .ok (.ldc 94, 2) := by decide +kernel
theorem d_FW_put_36 : decode prog_1_method_3_code 36 = .ok (.invokespecial 96, 3) := by decide +kernel
theorem d_FW_put_39 : decode prog_1_method_3_code 39 = .ok (.athrow, 1) := by decide +kernel
theorem d_FW_put_40 : decode prog_1_method_3_code 40 = .ok (.iload 4, 2) := by decide +kernel
theorem d_FW_put_42 : decode prog_1_method_3_code 42 = .ok (.ifCond .lt 11, 3) := by decide +kernel
theorem d_FW_put_45 : decode prog_1_method_3_code 45 = .ok (.iload 4, 2) := by decide +kernel
theorem d_FW_put_47 : decode prog_1_method_3_code 47 = .ok (.sipush 255, 3) := by decide +kernel
theorem d_FW_put_50 : decode prog_1_method_3_code 50 = .ok (.if_icmp .le 13, 3) := by decide +kernel
theorem d_FW_put_53 : decode prog_1_method_3_code 53 = .ok (.new 92, 3) := by decide +kernel
theorem d_FW_put_56 : decode prog_1_method_3_code 56 = .ok (.dup, 1) := by decide +kernel
theorem d_FW_put_57 : decode prog_1_method_3_code 57 = .ok (.ldc 101, 2) := by decide +kernel
theorem d_FW_put_59 : decode prog_1_method_3_code 59 = .ok (.invokespecial 96, 3) := by decide +kernel
theorem d_FW_put_62 : decode prog_1_method_3_code 62 = .ok (.athrow, 1) := by decide +kernel
theorem d_FW_put_63 : decode prog_1_method_3_code 63 = .ok (.aload_n 0, 1) := by decide +kernel
theorem d_FW_put_64 : decode prog_1_method_3_code 64 = .ok (.getfield 10, 3) := by decide +kernel
theorem d_FW_put_67 : decode prog_1_method_3_code 67 = .ok (.iload_n 1, 1) := by decide +kernel
theorem d_FW_put_68 : decode prog_1_method_3_code 68 = .ok (.iload_n 2, 1) := by decide +kernel
theorem d_FW_put_69 : decode prog_1_method_3_code 69 = .ok (.iload_n 3, 1) := by decide +kernel
theorem d_FW_put_70 : decode prog_1_method_3_code 70 = .ok (.iload 4, 2) := by decide +kernel
theorem d_FW_put_72 : decode prog_1_method_3_code 72 = .ok (.invokevirtual 103, 3) := by decide +kernel
theorem d_FW_put_75 : decode prog_1_method_3_code 75 = .ok (.ireturn, 1) := by decide +kernel
theorem d_FW_wave_0 : decode prog_1_method_4_code 0 = .ok (.aload_n 0, 1) := by decide +kernel
theorem d_FW_wave_1 : decode prog_1_method_4_code 1 = .ok (.getfield 10, 3) := by decide +kernel
theorem d_FW_wave_4 : decode prog_1_method_4_code 4 = .ok (.getfield 67, 3) := by decide +kernel
theorem d_FW_wave_7 : decode prog_1_method_4_code 7 = .ok (.iload_n 1, 1) := by decide +kernel
theorem d_FW_wave_8 : decode prog_1_method_4_code 8 = .ok (.iload_n 2, 1) := by decide +kernel
theorem d_FW_wave_9 : decode prog_1_method_4_code 9 = .ok (.invokevirtual 81, 3) := by decide +kernel
theorem d_FW_wave_12 : decode prog_1_method_4_code 12 = .ok (.ifCond .ne 13, 3) := by decide +kernel
theorem d_FW_wave_15 : decode prog_1_method_4_code 15 = .ok (.new 85, 3) := by decide +kernel
theorem d_FW_wave_18 : decode prog_1_method_4_code 18 = .ok (.dup, 1) := by decide +kernel
theorem d_FW_wave_19 : decode prog_1_method_4_code 19 = .ok (.ldc 87, 2) := by decide +kernel
theorem d_FW_wave_21 : decode prog_1_method_4_code 21 = .ok (.invokespecial 89, 3) := by decide +kernel
theorem d_FW_wave_24 : decode prog_1_method_4_code 24 = .ok (.athrow, 1) := by decide +kernel
theorem d_FW_wave_25 : decode prog_1_method_4_code 25 = .ok (.iload_n 1, 1) := by decide +kernel
theorem d_FW_wave_26 : decode prog_1_method_4_code 26 = .ok (.iload_n 2, 1) := by decide +kernel
theorem d_FW_wave_27 : decode prog_1_method_4_code 27 = .ok (.invokestatic 107, 3) := by decide +kernel
theorem d_FW_wave_30 : decode prog_1_method_4_code 30 = .ok (.istore_n 3, 1) := by decide +kernel
theorem d_FW_wave_31 : decode prog_1_method_4_code 31 = .ok (.aload_n 0, 1) := by decide +kernel
theorem d_FW_wave_32 : decode prog_1_method_4_code 32 = .ok (.getfield 10, 3) := by decide +kernel
theorem d_FW_wave_35 : decode prog_1_method_4_code 35 = .ok (.getfield 67, 3) := by decide +kernel
theorem d_FW_wave_38 : decode prog_1_method_4_code 38 = .ok (.getfield 111, 3) := by decide +kernel
theorem d_FW_wave_41 : decode prog_1_method_4_code 41 = .ok (.iload_n 3, 1) := by decide +kernel
theorem d_FW_wave_42 : decode prog_1_method_4_code 42 = .ok (.baload, 1) := by decide +kernel
theorem d_FW_wave_43 : decode prog_1_method_4_code 43 = .ok (.ifCond .ne 6, 3) := by decide +kernel
theorem d_FW_wave_46 : decode prog_1_method_4_code 46 = .ok (.ldc 115, 2) := by decide +kernel
theorem d_FW_wave_48 : decode prog_1_method_4_code 48 = .ok (.ireturn, 1) := by decide +kernel
theorem d_FW_wave_49 : decode prog_1_method_4_code 49 = .ok (.aload_n 0, 1) := by decide +kernel
theorem d_FW_wave_50 : decode prog_1_method_4_code 50 = .ok (.getfield 10, 3) := by decide +kernel
theorem d_FW_wave_53 : decode prog_1_method_4_code 53 = .ok (.invokevirtual 116, 3) := by decide +kernel
theorem d_FW_wave_56 : decode prog_1_method_4_code 56 = .ok (.aload_n 0, 1) := by decide +kernel
theorem d_FW_wave_57 : decode prog_1_method_4_code 57 = .ok (.getfield 10, 3) := by decide +kernel
theorem d_FW_wave_60 : decode prog_1_method_4_code 60 = .ok (.getfield 119, 3) := by decide +kernel
theorem d_FW_wave_63 : decode prog_1_method_4_code 63 = .ok (.iload_n 3, 1) := by decide +kernel
theorem d_FW_wave_64 : decode prog_1_method_4_code 64 = .ok (.iaload, 1) := by decide +kernel
theorem d_FW_wave_65 : decode prog_1_method_4_code 65 = .ok (.ireturn, 1) := by decide +kernel
theorem d_FW_zeros_0 : decode prog_1_method_7_code 0 = .ok (.iload_n 1, 1) := by decide +kernel
theorem d_FW_zeros_1 : decode prog_1_method_7_code 1 = .ok (.ifCond .lt 8, 3) := by decide +kernel
theorem d_FW_zeros_4 : decode prog_1_method_7_code 4 = .ok (.iload_n 1, 1) := by decide +kernel
theorem d_FW_zeros_5 : decode prog_1_method_7_code 5 = .ok (.iconst 3, 1) := by decide +kernel
theorem d_FW_zeros_6 : decode prog_1_method_7_code 6 = .ok (.if_icmp .le 13, 3) := by decide +kernel
theorem d_FW_zeros_9 : decode prog_1_method_7_code 9 = .ok (.new 92, 3) := by decide +kernel
theorem d_FW_zeros_12 : decode prog_1_method_7_code 12 = .ok (.dup, 1) := by decide +kernel
theorem d_FW_zeros_13 : decode prog_1_method_7_code 13 = .ok (.ldc 150, 2) := by decide +kernel
theorem d_FW_zeros_15 : decode prog_1_method_7_code 15 = .ok (.invokespecial 96, 3) := by decide +kernel
theorem d_FW_zeros_18 : decode prog_1_method_7_code 18 = .ok (.athrow, 1) := by decide +kernel
theorem d_FW_zeros_19 : decode prog_1_method_7_code 19 = .ok (.aload_n 0, 1) := by decide +kernel
theorem d_FW_zeros_20 : decode prog_1_method_7_code 20 = .ok (.getfield 57, 3) := by decide +kernel
theorem d_FW_zeros_23 : decode prog_1_method_7_code 23 = .ok (.getfield 152, 3) := by decide +kernel
theorem d_FW_zeros_26 : decode prog_1_method_7_code 26 = .ok (.iload_n 1, 1) := by decide +kernel
theorem d_FW_zeros_27 : decode prog_1_method_7_code 27 = .ok (.iaload, 1) := by decide +kernel
theorem d_FW_zeros_28 : decode prog_1_method_7_code 28 = .ok (.ireturn, 1) := by decide +kernel
theorem k_44 : Cond.initialized "java/lang/IndexOutOfBoundsException" ∈ gt := mem_gt (List.mem_of_getElem? (i := 44) (by decide +kernel)) rfl
theorem k_45 : Cond.initialized "java/lang/IllegalArgumentException" ∈ gt := mem_gt (List.mem_of_getElem? (i := 45) (by decide +kernel)) rfl
theorem k_48 : Cond.initialized "java/lang/UnsupportedOperationException" ∈ gt := mem_gt (List.mem_of_getElem? (i := 48) (by decide +kernel)) rfl
theorem k_49 : Cond.initialized "java/lang/IllegalStateException" ∈ gt := mem_gt (List.mem_of_getElem? (i := 49) (by decide +kernel)) rfl
theorem k_74 : Cond.fieldLink "FreeWavelets" 111 "FreeWavelets$Shape" "inside" "[Z" ∈ gt := mem_gt (List.mem_of_getElem? (i := 74) (by decide +kernel)) rfl
theorem k_78 : Cond.fieldLink "FreeWavelets" 216 "FreeWavelets$Shape" "sizeOf" "[I" ∈ gt := mem_gt (List.mem_of_getElem? (i := 78) (by decide +kernel)) rfl
theorem k_80 : Cond.fieldLink "FreeWavelets" 219 "FreeWavelets$Shape" "firstOf" "[I" ∈ gt := mem_gt (List.mem_of_getElem? (i := 80) (by decide +kernel)) rfl
theorem k_135 : Cond.fieldLink "FreeWavelets" 213 "FreeWavelets$Picture" "samples" "[I" ∈ gt := mem_gt (List.mem_of_getElem? (i := 135) (by decide +kernel)) rfl
theorem k_138 : Cond.fieldLink "FreeWavelets" 119 "FreeWavelets$Picture" "waves" "[I" ∈ gt := mem_gt (List.mem_of_getElem? (i := 138) (by decide +kernel)) rfl
theorem k_191 : Cond.fieldLink "FreeWavelets" 207 "FreeWavelets$Eye" "place" "I" ∈ gt := mem_gt (List.mem_of_getElem? (i := 191) (by decide +kernel)) rfl
theorem k_232 : Cond.fieldLink "FreeWavelets" 161 "FreeWavelets$Walk" "known" "[I" ∈ gt := mem_gt (List.mem_of_getElem? (i := 232) (by decide +kernel)) rfl
theorem k_234 : Cond.fieldLink "FreeWavelets" 152 "FreeWavelets$Walk" "left" "[I" ∈ gt := mem_gt (List.mem_of_getElem? (i := 234) (by decide +kernel)) rfl
theorem k_298 : Cond.fieldLink "FreeWavelets" 22 "FreeWavelets" "made" "LFreeWavelets$Bytes;" ∈ gt := mem_gt (List.mem_of_getElem? (i := 298) (by decide +kernel)) rfl
theorem k_301 : Cond.fieldLink "FreeWavelets" 41 "FreeWavelets" "eye" "LFreeWavelets$Eye;" ∈ gt := mem_gt (List.mem_of_getElem? (i := 301) (by decide +kernel)) rfl
theorem k_304 : Cond.fieldLink "FreeWavelets" 61 "FreeWavelets" "reading" "LFreeWavelets$Walk;" ∈ gt := mem_gt (List.mem_of_getElem? (i := 304) (by decide +kernel)) rfl
theorem k_305 : Cond.fieldLink "FreeWavelets" 64 "FreeWavelets" "weighing" "LFreeWavelets$Walk;" ∈ gt := mem_gt (List.mem_of_getElem? (i := 305) (by decide +kernel)) rfl
theorem k_376 : Cond.instanceMethod ⟨"FreeWavelets$Eye", "start", "(I)V"⟩ ∈ gt := mem_gt (List.mem_of_getElem? (i := 376) (by decide +kernel)) rfl
theorem k_377 : Cond.code ⟨"FreeWavelets$Eye", "start", "(I)V"⟩ prog_3_method_2_code 2 none ∈ gt := mem_gt (List.mem_of_getElem? (i := 377) (by decide +kernel)) rfl
theorem k_464 : Cond.methodLink "FreeWavelets" 81 ⟨"FreeWavelets$Shape", "has", "(II)Z"⟩ ∈ gt := mem_gt (List.mem_of_getElem? (i := 464) (by decide +kernel)) rfl
theorem k_465 : Cond.classLink "FreeWavelets" 85 "java/lang/IndexOutOfBoundsException" ∈ gt := mem_gt (List.mem_of_getElem? (i := 465) (by decide +kernel)) rfl
theorem k_466 : Cond.instantiable "java/lang/IndexOutOfBoundsException" 6 ∈ gt := mem_gt (List.mem_of_getElem? (i := 466) (by decide +kernel)) rfl
theorem k_507 : Cond.stringRef "FreeWavelets" 87 "there is no such sample" ∈ lw_tbl := List.mem_of_getElem? (i := 507) (by decide +kernel)
theorem k_533 : Cond.classLink "FreeWavelets" 92 "java/lang/IllegalArgumentException" ∈ gt := mem_gt (List.mem_of_getElem? (i := 533) (by decide +kernel)) rfl
theorem k_534 : Cond.instantiable "java/lang/IllegalArgumentException" 6 ∈ gt := mem_gt (List.mem_of_getElem? (i := 534) (by decide +kernel)) rfl
theorem k_542 : Cond.stringRef "FreeWavelets" 94 "n is below 1" ∈ lw_tbl := List.mem_of_getElem? (i := 542) (by decide +kernel)
theorem k_549 : Cond.methodLink "FreeWavelets" 97 ⟨"FreeWavelets$Picture", "coverRun", "(IIIZ)I"⟩ ∈ gt := mem_gt (List.mem_of_getElem? (i := 549) (by decide +kernel)) rfl
theorem k_550 : Cond.instanceMethod ⟨"FreeWavelets$Picture", "coverRun", "(IIIZ)I"⟩ ∈ gt := mem_gt (List.mem_of_getElem? (i := 550) (by decide +kernel)) rfl
theorem k_551 : Cond.selects "FreeWavelets$Picture" ⟨"FreeWavelets$Picture", "coverRun", "(IIIZ)I"⟩ ⟨"FreeWavelets$Picture", "coverRun", "(IIIZ)I"⟩ ∈ gt := mem_gt (List.mem_of_getElem? (i := 551) (by decide +kernel)) rfl
theorem k_552 : Cond.code ⟨"FreeWavelets$Picture", "coverRun", "(IIIZ)I"⟩ prog_7_method_2_code 9 (some .int) ∈ gt := mem_gt (List.mem_of_getElem? (i := 552) (by decide +kernel)) rfl
theorem k_562 : Cond.stringRef "FreeWavelets" 101 "the value is not 0 .. 255" ∈ lw_tbl := List.mem_of_getElem? (i := 562) (by decide +kernel)
theorem k_563 : Cond.methodLink "FreeWavelets" 103 ⟨"FreeWavelets$Picture", "fillRun", "(IIII)I"⟩ ∈ gt := mem_gt (List.mem_of_getElem? (i := 563) (by decide +kernel)) rfl
theorem k_564 : Cond.instanceMethod ⟨"FreeWavelets$Picture", "fillRun", "(IIII)I"⟩ ∈ gt := mem_gt (List.mem_of_getElem? (i := 564) (by decide +kernel)) rfl
theorem k_565 : Cond.selects "FreeWavelets$Picture" ⟨"FreeWavelets$Picture", "fillRun", "(IIII)I"⟩ ⟨"FreeWavelets$Picture", "fillRun", "(IIII)I"⟩ ∈ gt := mem_gt (List.mem_of_getElem? (i := 565) (by decide +kernel)) rfl
theorem k_566 : Cond.code ⟨"FreeWavelets$Picture", "fillRun", "(IIII)I"⟩ prog_7_method_3_code 9 (some .int) ∈ gt := mem_gt (List.mem_of_getElem? (i := 566) (by decide +kernel)) rfl
theorem k_574 : Cond.methodLink "FreeWavelets" 107 ⟨"FreeWavelets", "sampleOf", "(II)I"⟩ ∈ gt := mem_gt (List.mem_of_getElem? (i := 574) (by decide +kernel)) rfl
theorem k_575 : Cond.constant "FreeWavelets" 115 (100000) ∈ gt := mem_gt (List.mem_of_getElem? (i := 575) (by decide +kernel)) rfl
theorem k_583 : Cond.stringRef "FreeWavelets" 124 "bits are not 0 .. 60000" ∈ lw_tbl := List.mem_of_getElem? (i := 583) (by decide +kernel)
theorem k_584 : Cond.methodLink "FreeWavelets" 135 ⟨"FreeWavelets$Walk", "go", "()V"⟩ ∈ gt := mem_gt (List.mem_of_getElem? (i := 584) (by decide +kernel)) rfl
theorem k_585 : Cond.instanceMethod ⟨"FreeWavelets$Walk", "go", "()V"⟩ ∈ gt := mem_gt (List.mem_of_getElem? (i := 585) (by decide +kernel)) rfl
theorem k_586 : Cond.selects "FreeWavelets$Walk" ⟨"FreeWavelets$Walk", "go", "()V"⟩ ⟨"FreeWavelets$Walk", "go", "()V"⟩ ∈ gt := mem_gt (List.mem_of_getElem? (i := 586) (by decide +kernel)) rfl
theorem k_587 : Cond.code ⟨"FreeWavelets$Walk", "go", "()V"⟩ prog_10_method_2_code 2 none ∈ gt := mem_gt (List.mem_of_getElem? (i := 587) (by decide +kernel)) rfl
theorem k_624 : Cond.methodLink "FreeWavelets" 142 ⟨"FreeWavelets$Bytes", "has", "(I)Z"⟩ ∈ gt := mem_gt (List.mem_of_getElem? (i := 624) (by decide +kernel)) rfl
theorem k_625 : Cond.instanceMethod ⟨"FreeWavelets$Bytes", "has", "(I)Z"⟩ ∈ gt := mem_gt (List.mem_of_getElem? (i := 625) (by decide +kernel)) rfl
theorem k_626 : Cond.selects "FreeWavelets$Bytes" ⟨"FreeWavelets$Bytes", "has", "(I)Z"⟩ ⟨"FreeWavelets$Bytes", "has", "(I)Z"⟩ ∈ gt := mem_gt (List.mem_of_getElem? (i := 626) (by decide +kernel)) rfl
theorem k_627 : Cond.code ⟨"FreeWavelets$Bytes", "has", "(I)Z"⟩ prog_2_method_2_code 2 (some .boolean) ∈ gt := mem_gt (List.mem_of_getElem? (i := 627) (by decide +kernel)) rfl
theorem k_628 : Cond.stringRef "FreeWavelets" 145 "there is no such byte" ∈ lw_tbl := List.mem_of_getElem? (i := 628) (by decide +kernel)
theorem k_629 : Cond.methodLink "FreeWavelets" 147 ⟨"FreeWavelets$Bytes", "get", "(I)I"⟩ ∈ gt := mem_gt (List.mem_of_getElem? (i := 629) (by decide +kernel)) rfl
theorem k_637 : Cond.stringRef "FreeWavelets" 150 "the level is not 0 .. 3" ∈ lw_tbl := List.mem_of_getElem? (i := 637) (by decide +kernel)
theorem k_645 : Cond.stringRef "FreeWavelets" 158 "there is no such part" ∈ lw_tbl := List.mem_of_getElem? (i := 645) (by decide +kernel)
theorem k_646 : Cond.methodLink "FreeWavelets" 164 ⟨"FreeWavelets$Picture", "distance", "([II)J"⟩ ∈ gt := mem_gt (List.mem_of_getElem? (i := 646) (by decide +kernel)) rfl
theorem k_647 : Cond.instanceMethod ⟨"FreeWavelets$Picture", "distance", "([II)J"⟩ ∈ gt := mem_gt (List.mem_of_getElem? (i := 647) (by decide +kernel)) rfl
theorem k_648 : Cond.selects "FreeWavelets$Picture" ⟨"FreeWavelets$Picture", "distance", "([II)J"⟩ ⟨"FreeWavelets$Picture", "distance", "([II)J"⟩ ∈ gt := mem_gt (List.mem_of_getElem? (i := 648) (by decide +kernel)) rfl
theorem k_649 : Cond.code ⟨"FreeWavelets$Picture", "distance", "([II)J"⟩ prog_7_method_7_code 8 (some .long) ∈ gt := mem_gt (List.mem_of_getElem? (i := 649) (by decide +kernel)) rfl
theorem k_658 : Cond.stringRef "FreeWavelets" 168 "this is no byte" ∈ lw_tbl := List.mem_of_getElem? (i := 658) (by decide +kernel)
theorem k_659 : Cond.classLink "FreeWavelets" 173 "java/lang/UnsupportedOperationException" ∈ gt := mem_gt (List.mem_of_getElem? (i := 659) (by decide +kernel)) rfl
theorem k_660 : Cond.instantiable "java/lang/UnsupportedOperationException" 6 ∈ gt := mem_gt (List.mem_of_getElem? (i := 660) (by decide +kernel)) rfl
theorem k_668 : Cond.stringRef "FreeWavelets" 175 "there is no room" ∈ lw_tbl := List.mem_of_getElem? (i := 668) (by decide +kernel)
theorem k_675 : Cond.methodLink "FreeWavelets" 178 ⟨"FreeWavelets$Bytes", "add", "(I)V"⟩ ∈ gt := mem_gt (List.mem_of_getElem? (i := 675) (by decide +kernel)) rfl
theorem k_683 : Cond.stringRef "FreeWavelets" 181 "n is below 0" ∈ lw_tbl := List.mem_of_getElem? (i := 683) (by decide +kernel)
theorem k_691 : Cond.methodLink "FreeWavelets" 188 ⟨"FreeWavelets$Bytes", "set", "(II)V"⟩ ∈ gt := mem_gt (List.mem_of_getElem? (i := 691) (by decide +kernel)) rfl
theorem k_699 : Cond.methodLink "FreeWavelets" 195 ⟨"FreeWavelets$Eye", "start", "(I)V"⟩ ∈ gt := mem_gt (List.mem_of_getElem? (i := 699) (by decide +kernel)) rfl
theorem k_700 : Cond.methodLink "FreeWavelets" 196 ⟨"FreeWavelets$Head", "read", "(LFreeWavelets$Tape;LFreeWavelets$Picture;)Z"⟩ ∈ gt := mem_gt (List.mem_of_getElem? (i := 700) (by decide +kernel)) rfl
theorem k_701 : Cond.static ⟨"FreeWavelets$Head", "read", "(LFreeWavelets$Tape;LFreeWavelets$Picture;)Z"⟩ ∈ gt := mem_gt (List.mem_of_getElem? (i := 701) (by decide +kernel)) rfl
theorem k_702 : Cond.code ⟨"FreeWavelets$Head", "read", "(LFreeWavelets$Tape;LFreeWavelets$Picture;)Z"⟩ prog_4_method_3_code 5 (some .boolean) ∈ gt := mem_gt (List.mem_of_getElem? (i := 702) (by decide +kernel)) rfl
theorem k_721 : Cond.methodLink "FreeWavelets" 200 ⟨"FreeWavelets$Shape", "findParts", "()V"⟩ ∈ gt := mem_gt (List.mem_of_getElem? (i := 721) (by decide +kernel)) rfl
theorem k_722 : Cond.methodLink "FreeWavelets" 203 ⟨"FreeWavelets$Picture", "restore", "([I)V"⟩ ∈ gt := mem_gt (List.mem_of_getElem? (i := 722) (by decide +kernel)) rfl
theorem k_723 : Cond.instanceMethod ⟨"FreeWavelets$Picture", "restore", "([I)V"⟩ ∈ gt := mem_gt (List.mem_of_getElem? (i := 723) (by decide +kernel)) rfl
theorem k_724 : Cond.selects "FreeWavelets$Picture" ⟨"FreeWavelets$Picture", "restore", "([I)V"⟩ ⟨"FreeWavelets$Picture", "restore", "([I)V"⟩ ∈ gt := mem_gt (List.mem_of_getElem? (i := 724) (by decide +kernel)) rfl
theorem k_725 : Cond.code ⟨"FreeWavelets$Picture", "restore", "([I)V"⟩ prog_7_method_6_code 3 none ∈ gt := mem_gt (List.mem_of_getElem? (i := 725) (by decide +kernel)) rfl
theorem k_738 : Cond.classLink "FreeWavelets" 208 "java/lang/IllegalStateException" ∈ gt := mem_gt (List.mem_of_getElem? (i := 738) (by decide +kernel)) rfl
theorem k_739 : Cond.instantiable "java/lang/IllegalStateException" 6 ∈ gt := mem_gt (List.mem_of_getElem? (i := 739) (by decide +kernel)) rfl
theorem k_747 : Cond.stringRef "FreeWavelets" 210 "nothing was read" ∈ lw_tbl := List.mem_of_getElem? (i := 747) (by decide +kernel)
theorem k_761 : Cond.methodLink "FreeWavelets" 222 ⟨"FreeWavelets", "columnOf", "(I)I"⟩ ∈ gt := mem_gt (List.mem_of_getElem? (i := 761) (by decide +kernel)) rfl
theorem k_762 : Cond.methodLink "FreeWavelets" 225 ⟨"FreeWavelets", "rowOf", "(I)I"⟩ ∈ gt := mem_gt (List.mem_of_getElem? (i := 762) (by decide +kernel)) rfl
theorem k_1012 : Cond.selects "FreeWavelets$Eye" ⟨"FreeWavelets$Eye", "start", "(I)V"⟩ ⟨"FreeWavelets$Eye", "start", "(I)V"⟩ ∈ gt := mem_gt (List.mem_of_getElem? (i := 1012) (by decide +kernel)) rfl
theorem ath_1 : (Bundle.ownAtoms "FreeWavelets" 89 "java/lang/IndexOutOfBoundsException" exN).all athOK = true := by decide +kernel
theorem ath_2 : (Bundle.ownAtoms "FreeWavelets" 96 "java/lang/IllegalArgumentException" exN).all athOK = true := by decide +kernel
theorem ath_3 : (Bundle.ownAtoms "FreeWavelets" 177 "java/lang/UnsupportedOperationException" exN).all athOK = true := by decide +kernel
theorem ath_4 : (Bundle.ownAtoms "FreeWavelets" 212 "java/lang/IllegalStateException" exN).all athOK = true := by decide +kernel
