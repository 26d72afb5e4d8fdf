def y_Lw_alter : MethodName := ⟨"FreeWaveletsLaw", "alter", "(LFreeWavelets;II[J)I"⟩
abbrev ws_Lw_alter : List Cond := Cond.codeWith y_Lw_alter method_12_code 5 (some .int) [(0, 10, 13, 13), (0, 10, 17, 15)] :: gt
def y_Lw_at : MethodName := ⟨"FreeWaveletsLaw", "at", "(LFreeWavelets;II[J)I"⟩
abbrev ws_Lw_at : List Cond := Cond.codeWith y_Lw_at method_14_code 5 (some .int) [(0, 10, 13, 56), (0, 10, 17, 13)] :: gt
def y_Lw_byteAt : MethodName := ⟨"FreeWaveletsLaw", "byteAt", "(LFreeWavelets;I[J)I"⟩
abbrev ws_Lw_byteAt : List Cond := Cond.codeWith y_Lw_byteAt method_7_code 4 (some .int) [(0, 9, 12, 13)] :: gt
def y_Lw_decode : MethodName := ⟨"FreeWaveletsLaw", "decode", "(LFreeWavelets;I[J)I"⟩
abbrev ws_Lw_decode : List Cond := Cond.codeWith y_Lw_decode method_13_code 4 (some .int) [(0, 9, 12, 15)] :: gt
def y_Lw_encode : MethodName := ⟨"FreeWaveletsLaw", "encode", "(LFreeWavelets;I[J)I"⟩
abbrev ws_Lw_encode : List Cond := Cond.codeWith y_Lw_encode method_6_code 4 (some .int) [(0, 9, 12, 15)] :: gt
def y_Lw_error : MethodName := ⟨"FreeWaveletsLaw", "error", "(LFreeWavelets;II[J)I"⟩
abbrev ws_Lw_error : List Cond := Cond.codeWith y_Lw_error method_9_code 5 (some .int) [(0, 9, 12, 15), (0, 9, 16, 13)] :: gt
def y_Lw_feed : MethodName := ⟨"FreeWaveletsLaw", "feed", "(LFreeWavelets;I[J)I"⟩
abbrev ws_Lw_feed : List Cond := Cond.codeWith y_Lw_feed method_10_code 4 (some .int) [(0, 9, 12, 15), (0, 9, 15, 42)] :: gt
def y_Lw_mask : MethodName := ⟨"FreeWaveletsLaw", "mask", "(LFreeWavelets;IIIZ[J)I"⟩
abbrev ws_Lw_mask : List Cond := Cond.codeWith y_Lw_mask method_3_code 7 (some .int) [(0, 14, 17, 13), (0, 14, 21, 15)] :: gt
def y_Lw_part : MethodName := ⟨"FreeWaveletsLaw", "part", "(LFreeWavelets;II[J)I"⟩
abbrev ws_Lw_part : List Cond := Cond.codeWith y_Lw_part method_15_code 5 (some .int) [(0, 10, 13, 13)] :: gt
def y_Lw_pass : MethodName := ⟨"FreeWaveletsLaw", "pass", "(LFreeWavelets;II[J)I"⟩
abbrev ws_Lw_pass : List Cond := Cond.codeWith y_Lw_pass method_11_code 5 (some .int) [(0, 10, 13, 13), (0, 10, 17, 15), (0, 10, 21, 42)] :: gt
def y_Lw_put : MethodName := ⟨"FreeWaveletsLaw", "put", "(LFreeWavelets;IIII[J)I"⟩
abbrev ws_Lw_put : List Cond := Cond.codeWith y_Lw_put method_4_code 7 (some .int) [(0, 14, 17, 13), (0, 14, 21, 15)] :: gt
def y_Lw_wave : MethodName := ⟨"FreeWaveletsLaw", "wave", "(LFreeWavelets;II[J)I"⟩
abbrev ws_Lw_wave : List Cond := Cond.codeWith y_Lw_wave method_5_code 5 (some .int) [(0, 10, 13, 13)] :: gt
def y_Lw_zeros : MethodName := ⟨"FreeWaveletsLaw", "zeros", "(LFreeWavelets;I[J)I"⟩
abbrev ws_Lw_zeros : List Cond := Cond.codeWith y_Lw_zeros method_8_code 4 (some .int) [(0, 9, 12, 15)] :: gt
theorem d_Lw_alter_0 : decode method_12_code 0 = .ok (.aload_n 3, 1) := by decide +kernel
theorem d_Lw_alter_1 : decode method_12_code 1 = .ok (.iconst 0, 1) := by decide +kernel
theorem d_Lw_alter_2 : decode method_12_code 2 = .ok (.aload_n 0, 1) := by decide +kernel
theorem d_Lw_alter_3 : decode method_12_code 3 = .ok (.iload_n 1, 1) := by decide +kernel
theorem d_Lw_alter_4 : decode method_12_code 4 = .ok (.iload_n 2, 1) := by decide +kernel
theorem d_Lw_alter_5 : decode method_12_code 5 = .ok (.invokevirtual 47, 3) := by decide +kernel
theorem d_Lw_alter_8 : decode method_12_code 8 = .ok (.i2l, 1) := by decide +kernel
theorem d_Lw_alter_9 : decode method_12_code 9 = .ok (.lastore, 1) := by decide +kernel
theorem d_Lw_alter_10 : decode method_12_code 10 = .ok (.goto 11, 3) := by decide +kernel
theorem d_Lw_alter_13 : decode method_12_code 13 = .ok (.astore 4, 2) := by decide +kernel
theorem d_Lw_alter_15 : decode method_12_code 15 = .ok (.iconst 1, 1) := by decide +kernel
theorem d_Lw_alter_16 : decode method_12_code 16 = .ok (.ireturn, 1) := by decide +kernel
theorem d_Lw_alter_17 : decode method_12_code 17 = .ok (.astore 4, 2) := by decide +kernel
theorem d_Lw_alter_19 : decode method_12_code 19 = .ok (.iconst 2, 1) := by decide +kernel
theorem d_Lw_alter_20 : decode method_12_code 20 = .ok (.ireturn, 1) := by decide +kernel
theorem d_Lw_alter_21 : decode method_12_code 21 = .ok (.iconst 0, 1) := by decide +kernel
theorem d_Lw_alter_22 : decode method_12_code 22 = .ok (.ireturn, 1) := by decide +kernel
theorem d_Lw_at_0 : decode method_14_code 0 = .ok (.aload_n 3, 1) := by decide +kernel
theorem d_Lw_at_1 : decode method_14_code 1 = .ok (.iconst 0, 1) := by decide +kernel
theorem d_Lw_at_2 : decode method_14_code 2 = .ok (.aload_n 0, 1) := by decide +kernel
theorem d_Lw_at_3 : decode method_14_code 3 = .ok (.iload_n 1, 1) := by decide +kernel
theorem d_Lw_at_4 : decode method_14_code 4 = .ok (.iload_n 2, 1) := by decide +kernel
theorem d_Lw_at_5 : decode method_14_code 5 = .ok (.invokevirtual 53, 3) := by decide +kernel
theorem d_Lw_at_8 : decode method_14_code 8 = .ok (.i2l, 1) := by decide +kernel
theorem d_Lw_at_9 : decode method_14_code 9 = .ok (.lastore, 1) := by decide +kernel
theorem d_Lw_at_10 : decode method_14_code 10 = .ok (.goto 11, 3) := by decide +kernel
theorem d_Lw_at_13 : decode method_14_code 13 = .ok (.astore 4, 2) := by decide +kernel
theorem d_Lw_at_15 : decode method_14_code 15 = .ok (.iconst 1, 1) := by decide +kernel
theorem d_Lw_at_16 : decode method_14_code 16 = .ok (.ireturn, 1) := by decide +kernel
theorem d_Lw_at_17 : decode method_14_code 17 = .ok (.astore 4, 2) := by decide +kernel
theorem d_Lw_at_19 : decode method_14_code 19 = .ok (.iconst 2, 1) := by decide +kernel
theorem d_Lw_at_20 : decode method_14_code 20 = .ok (.ireturn, 1) := by decide +kernel
theorem d_Lw_at_21 : decode method_14_code 21 = .ok (.iconst 0, 1) := by decide +kernel
theorem d_Lw_at_22 : decode method_14_code 22 = .ok (.ireturn, 1) := by decide +kernel
theorem d_Lw_byteAt_0 : decode method_7_code 0 = .ok (.aload_n 2, 1) := by decide +kernel
theorem d_Lw_byteAt_1 : decode method_7_code 1 = .ok (.iconst 0, 1) := by decide +kernel
theorem d_Lw_byteAt_2 : decode method_7_code 2 = .ok (.aload_n 0, 1) := by decide +kernel
theorem d_Lw_byteAt_3 : decode method_7_code 3 = .ok (.iload_n 1, 1) := by decide +kernel
theorem d_Lw_byteAt_4 : decode method_7_code 4 = .ok (.invokevirtual 29, 3) := by decide +kernel
theorem d_Lw_byteAt_7 : decode method_7_code 7 = .ok (.i2l, 1) := by decide +kernel
theorem d_Lw_byteAt_8 : decode method_7_code 8 = .ok (.lastore, 1) := by decide +kernel
theorem d_Lw_byteAt_9 : decode method_7_code 9 = .ok (.goto 6, 3) := by decide +kernel
theorem d_Lw_byteAt_12 : decode method_7_code 12 = .ok (.astore_n 3, 1) := by decide +kernel
theorem d_Lw_byteAt_13 : decode method_7_code 13 = .ok (.iconst 1, 1) := by decide +kernel
theorem d_Lw_byteAt_14 : decode method_7_code 14 = .ok (.ireturn, 1) := by decide +kernel
theorem d_Lw_byteAt_15 : decode method_7_code 15 = .ok (.iconst 0, 1) := by decide +kernel
theorem d_Lw_byteAt_16 : decode method_7_code 16 = .ok (.ireturn, 1) := by decide +kernel
theorem d_Lw_decode_0 : decode method_13_code 0 = .ok (.aload_n 2, 1) := by decide +kernel
theorem d_Lw_decode_1 : decode method_13_code 1 = .ok (.iconst 0, 1) := by decide +kernel
theorem d_Lw_decode_2 : decode method_13_code 2 = .ok (.aload_n 0, 1) := by decide +kernel
theorem d_Lw_decode_3 : decode method_13_code 3 = .ok (.iload_n 1, 1) := by decide +kernel
theorem d_Lw_decode_4 : decode method_13_code 4 = .ok (.invokevirtual 50, 3) := by decide +kernel
theorem d_Lw_decode_7 : decode method_13_code 7 = .ok (.i2l, 1) := by decide +kernel
theorem d_Lw_decode_8 : decode method_13_code 8 = .ok (.lastore, 1) := by decide +kernel
theorem d_Lw_decode_9 : decode method_13_code 9 = .ok (.goto 6, 3) := by decide +kernel
theorem d_Lw_decode_12 : decode method_13_code 12 = .ok (.astore_n 3, 1) := by decide +kernel
theorem d_Lw_decode_13 : decode method_13_code 13 = .ok (.iconst 1, 1) := by decide +kernel
theorem d_Lw_decode_14 : decode method_13_code 14 = .ok (.ireturn, 1) := by decide +kernel
theorem d_Lw_decode_15 : decode method_13_code 15 = .ok (.iconst 0, 1) := by decide +kernel
theorem d_Lw_decode_16 : decode method_13_code 16 = .ok (.ireturn, 1) := by decide +kernel
theorem d_Lw_encode_0 : decode method_6_code 0 = .ok (.aload_n 2, 1) := by decide +kernel
theorem d_Lw_encode_1 : decode method_6_code 1 = .ok (.iconst 0, 1) := by decide +kernel
theorem d_Lw_encode_2 : decode method_6_code 2 = .ok (.aload_n 0, 1) := by decide +kernel
theorem d_Lw_encode_3 : decode method_6_code 3 = .ok (.iload_n 1, 1) := by decide +kernel
theorem d_Lw_encode_4 : decode method_6_code 4 = .ok (.invokevirtual 25, 3) := by decide +kernel
theorem d_Lw_encode_7 : decode method_6_code 7 = .ok (.i2l, 1) := by decide +kernel
theorem d_Lw_encode_8 : decode method_6_code 8 = .ok (.lastore, 1) := by decide +kernel
theorem d_Lw_encode_9 : decode method_6_code 9 = .ok (.goto 6, 3) := by decide +kernel
theorem d_Lw_encode_12 : decode method_6_code 12 = .ok (.astore_n 3, 1) := by decide +kernel
theorem d_Lw_encode_13 : decode method_6_code 13 = .ok (.iconst 1, 1) := by decide +kernel
theorem d_Lw_encode_14 : decode method_6_code 14 = .ok (.ireturn, 1) := by decide +kernel
theorem d_Lw_encode_15 : decode method_6_code 15 = .ok (.iconst 0, 1) := by decide +kernel
theorem d_Lw_encode_16 : decode method_6_code 16 = .ok (.ireturn, 1) := by decide +kernel
theorem d_Lw_error_0 : decode method_9_code 0 = .ok (.aload_n 3, 1) := by decide +kernel
theorem d_Lw_error_1 : decode method_9_code 1 = .ok (.iconst 0, 1) := by decide +kernel
theorem d_Lw_error_2 : decode method_9_code 2 = .ok (.aload_n 0, 1) := by decide +kernel
theorem d_Lw_error_3 : decode method_9_code 3 = .ok (.iload_n 1, 1) := by decide +kernel
theorem d_Lw_error_4 : decode method_9_code 4 = .ok (.iload_n 2, 1) := by decide +kernel
theorem d_Lw_error_5 : decode method_9_code 5 = .ok (.invokevirtual 35, 3) := by decide +kernel
theorem d_Lw_error_8 : decode method_9_code 8 = .ok (.lastore, 1) := by decide +kernel
theorem d_Lw_error_9 : decode method_9_code 9 = .ok (.goto 11, 3) := by decide +kernel
theorem d_Lw_error_12 : decode method_9_code 12 = .ok (.astore 4, 2) := by decide +kernel
theorem d_Lw_error_14 : decode method_9_code 14 = .ok (.iconst 1, 1) := by decide +kernel
theorem d_Lw_error_15 : decode method_9_code 15 = .ok (.ireturn, 1) := by decide +kernel
theorem d_Lw_error_16 : decode method_9_code 16 = .ok (.astore 4, 2) := by decide +kernel
theorem d_Lw_error_18 : decode method_9_code 18 = .ok (.iconst 2, 1) := by decide +kernel
theorem d_Lw_error_19 : decode method_9_code 19 = .ok (.ireturn, 1) := by decide +kernel
theorem d_Lw_error_20 : decode method_9_code 20 = .ok (.iconst 0, 1) := by decide +kernel
theorem d_Lw_error_21 : decode method_9_code 21 = .ok (.ireturn, 1) := by decide +kernel
theorem d_Lw_feed_0 : decode method_10_code 0 = .ok (.aload_n 2, 1) := by decide +kernel
theorem d_Lw_feed_1 : decode method_10_code 1 = .ok (.iconst 0, 1) := by decide +kernel
theorem d_Lw_feed_2 : decode method_10_code 2 = .ok (.aload_n 0, 1) := by decide +kernel
theorem d_Lw_feed_3 : decode method_10_code 3 = .ok (.iload_n 1, 1) := by decide +kernel
theorem d_Lw_feed_4 : decode method_10_code 4 = .ok (.invokevirtual 39, 3) := by decide +kernel
theorem d_Lw_feed_7 : decode method_10_code 7 = .ok (.i2l, 1) := by decide +kernel
theorem d_Lw_feed_8 : decode method_10_code 8 = .ok (.lastore, 1) := by decide +kernel
theorem d_Lw_feed_9 : decode method_10_code 9 = .ok (.goto 9, 3) := by decide +kernel
theorem d_Lw_feed_12 : decode method_10_code 12 = .ok (.astore_n 3, 1) := by decide +kernel
theorem d_Lw_feed_13 : decode method_10_code 13 = .ok (.iconst 1, 1) := by decide +kernel
theorem d_Lw_feed_14 : decode method_10_code 14 = .ok (.ireturn, 1) := by decide +kernel
theorem d_Lw_feed_15 : decode method_10_code 15 = .ok (.astore_n 3, 1) := by decide +kernel
theorem d_Lw_feed_16 : decode method_10_code 16 = .ok (.iconst 2, 1) := by decide +kernel
theorem d_Lw_feed_17 : decode method_10_code 17 = .ok (.ireturn, 1) := by decide +kernel
theorem d_Lw_feed_18 : decode method_10_code 18 = .ok (.iconst 0, 1) := by decide +kernel
theorem d_Lw_feed_19 : decode method_10_code 19 = .ok (.ireturn, 1) := by decide +kernel
theorem d_Lw_mask_0 : decode method_3_code 0 = .ok (.aload 5, 2) := by decide +kernel
theorem d_Lw_mask_2 : decode method_3_code 2 = .ok (.iconst 0, 1) := by decide +kernel
theorem d_Lw_mask_3 : decode method_3_code 3 = .ok (.aload_n 0, 1) := by decide +kernel
theorem d_Lw_mask_4 : decode method_3_code 4 = .ok (.iload_n 1, 1) := by decide +kernel
theorem d_Lw_mask_5 : decode method_3_code 5 = .ok (.iload_n 2, 1) := by decide +kernel
theorem d_Lw_mask_6 : decode method_3_code 6 = .ok (.iload_n 3, 1) := by decide +kernel
theorem d_Lw_mask_7 : decode method_3_code 7 = .ok (.iload 4, 2) := by decide +kernel
theorem d_Lw_mask_9 : decode method_3_code 9 = .ok (.invokevirtual 7, 3) := by decide +kernel
theorem d_Lw_mask_12 : decode method_3_code 12 = .ok (.i2l, 1) := by decide +kernel
theorem d_Lw_mask_13 : decode method_3_code 13 = .ok (.lastore, 1) := by decide +kernel
theorem d_Lw_mask_14 : decode method_3_code 14 = .ok (.goto 11, 3) := by decide +kernel
theorem d_Lw_mask_17 : decode method_3_code 17 = .ok (.astore 6, 2) := by decide +kernel
theorem d_Lw_mask_19 : decode method_3_code 19 = .ok (.iconst 1, 1) := by decide +kernel
theorem d_Lw_mask_20 : decode method_3_code 20 = .ok (.ireturn, 1) := by decide +kernel
theorem d_Lw_mask_21 : decode method_3_code 21 = .ok (.astore 6, 2) := by decide +kernel
theorem d_Lw_mask_23 : decode method_3_code 23 = .ok (.iconst 2, 1) := by decide +kernel
theorem d_Lw_mask_24 : decode method_3_code 24 = .ok (.ireturn, 1) := by decide +kernel
theorem d_Lw_mask_25 : decode method_3_code 25 = .ok (.iconst 0, 1) := by decide +kernel
theorem d_Lw_mask_26 : decode method_3_code 26 = .ok (.ireturn, 1) := by decide +kernel
theorem d_Lw_part_0 : decode method_15_code 0 = .ok (.aload_n 3, 1) := by decide +kernel
theorem d_Lw_part_1 : decode method_15_code 1 = .ok (.iconst 0, 1) := by decide +kernel
theorem d_Lw_part_2 : decode method_15_code 2 = .ok (.aload_n 0, 1) := by decide +kernel
theorem d_Lw_part_3 : decode method_15_code 3 = .ok (.iload_n 1, 1) := by decide +kernel
theorem d_Lw_part_4 : decode method_15_code 4 = .ok (.iload_n 2, 1) := by decide +kernel
theorem d_Lw_part_5 : decode method_15_code 5 = .ok (.invokevirtual 58, 3) := by decide +kernel
theorem d_Lw_part_8 : decode method_15_code 8 = .ok (.i2l, 1) := by decide +kernel
theorem d_Lw_part_9 : decode method_15_code 9 = .ok (.lastore, 1) := by decide +kernel
theorem d_Lw_part_10 : decode method_15_code 10 = .ok (.goto 7, 3) := by decide +kernel
theorem d_Lw_part_13 : decode method_15_code 13 = .ok (.astore 4, 2) := by decide +kernel
theorem d_Lw_part_15 : decode method_15_code 15 = .ok (.iconst 1, 1) := by decide +kernel
theorem d_Lw_part_16 : decode method_15_code 16 = .ok (.ireturn, 1) := by decide +kernel
theorem d_Lw_part_17 : decode method_15_code 17 = .ok (.iconst 0, 1) := by decide +kernel
theorem d_Lw_part_18 : decode method_15_code 18 = .ok (.ireturn, 1) := by decide +kernel
theorem d_Lw_pass_0 : decode method_11_code 0 = .ok (.aload_n 3, 1) := by decide +kernel
theorem d_Lw_pass_1 : decode method_11_code 1 = .ok (.iconst 0, 1) := by decide +kernel
theorem d_Lw_pass_2 : decode method_11_code 2 = .ok (.aload_n 0, 1) := by decide +kernel
theorem d_Lw_pass_3 : decode method_11_code 3 = .ok (.iload_n 1, 1) := by decide +kernel
theorem d_Lw_pass_4 : decode method_11_code 4 = .ok (.iload_n 2, 1) := by decide +kernel
theorem d_Lw_pass_5 : decode method_11_code 5 = .ok (.invokevirtual 44, 3) := by decide +kernel
theorem d_Lw_pass_8 : decode method_11_code 8 = .ok (.i2l, 1) := by decide +kernel
theorem d_Lw_pass_9 : decode method_11_code 9 = .ok (.lastore, 1) := by decide +kernel
theorem d_Lw_pass_10 : decode method_11_code 10 = .ok (.goto 15, 3) := by decide +kernel
theorem d_Lw_pass_13 : decode method_11_code 13 = .ok (.astore 4, 2) := by decide +kernel
theorem d_Lw_pass_15 : decode method_11_code 15 = .ok (.iconst 1, 1) := by decide +kernel
theorem d_Lw_pass_16 : decode method_11_code 16 = .ok (.ireturn, 1) := by decide +kernel
theorem d_Lw_pass_17 : decode method_11_code 17 = .ok (.astore 4, 2) := by decide +kernel
theorem d_Lw_pass_19 : decode method_11_code 19 = .ok (.iconst 2, 1) := by decide +kernel
theorem d_Lw_pass_20 : decode method_11_code 20 = .ok (.ireturn, 1) := by decide +kernel
theorem d_Lw_pass_21 : decode method_11_code 21 = .ok (.astore 4, 2) := by decide +kernel
theorem d_Lw_pass_23 : decode method_11_code 23 = .ok (.iconst 3, 1) := by decide +kernel
theorem d_Lw_pass_24 : decode method_11_code 24 = .ok (.ireturn, 1) := by decide +kernel
theorem d_Lw_pass_25 : decode method_11_code 25 = .ok (.iconst 0, 1) := by decide +kernel
theorem d_Lw_pass_26 : decode method_11_code 26 = .ok (.ireturn, 1) := by decide +kernel
theorem d_Lw_put_0 : decode method_4_code 0 = .ok (.aload 5, 2) := by decide +kernel
theorem d_Lw_put_2 : decode method_4_code 2 = .ok (.iconst 0, 1) := by decide +kernel
theorem d_Lw_put_3 : decode method_4_code 3 = .ok (.aload_n 0, 1) := by decide +kernel
theorem d_Lw_put_4 : decode method_4_code 4 = .ok (.iload_n 1, 1) := by decide +kernel
theorem d_Lw_put_5 : decode method_4_code 5 = .ok (.iload_n 2, 1) := by decide +kernel
theorem d_Lw_put_6 : decode method_4_code 6 = .ok (.iload_n 3, 1) := by decide +kernel
theorem d_Lw_put_7 : decode method_4_code 7 = .ok (.iload 4, 2) := by decide +kernel
theorem d_Lw_put_9 : decode method_4_code 9 = .ok (.invokevirtual 17, 3) := by decide +kernel
theorem d_Lw_put_12 : decode method_4_code 12 = .ok (.i2l, 1) := by decide +kernel
theorem d_Lw_put_13 : decode method_4_code 13 = .ok (.lastore, 1) := by decide +kernel
theorem d_Lw_put_14 : decode method_4_code 14 = .ok (.goto 11, 3) := by decide +kernel
theorem d_Lw_put_17 : decode method_4_code 17 = .ok (.astore 6, 2) := by decide +kernel
theorem d_Lw_put_19 : decode method_4_code 19 = .ok (.iconst 1, 1) := by decide +kernel
theorem d_Lw_put_20 : decode method_4_code 20 = .ok (.ireturn, 1) := by decide +kernel
theorem d_Lw_put_21 : decode method_4_code 21 = .ok (.astore 6, 2) := by decide +kernel
theorem d_Lw_put_23 : decode method_4_code 23 = .ok (.iconst 2, 1) := by decide +kernel
theorem d_Lw_put_24 : decode method_4_code 24 = .ok (.ireturn, 1) := by decide +kernel
theorem d_Lw_put_25 : decode method_4_code 25 = .ok (.iconst 0, 1) := by decide +kernel
theorem d_Lw_put_26 : decode method_4_code 26 = .ok (.ireturn, 1) := by decide +kernel
theorem d_Lw_wave_0 : decode method_5_code 0 = .ok (.aload_n 3, 1) := by decide +kernel
theorem d_Lw_wave_1 : decode method_5_code 1 = .ok (.iconst 0, 1) := by decide +kernel
theorem d_Lw_wave_2 : decode method_5_code 2 = .ok (.aload_n 0, 1) := by decide +kernel
theorem d_Lw_wave_3 : decode method_5_code 3 = .ok (.iload_n 1, 1) := by decide +kernel
theorem d_Lw_wave_4 : decode method_5_code 4 = .ok (.iload_n 2, 1) := by decide +kernel
theorem d_Lw_wave_5 : decode method_5_code 5 = .ok (.invokevirtual 21, 3) := by decide +kernel
theorem d_Lw_wave_8 : decode method_5_code 8 = .ok (.i2l, 1) := by decide +kernel
theorem d_Lw_wave_9 : decode method_5_code 9 = .ok (.lastore, 1) := by decide +kernel
theorem d_Lw_wave_10 : decode method_5_code 10 = .ok (.goto 7, 3) := by decide +kernel
theorem d_Lw_wave_13 : decode method_5_code 13 = .ok (.astore 4, 2) := by decide +kernel
theorem d_Lw_wave_15 : decode method_5_code 15 = .ok (.iconst 1, 1) := by decide +kernel
theorem d_Lw_wave_16 : decode method_5_code 16 = .ok (.ireturn, 1) := by decide +kernel
theorem d_Lw_wave_17 : decode method_5_code 17 = .ok (.iconst 0, 1) := by decide +kernel
theorem d_Lw_wave_18 : decode method_5_code 18 = .ok (.ireturn, 1) := by decide +kernel
theorem d_Lw_zeros_0 : decode method_8_code 0 = .ok (.aload_n 2, 1) := by decide +kernel
theorem d_Lw_zeros_1 : decode method_8_code 1 = .ok (.iconst 0, 1) := by decide +kernel
theorem d_Lw_zeros_2 : decode method_8_code 2 = .ok (.aload_n 0, 1) := by decide +kernel
theorem d_Lw_zeros_3 : decode method_8_code 3 = .ok (.iload_n 1, 1) := by decide +kernel
theorem d_Lw_zeros_4 : decode method_8_code 4 = .ok (.invokevirtual 32, 3) := by decide +kernel
theorem d_Lw_zeros_7 : decode method_8_code 7 = .ok (.i2l, 1) := by decide +kernel
theorem d_Lw_zeros_8 : decode method_8_code 8 = .ok (.lastore, 1) := by decide +kernel
theorem d_Lw_zeros_9 : decode method_8_code 9 = .ok (.goto 6, 3) := by decide +kernel
theorem d_Lw_zeros_12 : decode method_8_code 12 = .ok (.astore_n 3, 1) := by decide +kernel
theorem d_Lw_zeros_13 : decode method_8_code 13 = .ok (.iconst 1, 1) := by decide +kernel
theorem d_Lw_zeros_14 : decode method_8_code 14 = .ok (.ireturn, 1) := by decide +kernel
theorem d_Lw_zeros_15 : decode method_8_code 15 = .ok (.iconst 0, 1) := by decide +kernel
theorem d_Lw_zeros_16 : decode method_8_code 16 = .ok (.ireturn, 1) := by decide +kernel
theorem k_458 : Cond.classLink "FreeWaveletsLaw" 13 "java/lang/IndexOutOfBoundsException" ∈ gt := mem_gt (List.mem_of_getElem? (i := 458) (by decide +kernel)) rfl
theorem k_459 : Cond.classLink "FreeWaveletsLaw" 15 "java/lang/IllegalArgumentException" ∈ gt := mem_gt (List.mem_of_getElem? (i := 459) (by decide +kernel)) rfl
theorem k_460 : Cond.methodLink "FreeWaveletsLaw" 7 ⟨"FreeWavelets", "mask", "(IIIZ)I"⟩ ∈ gt := mem_gt (List.mem_of_getElem? (i := 460) (by decide +kernel)) rfl
theorem k_461 : Cond.instanceMethod ⟨"FreeWavelets", "mask", "(IIIZ)I"⟩ ∈ gt := mem_gt (List.mem_of_getElem? (i := 461) (by decide +kernel)) rfl
theorem k_462 : Cond.selects "FreeWavelets" ⟨"FreeWavelets", "mask", "(IIIZ)I"⟩ ⟨"FreeWavelets", "mask", "(IIIZ)I"⟩ ∈ gt := mem_gt (List.mem_of_getElem? (i := 462) (by decide +kernel)) rfl
theorem k_463 : Cond.code ⟨"FreeWavelets", "mask", "(IIIZ)I"⟩ prog_1_method_2_code 5 (some .int) ∈ gt := mem_gt (List.mem_of_getElem? (i := 463) (by decide +kernel)) rfl
theorem k_467 : Cond.castable "java/lang/IndexOutOfBoundsException" "java/lang/IndexOutOfBoundsException" ∈ lw_tbl := List.mem_of_getElem? (i := 467) (by decide +kernel)
theorem k_535 : Cond.castable "java/lang/IllegalArgumentException" "java/lang/IllegalArgumentException" ∈ lw_tbl := List.mem_of_getElem? (i := 535) (by decide +kernel)
theorem k_558 : Cond.methodLink "FreeWaveletsLaw" 17 ⟨"FreeWavelets", "put", "(IIII)I"⟩ ∈ gt := mem_gt (List.mem_of_getElem? (i := 558) (by decide +kernel)) rfl
theorem k_559 : Cond.instanceMethod ⟨"FreeWavelets", "put", "(IIII)I"⟩ ∈ gt := mem_gt (List.mem_of_getElem? (i := 559) (by decide +kernel)) rfl
theorem k_560 : Cond.selects "FreeWavelets" ⟨"FreeWavelets", "put", "(IIII)I"⟩ ⟨"FreeWavelets", "put", "(IIII)I"⟩ ∈ gt := mem_gt (List.mem_of_getElem? (i := 560) (by decide +kernel)) rfl
theorem k_561 : Cond.code ⟨"FreeWavelets", "put", "(IIII)I"⟩ prog_1_method_3_code 5 (some .int) ∈ gt := mem_gt (List.mem_of_getElem? (i := 561) (by decide +kernel)) rfl
theorem k_570 : Cond.methodLink "FreeWaveletsLaw" 21 ⟨"FreeWavelets", "wave", "(II)I"⟩ ∈ gt := mem_gt (List.mem_of_getElem? (i := 570) (by decide +kernel)) rfl
theorem k_571 : Cond.instanceMethod ⟨"FreeWavelets", "wave", "(II)I"⟩ ∈ gt := mem_gt (List.mem_of_getElem? (i := 571) (by decide +kernel)) rfl
theorem k_572 : Cond.selects "FreeWavelets" ⟨"FreeWavelets", "wave", "(II)I"⟩ ⟨"FreeWavelets", "wave", "(II)I"⟩ ∈ gt := mem_gt (List.mem_of_getElem? (i := 572) (by decide +kernel)) rfl
theorem k_573 : Cond.code ⟨"FreeWavelets", "wave", "(II)I"⟩ prog_1_method_4_code 4 (some .int) ∈ gt := mem_gt (List.mem_of_getElem? (i := 573) (by decide +kernel)) rfl
theorem k_579 : Cond.methodLink "FreeWaveletsLaw" 25 ⟨"FreeWavelets", "encode", "(I)I"⟩ ∈ gt := mem_gt (List.mem_of_getElem? (i := 579) (by decide +kernel)) rfl
theorem k_580 : Cond.instanceMethod ⟨"FreeWavelets", "encode", "(I)I"⟩ ∈ gt := mem_gt (List.mem_of_getElem? (i := 580) (by decide +kernel)) rfl
theorem k_581 : Cond.selects "FreeWavelets" ⟨"FreeWavelets", "encode", "(I)I"⟩ ⟨"FreeWavelets", "encode", "(I)I"⟩ ∈ gt := mem_gt (List.mem_of_getElem? (i := 581) (by decide +kernel)) rfl
theorem k_582 : Cond.code ⟨"FreeWavelets", "encode", "(I)I"⟩ prog_1_method_5_code 2 (some .int) ∈ gt := mem_gt (List.mem_of_getElem? (i := 582) (by decide +kernel)) rfl
theorem k_620 : Cond.methodLink "FreeWaveletsLaw" 29 ⟨"FreeWavelets", "byteAt", "(I)I"⟩ ∈ gt := mem_gt (List.mem_of_getElem? (i := 620) (by decide +kernel)) rfl
theorem k_621 : Cond.instanceMethod ⟨"FreeWavelets", "byteAt", "(I)I"⟩ ∈ gt := mem_gt (List.mem_of_getElem? (i := 621) (by decide +kernel)) rfl
theorem k_622 : Cond.selects "FreeWavelets" ⟨"FreeWavelets", "byteAt", "(I)I"⟩ ⟨"FreeWavelets", "byteAt", "(I)I"⟩ ∈ gt := mem_gt (List.mem_of_getElem? (i := 622) (by decide +kernel)) rfl
theorem k_623 : Cond.code ⟨"FreeWavelets", "byteAt", "(I)I"⟩ prog_1_method_6_code 2 (some .int) ∈ gt := mem_gt (List.mem_of_getElem? (i := 623) (by decide +kernel)) rfl
theorem k_633 : Cond.methodLink "FreeWaveletsLaw" 32 ⟨"FreeWavelets", "zeros", "(I)I"⟩ ∈ gt := mem_gt (List.mem_of_getElem? (i := 633) (by decide +kernel)) rfl
theorem k_634 : Cond.instanceMethod ⟨"FreeWavelets", "zeros", "(I)I"⟩ ∈ gt := mem_gt (List.mem_of_getElem? (i := 634) (by decide +kernel)) rfl
theorem k_635 : Cond.selects "FreeWavelets" ⟨"FreeWavelets", "zeros", "(I)I"⟩ ⟨"FreeWavelets", "zeros", "(I)I"⟩ ∈ gt := mem_gt (List.mem_of_getElem? (i := 635) (by decide +kernel)) rfl
theorem k_636 : Cond.code ⟨"FreeWavelets", "zeros", "(I)I"⟩ prog_1_method_7_code 2 (some .int) ∈ gt := mem_gt (List.mem_of_getElem? (i := 636) (by decide +kernel)) rfl
theorem k_641 : Cond.methodLink "FreeWaveletsLaw" 35 ⟨"FreeWavelets", "error", "(II)J"⟩ ∈ gt := mem_gt (List.mem_of_getElem? (i := 641) (by decide +kernel)) rfl
theorem k_642 : Cond.instanceMethod ⟨"FreeWavelets", "error", "(II)J"⟩ ∈ gt := mem_gt (List.mem_of_getElem? (i := 642) (by decide +kernel)) rfl
theorem k_643 : Cond.selects "FreeWavelets" ⟨"FreeWavelets", "error", "(II)J"⟩ ⟨"FreeWavelets", "error", "(II)J"⟩ ∈ gt := mem_gt (List.mem_of_getElem? (i := 643) (by decide +kernel)) rfl
theorem k_644 : Cond.code ⟨"FreeWavelets", "error", "(II)J"⟩ prog_1_method_8_code 3 (some .long) ∈ gt := mem_gt (List.mem_of_getElem? (i := 644) (by decide +kernel)) rfl
theorem k_653 : Cond.classLink "FreeWaveletsLaw" 42 "java/lang/UnsupportedOperationException" ∈ gt := mem_gt (List.mem_of_getElem? (i := 653) (by decide +kernel)) rfl
theorem k_654 : Cond.methodLink "FreeWaveletsLaw" 39 ⟨"FreeWavelets", "feed", "(I)I"⟩ ∈ gt := mem_gt (List.mem_of_getElem? (i := 654) (by decide +kernel)) rfl
theorem k_655 : Cond.instanceMethod ⟨"FreeWavelets", "feed", "(I)I"⟩ ∈ gt := mem_gt (List.mem_of_getElem? (i := 655) (by decide +kernel)) rfl
theorem k_656 : Cond.selects "FreeWavelets" ⟨"FreeWavelets", "feed", "(I)I"⟩ ⟨"FreeWavelets", "feed", "(I)I"⟩ ∈ gt := mem_gt (List.mem_of_getElem? (i := 656) (by decide +kernel)) rfl
theorem k_657 : Cond.code ⟨"FreeWavelets", "feed", "(I)I"⟩ prog_1_method_9_code 2 (some .int) ∈ gt := mem_gt (List.mem_of_getElem? (i := 657) (by decide +kernel)) rfl
theorem k_661 : Cond.castable "java/lang/UnsupportedOperationException" "java/lang/UnsupportedOperationException" ∈ lw_tbl := List.mem_of_getElem? (i := 661) (by decide +kernel)
theorem k_679 : Cond.methodLink "FreeWaveletsLaw" 44 ⟨"FreeWavelets", "pass", "(II)I"⟩ ∈ gt := mem_gt (List.mem_of_getElem? (i := 679) (by decide +kernel)) rfl
theorem k_680 : Cond.instanceMethod ⟨"FreeWavelets", "pass", "(II)I"⟩ ∈ gt := mem_gt (List.mem_of_getElem? (i := 680) (by decide +kernel)) rfl
theorem k_681 : Cond.selects "FreeWavelets" ⟨"FreeWavelets", "pass", "(II)I"⟩ ⟨"FreeWavelets", "pass", "(II)I"⟩ ∈ gt := mem_gt (List.mem_of_getElem? (i := 681) (by decide +kernel)) rfl
theorem k_682 : Cond.code ⟨"FreeWavelets", "pass", "(II)I"⟩ prog_1_method_10_code 5 (some .int) ∈ gt := mem_gt (List.mem_of_getElem? (i := 682) (by decide +kernel)) rfl
theorem k_687 : Cond.methodLink "FreeWaveletsLaw" 47 ⟨"FreeWavelets", "alter", "(II)I"⟩ ∈ gt := mem_gt (List.mem_of_getElem? (i := 687) (by decide +kernel)) rfl
theorem k_688 : Cond.instanceMethod ⟨"FreeWavelets", "alter", "(II)I"⟩ ∈ gt := mem_gt (List.mem_of_getElem? (i := 688) (by decide +kernel)) rfl
theorem k_689 : Cond.selects "FreeWavelets" ⟨"FreeWavelets", "alter", "(II)I"⟩ ⟨"FreeWavelets", "alter", "(II)I"⟩ ∈ gt := mem_gt (List.mem_of_getElem? (i := 689) (by decide +kernel)) rfl
theorem k_690 : Cond.code ⟨"FreeWavelets", "alter", "(II)I"⟩ prog_1_method_11_code 4 (some .int) ∈ gt := mem_gt (List.mem_of_getElem? (i := 690) (by decide +kernel)) rfl
theorem k_695 : Cond.methodLink "FreeWaveletsLaw" 50 ⟨"FreeWavelets", "decode", "(I)I"⟩ ∈ gt := mem_gt (List.mem_of_getElem? (i := 695) (by decide +kernel)) rfl
theorem k_696 : Cond.instanceMethod ⟨"FreeWavelets", "decode", "(I)I"⟩ ∈ gt := mem_gt (List.mem_of_getElem? (i := 696) (by decide +kernel)) rfl
theorem k_697 : Cond.selects "FreeWavelets" ⟨"FreeWavelets", "decode", "(I)I"⟩ ⟨"FreeWavelets", "decode", "(I)I"⟩ ∈ gt := mem_gt (List.mem_of_getElem? (i := 697) (by decide +kernel)) rfl
theorem k_698 : Cond.code ⟨"FreeWavelets", "decode", "(I)I"⟩ prog_1_method_12_code 2 (some .int) ∈ gt := mem_gt (List.mem_of_getElem? (i := 698) (by decide +kernel)) rfl
theorem k_733 : Cond.classLink "FreeWaveletsLaw" 56 "java/lang/IllegalStateException" ∈ gt := mem_gt (List.mem_of_getElem? (i := 733) (by decide +kernel)) rfl
theorem k_734 : Cond.methodLink "FreeWaveletsLaw" 53 ⟨"FreeWavelets", "at", "(II)I"⟩ ∈ gt := mem_gt (List.mem_of_getElem? (i := 734) (by decide +kernel)) rfl
theorem k_735 : Cond.instanceMethod ⟨"FreeWavelets", "at", "(II)I"⟩ ∈ gt := mem_gt (List.mem_of_getElem? (i := 735) (by decide +kernel)) rfl
theorem k_736 : Cond.selects "FreeWavelets" ⟨"FreeWavelets", "at", "(II)I"⟩ ⟨"FreeWavelets", "at", "(II)I"⟩ ∈ gt := mem_gt (List.mem_of_getElem? (i := 736) (by decide +kernel)) rfl
theorem k_737 : Cond.code ⟨"FreeWavelets", "at", "(II)I"⟩ prog_1_method_13_code 4 (some .int) ∈ gt := mem_gt (List.mem_of_getElem? (i := 737) (by decide +kernel)) rfl
theorem k_740 : Cond.castable "java/lang/IllegalStateException" "java/lang/IllegalStateException" ∈ lw_tbl := List.mem_of_getElem? (i := 740) (by decide +kernel)
theorem k_757 : Cond.methodLink "FreeWaveletsLaw" 58 ⟨"FreeWavelets", "part", "(II)I"⟩ ∈ gt := mem_gt (List.mem_of_getElem? (i := 757) (by decide +kernel)) rfl
theorem k_758 : Cond.instanceMethod ⟨"FreeWavelets", "part", "(II)I"⟩ ∈ gt := mem_gt (List.mem_of_getElem? (i := 758) (by decide +kernel)) rfl
theorem k_759 : Cond.selects "FreeWavelets" ⟨"FreeWavelets", "part", "(II)I"⟩ ⟨"FreeWavelets", "part", "(II)I"⟩ ∈ gt := mem_gt (List.mem_of_getElem? (i := 759) (by decide +kernel)) rfl
theorem k_760 : Cond.code ⟨"FreeWavelets", "part", "(II)I"⟩ prog_1_method_14_code 3 (some .int) ∈ gt := mem_gt (List.mem_of_getElem? (i := 760) (by decide +kernel)) rfl
