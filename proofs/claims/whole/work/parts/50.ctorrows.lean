def y_Bytes_init : MethodName := ⟨"FreeWavelets$Bytes", "<init>", "()V"⟩
abbrev ws_Bytes_init : List Cond := Cond.code y_Bytes_init prog_2_method_1_code 1 none :: gt
def y_Eye_init : MethodName := ⟨"FreeWavelets$Eye", "<init>", "(LFreeWavelets$Bytes;)V"⟩
abbrev ws_Eye_init : List Cond := Cond.code y_Eye_init prog_3_method_1_code 2 none :: gt
def y_FW_init : MethodName := ⟨"FreeWavelets", "<init>", "(II)V"⟩
abbrev ws_FW_init : List Cond := Cond.code y_FW_init prog_1_method_1_code 3 none :: gt
def y_Lifting_init : MethodName := ⟨"FreeWavelets$Lifting", "<init>", "(LFreeWavelets$Shape;[I)V"⟩
abbrev ws_Lifting_init : List Cond := Cond.code y_Lifting_init prog_5_method_1_code 3 none :: gt
def y_Md_init : MethodName := ⟨"FreeWaveletsModel", "<init>", "(II)V"⟩
abbrev ws_Md_init : List Cond := Cond.code y_Md_init prog_12_method_1_code 3 none :: gt
def y_Pen_init : MethodName := ⟨"FreeWavelets$Pen", "<init>", "(LFreeWavelets$Bytes;)V"⟩
abbrev ws_Pen_init : List Cond := Cond.code y_Pen_init prog_6_method_1_code 2 none :: gt
def y_Picture_init : MethodName := ⟨"FreeWavelets$Picture", "<init>", "()V"⟩
abbrev ws_Picture_init : List Cond := Cond.code y_Picture_init prog_7_method_1_code 1 none :: gt
def y_Shape_init : MethodName := ⟨"FreeWavelets$Shape", "<init>", "()V"⟩
abbrev ws_Shape_init : List Cond := Cond.code y_Shape_init prog_8_method_1_code 1 none :: gt
def y_Tape_init : MethodName := ⟨"FreeWavelets$Tape", "<init>", "()V"⟩
abbrev ws_Tape_init : List Cond := Cond.code y_Tape_init prog_9_method_1_code 1 none :: gt
def y_Walk_init : MethodName := ⟨"FreeWavelets$Walk", "<init>", "(LFreeWavelets$Tape;LFreeWavelets$Picture;)V"⟩
abbrev ws_Walk_init : List Cond := Cond.code y_Walk_init prog_10_method_1_code 3 none :: gt
theorem d_Bytes_init_0 : decode prog_2_method_1_code 0 = .ok (.aload_n 0, 1) := by decide +kernel
theorem d_Bytes_init_1 : decode prog_2_method_1_code 1 = .ok (.invokespecial 3, 3) := by decide +kernel
theorem d_Bytes_init_4 : decode prog_2_method_1_code 4 = .ok (.aload_n 0, 1) := by decide +kernel
theorem d_Bytes_init_5 : decode prog_2_method_1_code 5 = .ok (.sipush 2400, 3) := by decide +kernel
theorem d_Bytes_init_8 : decode prog_2_method_1_code 8 = .ok (.newarray .byte, 2) := by decide +kernel
theorem d_Bytes_init_10 : decode prog_2_method_1_code 10 = .ok (.putfield 9, 3) := by decide +kernel
theorem d_Bytes_init_13 : decode prog_2_method_1_code 13 = .ok (.return_, 1) := by decide +kernel
theorem d_Eye_init_0 : decode prog_3_method_1_code 0 = .ok (.aload_n 0, 1) := by decide +kernel
theorem d_Eye_init_1 : decode prog_3_method_1_code 1 = .ok (.invokespecial 1, 3) := by decide +kernel
theorem d_Eye_init_4 : decode prog_3_method_1_code 4 = .ok (.aload_n 0, 1) := by decide +kernel
theorem d_Eye_init_5 : decode prog_3_method_1_code 5 = .ok (.aload_n 1, 1) := by decide +kernel
theorem d_Eye_init_6 : decode prog_3_method_1_code 6 = .ok (.putfield 7, 3) := by decide +kernel
theorem d_Eye_init_9 : decode prog_3_method_1_code 9 = .ok (.return_, 1) := by decide +kernel
theorem d_FW_init_0 : decode prog_1_method_1_code 0 = .ok (.aload_n 0, 1) := by decide +kernel
theorem d_FW_init_1 : decode prog_1_method_1_code 1 = .ok (.invokespecial 1, 3) := by decide +kernel
theorem d_FW_init_4 : decode prog_1_method_1_code 4 = .ok (.aload_n 0, 1) := by decide +kernel
theorem d_FW_init_5 : decode prog_1_method_1_code 5 = .ok (.new 7, 3) := by decide +kernel
theorem d_FW_init_8 : decode prog_1_method_1_code 8 = .ok (.dup, 1) := by decide +kernel
theorem d_FW_init_9 : decode prog_1_method_1_code 9 = .ok (.invokespecial 9, 3) := by decide +kernel
theorem d_FW_init_12 : decode prog_1_method_1_code 12 = .ok (.putfield 10, 3) := by decide +kernel
theorem d_FW_init_15 : decode prog_1_method_1_code 15 = .ok (.aload_n 0, 1) := by decide +kernel
theorem d_FW_init_16 : decode prog_1_method_1_code 16 = .ok (.new 7, 3) := by decide +kernel
theorem d_FW_init_19 : decode prog_1_method_1_code 19 = .ok (.dup, 1) := by decide +kernel
theorem d_FW_init_20 : decode prog_1_method_1_code 20 = .ok (.invokespecial 9, 3) := by decide +kernel
theorem d_FW_init_23 : decode prog_1_method_1_code 23 = .ok (.putfield 16, 3) := by decide +kernel
theorem d_FW_init_26 : decode prog_1_method_1_code 26 = .ok (.aload_n 0, 1) := by decide +kernel
theorem d_FW_init_27 : decode prog_1_method_1_code 27 = .ok (.new 19, 3) := by decide +kernel
theorem d_FW_init_30 : decode prog_1_method_1_code 30 = .ok (.dup, 1) := by decide +kernel
theorem d_FW_init_31 : decode prog_1_method_1_code 31 = .ok (.invokespecial 21, 3) := by decide +kernel
theorem d_FW_init_34 : decode prog_1_method_1_code 34 = .ok (.putfield 22, 3) := by decide +kernel
theorem d_FW_init_37 : decode prog_1_method_1_code 37 = .ok (.aload_n 0, 1) := by decide +kernel
theorem d_FW_init_38 : decode prog_1_method_1_code 38 = .ok (.new 19, 3) := by decide +kernel
theorem d_FW_init_41 : decode prog_1_method_1_code 41 = .ok (.dup, 1) := by decide +kernel
theorem d_FW_init_42 : decode prog_1_method_1_code 42 = .ok (.invokespecial 21, 3) := by decide +kernel
theorem d_FW_init_45 : decode prog_1_method_1_code 45 = .ok (.putfield 26, 3) := by decide +kernel
theorem d_FW_init_48 : decode prog_1_method_1_code 48 = .ok (.aload_n 0, 1) := by decide +kernel
theorem d_FW_init_49 : decode prog_1_method_1_code 49 = .ok (.new 29, 3) := by decide +kernel
theorem d_FW_init_52 : decode prog_1_method_1_code 52 = .ok (.dup, 1) := by decide +kernel
theorem d_FW_init_53 : decode prog_1_method_1_code 53 = .ok (.aload_n 0, 1) := by decide +kernel
theorem d_FW_init_54 : decode prog_1_method_1_code 54 = .ok (.getfield 22, 3) := by decide +kernel
theorem d_FW_init_57 : decode prog_1_method_1_code 57 = .ok (.invokespecial 31, 3) := by decide +kernel
theorem d_FW_init_60 : decode prog_1_method_1_code 60 = .ok (.putfield 34, 3) := by decide +kernel
theorem d_FW_init_63 : decode prog_1_method_1_code 63 = .ok (.aload_n 0, 1) := by decide +kernel
theorem d_FW_init_64 : decode prog_1_method_1_code 64 = .ok (.new 38, 3) := by decide +kernel
theorem d_FW_init_67 : decode prog_1_method_1_code 67 = .ok (.dup, 1) := by decide +kernel
theorem d_FW_init_68 : decode prog_1_method_1_code 68 = .ok (.aload_n 0, 1) := by decide +kernel
theorem d_FW_init_69 : decode prog_1_method_1_code 69 = .ok (.getfield 26, 3) := by decide +kernel
theorem d_FW_init_72 : decode prog_1_method_1_code 72 = .ok (.invokespecial 40, 3) := by decide +kernel
theorem d_FW_init_75 : decode prog_1_method_1_code 75 = .ok (.putfield 41, 3) := by decide +kernel
theorem d_FW_init_78 : decode prog_1_method_1_code 78 = .ok (.aload_n 0, 1) := by decide +kernel
theorem d_FW_init_79 : decode prog_1_method_1_code 79 = .ok (.new 45, 3) := by decide +kernel
theorem d_FW_init_82 : decode prog_1_method_1_code 82 = .ok (.dup, 1) := by decide +kernel
theorem d_FW_init_83 : decode prog_1_method_1_code 83 = .ok (.invokespecial 47, 3) := by decide +kernel
theorem d_FW_init_86 : decode prog_1_method_1_code 86 = .ok (.putfield 48, 3) := by decide +kernel
theorem d_FW_init_89 : decode prog_1_method_1_code 89 = .ok (.aload_n 0, 1) := by decide +kernel
theorem d_FW_init_90 : decode prog_1_method_1_code 90 = .ok (.new 52, 3) := by decide +kernel
theorem d_FW_init_93 : decode prog_1_method_1_code 93 = .ok (.dup, 1) := by decide +kernel
theorem d_FW_init_94 : decode prog_1_method_1_code 94 = .ok (.aload_n 0, 1) := by decide +kernel
theorem d_FW_init_95 : decode prog_1_method_1_code 95 = .ok (.getfield 34, 3) := by decide +kernel
theorem d_FW_init_98 : decode prog_1_method_1_code 98 = .ok (.aload_n 0, 1) := by decide +kernel
theorem d_FW_init_99 : decode prog_1_method_1_code 99 = .ok (.getfield 10, 3) := by decide +kernel
theorem d_FW_init_102 : decode prog_1_method_1_code 102 = .ok (.invokespecial 54, 3) := by decide +kernel
theorem d_FW_init_105 : decode prog_1_method_1_code 105 = .ok (.putfield 57, 3) := by decide +kernel
theorem d_FW_init_108 : decode prog_1_method_1_code 108 = .ok (.aload_n 0, 1) := by decide +kernel
theorem d_FW_init_109 : decode prog_1_method_1_code 109 = .ok (.new 52, 3) := by decide +kernel
theorem d_FW_init_112 : decode prog_1_method_1_code 112 = .ok (.dup, 1) := by decide +kernel
theorem d_FW_init_113 : decode prog_1_method_1_code 113 = .ok (.aload_n 0, 1) := by decide +kernel
theorem d_FW_init_114 : decode prog_1_method_1_code 114 = .ok (.getfield 41, 3) := by decide +kernel
theorem d_FW_init_117 : decode prog_1_method_1_code 117 = .ok (.aload_n 0, 1) := by decide +kernel
theorem d_FW_init_118 : decode prog_1_method_1_code 118 = .ok (.getfield 16, 3) := by decide +kernel
theorem d_FW_init_121 : decode prog_1_method_1_code 121 = .ok (.invokespecial 54, 3) := by decide +kernel
theorem d_FW_init_124 : decode prog_1_method_1_code 124 = .ok (.putfield 61, 3) := by decide +kernel
theorem d_FW_init_127 : decode prog_1_method_1_code 127 = .ok (.aload_n 0, 1) := by decide +kernel
theorem d_FW_init_128 : decode prog_1_method_1_code 128 = .ok (.new 52, 3) := by decide +kernel
theorem d_FW_init_131 : decode prog_1_method_1_code 131 = .ok (.dup, 1) := by decide +kernel
theorem d_FW_init_132 : decode prog_1_method_1_code 132 = .ok (.aload_n 0, 1) := by decide +kernel
theorem d_FW_init_133 : decode prog_1_method_1_code 133 = .ok (.getfield 48, 3) := by decide +kernel
theorem d_FW_init_136 : decode prog_1_method_1_code 136 = .ok (.aload_n 0, 1) := by decide +kernel
theorem d_FW_init_137 : decode prog_1_method_1_code 137 = .ok (.getfield 10, 3) := by decide +kernel
theorem d_FW_init_140 : decode prog_1_method_1_code 140 = .ok (.invokespecial 54, 3) := by decide +kernel
theorem d_FW_init_143 : decode prog_1_method_1_code 143 = .ok (.putfield 64, 3) := by decide +kernel
theorem d_FW_init_146 : decode prog_1_method_1_code 146 = .ok (.aload_n 0, 1) := by decide +kernel
theorem d_FW_init_147 : decode prog_1_method_1_code 147 = .ok (.getfield 10, 3) := by decide +kernel
theorem d_FW_init_150 : decode prog_1_method_1_code 150 = .ok (.getfield 67, 3) := by decide +kernel
theorem d_FW_init_153 : decode prog_1_method_1_code 153 = .ok (.iload_n 1, 1) := by decide +kernel
theorem d_FW_init_154 : decode prog_1_method_1_code 154 = .ok (.invokestatic 71, 3) := by decide +kernel
theorem d_FW_init_157 : decode prog_1_method_1_code 157 = .ok (.iload_n 2, 1) := by decide +kernel
theorem d_FW_init_158 : decode prog_1_method_1_code 158 = .ok (.invokestatic 71, 3) := by decide +kernel
theorem d_FW_init_161 : decode prog_1_method_1_code 161 = .ok (.invokevirtual 75, 3) := by decide +kernel
theorem d_FW_init_164 : decode prog_1_method_1_code 164 = .ok (.return_, 1) := by decide +kernel
theorem d_Lifting_init_0 : decode prog_5_method_1_code 0 = .ok (.aload_n 0, 1) := by decide +kernel
theorem d_Lifting_init_1 : decode prog_5_method_1_code 1 = .ok (.invokespecial 3, 3) := by decide +kernel
theorem d_Lifting_init_4 : decode prog_5_method_1_code 4 = .ok (.aload_n 0, 1) := by decide +kernel
theorem d_Lifting_init_5 : decode prog_5_method_1_code 5 = .ok (.aload_n 1, 1) := by decide +kernel
theorem d_Lifting_init_6 : decode prog_5_method_1_code 6 = .ok (.putfield 9, 3) := by decide +kernel
theorem d_Lifting_init_9 : decode prog_5_method_1_code 9 = .ok (.aload_n 0, 1) := by decide +kernel
theorem d_Lifting_init_10 : decode prog_5_method_1_code 10 = .ok (.aload_n 2, 1) := by decide +kernel
theorem d_Lifting_init_11 : decode prog_5_method_1_code 11 = .ok (.putfield 15, 3) := by decide +kernel
theorem d_Lifting_init_14 : decode prog_5_method_1_code 14 = .ok (.return_, 1) := by decide +kernel
theorem d_Md_init_0 : decode prog_12_method_1_code 0 = .ok (.aload_n 0, 1) := by decide +kernel
theorem d_Md_init_1 : decode prog_12_method_1_code 1 = .ok (.invokespecial 1, 3) := by decide +kernel
theorem d_Md_init_4 : decode prog_12_method_1_code 4 = .ok (.aload_n 0, 1) := by decide +kernel
theorem d_Md_init_5 : decode prog_12_method_1_code 5 = .ok (.sipush 256, 3) := by decide +kernel
theorem d_Md_init_8 : decode prog_12_method_1_code 8 = .ok (.newarray .boolean, 2) := by decide +kernel
theorem d_Md_init_10 : decode prog_12_method_1_code 10 = .ok (.putfield 7, 3) := by decide +kernel
theorem d_Md_init_13 : decode prog_12_method_1_code 13 = .ok (.aload_n 0, 1) := by decide +kernel
theorem d_Md_init_14 : decode prog_12_method_1_code 14 = .ok (.sipush 256, 3) := by decide +kernel
theorem d_Md_init_17 : decode prog_12_method_1_code 17 = .ok (.newarray .int, 2) := by decide +kernel
theorem d_Md_init_19 : decode prog_12_method_1_code 19 = .ok (.putfield 13, 3) := by decide +kernel
theorem d_Md_init_22 : decode prog_12_method_1_code 22 = .ok (.aload_n 0, 1) := by decide +kernel
theorem d_Md_init_23 : decode prog_12_method_1_code 23 = .ok (.sipush 256, 3) := by decide +kernel
theorem d_Md_init_26 : decode prog_12_method_1_code 26 = .ok (.newarray .int, 2) := by decide +kernel
theorem d_Md_init_28 : decode prog_12_method_1_code 28 = .ok (.putfield 17, 3) := by decide +kernel
theorem d_Md_init_31 : decode prog_12_method_1_code 31 = .ok (.aload_n 0, 1) := by decide +kernel
theorem d_Md_init_32 : decode prog_12_method_1_code 32 = .ok (.sipush 256, 3) := by decide +kernel
theorem d_Md_init_35 : decode prog_12_method_1_code 35 = .ok (.newarray .int, 2) := by decide +kernel
theorem d_Md_init_37 : decode prog_12_method_1_code 37 = .ok (.putfield 20, 3) := by decide +kernel
theorem d_Md_init_40 : decode prog_12_method_1_code 40 = .ok (.aload_n 0, 1) := by decide +kernel
theorem d_Md_init_41 : decode prog_12_method_1_code 41 = .ok (.sipush 256, 3) := by decide +kernel
theorem d_Md_init_44 : decode prog_12_method_1_code 44 = .ok (.newarray .boolean, 2) := by decide +kernel
theorem d_Md_init_46 : decode prog_12_method_1_code 46 = .ok (.putfield 23, 3) := by decide +kernel
theorem d_Md_init_49 : decode prog_12_method_1_code 49 = .ok (.aload_n 0, 1) := by decide +kernel
theorem d_Md_init_50 : decode prog_12_method_1_code 50 = .ok (.sipush 256, 3) := by decide +kernel
theorem d_Md_init_53 : decode prog_12_method_1_code 53 = .ok (.newarray .int, 2) := by decide +kernel
theorem d_Md_init_55 : decode prog_12_method_1_code 55 = .ok (.putfield 26, 3) := by decide +kernel
theorem d_Md_init_58 : decode prog_12_method_1_code 58 = .ok (.aload_n 0, 1) := by decide +kernel
theorem d_Md_init_59 : decode prog_12_method_1_code 59 = .ok (.sipush 256, 3) := by decide +kernel
theorem d_Md_init_62 : decode prog_12_method_1_code 62 = .ok (.newarray .int, 2) := by decide +kernel
theorem d_Md_init_64 : decode prog_12_method_1_code 64 = .ok (.putfield 29, 3) := by decide +kernel
theorem d_Md_init_67 : decode prog_12_method_1_code 67 = .ok (.aload_n 0, 1) := by decide +kernel
theorem d_Md_init_68 : decode prog_12_method_1_code 68 = .ok (.sipush 7500, 3) := by decide +kernel
theorem d_Md_init_71 : decode prog_12_method_1_code 71 = .ok (.newarray .int, 2) := by decide +kernel
theorem d_Md_init_73 : decode prog_12_method_1_code 73 = .ok (.putfield 32, 3) := by decide +kernel
theorem d_Md_init_76 : decode prog_12_method_1_code 76 = .ok (.aload_n 0, 1) := by decide +kernel
theorem d_Md_init_77 : decode prog_12_method_1_code 77 = .ok (.iconst 4, 1) := by decide +kernel
theorem d_Md_init_78 : decode prog_12_method_1_code 78 = .ok (.newarray .int, 2) := by decide +kernel
theorem d_Md_init_80 : decode prog_12_method_1_code 80 = .ok (.putfield 35, 3) := by decide +kernel
theorem d_Md_init_83 : decode prog_12_method_1_code 83 = .ok (.aload_n 0, 1) := by decide +kernel
theorem d_Md_init_84 : decode prog_12_method_1_code 84 = .ok (.sipush 2400, 3) := by decide +kernel
theorem d_Md_init_87 : decode prog_12_method_1_code 87 = .ok (.newarray .int, 2) := by decide +kernel
theorem d_Md_init_89 : decode prog_12_method_1_code 89 = .ok (.putfield 38, 3) := by decide +kernel
theorem d_Md_init_92 : decode prog_12_method_1_code 92 = .ok (.aload_n 0, 1) := by decide +kernel
theorem d_Md_init_93 : decode prog_12_method_1_code 93 = .ok (.sipush 256, 3) := by decide +kernel
theorem d_Md_init_96 : decode prog_12_method_1_code 96 = .ok (.newarray .int, 2) := by decide +kernel
theorem d_Md_init_98 : decode prog_12_method_1_code 98 = .ok (.putfield 41, 3) := by decide +kernel
theorem d_Md_init_101 : decode prog_12_method_1_code 101 = .ok (.aload_n 0, 1) := by decide +kernel
theorem d_Md_init_102 : decode prog_12_method_1_code 102 = .ok (.sipush 1024, 3) := by decide +kernel
theorem d_Md_init_105 : decode prog_12_method_1_code 105 = .ok (.newarray .boolean, 2) := by decide +kernel
theorem d_Md_init_107 : decode prog_12_method_1_code 107 = .ok (.putfield 44, 3) := by decide +kernel
theorem d_Md_init_110 : decode prog_12_method_1_code 110 = .ok (.aload_n 0, 1) := by decide +kernel
theorem d_Md_init_111 : decode prog_12_method_1_code 111 = .ok (.sipush 256, 3) := by decide +kernel
theorem d_Md_init_114 : decode prog_12_method_1_code 114 = .ok (.newarray .int, 2) := by decide +kernel
theorem d_Md_init_116 : decode prog_12_method_1_code 116 = .ok (.putfield 47, 3) := by decide +kernel
theorem d_Md_init_119 : decode prog_12_method_1_code 119 = .ok (.aload_n 0, 1) := by decide +kernel
theorem d_Md_init_120 : decode prog_12_method_1_code 120 = .ok (.sipush 256, 3) := by decide +kernel
theorem d_Md_init_123 : decode prog_12_method_1_code 123 = .ok (.newarray .boolean, 2) := by decide +kernel
theorem d_Md_init_125 : decode prog_12_method_1_code 125 = .ok (.putfield 50, 3) := by decide +kernel
theorem d_Md_init_128 : decode prog_12_method_1_code 128 = .ok (.aload_n 0, 1) := by decide +kernel
theorem d_Md_init_129 : decode prog_12_method_1_code 129 = .ok (.iload_n 1, 1) := by decide +kernel
theorem d_Md_init_130 : decode prog_12_method_1_code 130 = .ok (.iconst 1, 1) := by decide +kernel
theorem d_Md_init_131 : decode prog_12_method_1_code 131 = .ok (.if_icmp .ge 7, 3) := by decide +kernel
theorem d_Md_init_134 : decode prog_12_method_1_code 134 = .ok (.iconst 1, 1) := by decide +kernel
theorem d_Md_init_135 : decode prog_12_method_1_code 135 = .ok (.goto 15, 3) := by decide +kernel
theorem d_Md_init_138 : decode prog_12_method_1_code 138 = .ok (.iload_n 1, 1) := by decide +kernel
theorem d_Md_init_139 : decode prog_12_method_1_code 139 = .ok (.bipush 16, 2) := by decide +kernel
theorem d_Md_init_141 : decode prog_12_method_1_code 141 = .ok (.if_icmp .le 8, 3) := by decide +kernel
theorem d_Md_init_144 : decode prog_12_method_1_code 144 = .ok (.bipush 16, 2) := by decide +kernel
theorem d_Md_init_146 : decode prog_12_method_1_code 146 = .ok (.goto 4, 3) := by decide +kernel
theorem d_Md_init_149 : decode prog_12_method_1_code 149 = .ok (.iload_n 1, 1) := by decide +kernel
theorem d_Md_init_150 : decode prog_12_method_1_code 150 = .ok (.putfield 53, 3) := by decide +kernel
theorem d_Md_init_153 : decode prog_12_method_1_code 153 = .ok (.aload_n 0, 1) := by decide +kernel
theorem d_Md_init_154 : decode prog_12_method_1_code 154 = .ok (.iload_n 2, 1) := by decide +kernel
theorem d_Md_init_155 : decode prog_12_method_1_code 155 = .ok (.iconst 1, 1) := by decide +kernel
theorem d_Md_init_156 : decode prog_12_method_1_code 156 = .ok (.if_icmp .ge 7, 3) := by decide +kernel
theorem d_Md_init_159 : decode prog_12_method_1_code 159 = .ok (.iconst 1, 1) := by decide +kernel
theorem d_Md_init_160 : decode prog_12_method_1_code 160 = .ok (.goto 15, 3) := by decide +kernel
theorem d_Md_init_163 : decode prog_12_method_1_code 163 = .ok (.iload_n 2, 1) := by decide +kernel
theorem d_Md_init_164 : decode prog_12_method_1_code 164 = .ok (.bipush 16, 2) := by decide +kernel
theorem d_Md_init_166 : decode prog_12_method_1_code 166 = .ok (.if_icmp .le 8, 3) := by decide +kernel
theorem d_Md_init_169 : decode prog_12_method_1_code 169 = .ok (.bipush 16, 2) := by decide +kernel
theorem d_Md_init_171 : decode prog_12_method_1_code 171 = .ok (.goto 4, 3) := by decide +kernel
theorem d_Md_init_174 : decode prog_12_method_1_code 174 = .ok (.iload_n 2, 1) := by decide +kernel
theorem d_Md_init_175 : decode prog_12_method_1_code 175 = .ok (.putfield 57, 3) := by decide +kernel
theorem d_Md_init_178 : decode prog_12_method_1_code 178 = .ok (.return_, 1) := by decide +kernel
theorem d_Pen_init_0 : decode prog_6_method_1_code 0 = .ok (.aload_n 0, 1) := by decide +kernel
theorem d_Pen_init_1 : decode prog_6_method_1_code 1 = .ok (.invokespecial 3, 3) := by decide +kernel
theorem d_Pen_init_4 : decode prog_6_method_1_code 4 = .ok (.aload_n 0, 1) := by decide +kernel
theorem d_Pen_init_5 : decode prog_6_method_1_code 5 = .ok (.aload_n 1, 1) := by decide +kernel
theorem d_Pen_init_6 : decode prog_6_method_1_code 6 = .ok (.putfield 9, 3) := by decide +kernel
theorem d_Pen_init_9 : decode prog_6_method_1_code 9 = .ok (.return_, 1) := by decide +kernel
theorem d_Picture_init_0 : decode prog_7_method_1_code 0 = .ok (.aload_n 0, 1) := by decide +kernel
theorem d_Picture_init_1 : decode prog_7_method_1_code 1 = .ok (.invokespecial 3, 3) := by decide +kernel
theorem d_Picture_init_4 : decode prog_7_method_1_code 4 = .ok (.aload_n 0, 1) := by decide +kernel
theorem d_Picture_init_5 : decode prog_7_method_1_code 5 = .ok (.new 9, 3) := by decide +kernel
theorem d_Picture_init_8 : decode prog_7_method_1_code 8 = .ok (.dup, 1) := by decide +kernel
theorem d_Picture_init_9 : decode prog_7_method_1_code 9 = .ok (.invokespecial 11, 3) := by decide +kernel
theorem d_Picture_init_12 : decode prog_7_method_1_code 12 = .ok (.putfield 12, 3) := by decide +kernel
theorem d_Picture_init_15 : decode prog_7_method_1_code 15 = .ok (.aload_n 0, 1) := by decide +kernel
theorem d_Picture_init_16 : decode prog_7_method_1_code 16 = .ok (.sipush 256, 3) := by decide +kernel
theorem d_Picture_init_19 : decode prog_7_method_1_code 19 = .ok (.newarray .int, 2) := by decide +kernel
theorem d_Picture_init_21 : decode prog_7_method_1_code 21 = .ok (.putfield 18, 3) := by decide +kernel
theorem d_Picture_init_24 : decode prog_7_method_1_code 24 = .ok (.aload_n 0, 1) := by decide +kernel
theorem d_Picture_init_25 : decode prog_7_method_1_code 25 = .ok (.sipush 256, 3) := by decide +kernel
theorem d_Picture_init_28 : decode prog_7_method_1_code 28 = .ok (.newarray .int, 2) := by decide +kernel
theorem d_Picture_init_30 : decode prog_7_method_1_code 30 = .ok (.putfield 22, 3) := by decide +kernel
theorem d_Picture_init_33 : decode prog_7_method_1_code 33 = .ok (.aload_n 0, 1) := by decide +kernel
theorem d_Picture_init_34 : decode prog_7_method_1_code 34 = .ok (.new 25, 3) := by decide +kernel
theorem d_Picture_init_37 : decode prog_7_method_1_code 37 = .ok (.dup, 1) := by decide +kernel
theorem d_Picture_init_38 : decode prog_7_method_1_code 38 = .ok (.aload_n 0, 1) := by decide +kernel
theorem d_Picture_init_39 : decode prog_7_method_1_code 39 = .ok (.getfield 12, 3) := by decide +kernel
theorem d_Picture_init_42 : decode prog_7_method_1_code 42 = .ok (.aload_n 0, 1) := by decide +kernel
theorem d_Picture_init_43 : decode prog_7_method_1_code 43 = .ok (.getfield 22, 3) := by decide +kernel
theorem d_Picture_init_46 : decode prog_7_method_1_code 46 = .ok (.invokespecial 27, 3) := by decide +kernel
theorem d_Picture_init_49 : decode prog_7_method_1_code 49 = .ok (.putfield 30, 3) := by decide +kernel
theorem d_Picture_init_52 : decode prog_7_method_1_code 52 = .ok (.return_, 1) := by decide +kernel
theorem d_Shape_init_0 : decode prog_8_method_1_code 0 = .ok (.aload_n 0, 1) := by decide +kernel
theorem d_Shape_init_1 : decode prog_8_method_1_code 1 = .ok (.invokespecial 3, 3) := by decide +kernel
theorem d_Shape_init_4 : decode prog_8_method_1_code 4 = .ok (.aload_n 0, 1) := by decide +kernel
theorem d_Shape_init_5 : decode prog_8_method_1_code 5 = .ok (.sipush 256, 3) := by decide +kernel
theorem d_Shape_init_8 : decode prog_8_method_1_code 8 = .ok (.newarray .boolean, 2) := by decide +kernel
theorem d_Shape_init_10 : decode prog_8_method_1_code 10 = .ok (.putfield 9, 3) := by decide +kernel
theorem d_Shape_init_13 : decode prog_8_method_1_code 13 = .ok (.aload_n 0, 1) := by decide +kernel
theorem d_Shape_init_14 : decode prog_8_method_1_code 14 = .ok (.sipush 256, 3) := by decide +kernel
theorem d_Shape_init_17 : decode prog_8_method_1_code 17 = .ok (.newarray .int, 2) := by decide +kernel
theorem d_Shape_init_19 : decode prog_8_method_1_code 19 = .ok (.putfield 15, 3) := by decide +kernel
theorem d_Shape_init_22 : decode prog_8_method_1_code 22 = .ok (.aload_n 0, 1) := by decide +kernel
theorem d_Shape_init_23 : decode prog_8_method_1_code 23 = .ok (.sipush 256, 3) := by decide +kernel
theorem d_Shape_init_26 : decode prog_8_method_1_code 26 = .ok (.newarray .int, 2) := by decide +kernel
theorem d_Shape_init_28 : decode prog_8_method_1_code 28 = .ok (.putfield 19, 3) := by decide +kernel
theorem d_Shape_init_31 : decode prog_8_method_1_code 31 = .ok (.aload_n 0, 1) := by decide +kernel
theorem d_Shape_init_32 : decode prog_8_method_1_code 32 = .ok (.sipush 256, 3) := by decide +kernel
theorem d_Shape_init_35 : decode prog_8_method_1_code 35 = .ok (.newarray .int, 2) := by decide +kernel
theorem d_Shape_init_37 : decode prog_8_method_1_code 37 = .ok (.putfield 22, 3) := by decide +kernel
theorem d_Shape_init_40 : decode prog_8_method_1_code 40 = .ok (.aload_n 0, 1) := by decide +kernel
theorem d_Shape_init_41 : decode prog_8_method_1_code 41 = .ok (.sipush 256, 3) := by decide +kernel
theorem d_Shape_init_44 : decode prog_8_method_1_code 44 = .ok (.newarray .int, 2) := by decide +kernel
theorem d_Shape_init_46 : decode prog_8_method_1_code 46 = .ok (.putfield 25, 3) := by decide +kernel
theorem d_Shape_init_49 : decode prog_8_method_1_code 49 = .ok (.return_, 1) := by decide +kernel
theorem d_Tape_init_0 : decode prog_9_method_1_code 0 = .ok (.aload_n 0, 1) := by decide +kernel
theorem d_Tape_init_1 : decode prog_9_method_1_code 1 = .ok (.invokespecial 3, 3) := by decide +kernel
theorem d_Tape_init_4 : decode prog_9_method_1_code 4 = .ok (.return_, 1) := by decide +kernel
theorem d_Walk_init_0 : decode prog_10_method_1_code 0 = .ok (.aload_n 0, 1) := by decide +kernel
theorem d_Walk_init_1 : decode prog_10_method_1_code 1 = .ok (.invokespecial 3, 3) := by decide +kernel
theorem d_Walk_init_4 : decode prog_10_method_1_code 4 = .ok (.aload_n 0, 1) := by decide +kernel
theorem d_Walk_init_5 : decode prog_10_method_1_code 5 = .ok (.sipush 256, 3) := by decide +kernel
theorem d_Walk_init_8 : decode prog_10_method_1_code 8 = .ok (.newarray .int, 2) := by decide +kernel
theorem d_Walk_init_10 : decode prog_10_method_1_code 10 = .ok (.putfield 9, 3) := by decide +kernel
theorem d_Walk_init_13 : decode prog_10_method_1_code 13 = .ok (.aload_n 0, 1) := by decide +kernel
theorem d_Walk_init_14 : decode prog_10_method_1_code 14 = .ok (.iconst 4, 1) := by decide +kernel
theorem d_Walk_init_15 : decode prog_10_method_1_code 15 = .ok (.newarray .int, 2) := by decide +kernel
theorem d_Walk_init_17 : decode prog_10_method_1_code 17 = .ok (.putfield 15, 3) := by decide +kernel
theorem d_Walk_init_20 : decode prog_10_method_1_code 20 = .ok (.aload_n 0, 1) := by decide +kernel
theorem d_Walk_init_21 : decode prog_10_method_1_code 21 = .ok (.sipush 340, 3) := by decide +kernel
theorem d_Walk_init_24 : decode prog_10_method_1_code 24 = .ok (.newarray .int, 2) := by decide +kernel
theorem d_Walk_init_26 : decode prog_10_method_1_code 26 = .ok (.putfield 18, 3) := by decide +kernel
theorem d_Walk_init_29 : decode prog_10_method_1_code 29 = .ok (.aload_n 0, 1) := by decide +kernel
theorem d_Walk_init_30 : decode prog_10_method_1_code 30 = .ok (.sipush 340, 3) := by decide +kernel
theorem d_Walk_init_33 : decode prog_10_method_1_code 33 = .ok (.newarray .boolean, 2) := by decide +kernel
theorem d_Walk_init_35 : decode prog_10_method_1_code 35 = .ok (.putfield 21, 3) := by decide +kernel
theorem d_Walk_init_38 : decode prog_10_method_1_code 38 = .ok (.aload_n 0, 1) := by decide +kernel
theorem d_Walk_init_39 : decode prog_10_method_1_code 39 = .ok (.aload_n 1, 1) := by decide +kernel
theorem d_Walk_init_40 : decode prog_10_method_1_code 40 = .ok (.putfield 25, 3) := by decide +kernel
theorem d_Walk_init_43 : decode prog_10_method_1_code 43 = .ok (.aload_n 0, 1) := by decide +kernel
theorem d_Walk_init_44 : decode prog_10_method_1_code 44 = .ok (.aload_n 2, 1) := by decide +kernel
theorem d_Walk_init_45 : decode prog_10_method_1_code 45 = .ok (.putfield 29, 3) := by decide +kernel
theorem d_Walk_init_48 : decode prog_10_method_1_code 48 = .ok (.return_, 1) := by decide +kernel
theorem k_55 : Cond.methodLink "FreeWavelets" 1 ⟨"java/lang/Object", "<init>", "()V"⟩ ∈ gt := mem_gt (List.mem_of_getElem? (i := 55) (by decide +kernel)) rfl
theorem k_56 : Cond.instanceMethod ⟨"java/lang/Object", "<init>", "()V"⟩ ∈ gt := mem_gt (List.mem_of_getElem? (i := 56) (by decide +kernel)) rfl
theorem k_57 : Cond.code ⟨"java/lang/Object", "<init>", "()V"⟩ object_method_1_code 1 none ∈ gt := mem_gt (List.mem_of_getElem? (i := 57) (by decide +kernel)) rfl
theorem k_58 : Cond.classLink "FreeWavelets" 7 "FreeWavelets$Picture" ∈ gt := mem_gt (List.mem_of_getElem? (i := 58) (by decide +kernel)) rfl
theorem k_59 : Cond.instantiable "FreeWavelets$Picture" 6 ∈ gt := mem_gt (List.mem_of_getElem? (i := 59) (by decide +kernel)) rfl
theorem k_60 : Cond.methodLinkNest "FreeWavelets" 9 ⟨"FreeWavelets$Picture", "<init>", "()V"⟩ "FreeWavelets" ∈ lw_tbl := List.mem_of_getElem? (i := 60) (by decide +kernel)
theorem k_61 : Cond.instanceMethod ⟨"FreeWavelets$Picture", "<init>", "()V"⟩ ∈ gt := mem_gt (List.mem_of_getElem? (i := 61) (by decide +kernel)) rfl
theorem k_62 : Cond.code ⟨"FreeWavelets$Picture", "<init>", "()V"⟩ prog_7_method_1_code 1 none ∈ gt := mem_gt (List.mem_of_getElem? (i := 62) (by decide +kernel)) rfl
theorem k_63 : Cond.methodLink "FreeWavelets$Picture" 3 ⟨"java/lang/Object", "<init>", "()V"⟩ ∈ gt := mem_gt (List.mem_of_getElem? (i := 63) (by decide +kernel)) rfl
theorem k_64 : Cond.classLink "FreeWavelets$Picture" 9 "FreeWavelets$Shape" ∈ gt := mem_gt (List.mem_of_getElem? (i := 64) (by decide +kernel)) rfl
theorem k_65 : Cond.instantiable "FreeWavelets$Shape" 9 ∈ gt := mem_gt (List.mem_of_getElem? (i := 65) (by decide +kernel)) rfl
theorem k_66 : Cond.methodLinkNest "FreeWavelets$Picture" 11 ⟨"FreeWavelets$Shape", "<init>", "()V"⟩ "FreeWavelets" ∈ lw_tbl := List.mem_of_getElem? (i := 66) (by decide +kernel)
theorem k_67 : Cond.instanceMethod ⟨"FreeWavelets$Shape", "<init>", "()V"⟩ ∈ gt := mem_gt (List.mem_of_getElem? (i := 67) (by decide +kernel)) rfl
theorem k_68 : Cond.code ⟨"FreeWavelets$Shape", "<init>", "()V"⟩ prog_8_method_1_code 1 none ∈ gt := mem_gt (List.mem_of_getElem? (i := 68) (by decide +kernel)) rfl
theorem k_69 : Cond.methodLink "FreeWavelets$Shape" 3 ⟨"java/lang/Object", "<init>", "()V"⟩ ∈ gt := mem_gt (List.mem_of_getElem? (i := 69) (by decide +kernel)) rfl
theorem k_115 : Cond.arrayClass .boolean ∈ gt := mem_gt (List.mem_of_getElem? (i := 115) (by decide +kernel)) rfl
theorem k_116 : Cond.arrayClass .int ∈ gt := mem_gt (List.mem_of_getElem? (i := 116) (by decide +kernel)) rfl
theorem k_117 : Cond.classLink "FreeWavelets$Picture" 25 "FreeWavelets$Lifting" ∈ gt := mem_gt (List.mem_of_getElem? (i := 117) (by decide +kernel)) rfl
theorem k_118 : Cond.instantiable "FreeWavelets$Lifting" 2 ∈ gt := mem_gt (List.mem_of_getElem? (i := 118) (by decide +kernel)) rfl
theorem k_119 : Cond.methodLink "FreeWavelets$Picture" 27 ⟨"FreeWavelets$Lifting", "<init>", "(LFreeWavelets$Shape;[I)V"⟩ ∈ gt := mem_gt (List.mem_of_getElem? (i := 119) (by decide +kernel)) rfl
theorem k_120 : Cond.instanceMethod ⟨"FreeWavelets$Lifting", "<init>", "(LFreeWavelets$Shape;[I)V"⟩ ∈ gt := mem_gt (List.mem_of_getElem? (i := 120) (by decide +kernel)) rfl
theorem k_121 : Cond.code ⟨"FreeWavelets$Lifting", "<init>", "(LFreeWavelets$Shape;[I)V"⟩ prog_5_method_1_code 3 none ∈ gt := mem_gt (List.mem_of_getElem? (i := 121) (by decide +kernel)) rfl
theorem k_122 : Cond.methodLink "FreeWavelets$Lifting" 3 ⟨"java/lang/Object", "<init>", "()V"⟩ ∈ gt := mem_gt (List.mem_of_getElem? (i := 122) (by decide +kernel)) rfl
theorem k_158 : Cond.classLink "FreeWavelets" 19 "FreeWavelets$Bytes" ∈ gt := mem_gt (List.mem_of_getElem? (i := 158) (by decide +kernel)) rfl
theorem k_159 : Cond.instantiable "FreeWavelets$Bytes" 2 ∈ gt := mem_gt (List.mem_of_getElem? (i := 159) (by decide +kernel)) rfl
theorem k_160 : Cond.methodLinkNest "FreeWavelets" 21 ⟨"FreeWavelets$Bytes", "<init>", "()V"⟩ "FreeWavelets" ∈ lw_tbl := List.mem_of_getElem? (i := 160) (by decide +kernel)
theorem k_161 : Cond.instanceMethod ⟨"FreeWavelets$Bytes", "<init>", "()V"⟩ ∈ gt := mem_gt (List.mem_of_getElem? (i := 161) (by decide +kernel)) rfl
theorem k_162 : Cond.code ⟨"FreeWavelets$Bytes", "<init>", "()V"⟩ prog_2_method_1_code 1 none ∈ gt := mem_gt (List.mem_of_getElem? (i := 162) (by decide +kernel)) rfl
theorem k_163 : Cond.methodLink "FreeWavelets$Bytes" 3 ⟨"java/lang/Object", "<init>", "()V"⟩ ∈ gt := mem_gt (List.mem_of_getElem? (i := 163) (by decide +kernel)) rfl
theorem k_174 : Cond.arrayClass .byte ∈ gt := mem_gt (List.mem_of_getElem? (i := 174) (by decide +kernel)) rfl
theorem k_175 : Cond.classLink "FreeWavelets" 29 "FreeWavelets$Pen" ∈ gt := mem_gt (List.mem_of_getElem? (i := 175) (by decide +kernel)) rfl
theorem k_176 : Cond.instantiable "FreeWavelets$Pen" 4 ∈ gt := mem_gt (List.mem_of_getElem? (i := 176) (by decide +kernel)) rfl
theorem k_177 : Cond.methodLink "FreeWavelets" 31 ⟨"FreeWavelets$Pen", "<init>", "(LFreeWavelets$Bytes;)V"⟩ ∈ gt := mem_gt (List.mem_of_getElem? (i := 177) (by decide +kernel)) rfl
theorem k_178 : Cond.instanceMethod ⟨"FreeWavelets$Pen", "<init>", "(LFreeWavelets$Bytes;)V"⟩ ∈ gt := mem_gt (List.mem_of_getElem? (i := 178) (by decide +kernel)) rfl
theorem k_179 : Cond.code ⟨"FreeWavelets$Pen", "<init>", "(LFreeWavelets$Bytes;)V"⟩ prog_6_method_1_code 2 none ∈ gt := mem_gt (List.mem_of_getElem? (i := 179) (by decide +kernel)) rfl
theorem k_180 : Cond.methodLinkNest "FreeWavelets$Pen" 3 ⟨"FreeWavelets$Tape", "<init>", "()V"⟩ "FreeWavelets" ∈ lw_tbl := List.mem_of_getElem? (i := 180) (by decide +kernel)
theorem k_181 : Cond.instanceMethod ⟨"FreeWavelets$Tape", "<init>", "()V"⟩ ∈ gt := mem_gt (List.mem_of_getElem? (i := 181) (by decide +kernel)) rfl
theorem k_182 : Cond.code ⟨"FreeWavelets$Tape", "<init>", "()V"⟩ prog_9_method_1_code 1 none ∈ gt := mem_gt (List.mem_of_getElem? (i := 182) (by decide +kernel)) rfl
theorem k_183 : Cond.methodLink "FreeWavelets$Tape" 3 ⟨"java/lang/Object", "<init>", "()V"⟩ ∈ gt := mem_gt (List.mem_of_getElem? (i := 183) (by decide +kernel)) rfl
theorem k_205 : Cond.classLink "FreeWavelets" 38 "FreeWavelets$Eye" ∈ gt := mem_gt (List.mem_of_getElem? (i := 205) (by decide +kernel)) rfl
theorem k_206 : Cond.instantiable "FreeWavelets$Eye" 4 ∈ gt := mem_gt (List.mem_of_getElem? (i := 206) (by decide +kernel)) rfl
theorem k_207 : Cond.methodLink "FreeWavelets" 40 ⟨"FreeWavelets$Eye", "<init>", "(LFreeWavelets$Bytes;)V"⟩ ∈ gt := mem_gt (List.mem_of_getElem? (i := 207) (by decide +kernel)) rfl
theorem k_208 : Cond.instanceMethod ⟨"FreeWavelets$Eye", "<init>", "(LFreeWavelets$Bytes;)V"⟩ ∈ gt := mem_gt (List.mem_of_getElem? (i := 208) (by decide +kernel)) rfl
theorem k_209 : Cond.code ⟨"FreeWavelets$Eye", "<init>", "(LFreeWavelets$Bytes;)V"⟩ prog_3_method_1_code 2 none ∈ gt := mem_gt (List.mem_of_getElem? (i := 209) (by decide +kernel)) rfl
theorem k_210 : Cond.methodLinkNest "FreeWavelets$Eye" 1 ⟨"FreeWavelets$Tape", "<init>", "()V"⟩ "FreeWavelets" ∈ lw_tbl := List.mem_of_getElem? (i := 210) (by decide +kernel)
theorem k_218 : Cond.classLink "FreeWavelets" 45 "FreeWavelets$Tape" ∈ gt := mem_gt (List.mem_of_getElem? (i := 218) (by decide +kernel)) rfl
theorem k_219 : Cond.instantiable "FreeWavelets$Tape" 3 ∈ gt := mem_gt (List.mem_of_getElem? (i := 219) (by decide +kernel)) rfl
theorem k_220 : Cond.methodLinkNest "FreeWavelets" 47 ⟨"FreeWavelets$Tape", "<init>", "()V"⟩ "FreeWavelets" ∈ lw_tbl := List.mem_of_getElem? (i := 220) (by decide +kernel)
theorem k_225 : Cond.classLink "FreeWavelets" 52 "FreeWavelets$Walk" ∈ gt := mem_gt (List.mem_of_getElem? (i := 225) (by decide +kernel)) rfl
theorem k_226 : Cond.instantiable "FreeWavelets$Walk" 7 ∈ gt := mem_gt (List.mem_of_getElem? (i := 226) (by decide +kernel)) rfl
theorem k_227 : Cond.methodLink "FreeWavelets" 54 ⟨"FreeWavelets$Walk", "<init>", "(LFreeWavelets$Tape;LFreeWavelets$Picture;)V"⟩ ∈ gt := mem_gt (List.mem_of_getElem? (i := 227) (by decide +kernel)) rfl
theorem k_228 : Cond.instanceMethod ⟨"FreeWavelets$Walk", "<init>", "(LFreeWavelets$Tape;LFreeWavelets$Picture;)V"⟩ ∈ gt := mem_gt (List.mem_of_getElem? (i := 228) (by decide +kernel)) rfl
theorem k_229 : Cond.code ⟨"FreeWavelets$Walk", "<init>", "(LFreeWavelets$Tape;LFreeWavelets$Picture;)V"⟩ prog_10_method_1_code 3 none ∈ gt := mem_gt (List.mem_of_getElem? (i := 229) (by decide +kernel)) rfl
theorem k_230 : Cond.methodLink "FreeWavelets$Walk" 3 ⟨"java/lang/Object", "<init>", "()V"⟩ ∈ gt := mem_gt (List.mem_of_getElem? (i := 230) (by decide +kernel)) rfl
theorem k_255 : Cond.methodLink "FreeWavelets" 71 ⟨"FreeWavelets", "nearestSide", "(I)I"⟩ ∈ gt := mem_gt (List.mem_of_getElem? (i := 255) (by decide +kernel)) rfl
theorem k_256 : Cond.static ⟨"FreeWavelets", "nearestSide", "(I)I"⟩ ∈ gt := mem_gt (List.mem_of_getElem? (i := 256) (by decide +kernel)) rfl
theorem k_257 : Cond.code ⟨"FreeWavelets", "nearestSide", "(I)I"⟩ prog_1_method_19_code 1 (some .int) ∈ gt := mem_gt (List.mem_of_getElem? (i := 257) (by decide +kernel)) rfl
theorem k_264 : Cond.methodLink "FreeWavelets" 75 ⟨"FreeWavelets$Shape", "resize", "(II)V"⟩ ∈ gt := mem_gt (List.mem_of_getElem? (i := 264) (by decide +kernel)) rfl
theorem k_768 : Cond.methodLink "FreeWaveletsModel" 1 ⟨"java/lang/Object", "<init>", "()V"⟩ ∈ gt := mem_gt (List.mem_of_getElem? (i := 768) (by decide +kernel)) rfl
def clW (w : Int32) : Int32 := if (1 : Int32) ≤ w then (if w ≤ 16 then w else 16) else 1
theorem top_eq {p : Program} {l : Launch} {e : Env} {R : Room} {s : State} {m : MethodId} {args : Array Value} {below : List Frame} {meth : Method} {c : Code} {H : Heap} {locs : List Loc} {cells slots : Nat} {Q : State → Prop} {pc : Nat} {ls : Array Slot} {rest : List Value} {x y : Int32} (h : x = y) (k : W p l e R s m args below meth c H locs cells slots Q (F0 m pc ls (.int y :: rest))) : W p l e R s m args below meth c H locs cells slots Q (F0 m pc ls (.int x :: rest)) := h ▸ k
