theorem d_Md_alter_0 : decode prog_12_method_33_code 0 = .ok (.aload_n 0, 1) := by decide +kernel
theorem d_Md_alter_1 : decode prog_12_method_33_code 1 = .ok (.iload_n 1, 1) := by decide +kernel
theorem d_Md_alter_2 : decode prog_12_method_33_code 2 = .ok (.ifCond .lt 11, 3) := by decide +kernel
theorem d_Md_alter_5 : decode prog_12_method_33_code 5 = .ok (.iload_n 1, 1) := by decide +kernel
theorem d_Md_alter_6 : decode prog_12_method_33_code 6 = .ok (.aload_n 0, 1) := by decide +kernel
theorem d_Md_alter_7 : decode prog_12_method_33_code 7 = .ok (.getfield 151, 3) := by decide +kernel
theorem d_Md_alter_10 : decode prog_12_method_33_code 10 = .ok (.if_icmp .lt 7, 3) := by decide +kernel
theorem d_Md_alter_13 : decode prog_12_method_33_code 13 = .ok (.iconst 1, 1) := by decide +kernel
theorem d_Md_alter_14 : decode prog_12_method_33_code 14 = .ok (.goto 19, 3) := by decide +kernel
theorem d_Md_alter_17 : decode prog_12_method_33_code 17 = .ok (.iload_n 2, 1) := by decide +kernel
theorem d_Md_alter_18 : decode prog_12_method_33_code 18 = .ok (.ifCond .lt 10, 3) := by decide +kernel
theorem d_Md_alter_21 : decode prog_12_method_33_code 21 = .ok (.iload_n 2, 1) := by decide +kernel
theorem d_Md_alter_22 : decode prog_12_method_33_code 22 = .ok (.sipush 255, 3) := by decide +kernel
theorem d_Md_alter_25 : decode prog_12_method_33_code 25 = .ok (.if_icmp .le 7, 3) := by decide +kernel
theorem d_Md_alter_28 : decode prog_12_method_33_code 28 = .ok (.iconst 2, 1) := by decide +kernel
theorem d_Md_alter_29 : decode prog_12_method_33_code 29 = .ok (.goto 4, 3) := by decide +kernel
theorem d_Md_alter_32 : decode prog_12_method_33_code 32 = .ok (.iconst 0, 1) := by decide +kernel
theorem d_Md_alter_33 : decode prog_12_method_33_code 33 = .ok (.putfield 60, 3) := by decide +kernel
theorem d_Md_alter_36 : decode prog_12_method_33_code 36 = .ok (.aload_n 0, 1) := by decide +kernel
theorem d_Md_alter_37 : decode prog_12_method_33_code 37 = .ok (.getfield 60, 3) := by decide +kernel
theorem d_Md_alter_40 : decode prog_12_method_33_code 40 = .ok (.ifCond .le 5, 3) := by decide +kernel
theorem d_Md_alter_43 : decode prog_12_method_33_code 43 = .ok (.iconst 0, 1) := by decide +kernel
theorem d_Md_alter_44 : decode prog_12_method_33_code 44 = .ok (.ireturn, 1) := by decide +kernel
theorem d_Md_alter_45 : decode prog_12_method_33_code 45 = .ok (.aload_n 0, 1) := by decide +kernel
theorem d_Md_alter_46 : decode prog_12_method_33_code 46 = .ok (.getfield 38, 3) := by decide +kernel
theorem d_Md_alter_49 : decode prog_12_method_33_code 49 = .ok (.iload_n 1, 1) := by decide +kernel
theorem d_Md_alter_50 : decode prog_12_method_33_code 50 = .ok (.iaload, 1) := by decide +kernel
theorem d_Md_alter_51 : decode prog_12_method_33_code 51 = .ok (.istore_n 3, 1) := by decide +kernel
theorem d_Md_alter_52 : decode prog_12_method_33_code 52 = .ok (.aload_n 0, 1) := by decide +kernel
theorem d_Md_alter_53 : decode prog_12_method_33_code 53 = .ok (.getfield 38, 3) := by decide +kernel
theorem d_Md_alter_56 : decode prog_12_method_33_code 56 = .ok (.iload_n 1, 1) := by decide +kernel
theorem d_Md_alter_57 : decode prog_12_method_33_code 57 = .ok (.iload_n 2, 1) := by decide +kernel
theorem d_Md_alter_58 : decode prog_12_method_33_code 58 = .ok (.iastore, 1) := by decide +kernel
theorem d_Md_alter_59 : decode prog_12_method_33_code 59 = .ok (.iload_n 3, 1) := by decide +kernel
theorem d_Md_alter_60 : decode prog_12_method_33_code 60 = .ok (.ireturn, 1) := by decide +kernel
theorem d_Md_around_0 : decode prog_12_method_8_code 0 = .ok (.iload 4, 2) := by decide +kernel
theorem d_Md_around_2 : decode prog_12_method_8_code 2 = .ok (.ifCond .eq 10, 3) := by decide +kernel
theorem d_Md_around_5 : decode prog_12_method_8_code 5 = .ok (.iload_n 2, 1) := by decide +kernel
theorem d_Md_around_6 : decode prog_12_method_8_code 6 = .ok (.bipush 16, 2) := by decide +kernel
theorem d_Md_around_8 : decode prog_12_method_8_code 8 = .ok (.irem, 1) := by decide +kernel
theorem d_Md_around_9 : decode prog_12_method_8_code 9 = .ok (.goto 7, 3) := by decide +kernel
theorem d_Md_around_12 : decode prog_12_method_8_code 12 = .ok (.iload_n 2, 1) := by decide +kernel
theorem d_Md_around_13 : decode prog_12_method_8_code 13 = .ok (.bipush 16, 2) := by decide +kernel
theorem d_Md_around_15 : decode prog_12_method_8_code 15 = .ok (.idiv, 1) := by decide +kernel
theorem d_Md_around_16 : decode prog_12_method_8_code 16 = .ok (.istore 5, 2) := by decide +kernel
theorem d_Md_around_18 : decode prog_12_method_8_code 18 = .ok (.iload 4, 2) := by decide +kernel
theorem d_Md_around_20 : decode prog_12_method_8_code 20 = .ok (.ifCond .eq 7, 3) := by decide +kernel
theorem d_Md_around_23 : decode prog_12_method_8_code 23 = .ok (.iload_n 3, 1) := by decide +kernel
theorem d_Md_around_24 : decode prog_12_method_8_code 24 = .ok (.goto 7, 3) := by decide +kernel
theorem d_Md_around_27 : decode prog_12_method_8_code 27 = .ok (.bipush 16, 2) := by decide +kernel
theorem d_Md_around_29 : decode prog_12_method_8_code 29 = .ok (.iload_n 3, 1) := by decide +kernel
theorem d_Md_around_30 : decode prog_12_method_8_code 30 = .ok (.imul, 1) := by decide +kernel
theorem d_Md_around_31 : decode prog_12_method_8_code 31 = .ok (.istore 6, 2) := by decide +kernel
theorem d_Md_around_33 : decode prog_12_method_8_code 33 = .ok (.iload 5, 2) := by decide +kernel
theorem d_Md_around_35 : decode prog_12_method_8_code 35 = .ok (.iload_n 3, 1) := by decide +kernel
theorem d_Md_around_36 : decode prog_12_method_8_code 36 = .ok (.if_icmp .lt 19, 3) := by decide +kernel
theorem d_Md_around_39 : decode prog_12_method_8_code 39 = .ok (.aload_n 0, 1) := by decide +kernel
theorem d_Md_around_40 : decode prog_12_method_8_code 40 = .ok (.iload_n 2, 1) := by decide +kernel
theorem d_Md_around_41 : decode prog_12_method_8_code 41 = .ok (.iload 6, 2) := by decide +kernel
theorem d_Md_around_43 : decode prog_12_method_8_code 43 = .ok (.isub, 1) := by decide +kernel
theorem d_Md_around_44 : decode prog_12_method_8_code 44 = .ok (.iaload, 1) := by decide +kernel
theorem d_Md_around_45 : decode prog_12_method_8_code 45 = .ok (.aload_n 0, 1) := by decide +kernel
theorem d_Md_around_46 : decode prog_12_method_8_code 46 = .ok (.iload_n 2, 1) := by decide +kernel
theorem d_Md_around_47 : decode prog_12_method_8_code 47 = .ok (.iaload, 1) := by decide +kernel
theorem d_Md_around_48 : decode prog_12_method_8_code 48 = .ok (.if_icmp .ne 7, 3) := by decide +kernel
theorem d_Md_around_51 : decode prog_12_method_8_code 51 = .ok (.iconst 1, 1) := by decide +kernel
theorem d_Md_around_52 : decode prog_12_method_8_code 52 = .ok (.goto 4, 3) := by decide +kernel
theorem d_Md_around_55 : decode prog_12_method_8_code 55 = .ok (.iconst 0, 1) := by decide +kernel
theorem d_Md_around_56 : decode prog_12_method_8_code 56 = .ok (.istore 7, 2) := by decide +kernel
theorem d_Md_around_58 : decode prog_12_method_8_code 58 = .ok (.iload 5, 2) := by decide +kernel
theorem d_Md_around_60 : decode prog_12_method_8_code 60 = .ok (.iload_n 3, 1) := by decide +kernel
theorem d_Md_around_61 : decode prog_12_method_8_code 61 = .ok (.iadd, 1) := by decide +kernel
theorem d_Md_around_62 : decode prog_12_method_8_code 62 = .ok (.bipush 16, 2) := by decide +kernel
theorem d_Md_around_64 : decode prog_12_method_8_code 64 = .ok (.if_icmp .ge 19, 3) := by decide +kernel
theorem d_Md_around_67 : decode prog_12_method_8_code 67 = .ok (.aload_n 0, 1) := by decide +kernel
theorem d_Md_around_68 : decode prog_12_method_8_code 68 = .ok (.iload_n 2, 1) := by decide +kernel
theorem d_Md_around_69 : decode prog_12_method_8_code 69 = .ok (.iload 6, 2) := by decide +kernel
theorem d_Md_around_71 : decode prog_12_method_8_code 71 = .ok (.iadd, 1) := by decide +kernel
theorem d_Md_around_72 : decode prog_12_method_8_code 72 = .ok (.iaload, 1) := by decide +kernel
theorem d_Md_around_73 : decode prog_12_method_8_code 73 = .ok (.aload_n 0, 1) := by decide +kernel
theorem d_Md_around_74 : decode prog_12_method_8_code 74 = .ok (.iload_n 2, 1) := by decide +kernel
theorem d_Md_around_75 : decode prog_12_method_8_code 75 = .ok (.iaload, 1) := by decide +kernel
theorem d_Md_around_76 : decode prog_12_method_8_code 76 = .ok (.if_icmp .ne 7, 3) := by decide +kernel
theorem d_Md_around_79 : decode prog_12_method_8_code 79 = .ok (.iconst 1, 1) := by decide +kernel
theorem d_Md_around_80 : decode prog_12_method_8_code 80 = .ok (.goto 4, 3) := by decide +kernel
theorem d_Md_around_83 : decode prog_12_method_8_code 83 = .ok (.iconst 0, 1) := by decide +kernel
theorem d_Md_around_84 : decode prog_12_method_8_code 84 = .ok (.istore 8, 2) := by decide +kernel
theorem d_Md_around_86 : decode prog_12_method_8_code 86 = .ok (.iload 7, 2) := by decide +kernel
theorem d_Md_around_88 : decode prog_12_method_8_code 88 = .ok (.ifCond .eq 24, 3) := by decide +kernel
theorem d_Md_around_91 : decode prog_12_method_8_code 91 = .ok (.iload 8, 2) := by decide +kernel
theorem d_Md_around_93 : decode prog_12_method_8_code 93 = .ok (.ifCond .eq 19, 3) := by decide +kernel
theorem d_Md_around_96 : decode prog_12_method_8_code 96 = .ok (.aload_n 1, 1) := by decide +kernel
theorem d_Md_around_97 : decode prog_12_method_8_code 97 = .ok (.iload_n 2, 1) := by decide +kernel
theorem d_Md_around_98 : decode prog_12_method_8_code 98 = .ok (.iload 6, 2) := by decide +kernel
theorem d_Md_around_100 : decode prog_12_method_8_code 100 = .ok (.isub, 1) := by decide +kernel
theorem d_Md_around_101 : decode prog_12_method_8_code 101 = .ok (.iaload, 1) := by decide +kernel
theorem d_Md_around_102 : decode prog_12_method_8_code 102 = .ok (.aload_n 1, 1) := by decide +kernel
theorem d_Md_around_103 : decode prog_12_method_8_code 103 = .ok (.iload_n 2, 1) := by decide +kernel
theorem d_Md_around_104 : decode prog_12_method_8_code 104 = .ok (.iload 6, 2) := by decide +kernel
theorem d_Md_around_106 : decode prog_12_method_8_code 106 = .ok (.iadd, 1) := by decide +kernel
theorem d_Md_around_107 : decode prog_12_method_8_code 107 = .ok (.iaload, 1) := by decide +kernel
theorem d_Md_around_108 : decode prog_12_method_8_code 108 = .ok (.iadd, 1) := by decide +kernel
theorem d_Md_around_109 : decode prog_12_method_8_code 109 = .ok (.goto 37, 3) := by decide +kernel
theorem d_Md_around_112 : decode prog_12_method_8_code 112 = .ok (.iload 7, 2) := by decide +kernel
theorem d_Md_around_114 : decode prog_12_method_8_code 114 = .ok (.ifCond .eq 14, 3) := by decide +kernel
theorem d_Md_around_117 : decode prog_12_method_8_code 117 = .ok (.iconst 2, 1) := by decide +kernel
theorem d_Md_around_118 : decode prog_12_method_8_code 118 = .ok (.aload_n 1, 1) := by decide +kernel
theorem d_Md_around_119 : decode prog_12_method_8_code 119 = .ok (.iload_n 2, 1) := by decide +kernel
theorem d_Md_around_120 : decode prog_12_method_8_code 120 = .ok (.iload 6, 2) := by decide +kernel
theorem d_Md_around_122 : decode prog_12_method_8_code 122 = .ok (.isub, 1) := by decide +kernel
theorem d_Md_around_123 : decode prog_12_method_8_code 123 = .ok (.iaload, 1) := by decide +kernel
theorem d_Md_around_124 : decode prog_12_method_8_code 124 = .ok (.imul, 1) := by decide +kernel
theorem d_Md_around_125 : decode prog_12_method_8_code 125 = .ok (.goto 21, 3) := by decide +kernel
theorem d_Md_around_128 : decode prog_12_method_8_code 128 = .ok (.iload 8, 2) := by decide +kernel
theorem d_Md_around_130 : decode prog_12_method_8_code 130 = .ok (.ifCond .eq 14, 3) := by decide +kernel
theorem d_Md_around_133 : decode prog_12_method_8_code 133 = .ok (.iconst 2, 1) := by decide +kernel
theorem d_Md_around_134 : decode prog_12_method_8_code 134 = .ok (.aload_n 1, 1) := by decide +kernel
theorem d_Md_around_135 : decode prog_12_method_8_code 135 = .ok (.iload_n 2, 1) := by decide +kernel
theorem d_Md_around_136 : decode prog_12_method_8_code 136 = .ok (.iload 6, 2) := by decide +kernel
theorem d_Md_around_138 : decode prog_12_method_8_code 138 = .ok (.iadd, 1) := by decide +kernel
theorem d_Md_around_139 : decode prog_12_method_8_code 139 = .ok (.iaload, 1) := by decide +kernel
theorem d_Md_around_140 : decode prog_12_method_8_code 140 = .ok (.imul, 1) := by decide +kernel
theorem d_Md_around_141 : decode prog_12_method_8_code 141 = .ok (.goto 5, 3) := by decide +kernel
theorem d_Md_around_144 : decode prog_12_method_8_code 144 = .ok (.ldc 71, 2) := by decide +kernel
theorem d_Md_around_146 : decode prog_12_method_8_code 146 = .ok (.ireturn, 1) := by decide +kernel
theorem d_Md_at_0 : decode prog_12_method_38_code 0 = .ok (.aload_n 0, 1) := by decide +kernel
theorem d_Md_at_1 : decode prog_12_method_38_code 1 = .ok (.aload_n 0, 1) := by decide +kernel
theorem d_Md_at_2 : decode prog_12_method_38_code 2 = .ok (.getfield 173, 3) := by decide +kernel
theorem d_Md_at_5 : decode prog_12_method_38_code 5 = .ok (.ifCond .ne 7, 3) := by decide +kernel
theorem d_Md_at_8 : decode prog_12_method_38_code 8 = .ok (.iconst 1, 1) := by decide +kernel
theorem d_Md_at_9 : decode prog_12_method_38_code 9 = .ok (.goto 32, 3) := by decide +kernel
theorem d_Md_at_12 : decode prog_12_method_38_code 12 = .ok (.iload_n 1, 1) := by decide +kernel
theorem d_Md_at_13 : decode prog_12_method_38_code 13 = .ok (.ifCond .lt 23, 3) := by decide +kernel
theorem d_Md_at_16 : decode prog_12_method_38_code 16 = .ok (.iload_n 1, 1) := by decide +kernel
theorem d_Md_at_17 : decode prog_12_method_38_code 17 = .ok (.aload_n 0, 1) := by decide +kernel
theorem d_Md_at_18 : decode prog_12_method_38_code 18 = .ok (.getfield 160, 3) := by decide +kernel
theorem d_Md_at_21 : decode prog_12_method_38_code 21 = .ok (.if_icmp .ge 15, 3) := by decide +kernel
theorem d_Md_at_24 : decode prog_12_method_38_code 24 = .ok (.iload_n 2, 1) := by decide +kernel
theorem d_Md_at_25 : decode prog_12_method_38_code 25 = .ok (.ifCond .lt 11, 3) := by decide +kernel
theorem d_Md_at_28 : decode prog_12_method_38_code 28 = .ok (.iload_n 2, 1) := by decide +kernel
theorem d_Md_at_29 : decode prog_12_method_38_code 29 = .ok (.aload_n 0, 1) := by decide +kernel
theorem d_Md_at_30 : decode prog_12_method_38_code 30 = .ok (.getfield 163, 3) := by decide +kernel
theorem d_Md_at_33 : decode prog_12_method_38_code 33 = .ok (.if_icmp .lt 7, 3) := by decide +kernel
theorem d_Md_at_36 : decode prog_12_method_38_code 36 = .ok (.iconst 2, 1) := by decide +kernel
theorem d_Md_at_37 : decode prog_12_method_38_code 37 = .ok (.goto 4, 3) := by decide +kernel
theorem d_Md_at_40 : decode prog_12_method_38_code 40 = .ok (.iconst 0, 1) := by decide +kernel
theorem d_Md_at_41 : decode prog_12_method_38_code 41 = .ok (.putfield 60, 3) := by decide +kernel
theorem d_Md_at_44 : decode prog_12_method_38_code 44 = .ok (.aload_n 0, 1) := by decide +kernel
theorem d_Md_at_45 : decode prog_12_method_38_code 45 = .ok (.getfield 60, 3) := by decide +kernel
theorem d_Md_at_48 : decode prog_12_method_38_code 48 = .ok (.ifCond .le 7, 3) := by decide +kernel
theorem d_Md_at_51 : decode prog_12_method_38_code 51 = .ok (.iconst 0, 1) := by decide +kernel
theorem d_Md_at_52 : decode prog_12_method_38_code 52 = .ok (.goto 32, 3) := by decide +kernel
theorem d_Md_at_55 : decode prog_12_method_38_code 55 = .ok (.aload_n 0, 1) := by decide +kernel
theorem d_Md_at_56 : decode prog_12_method_38_code 56 = .ok (.getfield 23, 3) := by decide +kernel
theorem d_Md_at_59 : decode prog_12_method_38_code 59 = .ok (.bipush 16, 2) := by decide +kernel
theorem d_Md_at_61 : decode prog_12_method_38_code 61 = .ok (.iload_n 2, 1) := by decide +kernel
theorem d_Md_at_62 : decode prog_12_method_38_code 62 = .ok (.imul, 1) := by decide +kernel
theorem d_Md_at_63 : decode prog_12_method_38_code 63 = .ok (.iload_n 1, 1) := by decide +kernel
theorem d_Md_at_64 : decode prog_12_method_38_code 64 = .ok (.iadd, 1) := by decide +kernel
theorem d_Md_at_65 : decode prog_12_method_38_code 65 = .ok (.baload, 1) := by decide +kernel
theorem d_Md_at_66 : decode prog_12_method_38_code 66 = .ok (.ifCond .eq 17, 3) := by decide +kernel
theorem d_Md_at_69 : decode prog_12_method_38_code 69 = .ok (.aload_n 0, 1) := by decide +kernel
theorem d_Md_at_70 : decode prog_12_method_38_code 70 = .ok (.getfield 29, 3) := by decide +kernel
theorem d_Md_at_73 : decode prog_12_method_38_code 73 = .ok (.bipush 16, 2) := by decide +kernel
theorem d_Md_at_75 : decode prog_12_method_38_code 75 = .ok (.iload_n 2, 1) := by decide +kernel
theorem d_Md_at_76 : decode prog_12_method_38_code 76 = .ok (.imul, 1) := by decide +kernel
theorem d_Md_at_77 : decode prog_12_method_38_code 77 = .ok (.iload_n 1, 1) := by decide +kernel
theorem d_Md_at_78 : decode prog_12_method_38_code 78 = .ok (.iadd, 1) := by decide +kernel
theorem d_Md_at_79 : decode prog_12_method_38_code 79 = .ok (.iaload, 1) := by decide +kernel
theorem d_Md_at_80 : decode prog_12_method_38_code 80 = .ok (.goto 4, 3) := by decide +kernel
theorem d_Md_at_83 : decode prog_12_method_38_code 83 = .ok (.iconst (-1), 1) := by decide +kernel
theorem d_Md_at_84 : decode prog_12_method_38_code 84 = .ok (.ireturn, 1) := by decide +kernel
theorem d_Md_begin_0 : decode prog_12_method_23_code 0 = .ok (.aload_n 0, 1) := by decide +kernel
theorem d_Md_begin_1 : decode prog_12_method_23_code 1 = .ok (.iload_n 1, 1) := by decide +kernel
theorem d_Md_begin_2 : decode prog_12_method_23_code 2 = .ok (.putfield 99, 3) := by decide +kernel
theorem d_Md_begin_5 : decode prog_12_method_23_code 5 = .ok (.aload_n 0, 1) := by decide +kernel
theorem d_Md_begin_6 : decode prog_12_method_23_code 6 = .ok (.iload_n 2, 1) := by decide +kernel
theorem d_Md_begin_7 : decode prog_12_method_23_code 7 = .ok (.putfield 96, 3) := by decide +kernel
theorem d_Md_begin_10 : decode prog_12_method_23_code 10 = .ok (.aload_n 0, 1) := by decide +kernel
theorem d_Md_begin_11 : decode prog_12_method_23_code 11 = .ok (.iconst 0, 1) := by decide +kernel
theorem d_Md_begin_12 : decode prog_12_method_23_code 12 = .ok (.putfield 93, 3) := by decide +kernel
theorem d_Md_begin_15 : decode prog_12_method_23_code 15 = .ok (.iconst 0, 1) := by decide +kernel
theorem d_Md_begin_16 : decode prog_12_method_23_code 16 = .ok (.istore_n 3, 1) := by decide +kernel
theorem d_Md_begin_17 : decode prog_12_method_23_code 17 = .ok (.iload_n 3, 1) := by decide +kernel
theorem d_Md_begin_18 : decode prog_12_method_23_code 18 = .ok (.sipush 1024, 3) := by decide +kernel
theorem d_Md_begin_21 : decode prog_12_method_23_code 21 = .ok (.if_icmp .ge 16, 3) := by decide +kernel
theorem d_Md_begin_24 : decode prog_12_method_23_code 24 = .ok (.aload_n 0, 1) := by decide +kernel
theorem d_Md_begin_25 : decode prog_12_method_23_code 25 = .ok (.getfield 44, 3) := by decide +kernel
theorem d_Md_begin_28 : decode prog_12_method_23_code 28 = .ok (.iload_n 3, 1) := by decide +kernel
theorem d_Md_begin_29 : decode prog_12_method_23_code 29 = .ok (.iconst 0, 1) := by decide +kernel
theorem d_Md_begin_30 : decode prog_12_method_23_code 30 = .ok (.bastore, 1) := by decide +kernel
theorem d_Md_begin_31 : decode prog_12_method_23_code 31 = .ok (.iinc 3 1, 3) := by decide +kernel
theorem d_Md_begin_34 : decode prog_12_method_23_code 34 = .ok (.goto (-17), 3) := by decide +kernel
theorem d_Md_begin_37 : decode prog_12_method_23_code 37 = .ok (.iconst 0, 1) := by decide +kernel
theorem d_Md_begin_38 : decode prog_12_method_23_code 38 = .ok (.istore_n 3, 1) := by decide +kernel
theorem d_Md_begin_39 : decode prog_12_method_23_code 39 = .ok (.iload_n 3, 1) := by decide +kernel
theorem d_Md_begin_40 : decode prog_12_method_23_code 40 = .ok (.sipush 256, 3) := by decide +kernel
theorem d_Md_begin_43 : decode prog_12_method_23_code 43 = .ok (.if_icmp .ge 23, 3) := by decide +kernel
theorem d_Md_begin_46 : decode prog_12_method_23_code 46 = .ok (.aload_n 0, 1) := by decide +kernel
theorem d_Md_begin_47 : decode prog_12_method_23_code 47 = .ok (.getfield 47, 3) := by decide +kernel
theorem d_Md_begin_50 : decode prog_12_method_23_code 50 = .ok (.iload_n 3, 1) := by decide +kernel
theorem d_Md_begin_51 : decode prog_12_method_23_code 51 = .ok (.iconst 0, 1) := by decide +kernel
theorem d_Md_begin_52 : decode prog_12_method_23_code 52 = .ok (.iastore, 1) := by decide +kernel
theorem d_Md_begin_53 : decode prog_12_method_23_code 53 = .ok (.aload_n 0, 1) := by decide +kernel
theorem d_Md_begin_54 : decode prog_12_method_23_code 54 = .ok (.getfield 50, 3) := by decide +kernel
theorem d_Md_begin_57 : decode prog_12_method_23_code 57 = .ok (.iload_n 3, 1) := by decide +kernel
theorem d_Md_begin_58 : decode prog_12_method_23_code 58 = .ok (.iconst 0, 1) := by decide +kernel
theorem d_Md_begin_59 : decode prog_12_method_23_code 59 = .ok (.bastore, 1) := by decide +kernel
theorem d_Md_begin_60 : decode prog_12_method_23_code 60 = .ok (.iinc 3 1, 3) := by decide +kernel
theorem d_Md_begin_63 : decode prog_12_method_23_code 63 = .ok (.goto (-24), 3) := by decide +kernel
theorem d_Md_begin_66 : decode prog_12_method_23_code 66 = .ok (.return_, 1) := by decide +kernel
theorem d_Md_beside_0 : decode prog_12_method_6_code 0 = .ok (.iload_n 0, 1) := by decide +kernel
theorem d_Md_beside_1 : decode prog_12_method_6_code 1 = .ok (.bipush 16, 2) := by decide +kernel
theorem d_Md_beside_3 : decode prog_12_method_6_code 3 = .ok (.irem, 1) := by decide +kernel
theorem d_Md_beside_4 : decode prog_12_method_6_code 4 = .ok (.iload_n 1, 1) := by decide +kernel
theorem d_Md_beside_5 : decode prog_12_method_6_code 5 = .ok (.ifCond .ne 7, 3) := by decide +kernel
theorem d_Md_beside_8 : decode prog_12_method_6_code 8 = .ok (.iconst (-1), 1) := by decide +kernel
theorem d_Md_beside_9 : decode prog_12_method_6_code 9 = .ok (.goto 13, 3) := by decide +kernel
theorem d_Md_beside_12 : decode prog_12_method_6_code 12 = .ok (.iload_n 1, 1) := by decide +kernel
theorem d_Md_beside_13 : decode prog_12_method_6_code 13 = .ok (.iconst 1, 1) := by decide +kernel
theorem d_Md_beside_14 : decode prog_12_method_6_code 14 = .ok (.if_icmp .ne 7, 3) := by decide +kernel
theorem d_Md_beside_17 : decode prog_12_method_6_code 17 = .ok (.iconst 1, 1) := by decide +kernel
theorem d_Md_beside_18 : decode prog_12_method_6_code 18 = .ok (.goto 4, 3) := by decide +kernel
theorem d_Md_beside_21 : decode prog_12_method_6_code 21 = .ok (.iconst 0, 1) := by decide +kernel
theorem d_Md_beside_22 : decode prog_12_method_6_code 22 = .ok (.iadd, 1) := by decide +kernel
theorem d_Md_beside_23 : decode prog_12_method_6_code 23 = .ok (.istore_n 2, 1) := by decide +kernel
theorem d_Md_beside_24 : decode prog_12_method_6_code 24 = .ok (.iload_n 0, 1) := by decide +kernel
theorem d_Md_beside_25 : decode prog_12_method_6_code 25 = .ok (.bipush 16, 2) := by decide +kernel
theorem d_Md_beside_27 : decode prog_12_method_6_code 27 = .ok (.idiv, 1) := by decide +kernel
theorem d_Md_beside_28 : decode prog_12_method_6_code 28 = .ok (.iload_n 1, 1) := by decide +kernel
theorem d_Md_beside_29 : decode prog_12_method_6_code 29 = .ok (.iconst 2, 1) := by decide +kernel
theorem d_Md_beside_30 : decode prog_12_method_6_code 30 = .ok (.if_icmp .ne 7, 3) := by decide +kernel
theorem d_Md_beside_33 : decode prog_12_method_6_code 33 = .ok (.iconst (-1), 1) := by decide +kernel
theorem d_Md_beside_34 : decode prog_12_method_6_code 34 = .ok (.goto 13, 3) := by decide +kernel
theorem d_Md_beside_37 : decode prog_12_method_6_code 37 = .ok (.iload_n 1, 1) := by decide +kernel
theorem d_Md_beside_38 : decode prog_12_method_6_code 38 = .ok (.iconst 3, 1) := by decide +kernel
theorem d_Md_beside_39 : decode prog_12_method_6_code 39 = .ok (.if_icmp .ne 7, 3) := by decide +kernel
theorem d_Md_beside_42 : decode prog_12_method_6_code 42 = .ok (.iconst 1, 1) := by decide +kernel
theorem d_Md_beside_43 : decode prog_12_method_6_code 43 = .ok (.goto 4, 3) := by decide +kernel
theorem d_Md_beside_46 : decode prog_12_method_6_code 46 = .ok (.iconst 0, 1) := by decide +kernel
theorem d_Md_beside_47 : decode prog_12_method_6_code 47 = .ok (.iadd, 1) := by decide +kernel
theorem d_Md_beside_48 : decode prog_12_method_6_code 48 = .ok (.istore_n 3, 1) := by decide +kernel
theorem d_Md_beside_49 : decode prog_12_method_6_code 49 = .ok (.iload_n 2, 1) := by decide +kernel
theorem d_Md_beside_50 : decode prog_12_method_6_code 50 = .ok (.ifCond .lt 19, 3) := by decide +kernel
theorem d_Md_beside_53 : decode prog_12_method_6_code 53 = .ok (.iload_n 2, 1) := by decide +kernel
theorem d_Md_beside_54 : decode prog_12_method_6_code 54 = .ok (.bipush 16, 2) := by decide +kernel
theorem d_Md_beside_56 : decode prog_12_method_6_code 56 = .ok (.if_icmp .ge 13, 3) := by decide +kernel
theorem d_Md_beside_59 : decode prog_12_method_6_code 59 = .ok (.iload_n 3, 1) := by decide +kernel
theorem d_Md_beside_60 : decode prog_12_method_6_code 60 = .ok (.ifCond .lt 9, 3) := by decide +kernel
theorem d_Md_beside_63 : decode prog_12_method_6_code 63 = .ok (.iload_n 3, 1) := by decide +kernel
theorem d_Md_beside_64 : decode prog_12_method_6_code 64 = .ok (.bipush 16, 2) := by decide +kernel
theorem d_Md_beside_66 : decode prog_12_method_6_code 66 = .ok (.if_icmp .lt 7, 3) := by decide +kernel
theorem d_Md_beside_69 : decode prog_12_method_6_code 69 = .ok (.iconst (-1), 1) := by decide +kernel
theorem d_Md_beside_70 : decode prog_12_method_6_code 70 = .ok (.goto 9, 3) := by decide +kernel
theorem d_Md_beside_73 : decode prog_12_method_6_code 73 = .ok (.bipush 16, 2) := by decide +kernel
theorem d_Md_beside_75 : decode prog_12_method_6_code 75 = .ok (.iload_n 3, 1) := by decide +kernel
theorem d_Md_beside_76 : decode prog_12_method_6_code 76 = .ok (.imul, 1) := by decide +kernel
theorem d_Md_beside_77 : decode prog_12_method_6_code 77 = .ok (.iload_n 2, 1) := by decide +kernel
theorem d_Md_beside_78 : decode prog_12_method_6_code 78 = .ok (.iadd, 1) := by decide +kernel
theorem d_Md_beside_79 : decode prog_12_method_6_code 79 = .ok (.ireturn, 1) := by decide +kernel
theorem d_Md_bit_0 : decode prog_12_method_15_code 0 = .ok (.aload_n 0, 1) := by decide +kernel
theorem d_Md_bit_1 : decode prog_12_method_15_code 1 = .ok (.getfield 93, 3) := by decide +kernel
theorem d_Md_bit_4 : decode prog_12_method_15_code 4 = .ok (.aload_n 0, 1) := by decide +kernel
theorem d_Md_bit_5 : decode prog_12_method_15_code 5 = .ok (.getfield 96, 3) := by decide +kernel
theorem d_Md_bit_8 : decode prog_12_method_15_code 8 = .ok (.if_icmp .ne 5, 3) := by decide +kernel
theorem d_Md_bit_11 : decode prog_12_method_15_code 11 = .ok (.iconst (-1), 1) := by decide +kernel
theorem d_Md_bit_12 : decode prog_12_method_15_code 12 = .ok (.ireturn, 1) := by decide +kernel
theorem d_Md_bit_13 : decode prog_12_method_15_code 13 = .ok (.iload_n 1, 1) := by decide +kernel
theorem d_Md_bit_14 : decode prog_12_method_15_code 14 = .ok (.istore_n 2, 1) := by decide +kernel
theorem d_Md_bit_15 : decode prog_12_method_15_code 15 = .ok (.aload_n 0, 1) := by decide +kernel
theorem d_Md_bit_16 : decode prog_12_method_15_code 16 = .ok (.getfield 99, 3) := by decide +kernel
theorem d_Md_bit_19 : decode prog_12_method_15_code 19 = .ok (.iconst 2, 1) := by decide +kernel
theorem d_Md_bit_20 : decode prog_12_method_15_code 20 = .ok (.if_icmp .ne 29, 3) := by decide +kernel
theorem d_Md_bit_23 : decode prog_12_method_15_code 23 = .ok (.aload_n 0, 1) := by decide +kernel
theorem d_Md_bit_24 : decode prog_12_method_15_code 24 = .ok (.getfield 38, 3) := by decide +kernel
theorem d_Md_bit_27 : decode prog_12_method_15_code 27 = .ok (.aload_n 0, 1) := by decide +kernel
theorem d_Md_bit_28 : decode prog_12_method_15_code 28 = .ok (.getfield 93, 3) := by decide +kernel
theorem d_Md_bit_31 : decode prog_12_method_15_code 31 = .ok (.bipush 8, 2) := by decide +kernel
theorem d_Md_bit_33 : decode prog_12_method_15_code 33 = .ok (.idiv, 1) := by decide +kernel
theorem d_Md_bit_34 : decode prog_12_method_15_code 34 = .ok (.iaload, 1) := by decide +kernel
theorem d_Md_bit_35 : decode prog_12_method_15_code 35 = .ok (.bipush 7, 2) := by decide +kernel
theorem d_Md_bit_37 : decode prog_12_method_15_code 37 = .ok (.aload_n 0, 1) := by decide +kernel
theorem d_Md_bit_38 : decode prog_12_method_15_code 38 = .ok (.getfield 93, 3) := by decide +kernel
theorem d_Md_bit_41 : decode prog_12_method_15_code 41 = .ok (.bipush 8, 2) := by decide +kernel
theorem d_Md_bit_43 : decode prog_12_method_15_code 43 = .ok (.irem, 1) := by decide +kernel
theorem d_Md_bit_44 : decode prog_12_method_15_code 44 = .ok (.isub, 1) := by decide +kernel
theorem d_Md_bit_45 : decode prog_12_method_15_code 45 = .ok (.ishr, 1) := by decide +kernel
theorem d_Md_bit_46 : decode prog_12_method_15_code 46 = .ok (.iconst 1, 1) := by decide +kernel
theorem d_Md_bit_47 : decode prog_12_method_15_code 47 = .ok (.iand, 1) := by decide +kernel
theorem d_Md_bit_48 : decode prog_12_method_15_code 48 = .ok (.istore_n 2, 1) := by decide +kernel
theorem d_Md_bit_49 : decode prog_12_method_15_code 49 = .ok (.aload_n 0, 1) := by decide +kernel
theorem d_Md_bit_50 : decode prog_12_method_15_code 50 = .ok (.getfield 99, 3) := by decide +kernel
theorem d_Md_bit_53 : decode prog_12_method_15_code 53 = .ok (.ifCond .ne 54, 3) := by decide +kernel
theorem d_Md_bit_56 : decode prog_12_method_15_code 56 = .ok (.aload_n 0, 1) := by decide +kernel
theorem d_Md_bit_57 : decode prog_12_method_15_code 57 = .ok (.getfield 32, 3) := by decide +kernel
theorem d_Md_bit_60 : decode prog_12_method_15_code 60 = .ok (.aload_n 0, 1) := by decide +kernel
theorem d_Md_bit_61 : decode prog_12_method_15_code 61 = .ok (.getfield 93, 3) := by decide +kernel
theorem d_Md_bit_64 : decode prog_12_method_15_code 64 = .ok (.bipush 8, 2) := by decide +kernel
theorem d_Md_bit_66 : decode prog_12_method_15_code 66 = .ok (.idiv, 1) := by decide +kernel
theorem d_Md_bit_67 : decode prog_12_method_15_code 67 = .ok (.aload_n 0, 1) := by decide +kernel
theorem d_Md_bit_68 : decode prog_12_method_15_code 68 = .ok (.getfield 93, 3) := by decide +kernel
theorem d_Md_bit_71 : decode prog_12_method_15_code 71 = .ok (.bipush 8, 2) := by decide +kernel
theorem d_Md_bit_73 : decode prog_12_method_15_code 73 = .ok (.irem, 1) := by decide +kernel
theorem d_Md_bit_74 : decode prog_12_method_15_code 74 = .ok (.ifCond .ne 7, 3) := by decide +kernel
theorem d_Md_bit_77 : decode prog_12_method_15_code 77 = .ok (.iconst 0, 1) := by decide +kernel
theorem d_Md_bit_78 : decode prog_12_method_15_code 78 = .ok (.goto 15, 3) := by decide +kernel
theorem d_Md_bit_81 : decode prog_12_method_15_code 81 = .ok (.aload_n 0, 1) := by decide +kernel
theorem d_Md_bit_82 : decode prog_12_method_15_code 82 = .ok (.getfield 32, 3) := by decide +kernel
theorem d_Md_bit_85 : decode prog_12_method_15_code 85 = .ok (.aload_n 0, 1) := by decide +kernel
theorem d_Md_bit_86 : decode prog_12_method_15_code 86 = .ok (.getfield 93, 3) := by decide +kernel
theorem d_Md_bit_89 : decode prog_12_method_15_code 89 = .ok (.bipush 8, 2) := by decide +kernel
theorem d_Md_bit_91 : decode prog_12_method_15_code 91 = .ok (.idiv, 1) := by decide +kernel
theorem d_Md_bit_92 : decode prog_12_method_15_code 92 = .ok (.iaload, 1) := by decide +kernel
theorem d_Md_bit_93 : decode prog_12_method_15_code 93 = .ok (.iload_n 1, 1) := by decide +kernel
theorem d_Md_bit_94 : decode prog_12_method_15_code 94 = .ok (.bipush 7, 2) := by decide +kernel
theorem d_Md_bit_96 : decode prog_12_method_15_code 96 = .ok (.aload_n 0, 1) := by decide +kernel
theorem d_Md_bit_97 : decode prog_12_method_15_code 97 = .ok (.getfield 93, 3) := by decide +kernel
theorem d_Md_bit_100 : decode prog_12_method_15_code 100 = .ok (.bipush 8, 2) := by decide +kernel
theorem d_Md_bit_102 : decode prog_12_method_15_code 102 = .ok (.irem, 1) := by decide +kernel
theorem d_Md_bit_103 : decode prog_12_method_15_code 103 = .ok (.isub, 1) := by decide +kernel
theorem d_Md_bit_104 : decode prog_12_method_15_code 104 = .ok (.ishl, 1) := by decide +kernel
theorem d_Md_bit_105 : decode prog_12_method_15_code 105 = .ok (.iadd, 1) := by decide +kernel
theorem d_Md_bit_106 : decode prog_12_method_15_code 106 = .ok (.iastore, 1) := by decide +kernel
theorem d_Md_bit_107 : decode prog_12_method_15_code 107 = .ok (.aload_n 0, 1) := by decide +kernel
theorem d_Md_bit_108 : decode prog_12_method_15_code 108 = .ok (.dup, 1) := by decide +kernel
theorem d_Md_bit_109 : decode prog_12_method_15_code 109 = .ok (.getfield 93, 3) := by decide +kernel
theorem d_Md_bit_112 : decode prog_12_method_15_code 112 = .ok (.iconst 1, 1) := by decide +kernel
theorem d_Md_bit_113 : decode prog_12_method_15_code 113 = .ok (.iadd, 1) := by decide +kernel
theorem d_Md_bit_114 : decode prog_12_method_15_code 114 = .ok (.putfield 93, 3) := by decide +kernel
theorem d_Md_bit_117 : decode prog_12_method_15_code 117 = .ok (.iload_n 2, 1) := by decide +kernel
theorem d_Md_bit_118 : decode prog_12_method_15_code 118 = .ok (.ireturn, 1) := by decide +kernel
theorem d_Md_byteAt_0 : decode prog_12_method_28_code 0 = .ok (.aload_n 0, 1) := by decide +kernel
theorem d_Md_byteAt_1 : decode prog_12_method_28_code 1 = .ok (.iload_n 1, 1) := by decide +kernel
theorem d_Md_byteAt_2 : decode prog_12_method_28_code 2 = .ok (.ifCond .lt 11, 3) := by decide +kernel
theorem d_Md_byteAt_5 : decode prog_12_method_28_code 5 = .ok (.iload_n 1, 1) := by decide +kernel
theorem d_Md_byteAt_6 : decode prog_12_method_28_code 6 = .ok (.aload_n 0, 1) := by decide +kernel
theorem d_Md_byteAt_7 : decode prog_12_method_28_code 7 = .ok (.invokevirtual 148, 3) := by decide +kernel
theorem d_Md_byteAt_10 : decode prog_12_method_28_code 10 = .ok (.if_icmp .lt 7, 3) := by decide +kernel
theorem d_Md_byteAt_13 : decode prog_12_method_28_code 13 = .ok (.iconst 1, 1) := by decide +kernel
theorem d_Md_byteAt_14 : decode prog_12_method_28_code 14 = .ok (.goto 4, 3) := by decide +kernel
theorem d_Md_byteAt_17 : decode prog_12_method_28_code 17 = .ok (.iconst 0, 1) := by decide +kernel
theorem d_Md_byteAt_18 : decode prog_12_method_28_code 18 = .ok (.putfield 60, 3) := by decide +kernel
theorem d_Md_byteAt_21 : decode prog_12_method_28_code 21 = .ok (.aload_n 0, 1) := by decide +kernel
theorem d_Md_byteAt_22 : decode prog_12_method_28_code 22 = .ok (.getfield 60, 3) := by decide +kernel
theorem d_Md_byteAt_25 : decode prog_12_method_28_code 25 = .ok (.ifCond .le 7, 3) := by decide +kernel
theorem d_Md_byteAt_28 : decode prog_12_method_28_code 28 = .ok (.iconst 0, 1) := by decide +kernel
theorem d_Md_byteAt_29 : decode prog_12_method_28_code 29 = .ok (.goto 9, 3) := by decide +kernel
theorem d_Md_byteAt_32 : decode prog_12_method_28_code 32 = .ok (.aload_n 0, 1) := by decide +kernel
theorem d_Md_byteAt_33 : decode prog_12_method_28_code 33 = .ok (.getfield 32, 3) := by decide +kernel
theorem d_Md_byteAt_36 : decode prog_12_method_28_code 36 = .ok (.iload_n 1, 1) := by decide +kernel
theorem d_Md_byteAt_37 : decode prog_12_method_28_code 37 = .ok (.iaload, 1) := by decide +kernel
theorem d_Md_byteAt_38 : decode prog_12_method_28_code 38 = .ok (.ireturn, 1) := by decide +kernel
theorem d_Md_clear_0 : decode prog_12_method_43_code 0 = .ok (.aload_n 0, 1) := by decide +kernel
theorem d_Md_clear_1 : decode prog_12_method_43_code 1 = .ok (.iconst 0, 1) := by decide +kernel
theorem d_Md_clear_2 : decode prog_12_method_43_code 2 = .ok (.putfield 60, 3) := by decide +kernel
theorem d_Md_clear_5 : decode prog_12_method_43_code 5 = .ok (.iconst 0, 1) := by decide +kernel
theorem d_Md_clear_6 : decode prog_12_method_43_code 6 = .ok (.istore_n 1, 1) := by decide +kernel
theorem d_Md_clear_7 : decode prog_12_method_43_code 7 = .ok (.iload_n 1, 1) := by decide +kernel
theorem d_Md_clear_8 : decode prog_12_method_43_code 8 = .ok (.sipush 256, 3) := by decide +kernel
theorem d_Md_clear_11 : decode prog_12_method_43_code 11 = .ok (.if_icmp .ge 23, 3) := by decide +kernel
theorem d_Md_clear_14 : decode prog_12_method_43_code 14 = .ok (.aload_n 0, 1) := by decide +kernel
theorem d_Md_clear_15 : decode prog_12_method_43_code 15 = .ok (.getfield 7, 3) := by decide +kernel
theorem d_Md_clear_18 : decode prog_12_method_43_code 18 = .ok (.iload_n 1, 1) := by decide +kernel
theorem d_Md_clear_19 : decode prog_12_method_43_code 19 = .ok (.iconst 0, 1) := by decide +kernel
theorem d_Md_clear_20 : decode prog_12_method_43_code 20 = .ok (.bastore, 1) := by decide +kernel
theorem d_Md_clear_21 : decode prog_12_method_43_code 21 = .ok (.aload_n 0, 1) := by decide +kernel
theorem d_Md_clear_22 : decode prog_12_method_43_code 22 = .ok (.getfield 13, 3) := by decide +kernel
theorem d_Md_clear_25 : decode prog_12_method_43_code 25 = .ok (.iload_n 1, 1) := by decide +kernel
theorem d_Md_clear_26 : decode prog_12_method_43_code 26 = .ok (.iconst 0, 1) := by decide +kernel
theorem d_Md_clear_27 : decode prog_12_method_43_code 27 = .ok (.iastore, 1) := by decide +kernel
theorem d_Md_clear_28 : decode prog_12_method_43_code 28 = .ok (.iinc 1 1, 3) := by decide +kernel
theorem d_Md_clear_31 : decode prog_12_method_43_code 31 = .ok (.goto (-24), 3) := by decide +kernel
theorem d_Md_clear_34 : decode prog_12_method_43_code 34 = .ok (.iconst 0, 1) := by decide +kernel
theorem d_Md_clear_35 : decode prog_12_method_43_code 35 = .ok (.istore_n 1, 1) := by decide +kernel
theorem d_Md_clear_36 : decode prog_12_method_43_code 36 = .ok (.iload_n 1, 1) := by decide +kernel
theorem d_Md_clear_37 : decode prog_12_method_43_code 37 = .ok (.iconst 4, 1) := by decide +kernel
theorem d_Md_clear_38 : decode prog_12_method_43_code 38 = .ok (.if_icmp .ge 16, 3) := by decide +kernel
theorem d_Md_clear_41 : decode prog_12_method_43_code 41 = .ok (.aload_n 0, 1) := by decide +kernel
theorem d_Md_clear_42 : decode prog_12_method_43_code 42 = .ok (.getfield 35, 3) := by decide +kernel
theorem d_Md_clear_45 : decode prog_12_method_43_code 45 = .ok (.iload_n 1, 1) := by decide +kernel
theorem d_Md_clear_46 : decode prog_12_method_43_code 46 = .ok (.iconst 0, 1) := by decide +kernel
theorem d_Md_clear_47 : decode prog_12_method_43_code 47 = .ok (.iastore, 1) := by decide +kernel
theorem d_Md_clear_48 : decode prog_12_method_43_code 48 = .ok (.iinc 1 1, 3) := by decide +kernel
theorem d_Md_clear_51 : decode prog_12_method_43_code 51 = .ok (.goto (-15), 3) := by decide +kernel
theorem d_Md_clear_54 : decode prog_12_method_43_code 54 = .ok (.aload_n 0, 1) := by decide +kernel
theorem d_Md_clear_55 : decode prog_12_method_43_code 55 = .ok (.iconst 0, 1) := by decide +kernel
theorem d_Md_clear_56 : decode prog_12_method_43_code 56 = .ok (.putfield 145, 3) := by decide +kernel
theorem d_Md_clear_59 : decode prog_12_method_43_code 59 = .ok (.aload_n 0, 1) := by decide +kernel
theorem d_Md_clear_60 : decode prog_12_method_43_code 60 = .ok (.iconst 0, 1) := by decide +kernel
theorem d_Md_clear_61 : decode prog_12_method_43_code 61 = .ok (.putfield 151, 3) := by decide +kernel
theorem d_Md_clear_64 : decode prog_12_method_43_code 64 = .ok (.aload_n 0, 1) := by decide +kernel
theorem d_Md_clear_65 : decode prog_12_method_43_code 65 = .ok (.iconst 0, 1) := by decide +kernel
theorem d_Md_clear_66 : decode prog_12_method_43_code 66 = .ok (.putfield 173, 3) := by decide +kernel
theorem d_Md_clear_69 : decode prog_12_method_43_code 69 = .ok (.return_, 1) := by decide +kernel
theorem d_Md_decode_0 : decode prog_12_method_37_code 0 = .ok (.aload_n 0, 1) := by decide +kernel
theorem d_Md_decode_1 : decode prog_12_method_37_code 1 = .ok (.iload_n 1, 1) := by decide +kernel
theorem d_Md_decode_2 : decode prog_12_method_37_code 2 = .ok (.invokestatic 130, 3) := by decide +kernel
theorem d_Md_decode_5 : decode prog_12_method_37_code 5 = .ok (.ifCond .eq 7, 3) := by decide +kernel
theorem d_Md_decode_8 : decode prog_12_method_37_code 8 = .ok (.iconst 0, 1) := by decide +kernel
theorem d_Md_decode_9 : decode prog_12_method_37_code 9 = .ok (.goto 4, 3) := by decide +kernel
theorem d_Md_decode_12 : decode prog_12_method_37_code 12 = .ok (.iconst 1, 1) := by decide +kernel
theorem d_Md_decode_13 : decode prog_12_method_37_code 13 = .ok (.putfield 60, 3) := by decide +kernel
theorem d_Md_decode_16 : decode prog_12_method_37_code 16 = .ok (.aload_n 0, 1) := by decide +kernel
theorem d_Md_decode_17 : decode prog_12_method_37_code 17 = .ok (.getfield 60, 3) := by decide +kernel
theorem d_Md_decode_20 : decode prog_12_method_37_code 20 = .ok (.ifCond .le 5, 3) := by decide +kernel
theorem d_Md_decode_23 : decode prog_12_method_37_code 23 = .ok (.iconst 0, 1) := by decide +kernel
theorem d_Md_decode_24 : decode prog_12_method_37_code 24 = .ok (.ireturn, 1) := by decide +kernel
theorem d_Md_decode_25 : decode prog_12_method_37_code 25 = .ok (.aload_n 0, 1) := by decide +kernel
theorem d_Md_decode_26 : decode prog_12_method_37_code 26 = .ok (.iconst 2, 1) := by decide +kernel
theorem d_Md_decode_27 : decode prog_12_method_37_code 27 = .ok (.iload_n 1, 1) := by decide +kernel
theorem d_Md_decode_28 : decode prog_12_method_37_code 28 = .ok (.bipush 8, 2) := by decide +kernel
theorem d_Md_decode_30 : decode prog_12_method_37_code 30 = .ok (.aload_n 0, 1) := by decide +kernel
theorem d_Md_decode_31 : decode prog_12_method_37_code 31 = .ok (.getfield 151, 3) := by decide +kernel
theorem d_Md_decode_34 : decode prog_12_method_37_code 34 = .ok (.imul, 1) := by decide +kernel
theorem d_Md_decode_35 : decode prog_12_method_37_code 35 = .ok (.if_icmp .ge 7, 3) := by decide +kernel
theorem d_Md_decode_38 : decode prog_12_method_37_code 38 = .ok (.iload_n 1, 1) := by decide +kernel
theorem d_Md_decode_39 : decode prog_12_method_37_code 39 = .ok (.goto 10, 3) := by decide +kernel
theorem d_Md_decode_42 : decode prog_12_method_37_code 42 = .ok (.bipush 8, 2) := by decide +kernel
theorem d_Md_decode_44 : decode prog_12_method_37_code 44 = .ok (.aload_n 0, 1) := by decide +kernel
theorem d_Md_decode_45 : decode prog_12_method_37_code 45 = .ok (.getfield 151, 3) := by decide +kernel
theorem d_Md_decode_48 : decode prog_12_method_37_code 48 = .ok (.imul, 1) := by decide +kernel
theorem d_Md_decode_49 : decode prog_12_method_37_code 49 = .ok (.invokevirtual 134, 3) := by decide +kernel
theorem d_Md_decode_52 : decode prog_12_method_37_code 52 = .ok (.aload_n 0, 1) := by decide +kernel
theorem d_Md_decode_53 : decode prog_12_method_37_code 53 = .ok (.aload_n 0, 1) := by decide +kernel
theorem d_Md_decode_54 : decode prog_12_method_37_code 54 = .ok (.invokevirtual 169, 3) := by decide +kernel
theorem d_Md_decode_57 : decode prog_12_method_37_code 57 = .ok (.putfield 173, 3) := by decide +kernel
theorem d_Md_decode_60 : decode prog_12_method_37_code 60 = .ok (.aload_n 0, 1) := by decide +kernel
theorem d_Md_decode_61 : decode prog_12_method_37_code 61 = .ok (.getfield 173, 3) := by decide +kernel
theorem d_Md_decode_64 : decode prog_12_method_37_code 64 = .ok (.ifCond .ne 5, 3) := by decide +kernel
theorem d_Md_decode_67 : decode prog_12_method_37_code 67 = .ok (.iconst (-1), 1) := by decide +kernel
theorem d_Md_decode_68 : decode prog_12_method_37_code 68 = .ok (.ireturn, 1) := by decide +kernel
theorem d_Md_decode_69 : decode prog_12_method_37_code 69 = .ok (.iconst 0, 1) := by decide +kernel
theorem d_Md_decode_70 : decode prog_12_method_37_code 70 = .ok (.istore_n 2, 1) := by decide +kernel
theorem d_Md_decode_71 : decode prog_12_method_37_code 71 = .ok (.iload_n 2, 1) := by decide +kernel
theorem d_Md_decode_72 : decode prog_12_method_37_code 72 = .ok (.sipush 256, 3) := by decide +kernel
theorem d_Md_decode_75 : decode prog_12_method_37_code 75 = .ok (.if_icmp .ge 16, 3) := by decide +kernel
theorem d_Md_decode_78 : decode prog_12_method_37_code 78 = .ok (.aload_n 0, 1) := by decide +kernel
theorem d_Md_decode_79 : decode prog_12_method_37_code 79 = .ok (.getfield 29, 3) := by decide +kernel
theorem d_Md_decode_82 : decode prog_12_method_37_code 82 = .ok (.iload_n 2, 1) := by decide +kernel
theorem d_Md_decode_83 : decode prog_12_method_37_code 83 = .ok (.iconst 0, 1) := by decide +kernel
theorem d_Md_decode_84 : decode prog_12_method_37_code 84 = .ok (.iastore, 1) := by decide +kernel
theorem d_Md_decode_85 : decode prog_12_method_37_code 85 = .ok (.iinc 2 1, 3) := by decide +kernel
theorem d_Md_decode_88 : decode prog_12_method_37_code 88 = .ok (.goto (-17), 3) := by decide +kernel
theorem d_Md_decode_91 : decode prog_12_method_37_code 91 = .ok (.aload_n 0, 1) := by decide +kernel
theorem d_Md_decode_92 : decode prog_12_method_37_code 92 = .ok (.aload_n 0, 1) := by decide +kernel
theorem d_Md_decode_93 : decode prog_12_method_37_code 93 = .ok (.getfield 23, 3) := by decide +kernel
theorem d_Md_decode_96 : decode prog_12_method_37_code 96 = .ok (.aload_n 0, 1) := by decide +kernel
theorem d_Md_decode_97 : decode prog_12_method_37_code 97 = .ok (.getfield 29, 3) := by decide +kernel
theorem d_Md_decode_100 : decode prog_12_method_37_code 100 = .ok (.aload_n 0, 1) := by decide +kernel
theorem d_Md_decode_101 : decode prog_12_method_37_code 101 = .ok (.getfield 157, 3) := by decide +kernel
theorem d_Md_decode_104 : decode prog_12_method_37_code 104 = .ok (.invokevirtual 141, 3) := by decide +kernel
theorem d_Md_decode_107 : decode prog_12_method_37_code 107 = .ok (.aload_n 0, 1) := by decide +kernel
theorem d_Md_decode_108 : decode prog_12_method_37_code 108 = .ok (.aload_n 0, 1) := by decide +kernel
theorem d_Md_decode_109 : decode prog_12_method_37_code 109 = .ok (.getfield 23, 3) := by decide +kernel
theorem d_Md_decode_112 : decode prog_12_method_37_code 112 = .ok (.aload_n 0, 1) := by decide +kernel
theorem d_Md_decode_113 : decode prog_12_method_37_code 113 = .ok (.getfield 26, 3) := by decide +kernel
theorem d_Md_decode_116 : decode prog_12_method_37_code 116 = .ok (.invokevirtual 76, 3) := by decide +kernel
theorem d_Md_decode_119 : decode prog_12_method_37_code 119 = .ok (.istore_n 2, 1) := by decide +kernel
theorem d_Md_decode_120 : decode prog_12_method_37_code 120 = .ok (.iconst 0, 1) := by decide +kernel
theorem d_Md_decode_121 : decode prog_12_method_37_code 121 = .ok (.istore_n 3, 1) := by decide +kernel
theorem d_Md_decode_122 : decode prog_12_method_37_code 122 = .ok (.iload_n 3, 1) := by decide +kernel
theorem d_Md_decode_123 : decode prog_12_method_37_code 123 = .ok (.sipush 256, 3) := by decide +kernel
theorem d_Md_decode_126 : decode prog_12_method_37_code 126 = .ok (.if_icmp .ge 40, 3) := by decide +kernel
theorem d_Md_decode_129 : decode prog_12_method_37_code 129 = .ok (.aload_n 0, 1) := by decide +kernel
theorem d_Md_decode_130 : decode prog_12_method_37_code 130 = .ok (.getfield 29, 3) := by decide +kernel
theorem d_Md_decode_133 : decode prog_12_method_37_code 133 = .ok (.iload_n 3, 1) := by decide +kernel
theorem d_Md_decode_134 : decode prog_12_method_37_code 134 = .ok (.aload_n 0, 1) := by decide +kernel
theorem d_Md_decode_135 : decode prog_12_method_37_code 135 = .ok (.getfield 50, 3) := by decide +kernel
theorem d_Md_decode_138 : decode prog_12_method_37_code 138 = .ok (.iload_n 3, 1) := by decide +kernel
theorem d_Md_decode_139 : decode prog_12_method_37_code 139 = .ok (.baload, 1) := by decide +kernel
theorem d_Md_decode_140 : decode prog_12_method_37_code 140 = .ok (.ifCond .eq 13, 3) := by decide +kernel
theorem d_Md_decode_143 : decode prog_12_method_37_code 143 = .ok (.aload_n 0, 1) := by decide +kernel
theorem d_Md_decode_144 : decode prog_12_method_37_code 144 = .ok (.getfield 47, 3) := by decide +kernel
theorem d_Md_decode_147 : decode prog_12_method_37_code 147 = .ok (.iload_n 3, 1) := by decide +kernel
theorem d_Md_decode_148 : decode prog_12_method_37_code 148 = .ok (.iaload, 1) := by decide +kernel
theorem d_Md_decode_149 : decode prog_12_method_37_code 149 = .ok (.ineg, 1) := by decide +kernel
theorem d_Md_decode_150 : decode prog_12_method_37_code 150 = .ok (.goto 9, 3) := by decide +kernel
theorem d_Md_decode_153 : decode prog_12_method_37_code 153 = .ok (.aload_n 0, 1) := by decide +kernel
theorem d_Md_decode_154 : decode prog_12_method_37_code 154 = .ok (.getfield 47, 3) := by decide +kernel
theorem d_Md_decode_157 : decode prog_12_method_37_code 157 = .ok (.iload_n 3, 1) := by decide +kernel
theorem d_Md_decode_158 : decode prog_12_method_37_code 158 = .ok (.iaload, 1) := by decide +kernel
theorem d_Md_decode_159 : decode prog_12_method_37_code 159 = .ok (.iastore, 1) := by decide +kernel
theorem d_Md_decode_160 : decode prog_12_method_37_code 160 = .ok (.iinc 3 1, 3) := by decide +kernel
theorem d_Md_decode_163 : decode prog_12_method_37_code 163 = .ok (.goto (-41), 3) := by decide +kernel
theorem d_Md_decode_166 : decode prog_12_method_37_code 166 = .ok (.aload_n 0, 1) := by decide +kernel
theorem d_Md_decode_167 : decode prog_12_method_37_code 167 = .ok (.getfield 26, 3) := by decide +kernel
theorem d_Md_decode_170 : decode prog_12_method_37_code 170 = .ok (.aload_n 0, 1) := by decide +kernel
theorem d_Md_decode_171 : decode prog_12_method_37_code 171 = .ok (.getfield 29, 3) := by decide +kernel
theorem d_Md_decode_174 : decode prog_12_method_37_code 174 = .ok (.invokestatic 177, 3) := by decide +kernel
theorem d_Md_decode_177 : decode prog_12_method_37_code 177 = .ok (.iconst 0, 1) := by decide +kernel
theorem d_Md_decode_178 : decode prog_12_method_37_code 178 = .ok (.istore_n 3, 1) := by decide +kernel
theorem d_Md_decode_179 : decode prog_12_method_37_code 179 = .ok (.iload_n 3, 1) := by decide +kernel
theorem d_Md_decode_180 : decode prog_12_method_37_code 180 = .ok (.sipush 256, 3) := by decide +kernel
theorem d_Md_decode_183 : decode prog_12_method_37_code 183 = .ok (.if_icmp .ge 52, 3) := by decide +kernel
theorem d_Md_decode_186 : decode prog_12_method_37_code 186 = .ok (.aload_n 0, 1) := by decide +kernel
theorem d_Md_decode_187 : decode prog_12_method_37_code 187 = .ok (.getfield 29, 3) := by decide +kernel
theorem d_Md_decode_190 : decode prog_12_method_37_code 190 = .ok (.iload_n 3, 1) := by decide +kernel
theorem d_Md_decode_191 : decode prog_12_method_37_code 191 = .ok (.aload_n 0, 1) := by decide +kernel
theorem d_Md_decode_192 : decode prog_12_method_37_code 192 = .ok (.getfield 29, 3) := by decide +kernel
theorem d_Md_decode_195 : decode prog_12_method_37_code 195 = .ok (.iload_n 3, 1) := by decide +kernel
theorem d_Md_decode_196 : decode prog_12_method_37_code 196 = .ok (.iaload, 1) := by decide +kernel
theorem d_Md_decode_197 : decode prog_12_method_37_code 197 = .ok (.ifCond .ge 7, 3) := by decide +kernel
theorem d_Md_decode_200 : decode prog_12_method_37_code 200 = .ok (.iconst 0, 1) := by decide +kernel
theorem d_Md_decode_201 : decode prog_12_method_37_code 201 = .ok (.goto 27, 3) := by decide +kernel
theorem d_Md_decode_204 : decode prog_12_method_37_code 204 = .ok (.aload_n 0, 1) := by decide +kernel
theorem d_Md_decode_205 : decode prog_12_method_37_code 205 = .ok (.getfield 29, 3) := by decide +kernel
theorem d_Md_decode_208 : decode prog_12_method_37_code 208 = .ok (.iload_n 3, 1) := by decide +kernel
theorem d_Md_decode_209 : decode prog_12_method_37_code 209 = .ok (.iaload, 1) := by decide +kernel
theorem d_Md_decode_210 : decode prog_12_method_37_code 210 = .ok (.sipush 255, 3) := by decide +kernel
theorem d_Md_decode_213 : decode prog_12_method_37_code 213 = .ok (.if_icmp .le 9, 3) := by decide +kernel
theorem d_Md_decode_216 : decode prog_12_method_37_code 216 = .ok (.sipush 255, 3) := by decide +kernel
theorem d_Md_decode_219 : decode prog_12_method_37_code 219 = .ok (.goto 9, 3) := by decide +kernel
theorem d_Md_decode_222 : decode prog_12_method_37_code 222 = .ok (.aload_n 0, 1) := by decide +kernel
theorem d_Md_decode_223 : decode prog_12_method_37_code 223 = .ok (.getfield 29, 3) := by decide +kernel
theorem d_Md_decode_226 : decode prog_12_method_37_code 226 = .ok (.iload_n 3, 1) := by decide +kernel
theorem d_Md_decode_227 : decode prog_12_method_37_code 227 = .ok (.iaload, 1) := by decide +kernel
theorem d_Md_decode_228 : decode prog_12_method_37_code 228 = .ok (.iastore, 1) := by decide +kernel
theorem d_Md_decode_229 : decode prog_12_method_37_code 229 = .ok (.iinc 3 1, 3) := by decide +kernel
theorem d_Md_decode_232 : decode prog_12_method_37_code 232 = .ok (.goto (-53), 3) := by decide +kernel
theorem d_Md_decode_235 : decode prog_12_method_37_code 235 = .ok (.aload_n 0, 1) := by decide +kernel
theorem d_Md_decode_236 : decode prog_12_method_37_code 236 = .ok (.getfield 93, 3) := by decide +kernel
theorem d_Md_decode_239 : decode prog_12_method_37_code 239 = .ok (.ireturn, 1) := by decide +kernel
theorem d_Md_encode_0 : decode prog_12_method_26_code 0 = .ok (.aload_n 0, 1) := by decide +kernel
theorem d_Md_encode_1 : decode prog_12_method_26_code 1 = .ok (.iload_n 1, 1) := by decide +kernel
theorem d_Md_encode_2 : decode prog_12_method_26_code 2 = .ok (.invokestatic 130, 3) := by decide +kernel
theorem d_Md_encode_5 : decode prog_12_method_26_code 5 = .ok (.ifCond .eq 7, 3) := by decide +kernel
theorem d_Md_encode_8 : decode prog_12_method_26_code 8 = .ok (.iconst 0, 1) := by decide +kernel
theorem d_Md_encode_9 : decode prog_12_method_26_code 9 = .ok (.goto 4, 3) := by decide +kernel
theorem d_Md_encode_12 : decode prog_12_method_26_code 12 = .ok (.iconst 1, 1) := by decide +kernel
theorem d_Md_encode_13 : decode prog_12_method_26_code 13 = .ok (.putfield 60, 3) := by decide +kernel
theorem d_Md_encode_16 : decode prog_12_method_26_code 16 = .ok (.aload_n 0, 1) := by decide +kernel
theorem d_Md_encode_17 : decode prog_12_method_26_code 17 = .ok (.getfield 60, 3) := by decide +kernel
theorem d_Md_encode_20 : decode prog_12_method_26_code 20 = .ok (.ifCond .le 5, 3) := by decide +kernel
theorem d_Md_encode_23 : decode prog_12_method_26_code 23 = .ok (.iconst 0, 1) := by decide +kernel
theorem d_Md_encode_24 : decode prog_12_method_26_code 24 = .ok (.ireturn, 1) := by decide +kernel
theorem d_Md_encode_25 : decode prog_12_method_26_code 25 = .ok (.aload_n 0, 1) := by decide +kernel
theorem d_Md_encode_26 : decode prog_12_method_26_code 26 = .ok (.invokevirtual 85, 3) := by decide +kernel
theorem d_Md_encode_29 : decode prog_12_method_26_code 29 = .ok (.istore_n 2, 1) := by decide +kernel
theorem d_Md_encode_30 : decode prog_12_method_26_code 30 = .ok (.iconst 0, 1) := by decide +kernel
theorem d_Md_encode_31 : decode prog_12_method_26_code 31 = .ok (.istore_n 3, 1) := by decide +kernel
theorem d_Md_encode_32 : decode prog_12_method_26_code 32 = .ok (.iload_n 3, 1) := by decide +kernel
theorem d_Md_encode_33 : decode prog_12_method_26_code 33 = .ok (.iconst 4, 1) := by decide +kernel
theorem d_Md_encode_34 : decode prog_12_method_26_code 34 = .ok (.if_icmp .ge 16, 3) := by decide +kernel
theorem d_Md_encode_37 : decode prog_12_method_26_code 37 = .ok (.aload_n 0, 1) := by decide +kernel
theorem d_Md_encode_38 : decode prog_12_method_26_code 38 = .ok (.getfield 35, 3) := by decide +kernel
theorem d_Md_encode_41 : decode prog_12_method_26_code 41 = .ok (.iload_n 3, 1) := by decide +kernel
theorem d_Md_encode_42 : decode prog_12_method_26_code 42 = .ok (.iconst 0, 1) := by decide +kernel
theorem d_Md_encode_43 : decode prog_12_method_26_code 43 = .ok (.iastore, 1) := by decide +kernel
theorem d_Md_encode_44 : decode prog_12_method_26_code 44 = .ok (.iinc 3 1, 3) := by decide +kernel
theorem d_Md_encode_47 : decode prog_12_method_26_code 47 = .ok (.goto (-15), 3) := by decide +kernel
theorem d_Md_encode_50 : decode prog_12_method_26_code 50 = .ok (.aload_n 0, 1) := by decide +kernel
theorem d_Md_encode_51 : decode prog_12_method_26_code 51 = .ok (.iconst 0, 1) := by decide +kernel
theorem d_Md_encode_52 : decode prog_12_method_26_code 52 = .ok (.iload_n 1, 1) := by decide +kernel
theorem d_Md_encode_53 : decode prog_12_method_26_code 53 = .ok (.invokevirtual 134, 3) := by decide +kernel
theorem d_Md_encode_56 : decode prog_12_method_26_code 56 = .ok (.aload_n 0, 1) := by decide +kernel
theorem d_Md_encode_57 : decode prog_12_method_26_code 57 = .ok (.invokevirtual 138, 3) := by decide +kernel
theorem d_Md_encode_60 : decode prog_12_method_26_code 60 = .ok (.aload_n 0, 1) := by decide +kernel
theorem d_Md_encode_61 : decode prog_12_method_26_code 61 = .ok (.aload_n 0, 1) := by decide +kernel
theorem d_Md_encode_62 : decode prog_12_method_26_code 62 = .ok (.getfield 7, 3) := by decide +kernel
theorem d_Md_encode_65 : decode prog_12_method_26_code 65 = .ok (.aload_n 0, 1) := by decide +kernel
theorem d_Md_encode_66 : decode prog_12_method_26_code 66 = .ok (.getfield 20, 3) := by decide +kernel
theorem d_Md_encode_69 : decode prog_12_method_26_code 69 = .ok (.aload_n 0, 1) := by decide +kernel
theorem d_Md_encode_70 : decode prog_12_method_26_code 70 = .ok (.invokevirtual 108, 3) := by decide +kernel
theorem d_Md_encode_73 : decode prog_12_method_26_code 73 = .ok (.invokevirtual 141, 3) := by decide +kernel
theorem d_Md_encode_76 : decode prog_12_method_26_code 76 = .ok (.aload_n 0, 1) := by decide +kernel
theorem d_Md_encode_77 : decode prog_12_method_26_code 77 = .ok (.aload_n 0, 1) := by decide +kernel
theorem d_Md_encode_78 : decode prog_12_method_26_code 78 = .ok (.getfield 93, 3) := by decide +kernel
theorem d_Md_encode_81 : decode prog_12_method_26_code 81 = .ok (.putfield 145, 3) := by decide +kernel
theorem d_Md_encode_84 : decode prog_12_method_26_code 84 = .ok (.aload_n 0, 1) := by decide +kernel
theorem d_Md_encode_85 : decode prog_12_method_26_code 85 = .ok (.getfield 145, 3) := by decide +kernel
theorem d_Md_encode_88 : decode prog_12_method_26_code 88 = .ok (.ireturn, 1) := by decide +kernel
theorem d_Md_error_0 : decode prog_12_method_30_code 0 = .ok (.aload_n 0, 1) := by decide +kernel
theorem d_Md_error_1 : decode prog_12_method_30_code 1 = .ok (.iload_n 1, 1) := by decide +kernel
theorem d_Md_error_2 : decode prog_12_method_30_code 2 = .ok (.invokestatic 130, 3) := by decide +kernel
theorem d_Md_error_5 : decode prog_12_method_30_code 5 = .ok (.ifCond .eq 7, 3) := by decide +kernel
theorem d_Md_error_8 : decode prog_12_method_30_code 8 = .ok (.iconst 0, 1) := by decide +kernel
theorem d_Md_error_9 : decode prog_12_method_30_code 9 = .ok (.goto 4, 3) := by decide +kernel
theorem d_Md_error_12 : decode prog_12_method_30_code 12 = .ok (.iconst 1, 1) := by decide +kernel
theorem d_Md_error_13 : decode prog_12_method_30_code 13 = .ok (.putfield 60, 3) := by decide +kernel
theorem d_Md_error_16 : decode prog_12_method_30_code 16 = .ok (.aload_n 0, 1) := by decide +kernel
theorem d_Md_error_17 : decode prog_12_method_30_code 17 = .ok (.invokevirtual 85, 3) := by decide +kernel
theorem d_Md_error_20 : decode prog_12_method_30_code 20 = .ok (.istore_n 3, 1) := by decide +kernel
theorem d_Md_error_21 : decode prog_12_method_30_code 21 = .ok (.aload_n 0, 1) := by decide +kernel
theorem d_Md_error_22 : decode prog_12_method_30_code 22 = .ok (.aload_n 0, 1) := by decide +kernel
theorem d_Md_error_23 : decode prog_12_method_30_code 23 = .ok (.getfield 60, 3) := by decide +kernel
theorem d_Md_error_26 : decode prog_12_method_30_code 26 = .ok (.ifCond .ne 16, 3) := by decide +kernel
theorem d_Md_error_29 : decode prog_12_method_30_code 29 = .ok (.iload_n 2, 1) := by decide +kernel
theorem d_Md_error_30 : decode prog_12_method_30_code 30 = .ok (.ifCond .lt 8, 3) := by decide +kernel
theorem d_Md_error_33 : decode prog_12_method_30_code 33 = .ok (.iload_n 2, 1) := by decide +kernel
theorem d_Md_error_34 : decode prog_12_method_30_code 34 = .ok (.iload_n 3, 1) := by decide +kernel
theorem d_Md_error_35 : decode prog_12_method_30_code 35 = .ok (.if_icmp .lt 7, 3) := by decide +kernel
theorem d_Md_error_38 : decode prog_12_method_30_code 38 = .ok (.iconst 2, 1) := by decide +kernel
theorem d_Md_error_39 : decode prog_12_method_30_code 39 = .ok (.goto 7, 3) := by decide +kernel
theorem d_Md_error_42 : decode prog_12_method_30_code 42 = .ok (.aload_n 0, 1) := by decide +kernel
theorem d_Md_error_43 : decode prog_12_method_30_code 43 = .ok (.getfield 60, 3) := by decide +kernel
theorem d_Md_error_46 : decode prog_12_method_30_code 46 = .ok (.putfield 60, 3) := by decide +kernel
theorem d_Md_error_49 : decode prog_12_method_30_code 49 = .ok (.aload_n 0, 1) := by decide +kernel
theorem d_Md_error_50 : decode prog_12_method_30_code 50 = .ok (.getfield 60, 3) := by decide +kernel
theorem d_Md_error_53 : decode prog_12_method_30_code 53 = .ok (.ifCond .le 5, 3) := by decide +kernel
theorem d_Md_error_56 : decode prog_12_method_30_code 56 = .ok (.lconst 0, 1) := by decide +kernel
theorem d_Md_error_57 : decode prog_12_method_30_code 57 = .ok (.lreturn, 1) := by decide +kernel
theorem d_Md_error_58 : decode prog_12_method_30_code 58 = .ok (.aload_n 0, 1) := by decide +kernel
theorem d_Md_error_59 : decode prog_12_method_30_code 59 = .ok (.iconst 1, 1) := by decide +kernel
theorem d_Md_error_60 : decode prog_12_method_30_code 60 = .ok (.iload_n 1, 1) := by decide +kernel
theorem d_Md_error_61 : decode prog_12_method_30_code 61 = .ok (.invokevirtual 134, 3) := by decide +kernel
theorem d_Md_error_64 : decode prog_12_method_30_code 64 = .ok (.aload_n 0, 1) := by decide +kernel
theorem d_Md_error_65 : decode prog_12_method_30_code 65 = .ok (.invokevirtual 138, 3) := by decide +kernel
theorem d_Md_error_68 : decode prog_12_method_30_code 68 = .ok (.aload_n 0, 1) := by decide +kernel
theorem d_Md_error_69 : decode prog_12_method_30_code 69 = .ok (.aload_n 0, 1) := by decide +kernel
theorem d_Md_error_70 : decode prog_12_method_30_code 70 = .ok (.getfield 7, 3) := by decide +kernel
theorem d_Md_error_73 : decode prog_12_method_30_code 73 = .ok (.aload_n 0, 1) := by decide +kernel
theorem d_Md_error_74 : decode prog_12_method_30_code 74 = .ok (.getfield 20, 3) := by decide +kernel
theorem d_Md_error_77 : decode prog_12_method_30_code 77 = .ok (.aload_n 0, 1) := by decide +kernel
theorem d_Md_error_78 : decode prog_12_method_30_code 78 = .ok (.invokevirtual 108, 3) := by decide +kernel
theorem d_Md_error_81 : decode prog_12_method_30_code 81 = .ok (.invokevirtual 141, 3) := by decide +kernel
theorem d_Md_error_84 : decode prog_12_method_30_code 84 = .ok (.lconst 0, 1) := by decide +kernel
theorem d_Md_error_85 : decode prog_12_method_30_code 85 = .ok (.lstore 4, 2) := by decide +kernel
theorem d_Md_error_87 : decode prog_12_method_30_code 87 = .ok (.iconst 0, 1) := by decide +kernel
theorem d_Md_error_88 : decode prog_12_method_30_code 88 = .ok (.istore 6, 2) := by decide +kernel
theorem d_Md_error_90 : decode prog_12_method_30_code 90 = .ok (.iload 6, 2) := by decide +kernel
theorem d_Md_error_92 : decode prog_12_method_30_code 92 = .ok (.sipush 256, 3) := by decide +kernel
theorem d_Md_error_95 : decode prog_12_method_30_code 95 = .ok (.if_icmp .ge 73, 3) := by decide +kernel
theorem d_Md_error_98 : decode prog_12_method_30_code 98 = .ok (.aload_n 0, 1) := by decide +kernel
theorem d_Md_error_99 : decode prog_12_method_30_code 99 = .ok (.getfield 20, 3) := by decide +kernel
theorem d_Md_error_102 : decode prog_12_method_30_code 102 = .ok (.iload 6, 2) := by decide +kernel
theorem d_Md_error_104 : decode prog_12_method_30_code 104 = .ok (.iaload, 1) := by decide +kernel
theorem d_Md_error_105 : decode prog_12_method_30_code 105 = .ok (.aload_n 0, 1) := by decide +kernel
theorem d_Md_error_106 : decode prog_12_method_30_code 106 = .ok (.getfield 50, 3) := by decide +kernel
theorem d_Md_error_109 : decode prog_12_method_30_code 109 = .ok (.iload 6, 2) := by decide +kernel
theorem d_Md_error_111 : decode prog_12_method_30_code 111 = .ok (.baload, 1) := by decide +kernel
theorem d_Md_error_112 : decode prog_12_method_30_code 112 = .ok (.ifCond .eq 14, 3) := by decide +kernel
theorem d_Md_error_115 : decode prog_12_method_30_code 115 = .ok (.aload_n 0, 1) := by decide +kernel
theorem d_Md_error_116 : decode prog_12_method_30_code 116 = .ok (.getfield 47, 3) := by decide +kernel
theorem d_Md_error_119 : decode prog_12_method_30_code 119 = .ok (.iload 6, 2) := by decide +kernel
theorem d_Md_error_121 : decode prog_12_method_30_code 121 = .ok (.iaload, 1) := by decide +kernel
theorem d_Md_error_122 : decode prog_12_method_30_code 122 = .ok (.ineg, 1) := by decide +kernel
theorem d_Md_error_123 : decode prog_12_method_30_code 123 = .ok (.goto 10, 3) := by decide +kernel
theorem d_Md_error_126 : decode prog_12_method_30_code 126 = .ok (.aload_n 0, 1) := by decide +kernel
theorem d_Md_error_127 : decode prog_12_method_30_code 127 = .ok (.getfield 47, 3) := by decide +kernel
theorem d_Md_error_130 : decode prog_12_method_30_code 130 = .ok (.iload 6, 2) := by decide +kernel
theorem d_Md_error_132 : decode prog_12_method_30_code 132 = .ok (.iaload, 1) := by decide +kernel
theorem d_Md_error_133 : decode prog_12_method_30_code 133 = .ok (.isub, 1) := by decide +kernel
theorem d_Md_error_134 : decode prog_12_method_30_code 134 = .ok (.i2l, 1) := by decide +kernel
theorem d_Md_error_135 : decode prog_12_method_30_code 135 = .ok (.lstore 7, 2) := by decide +kernel
theorem d_Md_error_137 : decode prog_12_method_30_code 137 = .ok (.lload 4, 2) := by decide +kernel
theorem d_Md_error_139 : decode prog_12_method_30_code 139 = .ok (.aload_n 0, 1) := by decide +kernel
theorem d_Md_error_140 : decode prog_12_method_30_code 140 = .ok (.getfield 17, 3) := by decide +kernel
theorem d_Md_error_143 : decode prog_12_method_30_code 143 = .ok (.iload 6, 2) := by decide +kernel
theorem d_Md_error_145 : decode prog_12_method_30_code 145 = .ok (.iaload, 1) := by decide +kernel
theorem d_Md_error_146 : decode prog_12_method_30_code 146 = .ok (.iload_n 2, 1) := by decide +kernel
theorem d_Md_error_147 : decode prog_12_method_30_code 147 = .ok (.if_icmp .ne 11, 3) := by decide +kernel
theorem d_Md_error_150 : decode prog_12_method_30_code 150 = .ok (.lload 7, 2) := by decide +kernel
theorem d_Md_error_152 : decode prog_12_method_30_code 152 = .ok (.lload 7, 2) := by decide +kernel
theorem d_Md_error_154 : decode prog_12_method_30_code 154 = .ok (.lmul, 1) := by decide +kernel
theorem d_Md_error_155 : decode prog_12_method_30_code 155 = .ok (.goto 4, 3) := by decide +kernel
theorem d_Md_error_158 : decode prog_12_method_30_code 158 = .ok (.lconst 0, 1) := by decide +kernel
theorem d_Md_error_159 : decode prog_12_method_30_code 159 = .ok (.ladd, 1) := by decide +kernel
theorem d_Md_error_160 : decode prog_12_method_30_code 160 = .ok (.lstore 4, 2) := by decide +kernel
theorem d_Md_error_162 : decode prog_12_method_30_code 162 = .ok (.iinc 6 1, 3) := by decide +kernel
theorem d_Md_error_165 : decode prog_12_method_30_code 165 = .ok (.goto (-75), 3) := by decide +kernel
theorem d_Md_error_168 : decode prog_12_method_30_code 168 = .ok (.lload 4, 2) := by decide +kernel
theorem d_Md_error_170 : decode prog_12_method_30_code 170 = .ok (.lreturn, 1) := by decide +kernel
theorem d_Md_feed_0 : decode prog_12_method_31_code 0 = .ok (.aload_n 0, 1) := by decide +kernel
theorem d_Md_feed_1 : decode prog_12_method_31_code 1 = .ok (.iload_n 1, 1) := by decide +kernel
theorem d_Md_feed_2 : decode prog_12_method_31_code 2 = .ok (.ifCond .lt 10, 3) := by decide +kernel
theorem d_Md_feed_5 : decode prog_12_method_31_code 5 = .ok (.iload_n 1, 1) := by decide +kernel
theorem d_Md_feed_6 : decode prog_12_method_31_code 6 = .ok (.sipush 255, 3) := by decide +kernel
theorem d_Md_feed_9 : decode prog_12_method_31_code 9 = .ok (.if_icmp .le 7, 3) := by decide +kernel
theorem d_Md_feed_12 : decode prog_12_method_31_code 12 = .ok (.iconst 1, 1) := by decide +kernel
theorem d_Md_feed_13 : decode prog_12_method_31_code 13 = .ok (.goto 18, 3) := by decide +kernel
theorem d_Md_feed_16 : decode prog_12_method_31_code 16 = .ok (.aload_n 0, 1) := by decide +kernel
theorem d_Md_feed_17 : decode prog_12_method_31_code 17 = .ok (.getfield 151, 3) := by decide +kernel
theorem d_Md_feed_20 : decode prog_12_method_31_code 20 = .ok (.sipush 2400, 3) := by decide +kernel
theorem d_Md_feed_23 : decode prog_12_method_31_code 23 = .ok (.if_icmp .ne 7, 3) := by decide +kernel
theorem d_Md_feed_26 : decode prog_12_method_31_code 26 = .ok (.iconst 2, 1) := by decide +kernel
theorem d_Md_feed_27 : decode prog_12_method_31_code 27 = .ok (.goto 4, 3) := by decide +kernel
theorem d_Md_feed_30 : decode prog_12_method_31_code 30 = .ok (.iconst 0, 1) := by decide +kernel
theorem d_Md_feed_31 : decode prog_12_method_31_code 31 = .ok (.putfield 60, 3) := by decide +kernel
theorem d_Md_feed_34 : decode prog_12_method_31_code 34 = .ok (.aload_n 0, 1) := by decide +kernel
theorem d_Md_feed_35 : decode prog_12_method_31_code 35 = .ok (.getfield 60, 3) := by decide +kernel
theorem d_Md_feed_38 : decode prog_12_method_31_code 38 = .ok (.ifCond .le 5, 3) := by decide +kernel
theorem d_Md_feed_41 : decode prog_12_method_31_code 41 = .ok (.iconst 0, 1) := by decide +kernel
theorem d_Md_feed_42 : decode prog_12_method_31_code 42 = .ok (.ireturn, 1) := by decide +kernel
theorem d_Md_feed_43 : decode prog_12_method_31_code 43 = .ok (.aload_n 0, 1) := by decide +kernel
theorem d_Md_feed_44 : decode prog_12_method_31_code 44 = .ok (.getfield 38, 3) := by decide +kernel
theorem d_Md_feed_47 : decode prog_12_method_31_code 47 = .ok (.aload_n 0, 1) := by decide +kernel
theorem d_Md_feed_48 : decode prog_12_method_31_code 48 = .ok (.getfield 151, 3) := by decide +kernel
theorem d_Md_feed_51 : decode prog_12_method_31_code 51 = .ok (.iload_n 1, 1) := by decide +kernel
theorem d_Md_feed_52 : decode prog_12_method_31_code 52 = .ok (.iastore, 1) := by decide +kernel
theorem d_Md_feed_53 : decode prog_12_method_31_code 53 = .ok (.aload_n 0, 1) := by decide +kernel
theorem d_Md_feed_54 : decode prog_12_method_31_code 54 = .ok (.dup, 1) := by decide +kernel
theorem d_Md_feed_55 : decode prog_12_method_31_code 55 = .ok (.getfield 151, 3) := by decide +kernel
theorem d_Md_feed_58 : decode prog_12_method_31_code 58 = .ok (.iconst 1, 1) := by decide +kernel
theorem d_Md_feed_59 : decode prog_12_method_31_code 59 = .ok (.iadd, 1) := by decide +kernel
theorem d_Md_feed_60 : decode prog_12_method_31_code 60 = .ok (.putfield 151, 3) := by decide +kernel
theorem d_Md_feed_63 : decode prog_12_method_31_code 63 = .ok (.aload_n 0, 1) := by decide +kernel
theorem d_Md_feed_64 : decode prog_12_method_31_code 64 = .ok (.getfield 151, 3) := by decide +kernel
theorem d_Md_feed_67 : decode prog_12_method_31_code 67 = .ok (.ireturn, 1) := by decide +kernel
theorem d_Md_goSample_0 : decode prog_12_method_22_code 0 = .ok (.iload 4, 2) := by decide +kernel
theorem d_Md_goSample_2 : decode prog_12_method_22_code 2 = .ok (.ifCond .eq 20, 3) := by decide +kernel
theorem d_Md_goSample_5 : decode prog_12_method_22_code 5 = .ok (.aload_n 0, 1) := by decide +kernel
theorem d_Md_goSample_6 : decode prog_12_method_22_code 6 = .ok (.aload_n 2, 1) := by decide +kernel
theorem d_Md_goSample_7 : decode prog_12_method_22_code 7 = .ok (.iload_n 1, 1) := by decide +kernel
theorem d_Md_goSample_8 : decode prog_12_method_22_code 8 = .ok (.iaload, 1) := by decide +kernel
theorem d_Md_goSample_9 : decode prog_12_method_22_code 9 = .ok (.invokestatic 89, 3) := by decide +kernel
theorem d_Md_goSample_12 : decode prog_12_method_22_code 12 = .ok (.iload_n 3, 1) := by decide +kernel
theorem d_Md_goSample_13 : decode prog_12_method_22_code 13 = .ok (.ishr, 1) := by decide +kernel
theorem d_Md_goSample_14 : decode prog_12_method_22_code 14 = .ok (.iconst 1, 1) := by decide +kernel
theorem d_Md_goSample_15 : decode prog_12_method_22_code 15 = .ok (.iand, 1) := by decide +kernel
theorem d_Md_goSample_16 : decode prog_12_method_22_code 16 = .ok (.invokevirtual 102, 3) := by decide +kernel
theorem d_Md_goSample_19 : decode prog_12_method_22_code 19 = .ok (.goto 18, 3) := by decide +kernel
theorem d_Md_goSample_22 : decode prog_12_method_22_code 22 = .ok (.aload_n 0, 1) := by decide +kernel
theorem d_Md_goSample_23 : decode prog_12_method_22_code 23 = .ok (.aload_n 2, 1) := by decide +kernel
theorem d_Md_goSample_24 : decode prog_12_method_22_code 24 = .ok (.iload_n 1, 1) := by decide +kernel
theorem d_Md_goSample_25 : decode prog_12_method_22_code 25 = .ok (.iaload, 1) := by decide +kernel
theorem d_Md_goSample_26 : decode prog_12_method_22_code 26 = .ok (.ifCond .ge 7, 3) := by decide +kernel
theorem d_Md_goSample_29 : decode prog_12_method_22_code 29 = .ok (.iconst 1, 1) := by decide +kernel
theorem d_Md_goSample_30 : decode prog_12_method_22_code 30 = .ok (.goto 4, 3) := by decide +kernel
theorem d_Md_goSample_33 : decode prog_12_method_22_code 33 = .ok (.iconst 0, 1) := by decide +kernel
theorem d_Md_goSample_34 : decode prog_12_method_22_code 34 = .ok (.invokevirtual 102, 3) := by decide +kernel
theorem d_Md_goSample_37 : decode prog_12_method_22_code 37 = .ok (.istore 5, 2) := by decide +kernel
theorem d_Md_goSample_39 : decode prog_12_method_22_code 39 = .ok (.iload 5, 2) := by decide +kernel
theorem d_Md_goSample_41 : decode prog_12_method_22_code 41 = .ok (.iconst (-1), 1) := by decide +kernel
theorem d_Md_goSample_42 : decode prog_12_method_22_code 42 = .ok (.if_icmp .ne 5, 3) := by decide +kernel
theorem d_Md_goSample_45 : decode prog_12_method_22_code 45 = .ok (.iconst 0, 1) := by decide +kernel
theorem d_Md_goSample_46 : decode prog_12_method_22_code 46 = .ok (.ireturn, 1) := by decide +kernel
theorem d_Md_goSample_47 : decode prog_12_method_22_code 47 = .ok (.iload 4, 2) := by decide +kernel
theorem d_Md_goSample_49 : decode prog_12_method_22_code 49 = .ok (.ifCond .eq 19, 3) := by decide +kernel
theorem d_Md_goSample_52 : decode prog_12_method_22_code 52 = .ok (.aload_n 0, 1) := by decide +kernel
theorem d_Md_goSample_53 : decode prog_12_method_22_code 53 = .ok (.getfield 47, 3) := by decide +kernel
theorem d_Md_goSample_56 : decode prog_12_method_22_code 56 = .ok (.iload_n 1, 1) := by decide +kernel
theorem d_Md_goSample_57 : decode prog_12_method_22_code 57 = .ok (.dup2, 1) := by decide +kernel
theorem d_Md_goSample_58 : decode prog_12_method_22_code 58 = .ok (.iaload, 1) := by decide +kernel
theorem d_Md_goSample_59 : decode prog_12_method_22_code 59 = .ok (.iload 5, 2) := by decide +kernel
theorem d_Md_goSample_61 : decode prog_12_method_22_code 61 = .ok (.iload_n 3, 1) := by decide +kernel
theorem d_Md_goSample_62 : decode prog_12_method_22_code 62 = .ok (.ishl, 1) := by decide +kernel
theorem d_Md_goSample_63 : decode prog_12_method_22_code 63 = .ok (.iadd, 1) := by decide +kernel
theorem d_Md_goSample_64 : decode prog_12_method_22_code 64 = .ok (.iastore, 1) := by decide +kernel
theorem d_Md_goSample_65 : decode prog_12_method_22_code 65 = .ok (.goto 29, 3) := by decide +kernel
theorem d_Md_goSample_68 : decode prog_12_method_22_code 68 = .ok (.aload_n 0, 1) := by decide +kernel
theorem d_Md_goSample_69 : decode prog_12_method_22_code 69 = .ok (.getfield 47, 3) := by decide +kernel
theorem d_Md_goSample_72 : decode prog_12_method_22_code 72 = .ok (.iload_n 1, 1) := by decide +kernel
theorem d_Md_goSample_73 : decode prog_12_method_22_code 73 = .ok (.iconst 1, 1) := by decide +kernel
theorem d_Md_goSample_74 : decode prog_12_method_22_code 74 = .ok (.iload_n 3, 1) := by decide +kernel
theorem d_Md_goSample_75 : decode prog_12_method_22_code 75 = .ok (.ishl, 1) := by decide +kernel
theorem d_Md_goSample_76 : decode prog_12_method_22_code 76 = .ok (.iastore, 1) := by decide +kernel
theorem d_Md_goSample_77 : decode prog_12_method_22_code 77 = .ok (.aload_n 0, 1) := by decide +kernel
theorem d_Md_goSample_78 : decode prog_12_method_22_code 78 = .ok (.getfield 50, 3) := by decide +kernel
theorem d_Md_goSample_81 : decode prog_12_method_22_code 81 = .ok (.iload_n 1, 1) := by decide +kernel
theorem d_Md_goSample_82 : decode prog_12_method_22_code 82 = .ok (.iload 5, 2) := by decide +kernel
theorem d_Md_goSample_84 : decode prog_12_method_22_code 84 = .ok (.iconst 1, 1) := by decide +kernel
theorem d_Md_goSample_85 : decode prog_12_method_22_code 85 = .ok (.if_icmp .ne 7, 3) := by decide +kernel
theorem d_Md_goSample_88 : decode prog_12_method_22_code 88 = .ok (.iconst 1, 1) := by decide +kernel
theorem d_Md_goSample_89 : decode prog_12_method_22_code 89 = .ok (.goto 4, 3) := by decide +kernel
theorem d_Md_goSample_92 : decode prog_12_method_22_code 92 = .ok (.iconst 0, 1) := by decide +kernel
theorem d_Md_goSample_93 : decode prog_12_method_22_code 93 = .ok (.bastore, 1) := by decide +kernel
theorem d_Md_goSample_94 : decode prog_12_method_22_code 94 = .ok (.iconst 1, 1) := by decide +kernel
theorem d_Md_goSample_95 : decode prog_12_method_22_code 95 = .ok (.ireturn, 1) := by decide +kernel
theorem d_Md_goSquare_0 : decode prog_12_method_21_code 0 = .ok (.iconst 0, 1) := by decide +kernel
theorem d_Md_goSquare_1 : decode prog_12_method_21_code 1 = .ok (.istore 5, 2) := by decide +kernel
theorem d_Md_goSquare_3 : decode prog_12_method_21_code 3 = .ok (.iconst 3, 1) := by decide +kernel
theorem d_Md_goSquare_4 : decode prog_12_method_21_code 4 = .ok (.istore 6, 2) := by decide +kernel
theorem d_Md_goSquare_6 : decode prog_12_method_21_code 6 = .ok (.iload 5, 2) := by decide +kernel
theorem d_Md_goSquare_8 : decode prog_12_method_21_code 8 = .ok (.bipush 64, 2) := by decide +kernel
theorem d_Md_goSquare_10 : decode prog_12_method_21_code 10 = .ok (.if_icmp .ge 201, 3) := by decide +kernel
theorem d_Md_goSquare_13 : decode prog_12_method_21_code 13 = .ok (.aload_n 1, 1) := by decide +kernel
theorem d_Md_goSquare_14 : decode prog_12_method_21_code 14 = .ok (.aload_n 2, 1) := by decide +kernel
theorem d_Md_goSquare_15 : decode prog_12_method_21_code 15 = .ok (.iload_n 3, 1) := by decide +kernel
theorem d_Md_goSquare_16 : decode prog_12_method_21_code 16 = .ok (.iload 5, 2) := by decide +kernel
theorem d_Md_goSquare_18 : decode prog_12_method_21_code 18 = .ok (.iload 6, 2) := by decide +kernel
theorem d_Md_goSquare_20 : decode prog_12_method_21_code 20 = .ok (.invokestatic 114, 3) := by decide +kernel
theorem d_Md_goSquare_23 : decode prog_12_method_21_code 23 = .ok (.istore 7, 2) := by decide +kernel
theorem d_Md_goSquare_25 : decode prog_12_method_21_code 25 = .ok (.sipush 256, 3) := by decide +kernel
theorem d_Md_goSquare_28 : decode prog_12_method_21_code 28 = .ok (.iload 6, 2) := by decide +kernel
theorem d_Md_goSquare_30 : decode prog_12_method_21_code 30 = .ok (.imul, 1) := by decide +kernel
theorem d_Md_goSquare_31 : decode prog_12_method_21_code 31 = .ok (.bipush 64, 2) := by decide +kernel
theorem d_Md_goSquare_33 : decode prog_12_method_21_code 33 = .ok (.iload_n 3, 1) := by decide +kernel
theorem d_Md_goSquare_34 : decode prog_12_method_21_code 34 = .ok (.imul, 1) := by decide +kernel
theorem d_Md_goSquare_35 : decode prog_12_method_21_code 35 = .ok (.iadd, 1) := by decide +kernel
theorem d_Md_goSquare_36 : decode prog_12_method_21_code 36 = .ok (.iload 5, 2) := by decide +kernel
theorem d_Md_goSquare_38 : decode prog_12_method_21_code 38 = .ok (.iadd, 1) := by decide +kernel
theorem d_Md_goSquare_39 : decode prog_12_method_21_code 39 = .ok (.istore 8, 2) := by decide +kernel
theorem d_Md_goSquare_41 : decode prog_12_method_21_code 41 = .ok (.iload 7, 2) := by decide +kernel
theorem d_Md_goSquare_43 : decode prog_12_method_21_code 43 = .ok (.iconst (-1), 1) := by decide +kernel
theorem d_Md_goSquare_44 : decode prog_12_method_21_code 44 = .ok (.if_icmp .eq 7, 3) := by decide +kernel
theorem d_Md_goSquare_47 : decode prog_12_method_21_code 47 = .ok (.iconst 1, 1) := by decide +kernel
theorem d_Md_goSquare_48 : decode prog_12_method_21_code 48 = .ok (.goto 4, 3) := by decide +kernel
theorem d_Md_goSquare_51 : decode prog_12_method_21_code 51 = .ok (.iconst 0, 1) := by decide +kernel
theorem d_Md_goSquare_52 : decode prog_12_method_21_code 52 = .ok (.istore 9, 2) := by decide +kernel
theorem d_Md_goSquare_54 : decode prog_12_method_21_code 54 = .ok (.aload_n 0, 1) := by decide +kernel
theorem d_Md_goSquare_55 : decode prog_12_method_21_code 55 = .ok (.getfield 44, 3) := by decide +kernel
theorem d_Md_goSquare_58 : decode prog_12_method_21_code 58 = .ok (.iload 8, 2) := by decide +kernel
theorem d_Md_goSquare_60 : decode prog_12_method_21_code 60 = .ok (.baload, 1) := by decide +kernel
theorem d_Md_goSquare_61 : decode prog_12_method_21_code 61 = .ok (.istore 10, 2) := by decide +kernel
theorem d_Md_goSquare_63 : decode prog_12_method_21_code 63 = .ok (.iload 9, 2) := by decide +kernel
theorem d_Md_goSquare_65 : decode prog_12_method_21_code 65 = .ok (.ifCond .eq 84, 3) := by decide +kernel
theorem d_Md_goSquare_68 : decode prog_12_method_21_code 68 = .ok (.iload 10, 2) := by decide +kernel
theorem d_Md_goSquare_70 : decode prog_12_method_21_code 70 = .ok (.ifCond .ne 79, 3) := by decide +kernel
theorem d_Md_goSquare_73 : decode prog_12_method_21_code 73 = .ok (.aload_n 0, 1) := by decide +kernel
theorem d_Md_goSquare_74 : decode prog_12_method_21_code 74 = .ok (.iload 7, 2) := by decide +kernel
theorem d_Md_goSquare_76 : decode prog_12_method_21_code 76 = .ok (.iload 4, 2) := by decide +kernel
theorem d_Md_goSquare_78 : decode prog_12_method_21_code 78 = .ok (.ishr, 1) := by decide +kernel
theorem d_Md_goSquare_79 : decode prog_12_method_21_code 79 = .ok (.ifCond .le 7, 3) := by decide +kernel
theorem d_Md_goSquare_82 : decode prog_12_method_21_code 82 = .ok (.iconst 1, 1) := by decide +kernel
theorem d_Md_goSquare_83 : decode prog_12_method_21_code 83 = .ok (.goto 4, 3) := by decide +kernel
theorem d_Md_goSquare_86 : decode prog_12_method_21_code 86 = .ok (.iconst 0, 1) := by decide +kernel
theorem d_Md_goSquare_87 : decode prog_12_method_21_code 87 = .ok (.invokevirtual 102, 3) := by decide +kernel
theorem d_Md_goSquare_90 : decode prog_12_method_21_code 90 = .ok (.istore 11, 2) := by decide +kernel
theorem d_Md_goSquare_92 : decode prog_12_method_21_code 92 = .ok (.iload 11, 2) := by decide +kernel
theorem d_Md_goSquare_94 : decode prog_12_method_21_code 94 = .ok (.iconst (-1), 1) := by decide +kernel
theorem d_Md_goSquare_95 : decode prog_12_method_21_code 95 = .ok (.if_icmp .ne 5, 3) := by decide +kernel
theorem d_Md_goSquare_98 : decode prog_12_method_21_code 98 = .ok (.iconst 0, 1) := by decide +kernel
theorem d_Md_goSquare_99 : decode prog_12_method_21_code 99 = .ok (.ireturn, 1) := by decide +kernel
theorem d_Md_goSquare_100 : decode prog_12_method_21_code 100 = .ok (.aload_n 0, 1) := by decide +kernel
theorem d_Md_goSquare_101 : decode prog_12_method_21_code 101 = .ok (.getfield 35, 3) := by decide +kernel
theorem d_Md_goSquare_104 : decode prog_12_method_21_code 104 = .ok (.iload 6, 2) := by decide +kernel
theorem d_Md_goSquare_106 : decode prog_12_method_21_code 106 = .ok (.dup2, 1) := by decide +kernel
theorem d_Md_goSquare_107 : decode prog_12_method_21_code 107 = .ok (.iaload, 1) := by decide +kernel
theorem d_Md_goSquare_108 : decode prog_12_method_21_code 108 = .ok (.aload_n 0, 1) := by decide +kernel
theorem d_Md_goSquare_109 : decode prog_12_method_21_code 109 = .ok (.getfield 99, 3) := by decide +kernel
theorem d_Md_goSquare_112 : decode prog_12_method_21_code 112 = .ok (.ifCond .ne 12, 3) := by decide +kernel
theorem d_Md_goSquare_115 : decode prog_12_method_21_code 115 = .ok (.iload 11, 2) := by decide +kernel
theorem d_Md_goSquare_117 : decode prog_12_method_21_code 117 = .ok (.ifCond .ne 7, 3) := by decide +kernel
theorem d_Md_goSquare_120 : decode prog_12_method_21_code 120 = .ok (.iconst 1, 1) := by decide +kernel
theorem d_Md_goSquare_121 : decode prog_12_method_21_code 121 = .ok (.goto 4, 3) := by decide +kernel
theorem d_Md_goSquare_124 : decode prog_12_method_21_code 124 = .ok (.iconst 0, 1) := by decide +kernel
theorem d_Md_goSquare_125 : decode prog_12_method_21_code 125 = .ok (.iadd, 1) := by decide +kernel
theorem d_Md_goSquare_126 : decode prog_12_method_21_code 126 = .ok (.iastore, 1) := by decide +kernel
theorem d_Md_goSquare_127 : decode prog_12_method_21_code 127 = .ok (.iload 11, 2) := by decide +kernel
theorem d_Md_goSquare_129 : decode prog_12_method_21_code 129 = .ok (.iconst 1, 1) := by decide +kernel
theorem d_Md_goSquare_130 : decode prog_12_method_21_code 130 = .ok (.if_icmp .ne 7, 3) := by decide +kernel
theorem d_Md_goSquare_133 : decode prog_12_method_21_code 133 = .ok (.iconst 1, 1) := by decide +kernel
theorem d_Md_goSquare_134 : decode prog_12_method_21_code 134 = .ok (.goto 4, 3) := by decide +kernel
theorem d_Md_goSquare_137 : decode prog_12_method_21_code 137 = .ok (.iconst 0, 1) := by decide +kernel
theorem d_Md_goSquare_138 : decode prog_12_method_21_code 138 = .ok (.istore 9, 2) := by decide +kernel
theorem d_Md_goSquare_140 : decode prog_12_method_21_code 140 = .ok (.aload_n 0, 1) := by decide +kernel
theorem d_Md_goSquare_141 : decode prog_12_method_21_code 141 = .ok (.getfield 44, 3) := by decide +kernel
theorem d_Md_goSquare_144 : decode prog_12_method_21_code 144 = .ok (.iload 8, 2) := by decide +kernel
theorem d_Md_goSquare_146 : decode prog_12_method_21_code 146 = .ok (.iload 9, 2) := by decide +kernel
theorem d_Md_goSquare_148 : decode prog_12_method_21_code 148 = .ok (.bastore, 1) := by decide +kernel
theorem d_Md_goSquare_149 : decode prog_12_method_21_code 149 = .ok (.iload 9, 2) := by decide +kernel
theorem d_Md_goSquare_151 : decode prog_12_method_21_code 151 = .ok (.ifCond .eq 14, 3) := by decide +kernel
theorem d_Md_goSquare_154 : decode prog_12_method_21_code 154 = .ok (.iload 6, 2) := by decide +kernel
theorem d_Md_goSquare_156 : decode prog_12_method_21_code 156 = .ok (.ifCond .le 9, 3) := by decide +kernel
theorem d_Md_goSquare_159 : decode prog_12_method_21_code 159 = .ok (.iinc 6 (-1), 3) := by decide +kernel
theorem d_Md_goSquare_162 : decode prog_12_method_21_code 162 = .ok (.goto (-156), 3) := by decide +kernel
theorem d_Md_goSquare_165 : decode prog_12_method_21_code 165 = .ok (.iload 9, 2) := by decide +kernel
theorem d_Md_goSquare_167 : decode prog_12_method_21_code 167 = .ok (.ifCond .eq 23, 3) := by decide +kernel
theorem d_Md_goSquare_170 : decode prog_12_method_21_code 170 = .ok (.aload_n 0, 1) := by decide +kernel
theorem d_Md_goSquare_171 : decode prog_12_method_21_code 171 = .ok (.iload_n 3, 1) := by decide +kernel
theorem d_Md_goSquare_172 : decode prog_12_method_21_code 172 = .ok (.iload 5, 2) := by decide +kernel
theorem d_Md_goSquare_174 : decode prog_12_method_21_code 174 = .ok (.invokestatic 111, 3) := by decide +kernel
theorem d_Md_goSquare_177 : decode prog_12_method_21_code 177 = .ok (.aload_n 2, 1) := by decide +kernel
theorem d_Md_goSquare_178 : decode prog_12_method_21_code 178 = .ok (.iload 4, 2) := by decide +kernel
theorem d_Md_goSquare_180 : decode prog_12_method_21_code 180 = .ok (.iload 10, 2) := by decide +kernel
theorem d_Md_goSquare_182 : decode prog_12_method_21_code 182 = .ok (.invokevirtual 118, 3) := by decide +kernel
theorem d_Md_goSquare_185 : decode prog_12_method_21_code 185 = .ok (.ifCond .ne 5, 3) := by decide +kernel
theorem d_Md_goSquare_188 : decode prog_12_method_21_code 188 = .ok (.iconst 0, 1) := by decide +kernel
theorem d_Md_goSquare_189 : decode prog_12_method_21_code 189 = .ok (.ireturn, 1) := by decide +kernel
theorem d_Md_goSquare_190 : decode prog_12_method_21_code 190 = .ok (.iload 5, 2) := by decide +kernel
theorem d_Md_goSquare_192 : decode prog_12_method_21_code 192 = .ok (.iconst 1, 1) := by decide +kernel
theorem d_Md_goSquare_193 : decode prog_12_method_21_code 193 = .ok (.iconst 2, 1) := by decide +kernel
theorem d_Md_goSquare_194 : decode prog_12_method_21_code 194 = .ok (.iload 6, 2) := by decide +kernel
theorem d_Md_goSquare_196 : decode prog_12_method_21_code 196 = .ok (.imul, 1) := by decide +kernel
theorem d_Md_goSquare_197 : decode prog_12_method_21_code 197 = .ok (.ishl, 1) := by decide +kernel
theorem d_Md_goSquare_198 : decode prog_12_method_21_code 198 = .ok (.iadd, 1) := by decide +kernel
theorem d_Md_goSquare_199 : decode prog_12_method_21_code 199 = .ok (.istore 5, 2) := by decide +kernel
theorem d_Md_goSquare_201 : decode prog_12_method_21_code 201 = .ok (.iload 5, 2) := by decide +kernel
theorem d_Md_goSquare_203 : decode prog_12_method_21_code 203 = .ok (.invokestatic 122, 3) := by decide +kernel
theorem d_Md_goSquare_206 : decode prog_12_method_21_code 206 = .ok (.istore 6, 2) := by decide +kernel
theorem d_Md_goSquare_208 : decode prog_12_method_21_code 208 = .ok (.goto (-202), 3) := by decide +kernel
theorem d_Md_goSquare_211 : decode prog_12_method_21_code 211 = .ok (.iconst 1, 1) := by decide +kernel
theorem d_Md_goSquare_212 : decode prog_12_method_21_code 212 = .ok (.ireturn, 1) := by decide +kernel
theorem d_Md_goThrough_0 : decode prog_12_method_24_code 0 = .ok (.iconst 1, 1) := by decide +kernel
theorem d_Md_goThrough_1 : decode prog_12_method_24_code 1 = .ok (.istore 4, 2) := by decide +kernel
theorem d_Md_goThrough_3 : decode prog_12_method_24_code 3 = .ok (.iload_n 3, 1) := by decide +kernel
theorem d_Md_goThrough_4 : decode prog_12_method_24_code 4 = .ok (.iconst 1, 1) := by decide +kernel
theorem d_Md_goThrough_5 : decode prog_12_method_24_code 5 = .ok (.isub, 1) := by decide +kernel
theorem d_Md_goThrough_6 : decode prog_12_method_24_code 6 = .ok (.istore 5, 2) := by decide +kernel
theorem d_Md_goThrough_8 : decode prog_12_method_24_code 8 = .ok (.iload 5, 2) := by decide +kernel
theorem d_Md_goThrough_10 : decode prog_12_method_24_code 10 = .ok (.ifCond .lt 46, 3) := by decide +kernel
theorem d_Md_goThrough_13 : decode prog_12_method_24_code 13 = .ok (.iload 4, 2) := by decide +kernel
theorem d_Md_goThrough_15 : decode prog_12_method_24_code 15 = .ok (.ifCond .eq 41, 3) := by decide +kernel
theorem d_Md_goThrough_18 : decode prog_12_method_24_code 18 = .ok (.iconst 0, 1) := by decide +kernel
theorem d_Md_goThrough_19 : decode prog_12_method_24_code 19 = .ok (.istore 6, 2) := by decide +kernel
theorem d_Md_goThrough_21 : decode prog_12_method_24_code 21 = .ok (.iload 6, 2) := by decide +kernel
theorem d_Md_goThrough_23 : decode prog_12_method_24_code 23 = .ok (.iconst 4, 1) := by decide +kernel
theorem d_Md_goThrough_24 : decode prog_12_method_24_code 24 = .ok (.if_icmp .ge 26, 3) := by decide +kernel
theorem d_Md_goThrough_27 : decode prog_12_method_24_code 27 = .ok (.iload 4, 2) := by decide +kernel
theorem d_Md_goThrough_29 : decode prog_12_method_24_code 29 = .ok (.ifCond .eq 21, 3) := by decide +kernel
theorem d_Md_goThrough_32 : decode prog_12_method_24_code 32 = .ok (.aload_n 0, 1) := by decide +kernel
theorem d_Md_goThrough_33 : decode prog_12_method_24_code 33 = .ok (.aload_n 1, 1) := by decide +kernel
theorem d_Md_goThrough_34 : decode prog_12_method_24_code 34 = .ok (.aload_n 2, 1) := by decide +kernel
theorem d_Md_goThrough_35 : decode prog_12_method_24_code 35 = .ok (.iload 6, 2) := by decide +kernel
theorem d_Md_goThrough_37 : decode prog_12_method_24_code 37 = .ok (.iload 5, 2) := by decide +kernel
theorem d_Md_goThrough_39 : decode prog_12_method_24_code 39 = .ok (.invokevirtual 125, 3) := by decide +kernel
theorem d_Md_goThrough_42 : decode prog_12_method_24_code 42 = .ok (.istore 4, 2) := by decide +kernel
theorem d_Md_goThrough_44 : decode prog_12_method_24_code 44 = .ok (.iinc 6 1, 3) := by decide +kernel
theorem d_Md_goThrough_47 : decode prog_12_method_24_code 47 = .ok (.goto (-26), 3) := by decide +kernel
theorem d_Md_goThrough_50 : decode prog_12_method_24_code 50 = .ok (.iinc 5 (-1), 3) := by decide +kernel
theorem d_Md_goThrough_53 : decode prog_12_method_24_code 53 = .ok (.goto (-45), 3) := by decide +kernel
theorem d_Md_goThrough_56 : decode prog_12_method_24_code 56 = .ok (.return_, 1) := by decide +kernel
theorem d_Md_greatest_0 : decode prog_12_method_20_code 0 = .ok (.iconst (-1), 1) := by decide +kernel
theorem d_Md_greatest_1 : decode prog_12_method_20_code 1 = .ok (.istore 5, 2) := by decide +kernel
theorem d_Md_greatest_3 : decode prog_12_method_20_code 3 = .ok (.iload_n 3, 1) := by decide +kernel
theorem d_Md_greatest_4 : decode prog_12_method_20_code 4 = .ok (.istore 6, 2) := by decide +kernel
theorem d_Md_greatest_6 : decode prog_12_method_20_code 6 = .ok (.iload 6, 2) := by decide +kernel
theorem d_Md_greatest_8 : decode prog_12_method_20_code 8 = .ok (.iload_n 3, 1) := by decide +kernel
theorem d_Md_greatest_9 : decode prog_12_method_20_code 9 = .ok (.iconst 1, 1) := by decide +kernel
theorem d_Md_greatest_10 : decode prog_12_method_20_code 10 = .ok (.iconst 2, 1) := by decide +kernel
theorem d_Md_greatest_11 : decode prog_12_method_20_code 11 = .ok (.iload 4, 2) := by decide +kernel
theorem d_Md_greatest_13 : decode prog_12_method_20_code 13 = .ok (.imul, 1) := by decide +kernel
theorem d_Md_greatest_14 : decode prog_12_method_20_code 14 = .ok (.ishl, 1) := by decide +kernel
theorem d_Md_greatest_15 : decode prog_12_method_20_code 15 = .ok (.iadd, 1) := by decide +kernel
theorem d_Md_greatest_16 : decode prog_12_method_20_code 16 = .ok (.if_icmp .ge 50, 3) := by decide +kernel
theorem d_Md_greatest_19 : decode prog_12_method_20_code 19 = .ok (.iload_n 2, 1) := by decide +kernel
theorem d_Md_greatest_20 : decode prog_12_method_20_code 20 = .ok (.iload 6, 2) := by decide +kernel
theorem d_Md_greatest_22 : decode prog_12_method_20_code 22 = .ok (.invokestatic 111, 3) := by decide +kernel
theorem d_Md_greatest_25 : decode prog_12_method_20_code 25 = .ok (.istore 7, 2) := by decide +kernel
theorem d_Md_greatest_27 : decode prog_12_method_20_code 27 = .ok (.aload_n 0, 1) := by decide +kernel
theorem d_Md_greatest_28 : decode prog_12_method_20_code 28 = .ok (.iload 7, 2) := by decide +kernel
theorem d_Md_greatest_30 : decode prog_12_method_20_code 30 = .ok (.baload, 1) := by decide +kernel
theorem d_Md_greatest_31 : decode prog_12_method_20_code 31 = .ok (.ifCond .eq 25, 3) := by decide +kernel
theorem d_Md_greatest_34 : decode prog_12_method_20_code 34 = .ok (.aload_n 1, 1) := by decide +kernel
theorem d_Md_greatest_35 : decode prog_12_method_20_code 35 = .ok (.iload 7, 2) := by decide +kernel
theorem d_Md_greatest_37 : decode prog_12_method_20_code 37 = .ok (.iaload, 1) := by decide +kernel
theorem d_Md_greatest_38 : decode prog_12_method_20_code 38 = .ok (.invokestatic 89, 3) := by decide +kernel
theorem d_Md_greatest_41 : decode prog_12_method_20_code 41 = .ok (.iload 5, 2) := by decide +kernel
theorem d_Md_greatest_43 : decode prog_12_method_20_code 43 = .ok (.if_icmp .le 13, 3) := by decide +kernel
theorem d_Md_greatest_46 : decode prog_12_method_20_code 46 = .ok (.aload_n 1, 1) := by decide +kernel
theorem d_Md_greatest_47 : decode prog_12_method_20_code 47 = .ok (.iload 7, 2) := by decide +kernel
theorem d_Md_greatest_49 : decode prog_12_method_20_code 49 = .ok (.iaload, 1) := by decide +kernel
theorem d_Md_greatest_50 : decode prog_12_method_20_code 50 = .ok (.invokestatic 89, 3) := by decide +kernel
theorem d_Md_greatest_53 : decode prog_12_method_20_code 53 = .ok (.goto 5, 3) := by decide +kernel
theorem d_Md_greatest_56 : decode prog_12_method_20_code 56 = .ok (.iload 5, 2) := by decide +kernel
theorem d_Md_greatest_58 : decode prog_12_method_20_code 58 = .ok (.istore 5, 2) := by decide +kernel
theorem d_Md_greatest_60 : decode prog_12_method_20_code 60 = .ok (.iinc 6 1, 3) := by decide +kernel
theorem d_Md_greatest_63 : decode prog_12_method_20_code 63 = .ok (.goto (-57), 3) := by decide +kernel
theorem d_Md_greatest_66 : decode prog_12_method_20_code 66 = .ok (.iload 5, 2) := by decide +kernel
theorem d_Md_greatest_68 : decode prog_12_method_20_code 68 = .ok (.ireturn, 1) := by decide +kernel
theorem d_Md_headBits_0 : decode prog_12_method_41_code 0 = .ok (.aload_n 0, 1) := by decide +kernel
theorem d_Md_headBits_1 : decode prog_12_method_41_code 1 = .ok (.iconst 1, 1) := by decide +kernel
theorem d_Md_headBits_2 : decode prog_12_method_41_code 2 = .ok (.ldc 129, 2) := by decide +kernel
theorem d_Md_headBits_4 : decode prog_12_method_41_code 4 = .ok (.invokevirtual 134, 3) := by decide +kernel
theorem d_Md_headBits_7 : decode prog_12_method_41_code 7 = .ok (.aload_n 0, 1) := by decide +kernel
theorem d_Md_headBits_8 : decode prog_12_method_41_code 8 = .ok (.invokevirtual 138, 3) := by decide +kernel
theorem d_Md_headBits_11 : decode prog_12_method_41_code 11 = .ok (.aload_n 0, 1) := by decide +kernel
theorem d_Md_headBits_12 : decode prog_12_method_41_code 12 = .ok (.getfield 93, 3) := by decide +kernel
theorem d_Md_headBits_15 : decode prog_12_method_41_code 15 = .ok (.ireturn, 1) := by decide +kernel
theorem d_Md_hear_0 : decode prog_12_method_34_code 0 = .ok (.iconst 0, 1) := by decide +kernel
theorem d_Md_hear_1 : decode prog_12_method_34_code 1 = .ok (.istore_n 2, 1) := by decide +kernel
theorem d_Md_hear_2 : decode prog_12_method_34_code 2 = .ok (.iconst 0, 1) := by decide +kernel
theorem d_Md_hear_3 : decode prog_12_method_34_code 3 = .ok (.istore_n 3, 1) := by decide +kernel
theorem d_Md_hear_4 : decode prog_12_method_34_code 4 = .ok (.iload_n 3, 1) := by decide +kernel
theorem d_Md_hear_5 : decode prog_12_method_34_code 5 = .ok (.iload_n 1, 1) := by decide +kernel
theorem d_Md_hear_6 : decode prog_12_method_34_code 6 = .ok (.if_icmp .ge 38, 3) := by decide +kernel
theorem d_Md_hear_9 : decode prog_12_method_34_code 9 = .ok (.iload_n 2, 1) := by decide +kernel
theorem d_Md_hear_10 : decode prog_12_method_34_code 10 = .ok (.iconst (-1), 1) := by decide +kernel
theorem d_Md_hear_11 : decode prog_12_method_34_code 11 = .ok (.if_icmp .eq 33, 3) := by decide +kernel
theorem d_Md_hear_14 : decode prog_12_method_34_code 14 = .ok (.aload_n 0, 1) := by decide +kernel
theorem d_Md_hear_15 : decode prog_12_method_34_code 15 = .ok (.iconst 0, 1) := by decide +kernel
theorem d_Md_hear_16 : decode prog_12_method_34_code 16 = .ok (.invokevirtual 102, 3) := by decide +kernel
theorem d_Md_hear_19 : decode prog_12_method_34_code 19 = .ok (.istore 4, 2) := by decide +kernel
theorem d_Md_hear_21 : decode prog_12_method_34_code 21 = .ok (.iload 4, 2) := by decide +kernel
theorem d_Md_hear_23 : decode prog_12_method_34_code 23 = .ok (.iconst (-1), 1) := by decide +kernel
theorem d_Md_hear_24 : decode prog_12_method_34_code 24 = .ok (.if_icmp .ne 7, 3) := by decide +kernel
theorem d_Md_hear_27 : decode prog_12_method_34_code 27 = .ok (.iconst (-1), 1) := by decide +kernel
theorem d_Md_hear_28 : decode prog_12_method_34_code 28 = .ok (.goto 9, 3) := by decide +kernel
theorem d_Md_hear_31 : decode prog_12_method_34_code 31 = .ok (.iconst 2, 1) := by decide +kernel
theorem d_Md_hear_32 : decode prog_12_method_34_code 32 = .ok (.iload_n 2, 1) := by decide +kernel
theorem d_Md_hear_33 : decode prog_12_method_34_code 33 = .ok (.imul, 1) := by decide +kernel
theorem d_Md_hear_34 : decode prog_12_method_34_code 34 = .ok (.iload 4, 2) := by decide +kernel
theorem d_Md_hear_36 : decode prog_12_method_34_code 36 = .ok (.iadd, 1) := by decide +kernel
theorem d_Md_hear_37 : decode prog_12_method_34_code 37 = .ok (.istore_n 2, 1) := by decide +kernel
theorem d_Md_hear_38 : decode prog_12_method_34_code 38 = .ok (.iinc 3 1, 3) := by decide +kernel
theorem d_Md_hear_41 : decode prog_12_method_34_code 41 = .ok (.goto (-37), 3) := by decide +kernel
theorem d_Md_hear_44 : decode prog_12_method_34_code 44 = .ok (.iload_n 2, 1) := by decide +kernel
theorem d_Md_hear_45 : decode prog_12_method_34_code 45 = .ok (.ireturn, 1) := by decide +kernel
theorem d_Md_hearHead_0 : decode prog_12_method_36_code 0 = .ok (.aload_n 0, 1) := by decide +kernel
theorem d_Md_hearHead_1 : decode prog_12_method_36_code 1 = .ok (.iconst 4, 1) := by decide +kernel
theorem d_Md_hearHead_2 : decode prog_12_method_36_code 2 = .ok (.invokevirtual 154, 3) := by decide +kernel
theorem d_Md_hearHead_5 : decode prog_12_method_36_code 5 = .ok (.istore_n 1, 1) := by decide +kernel
theorem d_Md_hearHead_6 : decode prog_12_method_36_code 6 = .ok (.aload_n 0, 1) := by decide +kernel
theorem d_Md_hearHead_7 : decode prog_12_method_36_code 7 = .ok (.iconst 4, 1) := by decide +kernel
theorem d_Md_hearHead_8 : decode prog_12_method_36_code 8 = .ok (.invokevirtual 154, 3) := by decide +kernel
theorem d_Md_hearHead_11 : decode prog_12_method_36_code 11 = .ok (.istore_n 2, 1) := by decide +kernel
theorem d_Md_hearHead_12 : decode prog_12_method_36_code 12 = .ok (.aload_n 0, 1) := by decide +kernel
theorem d_Md_hearHead_13 : decode prog_12_method_36_code 13 = .ok (.aload_n 0, 1) := by decide +kernel
theorem d_Md_hearHead_14 : decode prog_12_method_36_code 14 = .ok (.iconst 5, 1) := by decide +kernel
theorem d_Md_hearHead_15 : decode prog_12_method_36_code 15 = .ok (.invokevirtual 154, 3) := by decide +kernel
theorem d_Md_hearHead_18 : decode prog_12_method_36_code 18 = .ok (.putfield 157, 3) := by decide +kernel
theorem d_Md_hearHead_21 : decode prog_12_method_36_code 21 = .ok (.aload_n 0, 1) := by decide +kernel
theorem d_Md_hearHead_22 : decode prog_12_method_36_code 22 = .ok (.getfield 157, 3) := by decide +kernel
theorem d_Md_hearHead_25 : decode prog_12_method_36_code 25 = .ok (.iconst (-1), 1) := by decide +kernel
theorem d_Md_hearHead_26 : decode prog_12_method_36_code 26 = .ok (.if_icmp .eq 12, 3) := by decide +kernel
theorem d_Md_hearHead_29 : decode prog_12_method_36_code 29 = .ok (.aload_n 0, 1) := by decide +kernel
theorem d_Md_hearHead_30 : decode prog_12_method_36_code 30 = .ok (.getfield 157, 3) := by decide +kernel
theorem d_Md_hearHead_33 : decode prog_12_method_36_code 33 = .ok (.bipush 20, 2) := by decide +kernel
theorem d_Md_hearHead_35 : decode prog_12_method_36_code 35 = .ok (.if_icmp .le 5, 3) := by decide +kernel
theorem d_Md_hearHead_38 : decode prog_12_method_36_code 38 = .ok (.iconst 0, 1) := by decide +kernel
theorem d_Md_hearHead_39 : decode prog_12_method_36_code 39 = .ok (.ireturn, 1) := by decide +kernel
theorem d_Md_hearHead_40 : decode prog_12_method_36_code 40 = .ok (.aload_n 0, 1) := by decide +kernel
theorem d_Md_hearHead_41 : decode prog_12_method_36_code 41 = .ok (.iload_n 1, 1) := by decide +kernel
theorem d_Md_hearHead_42 : decode prog_12_method_36_code 42 = .ok (.iconst 1, 1) := by decide +kernel
theorem d_Md_hearHead_43 : decode prog_12_method_36_code 43 = .ok (.iadd, 1) := by decide +kernel
theorem d_Md_hearHead_44 : decode prog_12_method_36_code 44 = .ok (.putfield 160, 3) := by decide +kernel
theorem d_Md_hearHead_47 : decode prog_12_method_36_code 47 = .ok (.aload_n 0, 1) := by decide +kernel
theorem d_Md_hearHead_48 : decode prog_12_method_36_code 48 = .ok (.iload_n 2, 1) := by decide +kernel
theorem d_Md_hearHead_49 : decode prog_12_method_36_code 49 = .ok (.iconst 1, 1) := by decide +kernel
theorem d_Md_hearHead_50 : decode prog_12_method_36_code 50 = .ok (.iadd, 1) := by decide +kernel
theorem d_Md_hearHead_51 : decode prog_12_method_36_code 51 = .ok (.putfield 163, 3) := by decide +kernel
theorem d_Md_hearHead_54 : decode prog_12_method_36_code 54 = .ok (.iconst 0, 1) := by decide +kernel
theorem d_Md_hearHead_55 : decode prog_12_method_36_code 55 = .ok (.istore_n 3, 1) := by decide +kernel
theorem d_Md_hearHead_56 : decode prog_12_method_36_code 56 = .ok (.iload_n 3, 1) := by decide +kernel
theorem d_Md_hearHead_57 : decode prog_12_method_36_code 57 = .ok (.sipush 256, 3) := by decide +kernel
theorem d_Md_hearHead_60 : decode prog_12_method_36_code 60 = .ok (.if_icmp .ge 16, 3) := by decide +kernel
theorem d_Md_hearHead_63 : decode prog_12_method_36_code 63 = .ok (.aload_n 0, 1) := by decide +kernel
theorem d_Md_hearHead_64 : decode prog_12_method_36_code 64 = .ok (.getfield 23, 3) := by decide +kernel
theorem d_Md_hearHead_67 : decode prog_12_method_36_code 67 = .ok (.iload_n 3, 1) := by decide +kernel
theorem d_Md_hearHead_68 : decode prog_12_method_36_code 68 = .ok (.iconst 0, 1) := by decide +kernel
theorem d_Md_hearHead_69 : decode prog_12_method_36_code 69 = .ok (.bastore, 1) := by decide +kernel
theorem d_Md_hearHead_70 : decode prog_12_method_36_code 70 = .ok (.iinc 3 1, 3) := by decide +kernel
theorem d_Md_hearHead_73 : decode prog_12_method_36_code 73 = .ok (.goto (-17), 3) := by decide +kernel
theorem d_Md_hearHead_76 : decode prog_12_method_36_code 76 = .ok (.aload_n 0, 1) := by decide +kernel
theorem d_Md_hearHead_77 : decode prog_12_method_36_code 77 = .ok (.getfield 160, 3) := by decide +kernel
theorem d_Md_hearHead_80 : decode prog_12_method_36_code 80 = .ok (.aload_n 0, 1) := by decide +kernel
theorem d_Md_hearHead_81 : decode prog_12_method_36_code 81 = .ok (.getfield 163, 3) := by decide +kernel
theorem d_Md_hearHead_84 : decode prog_12_method_36_code 84 = .ok (.imul, 1) := by decide +kernel
theorem d_Md_hearHead_85 : decode prog_12_method_36_code 85 = .ok (.istore_n 3, 1) := by decide +kernel
theorem d_Md_hearHead_86 : decode prog_12_method_36_code 86 = .ok (.iconst 0, 1) := by decide +kernel
theorem d_Md_hearHead_87 : decode prog_12_method_36_code 87 = .ok (.istore 4, 2) := by decide +kernel
theorem d_Md_hearHead_89 : decode prog_12_method_36_code 89 = .ok (.iconst 0, 1) := by decide +kernel
theorem d_Md_hearHead_90 : decode prog_12_method_36_code 90 = .ok (.istore 5, 2) := by decide +kernel
theorem d_Md_hearHead_92 : decode prog_12_method_36_code 92 = .ok (.iload 4, 2) := by decide +kernel
theorem d_Md_hearHead_94 : decode prog_12_method_36_code 94 = .ok (.iload_n 3, 1) := by decide +kernel
theorem d_Md_hearHead_95 : decode prog_12_method_36_code 95 = .ok (.if_icmp .ge 108, 3) := by decide +kernel
theorem d_Md_hearHead_98 : decode prog_12_method_36_code 98 = .ok (.aload_n 0, 1) := by decide +kernel
theorem d_Md_hearHead_99 : decode prog_12_method_36_code 99 = .ok (.invokevirtual 166, 3) := by decide +kernel
theorem d_Md_hearHead_102 : decode prog_12_method_36_code 102 = .ok (.istore 6, 2) := by decide +kernel
theorem d_Md_hearHead_104 : decode prog_12_method_36_code 104 = .ok (.iload 6, 2) := by decide +kernel
theorem d_Md_hearHead_106 : decode prog_12_method_36_code 106 = .ok (.iconst (-1), 1) := by decide +kernel
theorem d_Md_hearHead_107 : decode prog_12_method_36_code 107 = .ok (.if_icmp .eq 27, 3) := by decide +kernel
theorem d_Md_hearHead_110 : decode prog_12_method_36_code 110 = .ok (.iload 6, 2) := by decide +kernel
theorem d_Md_hearHead_112 : decode prog_12_method_36_code 112 = .ok (.ifCond .ne 13, 3) := by decide +kernel
theorem d_Md_hearHead_115 : decode prog_12_method_36_code 115 = .ok (.iload 4, 2) := by decide +kernel
theorem d_Md_hearHead_117 : decode prog_12_method_36_code 117 = .ok (.ifCond .gt 17, 3) := by decide +kernel
theorem d_Md_hearHead_120 : decode prog_12_method_36_code 120 = .ok (.iload 5, 2) := by decide +kernel
theorem d_Md_hearHead_122 : decode prog_12_method_36_code 122 = .ok (.ifCond .ne 12, 3) := by decide +kernel
theorem d_Md_hearHead_125 : decode prog_12_method_36_code 125 = .ok (.iload 4, 2) := by decide +kernel
theorem d_Md_hearHead_127 : decode prog_12_method_36_code 127 = .ok (.iload 6, 2) := by decide +kernel
theorem d_Md_hearHead_129 : decode prog_12_method_36_code 129 = .ok (.iadd, 1) := by decide +kernel
theorem d_Md_hearHead_130 : decode prog_12_method_36_code 130 = .ok (.iload_n 3, 1) := by decide +kernel
theorem d_Md_hearHead_131 : decode prog_12_method_36_code 131 = .ok (.if_icmp .le 5, 3) := by decide +kernel
theorem d_Md_hearHead_134 : decode prog_12_method_36_code 134 = .ok (.iconst 0, 1) := by decide +kernel
theorem d_Md_hearHead_135 : decode prog_12_method_36_code 135 = .ok (.ireturn, 1) := by decide +kernel
theorem d_Md_hearHead_136 : decode prog_12_method_36_code 136 = .ok (.iload 4, 2) := by decide +kernel
theorem d_Md_hearHead_138 : decode prog_12_method_36_code 138 = .ok (.istore 7, 2) := by decide +kernel
theorem d_Md_hearHead_140 : decode prog_12_method_36_code 140 = .ok (.iload 7, 2) := by decide +kernel
theorem d_Md_hearHead_142 : decode prog_12_method_36_code 142 = .ok (.iload 4, 2) := by decide +kernel
theorem d_Md_hearHead_144 : decode prog_12_method_36_code 144 = .ok (.iload 6, 2) := by decide +kernel
theorem d_Md_hearHead_146 : decode prog_12_method_36_code 146 = .ok (.iadd, 1) := by decide +kernel
theorem d_Md_hearHead_147 : decode prog_12_method_36_code 147 = .ok (.if_icmp .ge 34, 3) := by decide +kernel
theorem d_Md_hearHead_150 : decode prog_12_method_36_code 150 = .ok (.aload_n 0, 1) := by decide +kernel
theorem d_Md_hearHead_151 : decode prog_12_method_36_code 151 = .ok (.getfield 23, 3) := by decide +kernel
theorem d_Md_hearHead_154 : decode prog_12_method_36_code 154 = .ok (.bipush 16, 2) := by decide +kernel
theorem d_Md_hearHead_156 : decode prog_12_method_36_code 156 = .ok (.iload 7, 2) := by decide +kernel
theorem d_Md_hearHead_158 : decode prog_12_method_36_code 158 = .ok (.aload_n 0, 1) := by decide +kernel
theorem d_Md_hearHead_159 : decode prog_12_method_36_code 159 = .ok (.getfield 160, 3) := by decide +kernel
theorem d_Md_hearHead_162 : decode prog_12_method_36_code 162 = .ok (.idiv, 1) := by decide +kernel
theorem d_Md_hearHead_163 : decode prog_12_method_36_code 163 = .ok (.imul, 1) := by decide +kernel
theorem d_Md_hearHead_164 : decode prog_12_method_36_code 164 = .ok (.iload 7, 2) := by decide +kernel
theorem d_Md_hearHead_166 : decode prog_12_method_36_code 166 = .ok (.aload_n 0, 1) := by decide +kernel
theorem d_Md_hearHead_167 : decode prog_12_method_36_code 167 = .ok (.getfield 160, 3) := by decide +kernel
theorem d_Md_hearHead_170 : decode prog_12_method_36_code 170 = .ok (.irem, 1) := by decide +kernel
theorem d_Md_hearHead_171 : decode prog_12_method_36_code 171 = .ok (.iadd, 1) := by decide +kernel
theorem d_Md_hearHead_172 : decode prog_12_method_36_code 172 = .ok (.iload 5, 2) := by decide +kernel
theorem d_Md_hearHead_174 : decode prog_12_method_36_code 174 = .ok (.bastore, 1) := by decide +kernel
theorem d_Md_hearHead_175 : decode prog_12_method_36_code 175 = .ok (.iinc 7 1, 3) := by decide +kernel
theorem d_Md_hearHead_178 : decode prog_12_method_36_code 178 = .ok (.goto (-38), 3) := by decide +kernel
theorem d_Md_hearHead_181 : decode prog_12_method_36_code 181 = .ok (.iload 4, 2) := by decide +kernel
theorem d_Md_hearHead_183 : decode prog_12_method_36_code 183 = .ok (.iload 6, 2) := by decide +kernel
theorem d_Md_hearHead_185 : decode prog_12_method_36_code 185 = .ok (.iadd, 1) := by decide +kernel
theorem d_Md_hearHead_186 : decode prog_12_method_36_code 186 = .ok (.istore 4, 2) := by decide +kernel
theorem d_Md_hearHead_188 : decode prog_12_method_36_code 188 = .ok (.iload 5, 2) := by decide +kernel
theorem d_Md_hearHead_190 : decode prog_12_method_36_code 190 = .ok (.ifCond .ne 7, 3) := by decide +kernel
theorem d_Md_hearHead_193 : decode prog_12_method_36_code 193 = .ok (.iconst 1, 1) := by decide +kernel
theorem d_Md_hearHead_194 : decode prog_12_method_36_code 194 = .ok (.goto 4, 3) := by decide +kernel
theorem d_Md_hearHead_197 : decode prog_12_method_36_code 197 = .ok (.iconst 0, 1) := by decide +kernel
theorem d_Md_hearHead_198 : decode prog_12_method_36_code 198 = .ok (.istore 5, 2) := by decide +kernel
theorem d_Md_hearHead_200 : decode prog_12_method_36_code 200 = .ok (.goto (-108), 3) := by decide +kernel
theorem d_Md_hearHead_203 : decode prog_12_method_36_code 203 = .ok (.iconst 1, 1) := by decide +kernel
theorem d_Md_hearHead_204 : decode prog_12_method_36_code 204 = .ok (.ireturn, 1) := by decide +kernel
theorem d_Md_hearRun_0 : decode prog_12_method_35_code 0 = .ok (.iconst 0, 1) := by decide +kernel
theorem d_Md_hearRun_1 : decode prog_12_method_35_code 1 = .ok (.istore_n 1, 1) := by decide +kernel
theorem d_Md_hearRun_2 : decode prog_12_method_35_code 2 = .ok (.aload_n 0, 1) := by decide +kernel
theorem d_Md_hearRun_3 : decode prog_12_method_35_code 3 = .ok (.iconst 0, 1) := by decide +kernel
theorem d_Md_hearRun_4 : decode prog_12_method_35_code 4 = .ok (.invokevirtual 102, 3) := by decide +kernel
theorem d_Md_hearRun_7 : decode prog_12_method_35_code 7 = .ok (.istore_n 2, 1) := by decide +kernel
theorem d_Md_hearRun_8 : decode prog_12_method_35_code 8 = .ok (.iload_n 2, 1) := by decide +kernel
theorem d_Md_hearRun_9 : decode prog_12_method_35_code 9 = .ok (.ifCond .ne 21, 3) := by decide +kernel
theorem d_Md_hearRun_12 : decode prog_12_method_35_code 12 = .ok (.iload_n 1, 1) := by decide +kernel
theorem d_Md_hearRun_13 : decode prog_12_method_35_code 13 = .ok (.bipush 17, 2) := by decide +kernel
theorem d_Md_hearRun_15 : decode prog_12_method_35_code 15 = .ok (.if_icmp .ge 15, 3) := by decide +kernel
theorem d_Md_hearRun_18 : decode prog_12_method_35_code 18 = .ok (.iinc 1 1, 3) := by decide +kernel
theorem d_Md_hearRun_21 : decode prog_12_method_35_code 21 = .ok (.aload_n 0, 1) := by decide +kernel
theorem d_Md_hearRun_22 : decode prog_12_method_35_code 22 = .ok (.iconst 0, 1) := by decide +kernel
theorem d_Md_hearRun_23 : decode prog_12_method_35_code 23 = .ok (.invokevirtual 102, 3) := by decide +kernel
theorem d_Md_hearRun_26 : decode prog_12_method_35_code 26 = .ok (.istore_n 2, 1) := by decide +kernel
theorem d_Md_hearRun_27 : decode prog_12_method_35_code 27 = .ok (.goto (-19), 3) := by decide +kernel
theorem d_Md_hearRun_30 : decode prog_12_method_35_code 30 = .ok (.iload_n 2, 1) := by decide +kernel
theorem d_Md_hearRun_31 : decode prog_12_method_35_code 31 = .ok (.iconst 1, 1) := by decide +kernel
theorem d_Md_hearRun_32 : decode prog_12_method_35_code 32 = .ok (.if_icmp .ne 17, 3) := by decide +kernel
theorem d_Md_hearRun_35 : decode prog_12_method_35_code 35 = .ok (.iload_n 1, 1) := by decide +kernel
theorem d_Md_hearRun_36 : decode prog_12_method_35_code 36 = .ok (.bipush 17, 2) := by decide +kernel
theorem d_Md_hearRun_38 : decode prog_12_method_35_code 38 = .ok (.if_icmp .ge 11, 3) := by decide +kernel
theorem d_Md_hearRun_41 : decode prog_12_method_35_code 41 = .ok (.aload_n 0, 1) := by decide +kernel
theorem d_Md_hearRun_42 : decode prog_12_method_35_code 42 = .ok (.iload_n 1, 1) := by decide +kernel
theorem d_Md_hearRun_43 : decode prog_12_method_35_code 43 = .ok (.invokevirtual 154, 3) := by decide +kernel
theorem d_Md_hearRun_46 : decode prog_12_method_35_code 46 = .ok (.goto 4, 3) := by decide +kernel
theorem d_Md_hearRun_49 : decode prog_12_method_35_code 49 = .ok (.iconst (-1), 1) := by decide +kernel
theorem d_Md_hearRun_50 : decode prog_12_method_35_code 50 = .ok (.istore_n 3, 1) := by decide +kernel
theorem d_Md_hearRun_51 : decode prog_12_method_35_code 51 = .ok (.iload_n 3, 1) := by decide +kernel
theorem d_Md_hearRun_52 : decode prog_12_method_35_code 52 = .ok (.iconst (-1), 1) := by decide +kernel
theorem d_Md_hearRun_53 : decode prog_12_method_35_code 53 = .ok (.if_icmp .ne 7, 3) := by decide +kernel
theorem d_Md_hearRun_56 : decode prog_12_method_35_code 56 = .ok (.iconst (-1), 1) := by decide +kernel
theorem d_Md_hearRun_57 : decode prog_12_method_35_code 57 = .ok (.goto 10, 3) := by decide +kernel
theorem d_Md_hearRun_60 : decode prog_12_method_35_code 60 = .ok (.iconst 1, 1) := by decide +kernel
theorem d_Md_hearRun_61 : decode prog_12_method_35_code 61 = .ok (.iload_n 1, 1) := by decide +kernel
theorem d_Md_hearRun_62 : decode prog_12_method_35_code 62 = .ok (.ishl, 1) := by decide +kernel
theorem d_Md_hearRun_63 : decode prog_12_method_35_code 63 = .ok (.iload_n 3, 1) := by decide +kernel
theorem d_Md_hearRun_64 : decode prog_12_method_35_code 64 = .ok (.iadd, 1) := by decide +kernel
theorem d_Md_hearRun_65 : decode prog_12_method_35_code 65 = .ok (.iconst 1, 1) := by decide +kernel
theorem d_Md_hearRun_66 : decode prog_12_method_35_code 66 = .ok (.isub, 1) := by decide +kernel
theorem d_Md_hearRun_67 : decode prog_12_method_35_code 67 = .ok (.ireturn, 1) := by decide +kernel
theorem d_Md_isCut_0 : decode prog_12_method_25_code 0 = .ok (.iload_n 0, 1) := by decide +kernel
theorem d_Md_isCut_1 : decode prog_12_method_25_code 1 = .ok (.ifCond .lt 13, 3) := by decide +kernel
theorem d_Md_isCut_4 : decode prog_12_method_25_code 4 = .ok (.iload_n 0, 1) := by decide +kernel
theorem d_Md_isCut_5 : decode prog_12_method_25_code 5 = .ok (.ldc 129, 2) := by decide +kernel
theorem d_Md_isCut_7 : decode prog_12_method_25_code 7 = .ok (.if_icmp .gt 7, 3) := by decide +kernel
theorem d_Md_isCut_10 : decode prog_12_method_25_code 10 = .ok (.iconst 1, 1) := by decide +kernel
theorem d_Md_isCut_11 : decode prog_12_method_25_code 11 = .ok (.goto 4, 3) := by decide +kernel
theorem d_Md_isCut_14 : decode prog_12_method_25_code 14 = .ok (.iconst 0, 1) := by decide +kernel
theorem d_Md_isCut_15 : decode prog_12_method_25_code 15 = .ok (.ireturn, 1) := by decide +kernel
theorem d_Md_isSample_0 : decode prog_12_method_3_code 0 = .ok (.iload_n 1, 1) := by decide +kernel
theorem d_Md_isSample_1 : decode prog_12_method_3_code 1 = .ok (.ifCond .lt 27, 3) := by decide +kernel
theorem d_Md_isSample_4 : decode prog_12_method_3_code 4 = .ok (.iload_n 1, 1) := by decide +kernel
theorem d_Md_isSample_5 : decode prog_12_method_3_code 5 = .ok (.aload_n 0, 1) := by decide +kernel
theorem d_Md_isSample_6 : decode prog_12_method_3_code 6 = .ok (.getfield 53, 3) := by decide +kernel
theorem d_Md_isSample_9 : decode prog_12_method_3_code 9 = .ok (.if_icmp .ge 19, 3) := by decide +kernel
theorem d_Md_isSample_12 : decode prog_12_method_3_code 12 = .ok (.iload_n 2, 1) := by decide +kernel
theorem d_Md_isSample_13 : decode prog_12_method_3_code 13 = .ok (.ifCond .lt 15, 3) := by decide +kernel
theorem d_Md_isSample_16 : decode prog_12_method_3_code 16 = .ok (.iload_n 2, 1) := by decide +kernel
theorem d_Md_isSample_17 : decode prog_12_method_3_code 17 = .ok (.aload_n 0, 1) := by decide +kernel
theorem d_Md_isSample_18 : decode prog_12_method_3_code 18 = .ok (.getfield 57, 3) := by decide +kernel
theorem d_Md_isSample_21 : decode prog_12_method_3_code 21 = .ok (.if_icmp .ge 7, 3) := by decide +kernel
theorem d_Md_isSample_24 : decode prog_12_method_3_code 24 = .ok (.iconst 1, 1) := by decide +kernel
theorem d_Md_isSample_25 : decode prog_12_method_3_code 25 = .ok (.goto 4, 3) := by decide +kernel
theorem d_Md_isSample_28 : decode prog_12_method_3_code 28 = .ok (.iconst 0, 1) := by decide +kernel
theorem d_Md_isSample_29 : decode prog_12_method_3_code 29 = .ok (.ireturn, 1) := by decide +kernel
theorem d_Md_level_0 : decode prog_12_method_18_code 0 = .ok (.iload_n 0, 1) := by decide +kernel
theorem d_Md_level_1 : decode prog_12_method_18_code 1 = .ok (.bipush 64, 2) := by decide +kernel
theorem d_Md_level_3 : decode prog_12_method_18_code 3 = .ok (.irem, 1) := by decide +kernel
theorem d_Md_level_4 : decode prog_12_method_18_code 4 = .ok (.ifCond .ne 7, 3) := by decide +kernel
theorem d_Md_level_7 : decode prog_12_method_18_code 7 = .ok (.iconst 3, 1) := by decide +kernel
theorem d_Md_level_8 : decode prog_12_method_18_code 8 = .ok (.goto 25, 3) := by decide +kernel
theorem d_Md_level_11 : decode prog_12_method_18_code 11 = .ok (.iload_n 0, 1) := by decide +kernel
theorem d_Md_level_12 : decode prog_12_method_18_code 12 = .ok (.bipush 16, 2) := by decide +kernel
theorem d_Md_level_14 : decode prog_12_method_18_code 14 = .ok (.irem, 1) := by decide +kernel
theorem d_Md_level_15 : decode prog_12_method_18_code 15 = .ok (.ifCond .ne 7, 3) := by decide +kernel
theorem d_Md_level_18 : decode prog_12_method_18_code 18 = .ok (.iconst 2, 1) := by decide +kernel
theorem d_Md_level_19 : decode prog_12_method_18_code 19 = .ok (.goto 14, 3) := by decide +kernel
theorem d_Md_level_22 : decode prog_12_method_18_code 22 = .ok (.iload_n 0, 1) := by decide +kernel
theorem d_Md_level_23 : decode prog_12_method_18_code 23 = .ok (.iconst 4, 1) := by decide +kernel
theorem d_Md_level_24 : decode prog_12_method_18_code 24 = .ok (.irem, 1) := by decide +kernel
theorem d_Md_level_25 : decode prog_12_method_18_code 25 = .ok (.ifCond .ne 7, 3) := by decide +kernel
theorem d_Md_level_28 : decode prog_12_method_18_code 28 = .ok (.iconst 1, 1) := by decide +kernel
theorem d_Md_level_29 : decode prog_12_method_18_code 29 = .ok (.goto 4, 3) := by decide +kernel
theorem d_Md_level_32 : decode prog_12_method_18_code 32 = .ok (.iconst 0, 1) := by decide +kernel
theorem d_Md_level_33 : decode prog_12_method_18_code 33 = .ok (.ireturn, 1) := by decide +kernel
theorem d_Md_lift_0 : decode prog_12_method_9_code 0 = .ok (.iconst 0, 1) := by decide +kernel
theorem d_Md_lift_1 : decode prog_12_method_9_code 1 = .ok (.istore 6, 2) := by decide +kernel
theorem d_Md_lift_3 : decode prog_12_method_9_code 3 = .ok (.iload 6, 2) := by decide +kernel
theorem d_Md_lift_5 : decode prog_12_method_9_code 5 = .ok (.sipush 256, 3) := by decide +kernel
theorem d_Md_lift_8 : decode prog_12_method_9_code 8 = .ok (.if_icmp .ge 140, 3) := by decide +kernel
theorem d_Md_lift_11 : decode prog_12_method_9_code 11 = .ok (.iload 6, 2) := by decide +kernel
theorem d_Md_lift_13 : decode prog_12_method_9_code 13 = .ok (.bipush 16, 2) := by decide +kernel
theorem d_Md_lift_15 : decode prog_12_method_9_code 15 = .ok (.irem, 1) := by decide +kernel
theorem d_Md_lift_16 : decode prog_12_method_9_code 16 = .ok (.istore 7, 2) := by decide +kernel
theorem d_Md_lift_18 : decode prog_12_method_9_code 18 = .ok (.iload 6, 2) := by decide +kernel
theorem d_Md_lift_20 : decode prog_12_method_9_code 20 = .ok (.bipush 16, 2) := by decide +kernel
theorem d_Md_lift_22 : decode prog_12_method_9_code 22 = .ok (.idiv, 1) := by decide +kernel
theorem d_Md_lift_23 : decode prog_12_method_9_code 23 = .ok (.istore 8, 2) := by decide +kernel
theorem d_Md_lift_25 : decode prog_12_method_9_code 25 = .ok (.iload_n 3, 1) := by decide +kernel
theorem d_Md_lift_26 : decode prog_12_method_9_code 26 = .ok (.ifCond .eq 8, 3) := by decide +kernel
theorem d_Md_lift_29 : decode prog_12_method_9_code 29 = .ok (.iload 7, 2) := by decide +kernel
theorem d_Md_lift_31 : decode prog_12_method_9_code 31 = .ok (.goto 5, 3) := by decide +kernel
theorem d_Md_lift_34 : decode prog_12_method_9_code 34 = .ok (.iload 8, 2) := by decide +kernel
theorem d_Md_lift_36 : decode prog_12_method_9_code 36 = .ok (.iload_n 2, 1) := by decide +kernel
theorem d_Md_lift_37 : decode prog_12_method_9_code 37 = .ok (.idiv, 1) := by decide +kernel
theorem d_Md_lift_38 : decode prog_12_method_9_code 38 = .ok (.istore 9, 2) := by decide +kernel
theorem d_Md_lift_40 : decode prog_12_method_9_code 40 = .ok (.aload_n 0, 1) := by decide +kernel
theorem d_Md_lift_41 : decode prog_12_method_9_code 41 = .ok (.iload 6, 2) := by decide +kernel
theorem d_Md_lift_43 : decode prog_12_method_9_code 43 = .ok (.iaload, 1) := by decide +kernel
theorem d_Md_lift_44 : decode prog_12_method_9_code 44 = .ok (.iconst (-1), 1) := by decide +kernel
theorem d_Md_lift_45 : decode prog_12_method_9_code 45 = .ok (.if_icmp .eq 97, 3) := by decide +kernel
theorem d_Md_lift_48 : decode prog_12_method_9_code 48 = .ok (.iload 7, 2) := by decide +kernel
theorem d_Md_lift_50 : decode prog_12_method_9_code 50 = .ok (.iload_n 2, 1) := by decide +kernel
theorem d_Md_lift_51 : decode prog_12_method_9_code 51 = .ok (.irem, 1) := by decide +kernel
theorem d_Md_lift_52 : decode prog_12_method_9_code 52 = .ok (.ifCond .ne 90, 3) := by decide +kernel
theorem d_Md_lift_55 : decode prog_12_method_9_code 55 = .ok (.iload 8, 2) := by decide +kernel
theorem d_Md_lift_57 : decode prog_12_method_9_code 57 = .ok (.iload_n 2, 1) := by decide +kernel
theorem d_Md_lift_58 : decode prog_12_method_9_code 58 = .ok (.irem, 1) := by decide +kernel
theorem d_Md_lift_59 : decode prog_12_method_9_code 59 = .ok (.ifCond .ne 83, 3) := by decide +kernel
theorem d_Md_lift_62 : decode prog_12_method_9_code 62 = .ok (.iload 9, 2) := by decide +kernel
theorem d_Md_lift_64 : decode prog_12_method_9_code 64 = .ok (.iconst 2, 1) := by decide +kernel
theorem d_Md_lift_65 : decode prog_12_method_9_code 65 = .ok (.irem, 1) := by decide +kernel
theorem d_Md_lift_66 : decode prog_12_method_9_code 66 = .ok (.iconst 1, 1) := by decide +kernel
theorem d_Md_lift_67 : decode prog_12_method_9_code 67 = .ok (.if_icmp .ne 7, 3) := by decide +kernel
theorem d_Md_lift_70 : decode prog_12_method_9_code 70 = .ok (.iconst 1, 1) := by decide +kernel
theorem d_Md_lift_71 : decode prog_12_method_9_code 71 = .ok (.goto 4, 3) := by decide +kernel
theorem d_Md_lift_74 : decode prog_12_method_9_code 74 = .ok (.iconst 0, 1) := by decide +kernel
theorem d_Md_lift_75 : decode prog_12_method_9_code 75 = .ok (.iload 4, 2) := by decide +kernel
theorem d_Md_lift_77 : decode prog_12_method_9_code 77 = .ok (.if_icmp .eq 6, 3) := by decide +kernel
theorem d_Md_lift_80 : decode prog_12_method_9_code 80 = .ok (.goto 62, 3) := by decide +kernel
theorem d_Md_lift_83 : decode prog_12_method_9_code 83 = .ok (.aload_n 0, 1) := by decide +kernel
theorem d_Md_lift_84 : decode prog_12_method_9_code 84 = .ok (.aload_n 1, 1) := by decide +kernel
theorem d_Md_lift_85 : decode prog_12_method_9_code 85 = .ok (.iload 6, 2) := by decide +kernel
theorem d_Md_lift_87 : decode prog_12_method_9_code 87 = .ok (.iload_n 2, 1) := by decide +kernel
theorem d_Md_lift_88 : decode prog_12_method_9_code 88 = .ok (.iload_n 3, 1) := by decide +kernel
theorem d_Md_lift_89 : decode prog_12_method_9_code 89 = .ok (.invokestatic 72, 3) := by decide +kernel
theorem d_Md_lift_92 : decode prog_12_method_9_code 92 = .ok (.istore 10, 2) := by decide +kernel
theorem d_Md_lift_94 : decode prog_12_method_9_code 94 = .ok (.iload 10, 2) := by decide +kernel
theorem d_Md_lift_96 : decode prog_12_method_9_code 96 = .ok (.ldc 71, 2) := by decide +kernel
theorem d_Md_lift_98 : decode prog_12_method_9_code 98 = .ok (.if_icmp .eq 44, 3) := by decide +kernel
theorem d_Md_lift_101 : decode prog_12_method_9_code 101 = .ok (.iload 4, 2) := by decide +kernel
theorem d_Md_lift_103 : decode prog_12_method_9_code 103 = .ok (.ifCond .eq 11, 3) := by decide +kernel
theorem d_Md_lift_106 : decode prog_12_method_9_code 106 = .ok (.iload 10, 2) := by decide +kernel
theorem d_Md_lift_108 : decode prog_12_method_9_code 108 = .ok (.iconst 1, 1) := by decide +kernel
theorem d_Md_lift_109 : decode prog_12_method_9_code 109 = .ok (.ishr, 1) := by decide +kernel
theorem d_Md_lift_110 : decode prog_12_method_9_code 110 = .ok (.ineg, 1) := by decide +kernel
theorem d_Md_lift_111 : decode prog_12_method_9_code 111 = .ok (.goto 9, 3) := by decide +kernel
theorem d_Md_lift_114 : decode prog_12_method_9_code 114 = .ok (.iload 10, 2) := by decide +kernel
theorem d_Md_lift_116 : decode prog_12_method_9_code 116 = .ok (.iconst 2, 1) := by decide +kernel
theorem d_Md_lift_117 : decode prog_12_method_9_code 117 = .ok (.iadd, 1) := by decide +kernel
theorem d_Md_lift_118 : decode prog_12_method_9_code 118 = .ok (.iconst 2, 1) := by decide +kernel
theorem d_Md_lift_119 : decode prog_12_method_9_code 119 = .ok (.ishr, 1) := by decide +kernel
theorem d_Md_lift_120 : decode prog_12_method_9_code 120 = .ok (.istore 11, 2) := by decide +kernel
theorem d_Md_lift_122 : decode prog_12_method_9_code 122 = .ok (.aload_n 1, 1) := by decide +kernel
theorem d_Md_lift_123 : decode prog_12_method_9_code 123 = .ok (.iload 6, 2) := by decide +kernel
theorem d_Md_lift_125 : decode prog_12_method_9_code 125 = .ok (.dup2, 1) := by decide +kernel
theorem d_Md_lift_126 : decode prog_12_method_9_code 126 = .ok (.iaload, 1) := by decide +kernel
theorem d_Md_lift_127 : decode prog_12_method_9_code 127 = .ok (.iload 5, 2) := by decide +kernel
theorem d_Md_lift_129 : decode prog_12_method_9_code 129 = .ok (.ifCond .eq 9, 3) := by decide +kernel
theorem d_Md_lift_132 : decode prog_12_method_9_code 132 = .ok (.iload 11, 2) := by decide +kernel
theorem d_Md_lift_134 : decode prog_12_method_9_code 134 = .ok (.ineg, 1) := by decide +kernel
theorem d_Md_lift_135 : decode prog_12_method_9_code 135 = .ok (.goto 5, 3) := by decide +kernel
theorem d_Md_lift_138 : decode prog_12_method_9_code 138 = .ok (.iload 11, 2) := by decide +kernel
theorem d_Md_lift_140 : decode prog_12_method_9_code 140 = .ok (.iadd, 1) := by decide +kernel
theorem d_Md_lift_141 : decode prog_12_method_9_code 141 = .ok (.iastore, 1) := by decide +kernel
theorem d_Md_lift_142 : decode prog_12_method_9_code 142 = .ok (.iinc 6 1, 3) := by decide +kernel
theorem d_Md_lift_145 : decode prog_12_method_9_code 145 = .ok (.goto (-142), 3) := by decide +kernel
theorem d_Md_lift_148 : decode prog_12_method_9_code 148 = .ok (.return_, 1) := by decide +kernel
theorem d_Md_liftBack_0 : decode prog_12_method_11_code 0 = .ok (.iconst 4, 1) := by decide +kernel
theorem d_Md_liftBack_1 : decode prog_12_method_11_code 1 = .ok (.istore_n 2, 1) := by decide +kernel
theorem d_Md_liftBack_2 : decode prog_12_method_11_code 2 = .ok (.iload_n 2, 1) := by decide +kernel
theorem d_Md_liftBack_3 : decode prog_12_method_11_code 3 = .ok (.ifCond .le 56, 3) := by decide +kernel
theorem d_Md_liftBack_6 : decode prog_12_method_11_code 6 = .ok (.iconst 1, 1) := by decide +kernel
theorem d_Md_liftBack_7 : decode prog_12_method_11_code 7 = .ok (.istore_n 3, 1) := by decide +kernel
theorem d_Md_liftBack_8 : decode prog_12_method_11_code 8 = .ok (.iload_n 3, 1) := by decide +kernel
theorem d_Md_liftBack_9 : decode prog_12_method_11_code 9 = .ok (.ifCond .lt 43, 3) := by decide +kernel
theorem d_Md_liftBack_12 : decode prog_12_method_11_code 12 = .ok (.aload_n 0, 1) := by decide +kernel
theorem d_Md_liftBack_13 : decode prog_12_method_11_code 13 = .ok (.aload_n 1, 1) := by decide +kernel
theorem d_Md_liftBack_14 : decode prog_12_method_11_code 14 = .ok (.iload_n 2, 1) := by decide +kernel
theorem d_Md_liftBack_15 : decode prog_12_method_11_code 15 = .ok (.iload_n 3, 1) := by decide +kernel
theorem d_Md_liftBack_16 : decode prog_12_method_11_code 16 = .ok (.ifCond .ne 7, 3) := by decide +kernel
theorem d_Md_liftBack_19 : decode prog_12_method_11_code 19 = .ok (.iconst 1, 1) := by decide +kernel
theorem d_Md_liftBack_20 : decode prog_12_method_11_code 20 = .ok (.goto 4, 3) := by decide +kernel
theorem d_Md_liftBack_23 : decode prog_12_method_11_code 23 = .ok (.iconst 0, 1) := by decide +kernel
theorem d_Md_liftBack_24 : decode prog_12_method_11_code 24 = .ok (.iconst 0, 1) := by decide +kernel
theorem d_Md_liftBack_25 : decode prog_12_method_11_code 25 = .ok (.iconst 1, 1) := by decide +kernel
theorem d_Md_liftBack_26 : decode prog_12_method_11_code 26 = .ok (.invokestatic 80, 3) := by decide +kernel
theorem d_Md_liftBack_29 : decode prog_12_method_11_code 29 = .ok (.aload_n 0, 1) := by decide +kernel
theorem d_Md_liftBack_30 : decode prog_12_method_11_code 30 = .ok (.aload_n 1, 1) := by decide +kernel
theorem d_Md_liftBack_31 : decode prog_12_method_11_code 31 = .ok (.iload_n 2, 1) := by decide +kernel
theorem d_Md_liftBack_32 : decode prog_12_method_11_code 32 = .ok (.iload_n 3, 1) := by decide +kernel
theorem d_Md_liftBack_33 : decode prog_12_method_11_code 33 = .ok (.ifCond .ne 7, 3) := by decide +kernel
theorem d_Md_liftBack_36 : decode prog_12_method_11_code 36 = .ok (.iconst 1, 1) := by decide +kernel
theorem d_Md_liftBack_37 : decode prog_12_method_11_code 37 = .ok (.goto 4, 3) := by decide +kernel
theorem d_Md_liftBack_40 : decode prog_12_method_11_code 40 = .ok (.iconst 0, 1) := by decide +kernel
theorem d_Md_liftBack_41 : decode prog_12_method_11_code 41 = .ok (.iconst 1, 1) := by decide +kernel
theorem d_Md_liftBack_42 : decode prog_12_method_11_code 42 = .ok (.iconst 1, 1) := by decide +kernel
theorem d_Md_liftBack_43 : decode prog_12_method_11_code 43 = .ok (.invokestatic 80, 3) := by decide +kernel
theorem d_Md_liftBack_46 : decode prog_12_method_11_code 46 = .ok (.iinc 3 (-1), 3) := by decide +kernel
theorem d_Md_liftBack_49 : decode prog_12_method_11_code 49 = .ok (.goto (-41), 3) := by decide +kernel
theorem d_Md_liftBack_52 : decode prog_12_method_11_code 52 = .ok (.iload_n 2, 1) := by decide +kernel
theorem d_Md_liftBack_53 : decode prog_12_method_11_code 53 = .ok (.iconst 2, 1) := by decide +kernel
theorem d_Md_liftBack_54 : decode prog_12_method_11_code 54 = .ok (.idiv, 1) := by decide +kernel
theorem d_Md_liftBack_55 : decode prog_12_method_11_code 55 = .ok (.istore_n 2, 1) := by decide +kernel
theorem d_Md_liftBack_56 : decode prog_12_method_11_code 56 = .ok (.goto (-54), 3) := by decide +kernel
theorem d_Md_liftBack_59 : decode prog_12_method_11_code 59 = .ok (.return_, 1) := by decide +kernel
theorem d_Md_makeWaves_0 : decode prog_12_method_10_code 0 = .ok (.aload_n 0, 1) := by decide +kernel
theorem d_Md_makeWaves_1 : decode prog_12_method_10_code 1 = .ok (.aload_n 0, 1) := by decide +kernel
theorem d_Md_makeWaves_2 : decode prog_12_method_10_code 2 = .ok (.getfield 7, 3) := by decide +kernel
theorem d_Md_makeWaves_5 : decode prog_12_method_10_code 5 = .ok (.aload_n 0, 1) := by decide +kernel
theorem d_Md_makeWaves_6 : decode prog_12_method_10_code 6 = .ok (.getfield 17, 3) := by decide +kernel
theorem d_Md_makeWaves_9 : decode prog_12_method_10_code 9 = .ok (.invokevirtual 76, 3) := by decide +kernel
theorem d_Md_makeWaves_12 : decode prog_12_method_10_code 12 = .ok (.istore_n 1, 1) := by decide +kernel
theorem d_Md_makeWaves_13 : decode prog_12_method_10_code 13 = .ok (.iconst 0, 1) := by decide +kernel
theorem d_Md_makeWaves_14 : decode prog_12_method_10_code 14 = .ok (.istore_n 2, 1) := by decide +kernel
theorem d_Md_makeWaves_15 : decode prog_12_method_10_code 15 = .ok (.iload_n 2, 1) := by decide +kernel
theorem d_Md_makeWaves_16 : decode prog_12_method_10_code 16 = .ok (.sipush 256, 3) := by decide +kernel
theorem d_Md_makeWaves_19 : decode prog_12_method_10_code 19 = .ok (.if_icmp .ge 21, 3) := by decide +kernel
theorem d_Md_makeWaves_22 : decode prog_12_method_10_code 22 = .ok (.aload_n 0, 1) := by decide +kernel
theorem d_Md_makeWaves_23 : decode prog_12_method_10_code 23 = .ok (.getfield 20, 3) := by decide +kernel
theorem d_Md_makeWaves_26 : decode prog_12_method_10_code 26 = .ok (.iload_n 2, 1) := by decide +kernel
theorem d_Md_makeWaves_27 : decode prog_12_method_10_code 27 = .ok (.aload_n 0, 1) := by decide +kernel
theorem d_Md_makeWaves_28 : decode prog_12_method_10_code 28 = .ok (.getfield 13, 3) := by decide +kernel
theorem d_Md_makeWaves_31 : decode prog_12_method_10_code 31 = .ok (.iload_n 2, 1) := by decide +kernel
theorem d_Md_makeWaves_32 : decode prog_12_method_10_code 32 = .ok (.iaload, 1) := by decide +kernel
theorem d_Md_makeWaves_33 : decode prog_12_method_10_code 33 = .ok (.iastore, 1) := by decide +kernel
theorem d_Md_makeWaves_34 : decode prog_12_method_10_code 34 = .ok (.iinc 2 1, 3) := by decide +kernel
theorem d_Md_makeWaves_37 : decode prog_12_method_10_code 37 = .ok (.goto (-22), 3) := by decide +kernel
theorem d_Md_makeWaves_40 : decode prog_12_method_10_code 40 = .ok (.iconst 1, 1) := by decide +kernel
theorem d_Md_makeWaves_41 : decode prog_12_method_10_code 41 = .ok (.istore_n 2, 1) := by decide +kernel
theorem d_Md_makeWaves_42 : decode prog_12_method_10_code 42 = .ok (.iload_n 2, 1) := by decide +kernel
theorem d_Md_makeWaves_43 : decode prog_12_method_10_code 43 = .ok (.iconst 5, 1) := by decide +kernel
theorem d_Md_makeWaves_44 : decode prog_12_method_10_code 44 = .ok (.if_icmp .ge 69, 3) := by decide +kernel
theorem d_Md_makeWaves_47 : decode prog_12_method_10_code 47 = .ok (.iconst 0, 1) := by decide +kernel
theorem d_Md_makeWaves_48 : decode prog_12_method_10_code 48 = .ok (.istore_n 3, 1) := by decide +kernel
theorem d_Md_makeWaves_49 : decode prog_12_method_10_code 49 = .ok (.iload_n 3, 1) := by decide +kernel
theorem d_Md_makeWaves_50 : decode prog_12_method_10_code 50 = .ok (.iconst 2, 1) := by decide +kernel
theorem d_Md_makeWaves_51 : decode prog_12_method_10_code 51 = .ok (.if_icmp .ge 55, 3) := by decide +kernel
theorem d_Md_makeWaves_54 : decode prog_12_method_10_code 54 = .ok (.aload_n 0, 1) := by decide +kernel
theorem d_Md_makeWaves_55 : decode prog_12_method_10_code 55 = .ok (.getfield 17, 3) := by decide +kernel
theorem d_Md_makeWaves_58 : decode prog_12_method_10_code 58 = .ok (.aload_n 0, 1) := by decide +kernel
theorem d_Md_makeWaves_59 : decode prog_12_method_10_code 59 = .ok (.getfield 20, 3) := by decide +kernel
theorem d_Md_makeWaves_62 : decode prog_12_method_10_code 62 = .ok (.iload_n 2, 1) := by decide +kernel
theorem d_Md_makeWaves_63 : decode prog_12_method_10_code 63 = .ok (.iload_n 3, 1) := by decide +kernel
theorem d_Md_makeWaves_64 : decode prog_12_method_10_code 64 = .ok (.ifCond .ne 7, 3) := by decide +kernel
theorem d_Md_makeWaves_67 : decode prog_12_method_10_code 67 = .ok (.iconst 1, 1) := by decide +kernel
theorem d_Md_makeWaves_68 : decode prog_12_method_10_code 68 = .ok (.goto 4, 3) := by decide +kernel
theorem d_Md_makeWaves_71 : decode prog_12_method_10_code 71 = .ok (.iconst 0, 1) := by decide +kernel
theorem d_Md_makeWaves_72 : decode prog_12_method_10_code 72 = .ok (.iconst 1, 1) := by decide +kernel
theorem d_Md_makeWaves_73 : decode prog_12_method_10_code 73 = .ok (.iconst 0, 1) := by decide +kernel
theorem d_Md_makeWaves_74 : decode prog_12_method_10_code 74 = .ok (.invokestatic 80, 3) := by decide +kernel
theorem d_Md_makeWaves_77 : decode prog_12_method_10_code 77 = .ok (.aload_n 0, 1) := by decide +kernel
theorem d_Md_makeWaves_78 : decode prog_12_method_10_code 78 = .ok (.getfield 17, 3) := by decide +kernel
theorem d_Md_makeWaves_81 : decode prog_12_method_10_code 81 = .ok (.aload_n 0, 1) := by decide +kernel
theorem d_Md_makeWaves_82 : decode prog_12_method_10_code 82 = .ok (.getfield 20, 3) := by decide +kernel
theorem d_Md_makeWaves_85 : decode prog_12_method_10_code 85 = .ok (.iload_n 2, 1) := by decide +kernel
theorem d_Md_makeWaves_86 : decode prog_12_method_10_code 86 = .ok (.iload_n 3, 1) := by decide +kernel
theorem d_Md_makeWaves_87 : decode prog_12_method_10_code 87 = .ok (.ifCond .ne 7, 3) := by decide +kernel
theorem d_Md_makeWaves_90 : decode prog_12_method_10_code 90 = .ok (.iconst 1, 1) := by decide +kernel
theorem d_Md_makeWaves_91 : decode prog_12_method_10_code 91 = .ok (.goto 4, 3) := by decide +kernel
theorem d_Md_makeWaves_94 : decode prog_12_method_10_code 94 = .ok (.iconst 0, 1) := by decide +kernel
theorem d_Md_makeWaves_95 : decode prog_12_method_10_code 95 = .ok (.iconst 0, 1) := by decide +kernel
theorem d_Md_makeWaves_96 : decode prog_12_method_10_code 96 = .ok (.iconst 0, 1) := by decide +kernel
theorem d_Md_makeWaves_97 : decode prog_12_method_10_code 97 = .ok (.invokestatic 80, 3) := by decide +kernel
theorem d_Md_makeWaves_100 : decode prog_12_method_10_code 100 = .ok (.iinc 3 1, 3) := by decide +kernel
theorem d_Md_makeWaves_103 : decode prog_12_method_10_code 103 = .ok (.goto (-54), 3) := by decide +kernel
theorem d_Md_makeWaves_106 : decode prog_12_method_10_code 106 = .ok (.iconst 2, 1) := by decide +kernel
theorem d_Md_makeWaves_107 : decode prog_12_method_10_code 107 = .ok (.iload_n 2, 1) := by decide +kernel
theorem d_Md_makeWaves_108 : decode prog_12_method_10_code 108 = .ok (.imul, 1) := by decide +kernel
theorem d_Md_makeWaves_109 : decode prog_12_method_10_code 109 = .ok (.istore_n 2, 1) := by decide +kernel
theorem d_Md_makeWaves_110 : decode prog_12_method_10_code 110 = .ok (.goto (-68), 3) := by decide +kernel
theorem d_Md_makeWaves_113 : decode prog_12_method_10_code 113 = .ok (.iload_n 1, 1) := by decide +kernel
theorem d_Md_makeWaves_114 : decode prog_12_method_10_code 114 = .ok (.ireturn, 1) := by decide +kernel
theorem d_Md_many_0 : decode prog_12_method_40_code 0 = .ok (.iconst 0, 1) := by decide +kernel
theorem d_Md_many_1 : decode prog_12_method_40_code 1 = .ok (.istore_n 1, 1) := by decide +kernel
theorem d_Md_many_2 : decode prog_12_method_40_code 2 = .ok (.iconst 0, 1) := by decide +kernel
theorem d_Md_many_3 : decode prog_12_method_40_code 3 = .ok (.istore_n 2, 1) := by decide +kernel
theorem d_Md_many_4 : decode prog_12_method_40_code 4 = .ok (.iload_n 2, 1) := by decide +kernel
theorem d_Md_many_5 : decode prog_12_method_40_code 5 = .ok (.sipush 256, 3) := by decide +kernel
theorem d_Md_many_8 : decode prog_12_method_40_code 8 = .ok (.if_icmp .ge 23, 3) := by decide +kernel
theorem d_Md_many_11 : decode prog_12_method_40_code 11 = .ok (.iload_n 1, 1) := by decide +kernel
theorem d_Md_many_12 : decode prog_12_method_40_code 12 = .ok (.aload_n 0, 1) := by decide +kernel
theorem d_Md_many_13 : decode prog_12_method_40_code 13 = .ok (.iload_n 2, 1) := by decide +kernel
theorem d_Md_many_14 : decode prog_12_method_40_code 14 = .ok (.baload, 1) := by decide +kernel
theorem d_Md_many_15 : decode prog_12_method_40_code 15 = .ok (.ifCond .eq 7, 3) := by decide +kernel
theorem d_Md_many_18 : decode prog_12_method_40_code 18 = .ok (.iconst 1, 1) := by decide +kernel
theorem d_Md_many_19 : decode prog_12_method_40_code 19 = .ok (.goto 4, 3) := by decide +kernel
theorem d_Md_many_22 : decode prog_12_method_40_code 22 = .ok (.iconst 0, 1) := by decide +kernel
theorem d_Md_many_23 : decode prog_12_method_40_code 23 = .ok (.iadd, 1) := by decide +kernel
theorem d_Md_many_24 : decode prog_12_method_40_code 24 = .ok (.istore_n 1, 1) := by decide +kernel
theorem d_Md_many_25 : decode prog_12_method_40_code 25 = .ok (.iinc 2 1, 3) := by decide +kernel
theorem d_Md_many_28 : decode prog_12_method_40_code 28 = .ok (.goto (-24), 3) := by decide +kernel
theorem d_Md_many_31 : decode prog_12_method_40_code 31 = .ok (.iload_n 1, 1) := by decide +kernel
theorem d_Md_many_32 : decode prog_12_method_40_code 32 = .ok (.ireturn, 1) := by decide +kernel
theorem d_Md_mask_0 : decode prog_12_method_4_code 0 = .ok (.aload_n 0, 1) := by decide +kernel
theorem d_Md_mask_1 : decode prog_12_method_4_code 1 = .ok (.aload_n 0, 1) := by decide +kernel
theorem d_Md_mask_2 : decode prog_12_method_4_code 2 = .ok (.iload_n 1, 1) := by decide +kernel
theorem d_Md_mask_3 : decode prog_12_method_4_code 3 = .ok (.iload_n 2, 1) := by decide +kernel
theorem d_Md_mask_4 : decode prog_12_method_4_code 4 = .ok (.invokevirtual 63, 3) := by decide +kernel
theorem d_Md_mask_7 : decode prog_12_method_4_code 7 = .ok (.ifCond .ne 7, 3) := by decide +kernel
theorem d_Md_mask_10 : decode prog_12_method_4_code 10 = .ok (.iconst 1, 1) := by decide +kernel
theorem d_Md_mask_11 : decode prog_12_method_4_code 11 = .ok (.goto 13, 3) := by decide +kernel
theorem d_Md_mask_14 : decode prog_12_method_4_code 14 = .ok (.iload_n 3, 1) := by decide +kernel
theorem d_Md_mask_15 : decode prog_12_method_4_code 15 = .ok (.iconst 1, 1) := by decide +kernel
theorem d_Md_mask_16 : decode prog_12_method_4_code 16 = .ok (.if_icmp .ge 7, 3) := by decide +kernel
theorem d_Md_mask_19 : decode prog_12_method_4_code 19 = .ok (.iconst 2, 1) := by decide +kernel
theorem d_Md_mask_20 : decode prog_12_method_4_code 20 = .ok (.goto 4, 3) := by decide +kernel
theorem d_Md_mask_23 : decode prog_12_method_4_code 23 = .ok (.iconst 0, 1) := by decide +kernel
theorem d_Md_mask_24 : decode prog_12_method_4_code 24 = .ok (.putfield 60, 3) := by decide +kernel
theorem d_Md_mask_27 : decode prog_12_method_4_code 27 = .ok (.iconst 0, 1) := by decide +kernel
theorem d_Md_mask_28 : decode prog_12_method_4_code 28 = .ok (.istore 5, 2) := by decide +kernel
theorem d_Md_mask_30 : decode prog_12_method_4_code 30 = .ok (.iconst 0, 1) := by decide +kernel
theorem d_Md_mask_31 : decode prog_12_method_4_code 31 = .ok (.istore 6, 2) := by decide +kernel
theorem d_Md_mask_33 : decode prog_12_method_4_code 33 = .ok (.iload 6, 2) := by decide +kernel
theorem d_Md_mask_35 : decode prog_12_method_4_code 35 = .ok (.iload_n 3, 1) := by decide +kernel
theorem d_Md_mask_36 : decode prog_12_method_4_code 36 = .ok (.if_icmp .ge 72, 3) := by decide +kernel
theorem d_Md_mask_39 : decode prog_12_method_4_code 39 = .ok (.iload_n 1, 1) := by decide +kernel
theorem d_Md_mask_40 : decode prog_12_method_4_code 40 = .ok (.iload 6, 2) := by decide +kernel
theorem d_Md_mask_42 : decode prog_12_method_4_code 42 = .ok (.iadd, 1) := by decide +kernel
theorem d_Md_mask_43 : decode prog_12_method_4_code 43 = .ok (.aload_n 0, 1) := by decide +kernel
theorem d_Md_mask_44 : decode prog_12_method_4_code 44 = .ok (.getfield 53, 3) := by decide +kernel
theorem d_Md_mask_47 : decode prog_12_method_4_code 47 = .ok (.if_icmp .ge 61, 3) := by decide +kernel
theorem d_Md_mask_50 : decode prog_12_method_4_code 50 = .ok (.aload_n 0, 1) := by decide +kernel
theorem d_Md_mask_51 : decode prog_12_method_4_code 51 = .ok (.getfield 60, 3) := by decide +kernel
theorem d_Md_mask_54 : decode prog_12_method_4_code 54 = .ok (.ifCond .ne 54, 3) := by decide +kernel
theorem d_Md_mask_57 : decode prog_12_method_4_code 57 = .ok (.iload 5, 2) := by decide +kernel
theorem d_Md_mask_59 : decode prog_12_method_4_code 59 = .ok (.aload_n 0, 1) := by decide +kernel
theorem d_Md_mask_60 : decode prog_12_method_4_code 60 = .ok (.getfield 7, 3) := by decide +kernel
theorem d_Md_mask_63 : decode prog_12_method_4_code 63 = .ok (.bipush 16, 2) := by decide +kernel
theorem d_Md_mask_65 : decode prog_12_method_4_code 65 = .ok (.iload_n 2, 1) := by decide +kernel
theorem d_Md_mask_66 : decode prog_12_method_4_code 66 = .ok (.imul, 1) := by decide +kernel
theorem d_Md_mask_67 : decode prog_12_method_4_code 67 = .ok (.iload_n 1, 1) := by decide +kernel
theorem d_Md_mask_68 : decode prog_12_method_4_code 68 = .ok (.iadd, 1) := by decide +kernel
theorem d_Md_mask_69 : decode prog_12_method_4_code 69 = .ok (.iload 6, 2) := by decide +kernel
theorem d_Md_mask_71 : decode prog_12_method_4_code 71 = .ok (.iadd, 1) := by decide +kernel
theorem d_Md_mask_72 : decode prog_12_method_4_code 72 = .ok (.baload, 1) := by decide +kernel
theorem d_Md_mask_73 : decode prog_12_method_4_code 73 = .ok (.iload 4, 2) := by decide +kernel
theorem d_Md_mask_75 : decode prog_12_method_4_code 75 = .ok (.if_icmp .ne 7, 3) := by decide +kernel
theorem d_Md_mask_78 : decode prog_12_method_4_code 78 = .ok (.iconst 0, 1) := by decide +kernel
theorem d_Md_mask_79 : decode prog_12_method_4_code 79 = .ok (.goto 4, 3) := by decide +kernel
theorem d_Md_mask_82 : decode prog_12_method_4_code 82 = .ok (.iconst 1, 1) := by decide +kernel
theorem d_Md_mask_83 : decode prog_12_method_4_code 83 = .ok (.iadd, 1) := by decide +kernel
theorem d_Md_mask_84 : decode prog_12_method_4_code 84 = .ok (.istore 5, 2) := by decide +kernel
theorem d_Md_mask_86 : decode prog_12_method_4_code 86 = .ok (.aload_n 0, 1) := by decide +kernel
theorem d_Md_mask_87 : decode prog_12_method_4_code 87 = .ok (.getfield 7, 3) := by decide +kernel
theorem d_Md_mask_90 : decode prog_12_method_4_code 90 = .ok (.bipush 16, 2) := by decide +kernel
theorem d_Md_mask_92 : decode prog_12_method_4_code 92 = .ok (.iload_n 2, 1) := by decide +kernel
theorem d_Md_mask_93 : decode prog_12_method_4_code 93 = .ok (.imul, 1) := by decide +kernel
theorem d_Md_mask_94 : decode prog_12_method_4_code 94 = .ok (.iload_n 1, 1) := by decide +kernel
theorem d_Md_mask_95 : decode prog_12_method_4_code 95 = .ok (.iadd, 1) := by decide +kernel
theorem d_Md_mask_96 : decode prog_12_method_4_code 96 = .ok (.iload 6, 2) := by decide +kernel
theorem d_Md_mask_98 : decode prog_12_method_4_code 98 = .ok (.iadd, 1) := by decide +kernel
theorem d_Md_mask_99 : decode prog_12_method_4_code 99 = .ok (.iload 4, 2) := by decide +kernel
theorem d_Md_mask_101 : decode prog_12_method_4_code 101 = .ok (.bastore, 1) := by decide +kernel
theorem d_Md_mask_102 : decode prog_12_method_4_code 102 = .ok (.iinc 6 1, 3) := by decide +kernel
theorem d_Md_mask_105 : decode prog_12_method_4_code 105 = .ok (.goto (-72), 3) := by decide +kernel
theorem d_Md_mask_108 : decode prog_12_method_4_code 108 = .ok (.iload 5, 2) := by decide +kernel
theorem d_Md_mask_110 : decode prog_12_method_4_code 110 = .ok (.ireturn, 1) := by decide +kernel
theorem d_Md_number_0 : decode prog_12_method_7_code 0 = .ok (.iconst 0, 1) := by decide +kernel
theorem d_Md_number_1 : decode prog_12_method_7_code 1 = .ok (.istore_n 3, 1) := by decide +kernel
theorem d_Md_number_2 : decode prog_12_method_7_code 2 = .ok (.iload_n 3, 1) := by decide +kernel
theorem d_Md_number_3 : decode prog_12_method_7_code 3 = .ok (.sipush 256, 3) := by decide +kernel
theorem d_Md_number_6 : decode prog_12_method_7_code 6 = .ok (.if_icmp .ge 13, 3) := by decide +kernel
theorem d_Md_number_9 : decode prog_12_method_7_code 9 = .ok (.aload_n 2, 1) := by decide +kernel
theorem d_Md_number_10 : decode prog_12_method_7_code 10 = .ok (.iload_n 3, 1) := by decide +kernel
theorem d_Md_number_11 : decode prog_12_method_7_code 11 = .ok (.iconst (-1), 1) := by decide +kernel
theorem d_Md_number_12 : decode prog_12_method_7_code 12 = .ok (.iastore, 1) := by decide +kernel
theorem d_Md_number_13 : decode prog_12_method_7_code 13 = .ok (.iinc 3 1, 3) := by decide +kernel
theorem d_Md_number_16 : decode prog_12_method_7_code 16 = .ok (.goto (-14), 3) := by decide +kernel
theorem d_Md_number_19 : decode prog_12_method_7_code 19 = .ok (.iconst 0, 1) := by decide +kernel
theorem d_Md_number_20 : decode prog_12_method_7_code 20 = .ok (.istore_n 3, 1) := by decide +kernel
theorem d_Md_number_21 : decode prog_12_method_7_code 21 = .ok (.iconst 0, 1) := by decide +kernel
theorem d_Md_number_22 : decode prog_12_method_7_code 22 = .ok (.istore 4, 2) := by decide +kernel
theorem d_Md_number_24 : decode prog_12_method_7_code 24 = .ok (.iload 4, 2) := by decide +kernel
theorem d_Md_number_26 : decode prog_12_method_7_code 26 = .ok (.sipush 256, 3) := by decide +kernel
theorem d_Md_number_29 : decode prog_12_method_7_code 29 = .ok (.if_icmp .ge 128, 3) := by decide +kernel
theorem d_Md_number_32 : decode prog_12_method_7_code 32 = .ok (.aload_n 1, 1) := by decide +kernel
theorem d_Md_number_33 : decode prog_12_method_7_code 33 = .ok (.iload 4, 2) := by decide +kernel
theorem d_Md_number_35 : decode prog_12_method_7_code 35 = .ok (.baload, 1) := by decide +kernel
theorem d_Md_number_36 : decode prog_12_method_7_code 36 = .ok (.ifCond .eq 115, 3) := by decide +kernel
theorem d_Md_number_39 : decode prog_12_method_7_code 39 = .ok (.aload_n 2, 1) := by decide +kernel
theorem d_Md_number_40 : decode prog_12_method_7_code 40 = .ok (.iload 4, 2) := by decide +kernel
theorem d_Md_number_42 : decode prog_12_method_7_code 42 = .ok (.iaload, 1) := by decide +kernel
theorem d_Md_number_43 : decode prog_12_method_7_code 43 = .ok (.iconst (-1), 1) := by decide +kernel
theorem d_Md_number_44 : decode prog_12_method_7_code 44 = .ok (.if_icmp .eq 6, 3) := by decide +kernel
theorem d_Md_number_47 : decode prog_12_method_7_code 47 = .ok (.goto 104, 3) := by decide +kernel
theorem d_Md_number_50 : decode prog_12_method_7_code 50 = .ok (.aload_n 2, 1) := by decide +kernel
theorem d_Md_number_51 : decode prog_12_method_7_code 51 = .ok (.iload 4, 2) := by decide +kernel
theorem d_Md_number_53 : decode prog_12_method_7_code 53 = .ok (.iload_n 3, 1) := by decide +kernel
theorem d_Md_number_54 : decode prog_12_method_7_code 54 = .ok (.iastore, 1) := by decide +kernel
theorem d_Md_number_55 : decode prog_12_method_7_code 55 = .ok (.aload_n 0, 1) := by decide +kernel
theorem d_Md_number_56 : decode prog_12_method_7_code 56 = .ok (.getfield 41, 3) := by decide +kernel
theorem d_Md_number_59 : decode prog_12_method_7_code 59 = .ok (.iconst 0, 1) := by decide +kernel
theorem d_Md_number_60 : decode prog_12_method_7_code 60 = .ok (.iload 4, 2) := by decide +kernel
theorem d_Md_number_62 : decode prog_12_method_7_code 62 = .ok (.iastore, 1) := by decide +kernel
theorem d_Md_number_63 : decode prog_12_method_7_code 63 = .ok (.iconst 1, 1) := by decide +kernel
theorem d_Md_number_64 : decode prog_12_method_7_code 64 = .ok (.istore 5, 2) := by decide +kernel
theorem d_Md_number_66 : decode prog_12_method_7_code 66 = .ok (.iload 5, 2) := by decide +kernel
theorem d_Md_number_68 : decode prog_12_method_7_code 68 = .ok (.ifCond .le 80, 3) := by decide +kernel
theorem d_Md_number_71 : decode prog_12_method_7_code 71 = .ok (.iinc 5 (-1), 3) := by decide +kernel
theorem d_Md_number_74 : decode prog_12_method_7_code 74 = .ok (.aload_n 0, 1) := by decide +kernel
theorem d_Md_number_75 : decode prog_12_method_7_code 75 = .ok (.getfield 41, 3) := by decide +kernel
theorem d_Md_number_78 : decode prog_12_method_7_code 78 = .ok (.iload 5, 2) := by decide +kernel
theorem d_Md_number_80 : decode prog_12_method_7_code 80 = .ok (.iaload, 1) := by decide +kernel
theorem d_Md_number_81 : decode prog_12_method_7_code 81 = .ok (.istore 6, 2) := by decide +kernel
theorem d_Md_number_83 : decode prog_12_method_7_code 83 = .ok (.iconst 0, 1) := by decide +kernel
theorem d_Md_number_84 : decode prog_12_method_7_code 84 = .ok (.istore 7, 2) := by decide +kernel
theorem d_Md_number_86 : decode prog_12_method_7_code 86 = .ok (.iload 7, 2) := by decide +kernel
theorem d_Md_number_88 : decode prog_12_method_7_code 88 = .ok (.iconst 4, 1) := by decide +kernel
theorem d_Md_number_89 : decode prog_12_method_7_code 89 = .ok (.if_icmp .ge 56, 3) := by decide +kernel
theorem d_Md_number_92 : decode prog_12_method_7_code 92 = .ok (.iload 6, 2) := by decide +kernel
theorem d_Md_number_94 : decode prog_12_method_7_code 94 = .ok (.iload 7, 2) := by decide +kernel
theorem d_Md_number_96 : decode prog_12_method_7_code 96 = .ok (.invokestatic 67, 3) := by decide +kernel
theorem d_Md_number_99 : decode prog_12_method_7_code 99 = .ok (.istore 8, 2) := by decide +kernel
theorem d_Md_number_101 : decode prog_12_method_7_code 101 = .ok (.iload 8, 2) := by decide +kernel
theorem d_Md_number_103 : decode prog_12_method_7_code 103 = .ok (.iconst (-1), 1) := by decide +kernel
theorem d_Md_number_104 : decode prog_12_method_7_code 104 = .ok (.if_icmp .eq 35, 3) := by decide +kernel
theorem d_Md_number_107 : decode prog_12_method_7_code 107 = .ok (.aload_n 1, 1) := by decide +kernel
theorem d_Md_number_108 : decode prog_12_method_7_code 108 = .ok (.iload 8, 2) := by decide +kernel
theorem d_Md_number_110 : decode prog_12_method_7_code 110 = .ok (.baload, 1) := by decide +kernel
theorem d_Md_number_111 : decode prog_12_method_7_code 111 = .ok (.ifCond .eq 28, 3) := by decide +kernel
theorem d_Md_number_114 : decode prog_12_method_7_code 114 = .ok (.aload_n 2, 1) := by decide +kernel
theorem d_Md_number_115 : decode prog_12_method_7_code 115 = .ok (.iload 8, 2) := by decide +kernel
theorem d_Md_number_117 : decode prog_12_method_7_code 117 = .ok (.iaload, 1) := by decide +kernel
theorem d_Md_number_118 : decode prog_12_method_7_code 118 = .ok (.iconst (-1), 1) := by decide +kernel
theorem d_Md_number_119 : decode prog_12_method_7_code 119 = .ok (.if_icmp .ne 20, 3) := by decide +kernel
theorem d_Md_number_122 : decode prog_12_method_7_code 122 = .ok (.aload_n 2, 1) := by decide +kernel
theorem d_Md_number_123 : decode prog_12_method_7_code 123 = .ok (.iload 8, 2) := by decide +kernel
theorem d_Md_number_125 : decode prog_12_method_7_code 125 = .ok (.iload_n 3, 1) := by decide +kernel
theorem d_Md_number_126 : decode prog_12_method_7_code 126 = .ok (.iastore, 1) := by decide +kernel
theorem d_Md_number_127 : decode prog_12_method_7_code 127 = .ok (.aload_n 0, 1) := by decide +kernel
theorem d_Md_number_128 : decode prog_12_method_7_code 128 = .ok (.getfield 41, 3) := by decide +kernel
theorem d_Md_number_131 : decode prog_12_method_7_code 131 = .ok (.iload 5, 2) := by decide +kernel
theorem d_Md_number_133 : decode prog_12_method_7_code 133 = .ok (.iload 8, 2) := by decide +kernel
theorem d_Md_number_135 : decode prog_12_method_7_code 135 = .ok (.iastore, 1) := by decide +kernel
theorem d_Md_number_136 : decode prog_12_method_7_code 136 = .ok (.iinc 5 1, 3) := by decide +kernel
theorem d_Md_number_139 : decode prog_12_method_7_code 139 = .ok (.iinc 7 1, 3) := by decide +kernel
theorem d_Md_number_142 : decode prog_12_method_7_code 142 = .ok (.goto (-56), 3) := by decide +kernel
theorem d_Md_number_145 : decode prog_12_method_7_code 145 = .ok (.goto (-79), 3) := by decide +kernel
theorem d_Md_number_148 : decode prog_12_method_7_code 148 = .ok (.iinc 3 1, 3) := by decide +kernel
theorem d_Md_number_151 : decode prog_12_method_7_code 151 = .ok (.iinc 4 1, 3) := by decide +kernel
theorem d_Md_number_154 : decode prog_12_method_7_code 154 = .ok (.goto (-130), 3) := by decide +kernel
theorem d_Md_number_157 : decode prog_12_method_7_code 157 = .ok (.iload_n 3, 1) := by decide +kernel
theorem d_Md_number_158 : decode prog_12_method_7_code 158 = .ok (.ireturn, 1) := by decide +kernel
theorem d_Md_part_0 : decode prog_12_method_39_code 0 = .ok (.aload_n 0, 1) := by decide +kernel
theorem d_Md_part_1 : decode prog_12_method_39_code 1 = .ok (.aload_n 0, 1) := by decide +kernel
theorem d_Md_part_2 : decode prog_12_method_39_code 2 = .ok (.getfield 7, 3) := by decide +kernel
theorem d_Md_part_5 : decode prog_12_method_39_code 5 = .ok (.aload_n 0, 1) := by decide +kernel
theorem d_Md_part_6 : decode prog_12_method_39_code 6 = .ok (.getfield 17, 3) := by decide +kernel
theorem d_Md_part_9 : decode prog_12_method_39_code 9 = .ok (.invokevirtual 76, 3) := by decide +kernel
theorem d_Md_part_12 : decode prog_12_method_39_code 12 = .ok (.istore_n 3, 1) := by decide +kernel
theorem d_Md_part_13 : decode prog_12_method_39_code 13 = .ok (.aload_n 0, 1) := by decide +kernel
theorem d_Md_part_14 : decode prog_12_method_39_code 14 = .ok (.iload_n 1, 1) := by decide +kernel
theorem d_Md_part_15 : decode prog_12_method_39_code 15 = .ok (.ifCond .lt 8, 3) := by decide +kernel
theorem d_Md_part_18 : decode prog_12_method_39_code 18 = .ok (.iload_n 1, 1) := by decide +kernel
theorem d_Md_part_19 : decode prog_12_method_39_code 19 = .ok (.iload_n 3, 1) := by decide +kernel
theorem d_Md_part_20 : decode prog_12_method_39_code 20 = .ok (.if_icmp .lt 7, 3) := by decide +kernel
theorem d_Md_part_23 : decode prog_12_method_39_code 23 = .ok (.iconst 1, 1) := by decide +kernel
theorem d_Md_part_24 : decode prog_12_method_39_code 24 = .ok (.goto 4, 3) := by decide +kernel
theorem d_Md_part_27 : decode prog_12_method_39_code 27 = .ok (.iconst 0, 1) := by decide +kernel
theorem d_Md_part_28 : decode prog_12_method_39_code 28 = .ok (.putfield 60, 3) := by decide +kernel
theorem d_Md_part_31 : decode prog_12_method_39_code 31 = .ok (.aload_n 0, 1) := by decide +kernel
theorem d_Md_part_32 : decode prog_12_method_39_code 32 = .ok (.getfield 60, 3) := by decide +kernel
theorem d_Md_part_35 : decode prog_12_method_39_code 35 = .ok (.ifCond .le 5, 3) := by decide +kernel
theorem d_Md_part_38 : decode prog_12_method_39_code 38 = .ok (.iconst 0, 1) := by decide +kernel
theorem d_Md_part_39 : decode prog_12_method_39_code 39 = .ok (.ireturn, 1) := by decide +kernel
theorem d_Md_part_40 : decode prog_12_method_39_code 40 = .ok (.iconst 0, 1) := by decide +kernel
theorem d_Md_part_41 : decode prog_12_method_39_code 41 = .ok (.istore 4, 2) := by decide +kernel
theorem d_Md_part_43 : decode prog_12_method_39_code 43 = .ok (.iconst (-1), 1) := by decide +kernel
theorem d_Md_part_44 : decode prog_12_method_39_code 44 = .ok (.istore 5, 2) := by decide +kernel
theorem d_Md_part_46 : decode prog_12_method_39_code 46 = .ok (.iconst 0, 1) := by decide +kernel
theorem d_Md_part_47 : decode prog_12_method_39_code 47 = .ok (.istore 6, 2) := by decide +kernel
theorem d_Md_part_49 : decode prog_12_method_39_code 49 = .ok (.iload 6, 2) := by decide +kernel
theorem d_Md_part_51 : decode prog_12_method_39_code 51 = .ok (.sipush 256, 3) := by decide +kernel
theorem d_Md_part_54 : decode prog_12_method_39_code 54 = .ok (.if_icmp .ge 56, 3) := by decide +kernel
theorem d_Md_part_57 : decode prog_12_method_39_code 57 = .ok (.aload_n 0, 1) := by decide +kernel
theorem d_Md_part_58 : decode prog_12_method_39_code 58 = .ok (.getfield 17, 3) := by decide +kernel
theorem d_Md_part_61 : decode prog_12_method_39_code 61 = .ok (.iload 6, 2) := by decide +kernel
theorem d_Md_part_63 : decode prog_12_method_39_code 63 = .ok (.iaload, 1) := by decide +kernel
theorem d_Md_part_64 : decode prog_12_method_39_code 64 = .ok (.iload_n 1, 1) := by decide +kernel
theorem d_Md_part_65 : decode prog_12_method_39_code 65 = .ok (.if_icmp .ne 14, 3) := by decide +kernel
theorem d_Md_part_68 : decode prog_12_method_39_code 68 = .ok (.iload 5, 2) := by decide +kernel
theorem d_Md_part_70 : decode prog_12_method_39_code 70 = .ok (.iconst (-1), 1) := by decide +kernel
theorem d_Md_part_71 : decode prog_12_method_39_code 71 = .ok (.if_icmp .ne 8, 3) := by decide +kernel
theorem d_Md_part_74 : decode prog_12_method_39_code 74 = .ok (.iload 6, 2) := by decide +kernel
theorem d_Md_part_76 : decode prog_12_method_39_code 76 = .ok (.goto 5, 3) := by decide +kernel
theorem d_Md_part_79 : decode prog_12_method_39_code 79 = .ok (.iload 5, 2) := by decide +kernel
theorem d_Md_part_81 : decode prog_12_method_39_code 81 = .ok (.istore 5, 2) := by decide +kernel
theorem d_Md_part_83 : decode prog_12_method_39_code 83 = .ok (.iload 4, 2) := by decide +kernel
theorem d_Md_part_85 : decode prog_12_method_39_code 85 = .ok (.aload_n 0, 1) := by decide +kernel
theorem d_Md_part_86 : decode prog_12_method_39_code 86 = .ok (.getfield 17, 3) := by decide +kernel
theorem d_Md_part_89 : decode prog_12_method_39_code 89 = .ok (.iload 6, 2) := by decide +kernel
theorem d_Md_part_91 : decode prog_12_method_39_code 91 = .ok (.iaload, 1) := by decide +kernel
theorem d_Md_part_92 : decode prog_12_method_39_code 92 = .ok (.iload_n 1, 1) := by decide +kernel
theorem d_Md_part_93 : decode prog_12_method_39_code 93 = .ok (.if_icmp .ne 7, 3) := by decide +kernel
theorem d_Md_part_96 : decode prog_12_method_39_code 96 = .ok (.iconst 1, 1) := by decide +kernel
theorem d_Md_part_97 : decode prog_12_method_39_code 97 = .ok (.goto 4, 3) := by decide +kernel
theorem d_Md_part_100 : decode prog_12_method_39_code 100 = .ok (.iconst 0, 1) := by decide +kernel
theorem d_Md_part_101 : decode prog_12_method_39_code 101 = .ok (.iadd, 1) := by decide +kernel
theorem d_Md_part_102 : decode prog_12_method_39_code 102 = .ok (.istore 4, 2) := by decide +kernel
theorem d_Md_part_104 : decode prog_12_method_39_code 104 = .ok (.iinc 6 1, 3) := by decide +kernel
theorem d_Md_part_107 : decode prog_12_method_39_code 107 = .ok (.goto (-58), 3) := by decide +kernel
theorem d_Md_part_110 : decode prog_12_method_39_code 110 = .ok (.iload_n 2, 1) := by decide +kernel
theorem d_Md_part_111 : decode prog_12_method_39_code 111 = .ok (.ifCond .ne 8, 3) := by decide +kernel
theorem d_Md_part_114 : decode prog_12_method_39_code 114 = .ok (.iload 4, 2) := by decide +kernel
theorem d_Md_part_116 : decode prog_12_method_39_code 116 = .ok (.goto 30, 3) := by decide +kernel
theorem d_Md_part_119 : decode prog_12_method_39_code 119 = .ok (.iload_n 2, 1) := by decide +kernel
theorem d_Md_part_120 : decode prog_12_method_39_code 120 = .ok (.iconst 1, 1) := by decide +kernel
theorem d_Md_part_121 : decode prog_12_method_39_code 121 = .ok (.if_icmp .ne 11, 3) := by decide +kernel
theorem d_Md_part_124 : decode prog_12_method_39_code 124 = .ok (.iload 5, 2) := by decide +kernel
theorem d_Md_part_126 : decode prog_12_method_39_code 126 = .ok (.bipush 16, 2) := by decide +kernel
theorem d_Md_part_128 : decode prog_12_method_39_code 128 = .ok (.irem, 1) := by decide +kernel
theorem d_Md_part_129 : decode prog_12_method_39_code 129 = .ok (.goto 17, 3) := by decide +kernel
theorem d_Md_part_132 : decode prog_12_method_39_code 132 = .ok (.iload_n 2, 1) := by decide +kernel
theorem d_Md_part_133 : decode prog_12_method_39_code 133 = .ok (.iconst 2, 1) := by decide +kernel
theorem d_Md_part_134 : decode prog_12_method_39_code 134 = .ok (.if_icmp .ne 11, 3) := by decide +kernel
theorem d_Md_part_137 : decode prog_12_method_39_code 137 = .ok (.iload 5, 2) := by decide +kernel
theorem d_Md_part_139 : decode prog_12_method_39_code 139 = .ok (.bipush 16, 2) := by decide +kernel
theorem d_Md_part_141 : decode prog_12_method_39_code 141 = .ok (.idiv, 1) := by decide +kernel
theorem d_Md_part_142 : decode prog_12_method_39_code 142 = .ok (.goto 4, 3) := by decide +kernel
theorem d_Md_part_145 : decode prog_12_method_39_code 145 = .ok (.iconst (-1), 1) := by decide +kernel
theorem d_Md_part_146 : decode prog_12_method_39_code 146 = .ok (.ireturn, 1) := by decide +kernel
theorem d_Md_pass_0 : decode prog_12_method_32_code 0 = .ok (.aload_n 0, 1) := by decide +kernel
theorem d_Md_pass_1 : decode prog_12_method_32_code 1 = .ok (.iload_n 1, 1) := by decide +kernel
theorem d_Md_pass_2 : decode prog_12_method_32_code 2 = .ok (.ifCond .lt 11, 3) := by decide +kernel
theorem d_Md_pass_5 : decode prog_12_method_32_code 5 = .ok (.iload_n 1, 1) := by decide +kernel
theorem d_Md_pass_6 : decode prog_12_method_32_code 6 = .ok (.aload_n 0, 1) := by decide +kernel
theorem d_Md_pass_7 : decode prog_12_method_32_code 7 = .ok (.invokevirtual 148, 3) := by decide +kernel
theorem d_Md_pass_10 : decode prog_12_method_32_code 10 = .ok (.if_icmp .lt 7, 3) := by decide +kernel
theorem d_Md_pass_13 : decode prog_12_method_32_code 13 = .ok (.iconst 1, 1) := by decide +kernel
theorem d_Md_pass_14 : decode prog_12_method_32_code 14 = .ok (.goto 12, 3) := by decide +kernel
theorem d_Md_pass_17 : decode prog_12_method_32_code 17 = .ok (.iload_n 2, 1) := by decide +kernel
theorem d_Md_pass_18 : decode prog_12_method_32_code 18 = .ok (.ifCond .ge 7, 3) := by decide +kernel
theorem d_Md_pass_21 : decode prog_12_method_32_code 21 = .ok (.iconst 2, 1) := by decide +kernel
theorem d_Md_pass_22 : decode prog_12_method_32_code 22 = .ok (.goto 4, 3) := by decide +kernel
theorem d_Md_pass_25 : decode prog_12_method_32_code 25 = .ok (.iconst 0, 1) := by decide +kernel
theorem d_Md_pass_26 : decode prog_12_method_32_code 26 = .ok (.putfield 60, 3) := by decide +kernel
theorem d_Md_pass_29 : decode prog_12_method_32_code 29 = .ok (.aload_n 0, 1) := by decide +kernel
theorem d_Md_pass_30 : decode prog_12_method_32_code 30 = .ok (.getfield 60, 3) := by decide +kernel
theorem d_Md_pass_33 : decode prog_12_method_32_code 33 = .ok (.ifCond .le 7, 3) := by decide +kernel
theorem d_Md_pass_36 : decode prog_12_method_32_code 36 = .ok (.iconst 0, 1) := by decide +kernel
theorem d_Md_pass_37 : decode prog_12_method_32_code 37 = .ok (.goto 23, 3) := by decide +kernel
theorem d_Md_pass_40 : decode prog_12_method_32_code 40 = .ok (.iload_n 2, 1) := by decide +kernel
theorem d_Md_pass_41 : decode prog_12_method_32_code 41 = .ok (.aload_n 0, 1) := by decide +kernel
theorem d_Md_pass_42 : decode prog_12_method_32_code 42 = .ok (.invokevirtual 148, 3) := by decide +kernel
theorem d_Md_pass_45 : decode prog_12_method_32_code 45 = .ok (.iload_n 1, 1) := by decide +kernel
theorem d_Md_pass_46 : decode prog_12_method_32_code 46 = .ok (.isub, 1) := by decide +kernel
theorem d_Md_pass_47 : decode prog_12_method_32_code 47 = .ok (.if_icmp .ge 7, 3) := by decide +kernel
theorem d_Md_pass_50 : decode prog_12_method_32_code 50 = .ok (.iload_n 2, 1) := by decide +kernel
theorem d_Md_pass_51 : decode prog_12_method_32_code 51 = .ok (.goto 9, 3) := by decide +kernel
theorem d_Md_pass_54 : decode prog_12_method_32_code 54 = .ok (.aload_n 0, 1) := by decide +kernel
theorem d_Md_pass_55 : decode prog_12_method_32_code 55 = .ok (.invokevirtual 148, 3) := by decide +kernel
theorem d_Md_pass_58 : decode prog_12_method_32_code 58 = .ok (.iload_n 1, 1) := by decide +kernel
theorem d_Md_pass_59 : decode prog_12_method_32_code 59 = .ok (.isub, 1) := by decide +kernel
theorem d_Md_pass_60 : decode prog_12_method_32_code 60 = .ok (.istore_n 3, 1) := by decide +kernel
theorem d_Md_pass_61 : decode prog_12_method_32_code 61 = .ok (.aload_n 0, 1) := by decide +kernel
theorem d_Md_pass_62 : decode prog_12_method_32_code 62 = .ok (.aload_n 0, 1) := by decide +kernel
theorem d_Md_pass_63 : decode prog_12_method_32_code 63 = .ok (.getfield 60, 3) := by decide +kernel
theorem d_Md_pass_66 : decode prog_12_method_32_code 66 = .ok (.ifCond .ne 19, 3) := by decide +kernel
theorem d_Md_pass_69 : decode prog_12_method_32_code 69 = .ok (.aload_n 0, 1) := by decide +kernel
theorem d_Md_pass_70 : decode prog_12_method_32_code 70 = .ok (.getfield 151, 3) := by decide +kernel
theorem d_Md_pass_73 : decode prog_12_method_32_code 73 = .ok (.iload_n 3, 1) := by decide +kernel
theorem d_Md_pass_74 : decode prog_12_method_32_code 74 = .ok (.iadd, 1) := by decide +kernel
theorem d_Md_pass_75 : decode prog_12_method_32_code 75 = .ok (.sipush 2400, 3) := by decide +kernel
theorem d_Md_pass_78 : decode prog_12_method_32_code 78 = .ok (.if_icmp .le 7, 3) := by decide +kernel
theorem d_Md_pass_81 : decode prog_12_method_32_code 81 = .ok (.iconst 3, 1) := by decide +kernel
theorem d_Md_pass_82 : decode prog_12_method_32_code 82 = .ok (.goto 7, 3) := by decide +kernel
theorem d_Md_pass_85 : decode prog_12_method_32_code 85 = .ok (.aload_n 0, 1) := by decide +kernel
theorem d_Md_pass_86 : decode prog_12_method_32_code 86 = .ok (.getfield 60, 3) := by decide +kernel
theorem d_Md_pass_89 : decode prog_12_method_32_code 89 = .ok (.putfield 60, 3) := by decide +kernel
theorem d_Md_pass_92 : decode prog_12_method_32_code 92 = .ok (.iconst 0, 1) := by decide +kernel
theorem d_Md_pass_93 : decode prog_12_method_32_code 93 = .ok (.istore 4, 2) := by decide +kernel
theorem d_Md_pass_95 : decode prog_12_method_32_code 95 = .ok (.iload 4, 2) := by decide +kernel
theorem d_Md_pass_97 : decode prog_12_method_32_code 97 = .ok (.iload_n 3, 1) := by decide +kernel
theorem d_Md_pass_98 : decode prog_12_method_32_code 98 = .ok (.if_icmp .ge 44, 3) := by decide +kernel
theorem d_Md_pass_101 : decode prog_12_method_32_code 101 = .ok (.aload_n 0, 1) := by decide +kernel
theorem d_Md_pass_102 : decode prog_12_method_32_code 102 = .ok (.getfield 60, 3) := by decide +kernel
theorem d_Md_pass_105 : decode prog_12_method_32_code 105 = .ok (.ifCond .ne 37, 3) := by decide +kernel
theorem d_Md_pass_108 : decode prog_12_method_32_code 108 = .ok (.aload_n 0, 1) := by decide +kernel
theorem d_Md_pass_109 : decode prog_12_method_32_code 109 = .ok (.getfield 38, 3) := by decide +kernel
theorem d_Md_pass_112 : decode prog_12_method_32_code 112 = .ok (.aload_n 0, 1) := by decide +kernel
theorem d_Md_pass_113 : decode prog_12_method_32_code 113 = .ok (.getfield 151, 3) := by decide +kernel
theorem d_Md_pass_116 : decode prog_12_method_32_code 116 = .ok (.aload_n 0, 1) := by decide +kernel
theorem d_Md_pass_117 : decode prog_12_method_32_code 117 = .ok (.getfield 32, 3) := by decide +kernel
theorem d_Md_pass_120 : decode prog_12_method_32_code 120 = .ok (.iload_n 1, 1) := by decide +kernel
theorem d_Md_pass_121 : decode prog_12_method_32_code 121 = .ok (.iload 4, 2) := by decide +kernel
theorem d_Md_pass_123 : decode prog_12_method_32_code 123 = .ok (.iadd, 1) := by decide +kernel
theorem d_Md_pass_124 : decode prog_12_method_32_code 124 = .ok (.iaload, 1) := by decide +kernel
theorem d_Md_pass_125 : decode prog_12_method_32_code 125 = .ok (.iastore, 1) := by decide +kernel
theorem d_Md_pass_126 : decode prog_12_method_32_code 126 = .ok (.aload_n 0, 1) := by decide +kernel
theorem d_Md_pass_127 : decode prog_12_method_32_code 127 = .ok (.dup, 1) := by decide +kernel
theorem d_Md_pass_128 : decode prog_12_method_32_code 128 = .ok (.getfield 151, 3) := by decide +kernel
theorem d_Md_pass_131 : decode prog_12_method_32_code 131 = .ok (.iconst 1, 1) := by decide +kernel
theorem d_Md_pass_132 : decode prog_12_method_32_code 132 = .ok (.iadd, 1) := by decide +kernel
theorem d_Md_pass_133 : decode prog_12_method_32_code 133 = .ok (.putfield 151, 3) := by decide +kernel
theorem d_Md_pass_136 : decode prog_12_method_32_code 136 = .ok (.iinc 4 1, 3) := by decide +kernel
theorem d_Md_pass_139 : decode prog_12_method_32_code 139 = .ok (.goto (-44), 3) := by decide +kernel
theorem d_Md_pass_142 : decode prog_12_method_32_code 142 = .ok (.aload_n 0, 1) := by decide +kernel
theorem d_Md_pass_143 : decode prog_12_method_32_code 143 = .ok (.getfield 60, 3) := by decide +kernel
theorem d_Md_pass_146 : decode prog_12_method_32_code 146 = .ok (.ifCond .le 7, 3) := by decide +kernel
theorem d_Md_pass_149 : decode prog_12_method_32_code 149 = .ok (.iconst 0, 1) := by decide +kernel
theorem d_Md_pass_150 : decode prog_12_method_32_code 150 = .ok (.goto 4, 3) := by decide +kernel
theorem d_Md_pass_153 : decode prog_12_method_32_code 153 = .ok (.iload_n 3, 1) := by decide +kernel
theorem d_Md_pass_154 : decode prog_12_method_32_code 154 = .ok (.ireturn, 1) := by decide +kernel
theorem d_Md_planesNow_0 : decode prog_12_method_14_code 0 = .ok (.iconst 0, 1) := by decide +kernel
theorem d_Md_planesNow_1 : decode prog_12_method_14_code 1 = .ok (.istore_n 1, 1) := by decide +kernel
theorem d_Md_planesNow_2 : decode prog_12_method_14_code 2 = .ok (.iconst 0, 1) := by decide +kernel
theorem d_Md_planesNow_3 : decode prog_12_method_14_code 3 = .ok (.istore_n 2, 1) := by decide +kernel
theorem d_Md_planesNow_4 : decode prog_12_method_14_code 4 = .ok (.iload_n 2, 1) := by decide +kernel
theorem d_Md_planesNow_5 : decode prog_12_method_14_code 5 = .ok (.sipush 256, 3) := by decide +kernel
theorem d_Md_planesNow_8 : decode prog_12_method_14_code 8 = .ok (.if_icmp .ge 45, 3) := by decide +kernel
theorem d_Md_planesNow_11 : decode prog_12_method_14_code 11 = .ok (.aload_n 0, 1) := by decide +kernel
theorem d_Md_planesNow_12 : decode prog_12_method_14_code 12 = .ok (.getfield 7, 3) := by decide +kernel
theorem d_Md_planesNow_15 : decode prog_12_method_14_code 15 = .ok (.iload_n 2, 1) := by decide +kernel
theorem d_Md_planesNow_16 : decode prog_12_method_14_code 16 = .ok (.baload, 1) := by decide +kernel
theorem d_Md_planesNow_17 : decode prog_12_method_14_code 17 = .ok (.ifCond .eq 28, 3) := by decide +kernel
theorem d_Md_planesNow_20 : decode prog_12_method_14_code 20 = .ok (.aload_n 0, 1) := by decide +kernel
theorem d_Md_planesNow_21 : decode prog_12_method_14_code 21 = .ok (.getfield 20, 3) := by decide +kernel
theorem d_Md_planesNow_24 : decode prog_12_method_14_code 24 = .ok (.iload_n 2, 1) := by decide +kernel
theorem d_Md_planesNow_25 : decode prog_12_method_14_code 25 = .ok (.iaload, 1) := by decide +kernel
theorem d_Md_planesNow_26 : decode prog_12_method_14_code 26 = .ok (.invokestatic 89, 3) := by decide +kernel
theorem d_Md_planesNow_29 : decode prog_12_method_14_code 29 = .ok (.iload_n 1, 1) := by decide +kernel
theorem d_Md_planesNow_30 : decode prog_12_method_14_code 30 = .ok (.if_icmp .le 15, 3) := by decide +kernel
theorem d_Md_planesNow_33 : decode prog_12_method_14_code 33 = .ok (.aload_n 0, 1) := by decide +kernel
theorem d_Md_planesNow_34 : decode prog_12_method_14_code 34 = .ok (.getfield 20, 3) := by decide +kernel
theorem d_Md_planesNow_37 : decode prog_12_method_14_code 37 = .ok (.iload_n 2, 1) := by decide +kernel
theorem d_Md_planesNow_38 : decode prog_12_method_14_code 38 = .ok (.iaload, 1) := by decide +kernel
theorem d_Md_planesNow_39 : decode prog_12_method_14_code 39 = .ok (.invokestatic 89, 3) := by decide +kernel
theorem d_Md_planesNow_42 : decode prog_12_method_14_code 42 = .ok (.goto 4, 3) := by decide +kernel
theorem d_Md_planesNow_45 : decode prog_12_method_14_code 45 = .ok (.iload_n 1, 1) := by decide +kernel
theorem d_Md_planesNow_46 : decode prog_12_method_14_code 46 = .ok (.istore_n 1, 1) := by decide +kernel
theorem d_Md_planesNow_47 : decode prog_12_method_14_code 47 = .ok (.iinc 2 1, 3) := by decide +kernel
theorem d_Md_planesNow_50 : decode prog_12_method_14_code 50 = .ok (.goto (-46), 3) := by decide +kernel
theorem d_Md_planesNow_53 : decode prog_12_method_14_code 53 = .ok (.iconst 0, 1) := by decide +kernel
theorem d_Md_planesNow_54 : decode prog_12_method_14_code 54 = .ok (.istore_n 2, 1) := by decide +kernel
theorem d_Md_planesNow_55 : decode prog_12_method_14_code 55 = .ok (.iload_n 1, 1) := by decide +kernel
theorem d_Md_planesNow_56 : decode prog_12_method_14_code 56 = .ok (.iload_n 2, 1) := by decide +kernel
theorem d_Md_planesNow_57 : decode prog_12_method_14_code 57 = .ok (.ishr, 1) := by decide +kernel
theorem d_Md_planesNow_58 : decode prog_12_method_14_code 58 = .ok (.ifCond .le 9, 3) := by decide +kernel
theorem d_Md_planesNow_61 : decode prog_12_method_14_code 61 = .ok (.iinc 2 1, 3) := by decide +kernel
theorem d_Md_planesNow_64 : decode prog_12_method_14_code 64 = .ok (.goto (-9), 3) := by decide +kernel
theorem d_Md_planesNow_67 : decode prog_12_method_14_code 67 = .ok (.iload_n 2, 1) := by decide +kernel
theorem d_Md_planesNow_68 : decode prog_12_method_14_code 68 = .ok (.ireturn, 1) := by decide +kernel
theorem d_Md_put_0 : decode prog_12_method_5_code 0 = .ok (.aload_n 0, 1) := by decide +kernel
theorem d_Md_put_1 : decode prog_12_method_5_code 1 = .ok (.aload_n 0, 1) := by decide +kernel
theorem d_Md_put_2 : decode prog_12_method_5_code 2 = .ok (.iload_n 1, 1) := by decide +kernel
theorem d_Md_put_3 : decode prog_12_method_5_code 3 = .ok (.iload_n 2, 1) := by decide +kernel
theorem d_Md_put_4 : decode prog_12_method_5_code 4 = .ok (.invokevirtual 63, 3) := by decide +kernel
theorem d_Md_put_7 : decode prog_12_method_5_code 7 = .ok (.ifCond .ne 7, 3) := by decide +kernel
theorem d_Md_put_10 : decode prog_12_method_5_code 10 = .ok (.iconst 1, 1) := by decide +kernel
theorem d_Md_put_11 : decode prog_12_method_5_code 11 = .ok (.goto 26, 3) := by decide +kernel
theorem d_Md_put_14 : decode prog_12_method_5_code 14 = .ok (.iload_n 3, 1) := by decide +kernel
theorem d_Md_put_15 : decode prog_12_method_5_code 15 = .ok (.iconst 1, 1) := by decide +kernel
theorem d_Md_put_16 : decode prog_12_method_5_code 16 = .ok (.if_icmp .lt 16, 3) := by decide +kernel
theorem d_Md_put_19 : decode prog_12_method_5_code 19 = .ok (.iload 4, 2) := by decide +kernel
theorem d_Md_put_21 : decode prog_12_method_5_code 21 = .ok (.ifCond .lt 11, 3) := by decide +kernel
theorem d_Md_put_24 : decode prog_12_method_5_code 24 = .ok (.iload 4, 2) := by decide +kernel
theorem d_Md_put_26 : decode prog_12_method_5_code 26 = .ok (.sipush 255, 3) := by decide +kernel
theorem d_Md_put_29 : decode prog_12_method_5_code 29 = .ok (.if_icmp .le 7, 3) := by decide +kernel
theorem d_Md_put_32 : decode prog_12_method_5_code 32 = .ok (.iconst 2, 1) := by decide +kernel
theorem d_Md_put_33 : decode prog_12_method_5_code 33 = .ok (.goto 4, 3) := by decide +kernel
theorem d_Md_put_36 : decode prog_12_method_5_code 36 = .ok (.iconst 0, 1) := by decide +kernel
theorem d_Md_put_37 : decode prog_12_method_5_code 37 = .ok (.putfield 60, 3) := by decide +kernel
theorem d_Md_put_40 : decode prog_12_method_5_code 40 = .ok (.iconst 0, 1) := by decide +kernel
theorem d_Md_put_41 : decode prog_12_method_5_code 41 = .ok (.istore 5, 2) := by decide +kernel
theorem d_Md_put_43 : decode prog_12_method_5_code 43 = .ok (.iconst 0, 1) := by decide +kernel
theorem d_Md_put_44 : decode prog_12_method_5_code 44 = .ok (.istore 6, 2) := by decide +kernel
theorem d_Md_put_46 : decode prog_12_method_5_code 46 = .ok (.iload 6, 2) := by decide +kernel
theorem d_Md_put_48 : decode prog_12_method_5_code 48 = .ok (.iload_n 3, 1) := by decide +kernel
theorem d_Md_put_49 : decode prog_12_method_5_code 49 = .ok (.if_icmp .ge 72, 3) := by decide +kernel
theorem d_Md_put_52 : decode prog_12_method_5_code 52 = .ok (.iload_n 1, 1) := by decide +kernel
theorem d_Md_put_53 : decode prog_12_method_5_code 53 = .ok (.iload 6, 2) := by decide +kernel
theorem d_Md_put_55 : decode prog_12_method_5_code 55 = .ok (.iadd, 1) := by decide +kernel
theorem d_Md_put_56 : decode prog_12_method_5_code 56 = .ok (.aload_n 0, 1) := by decide +kernel
theorem d_Md_put_57 : decode prog_12_method_5_code 57 = .ok (.getfield 53, 3) := by decide +kernel
theorem d_Md_put_60 : decode prog_12_method_5_code 60 = .ok (.if_icmp .ge 61, 3) := by decide +kernel
theorem d_Md_put_63 : decode prog_12_method_5_code 63 = .ok (.aload_n 0, 1) := by decide +kernel
theorem d_Md_put_64 : decode prog_12_method_5_code 64 = .ok (.getfield 60, 3) := by decide +kernel
theorem d_Md_put_67 : decode prog_12_method_5_code 67 = .ok (.ifCond .ne 54, 3) := by decide +kernel
theorem d_Md_put_70 : decode prog_12_method_5_code 70 = .ok (.iload 5, 2) := by decide +kernel
theorem d_Md_put_72 : decode prog_12_method_5_code 72 = .ok (.aload_n 0, 1) := by decide +kernel
theorem d_Md_put_73 : decode prog_12_method_5_code 73 = .ok (.getfield 13, 3) := by decide +kernel
theorem d_Md_put_76 : decode prog_12_method_5_code 76 = .ok (.bipush 16, 2) := by decide +kernel
theorem d_Md_put_78 : decode prog_12_method_5_code 78 = .ok (.iload_n 2, 1) := by decide +kernel
theorem d_Md_put_79 : decode prog_12_method_5_code 79 = .ok (.imul, 1) := by decide +kernel
theorem d_Md_put_80 : decode prog_12_method_5_code 80 = .ok (.iload_n 1, 1) := by decide +kernel
theorem d_Md_put_81 : decode prog_12_method_5_code 81 = .ok (.iadd, 1) := by decide +kernel
theorem d_Md_put_82 : decode prog_12_method_5_code 82 = .ok (.iload 6, 2) := by decide +kernel
theorem d_Md_put_84 : decode prog_12_method_5_code 84 = .ok (.iadd, 1) := by decide +kernel
theorem d_Md_put_85 : decode prog_12_method_5_code 85 = .ok (.iaload, 1) := by decide +kernel
theorem d_Md_put_86 : decode prog_12_method_5_code 86 = .ok (.iload 4, 2) := by decide +kernel
theorem d_Md_put_88 : decode prog_12_method_5_code 88 = .ok (.if_icmp .ne 7, 3) := by decide +kernel
theorem d_Md_put_91 : decode prog_12_method_5_code 91 = .ok (.iconst 0, 1) := by decide +kernel
theorem d_Md_put_92 : decode prog_12_method_5_code 92 = .ok (.goto 4, 3) := by decide +kernel
theorem d_Md_put_95 : decode prog_12_method_5_code 95 = .ok (.iconst 1, 1) := by decide +kernel
theorem d_Md_put_96 : decode prog_12_method_5_code 96 = .ok (.iadd, 1) := by decide +kernel
theorem d_Md_put_97 : decode prog_12_method_5_code 97 = .ok (.istore 5, 2) := by decide +kernel
theorem d_Md_put_99 : decode prog_12_method_5_code 99 = .ok (.aload_n 0, 1) := by decide +kernel
theorem d_Md_put_100 : decode prog_12_method_5_code 100 = .ok (.getfield 13, 3) := by decide +kernel
theorem d_Md_put_103 : decode prog_12_method_5_code 103 = .ok (.bipush 16, 2) := by decide +kernel
theorem d_Md_put_105 : decode prog_12_method_5_code 105 = .ok (.iload_n 2, 1) := by decide +kernel
theorem d_Md_put_106 : decode prog_12_method_5_code 106 = .ok (.imul, 1) := by decide +kernel
theorem d_Md_put_107 : decode prog_12_method_5_code 107 = .ok (.iload_n 1, 1) := by decide +kernel
theorem d_Md_put_108 : decode prog_12_method_5_code 108 = .ok (.iadd, 1) := by decide +kernel
theorem d_Md_put_109 : decode prog_12_method_5_code 109 = .ok (.iload 6, 2) := by decide +kernel
theorem d_Md_put_111 : decode prog_12_method_5_code 111 = .ok (.iadd, 1) := by decide +kernel
theorem d_Md_put_112 : decode prog_12_method_5_code 112 = .ok (.iload 4, 2) := by decide +kernel
theorem d_Md_put_114 : decode prog_12_method_5_code 114 = .ok (.iastore, 1) := by decide +kernel
theorem d_Md_put_115 : decode prog_12_method_5_code 115 = .ok (.iinc 6 1, 3) := by decide +kernel
theorem d_Md_put_118 : decode prog_12_method_5_code 118 = .ok (.goto (-72), 3) := by decide +kernel
theorem d_Md_put_121 : decode prog_12_method_5_code 121 = .ok (.iload 5, 2) := by decide +kernel
theorem d_Md_put_123 : decode prog_12_method_5_code 123 = .ok (.ireturn, 1) := by decide +kernel
theorem d_Md_sample_0 : decode prog_12_method_19_code 0 = .ok (.iload_n 0, 1) := by decide +kernel
theorem d_Md_sample_1 : decode prog_12_method_19_code 1 = .ok (.iconst 2, 1) := by decide +kernel
theorem d_Md_sample_2 : decode prog_12_method_19_code 2 = .ok (.irem, 1) := by decide +kernel
theorem d_Md_sample_3 : decode prog_12_method_19_code 3 = .ok (.bipush 8, 2) := by decide +kernel
theorem d_Md_sample_5 : decode prog_12_method_19_code 5 = .ok (.imul, 1) := by decide +kernel
theorem d_Md_sample_6 : decode prog_12_method_19_code 6 = .ok (.iload_n 1, 1) := by decide +kernel
theorem d_Md_sample_7 : decode prog_12_method_19_code 7 = .ok (.iconst 1, 1) := by decide +kernel
theorem d_Md_sample_8 : decode prog_12_method_19_code 8 = .ok (.iand, 1) := by decide +kernel
theorem d_Md_sample_9 : decode prog_12_method_19_code 9 = .ok (.iadd, 1) := by decide +kernel
theorem d_Md_sample_10 : decode prog_12_method_19_code 10 = .ok (.iload_n 1, 1) := by decide +kernel
theorem d_Md_sample_11 : decode prog_12_method_19_code 11 = .ok (.iconst 1, 1) := by decide +kernel
theorem d_Md_sample_12 : decode prog_12_method_19_code 12 = .ok (.ishr, 1) := by decide +kernel
theorem d_Md_sample_13 : decode prog_12_method_19_code 13 = .ok (.iconst 2, 1) := by decide +kernel
theorem d_Md_sample_14 : decode prog_12_method_19_code 14 = .ok (.iand, 1) := by decide +kernel
theorem d_Md_sample_15 : decode prog_12_method_19_code 15 = .ok (.iadd, 1) := by decide +kernel
theorem d_Md_sample_16 : decode prog_12_method_19_code 16 = .ok (.iload_n 1, 1) := by decide +kernel
theorem d_Md_sample_17 : decode prog_12_method_19_code 17 = .ok (.iconst 2, 1) := by decide +kernel
theorem d_Md_sample_18 : decode prog_12_method_19_code 18 = .ok (.ishr, 1) := by decide +kernel
theorem d_Md_sample_19 : decode prog_12_method_19_code 19 = .ok (.iconst 4, 1) := by decide +kernel
theorem d_Md_sample_20 : decode prog_12_method_19_code 20 = .ok (.iand, 1) := by decide +kernel
theorem d_Md_sample_21 : decode prog_12_method_19_code 21 = .ok (.iadd, 1) := by decide +kernel
theorem d_Md_sample_22 : decode prog_12_method_19_code 22 = .ok (.istore_n 2, 1) := by decide +kernel
theorem d_Md_sample_23 : decode prog_12_method_19_code 23 = .ok (.iload_n 0, 1) := by decide +kernel
theorem d_Md_sample_24 : decode prog_12_method_19_code 24 = .ok (.iconst 2, 1) := by decide +kernel
theorem d_Md_sample_25 : decode prog_12_method_19_code 25 = .ok (.idiv, 1) := by decide +kernel
theorem d_Md_sample_26 : decode prog_12_method_19_code 26 = .ok (.bipush 8, 2) := by decide +kernel
theorem d_Md_sample_28 : decode prog_12_method_19_code 28 = .ok (.imul, 1) := by decide +kernel
theorem d_Md_sample_29 : decode prog_12_method_19_code 29 = .ok (.iload_n 1, 1) := by decide +kernel
theorem d_Md_sample_30 : decode prog_12_method_19_code 30 = .ok (.iconst 1, 1) := by decide +kernel
theorem d_Md_sample_31 : decode prog_12_method_19_code 31 = .ok (.ishr, 1) := by decide +kernel
theorem d_Md_sample_32 : decode prog_12_method_19_code 32 = .ok (.iconst 1, 1) := by decide +kernel
theorem d_Md_sample_33 : decode prog_12_method_19_code 33 = .ok (.iand, 1) := by decide +kernel
theorem d_Md_sample_34 : decode prog_12_method_19_code 34 = .ok (.iadd, 1) := by decide +kernel
theorem d_Md_sample_35 : decode prog_12_method_19_code 35 = .ok (.iload_n 1, 1) := by decide +kernel
theorem d_Md_sample_36 : decode prog_12_method_19_code 36 = .ok (.iconst 2, 1) := by decide +kernel
theorem d_Md_sample_37 : decode prog_12_method_19_code 37 = .ok (.ishr, 1) := by decide +kernel
theorem d_Md_sample_38 : decode prog_12_method_19_code 38 = .ok (.iconst 2, 1) := by decide +kernel
theorem d_Md_sample_39 : decode prog_12_method_19_code 39 = .ok (.iand, 1) := by decide +kernel
theorem d_Md_sample_40 : decode prog_12_method_19_code 40 = .ok (.iadd, 1) := by decide +kernel
theorem d_Md_sample_41 : decode prog_12_method_19_code 41 = .ok (.iload_n 1, 1) := by decide +kernel
theorem d_Md_sample_42 : decode prog_12_method_19_code 42 = .ok (.iconst 3, 1) := by decide +kernel
theorem d_Md_sample_43 : decode prog_12_method_19_code 43 = .ok (.ishr, 1) := by decide +kernel
theorem d_Md_sample_44 : decode prog_12_method_19_code 44 = .ok (.iconst 4, 1) := by decide +kernel
theorem d_Md_sample_45 : decode prog_12_method_19_code 45 = .ok (.iand, 1) := by decide +kernel
theorem d_Md_sample_46 : decode prog_12_method_19_code 46 = .ok (.iadd, 1) := by decide +kernel
theorem d_Md_sample_47 : decode prog_12_method_19_code 47 = .ok (.istore_n 3, 1) := by decide +kernel
theorem d_Md_sample_48 : decode prog_12_method_19_code 48 = .ok (.bipush 16, 2) := by decide +kernel
theorem d_Md_sample_50 : decode prog_12_method_19_code 50 = .ok (.iload_n 3, 1) := by decide +kernel
theorem d_Md_sample_51 : decode prog_12_method_19_code 51 = .ok (.imul, 1) := by decide +kernel
theorem d_Md_sample_52 : decode prog_12_method_19_code 52 = .ok (.iload_n 2, 1) := by decide +kernel
theorem d_Md_sample_53 : decode prog_12_method_19_code 53 = .ok (.iadd, 1) := by decide +kernel
theorem d_Md_sample_54 : decode prog_12_method_19_code 54 = .ok (.ireturn, 1) := by decide +kernel
theorem d_Md_size_0 : decode prog_12_method_13_code 0 = .ok (.iload_n 0, 1) := by decide +kernel
theorem d_Md_size_1 : decode prog_12_method_13_code 1 = .ok (.ifCond .ge 8, 3) := by decide +kernel
theorem d_Md_size_4 : decode prog_12_method_13_code 4 = .ok (.iload_n 0, 1) := by decide +kernel
theorem d_Md_size_5 : decode prog_12_method_13_code 5 = .ok (.ineg, 1) := by decide +kernel
theorem d_Md_size_6 : decode prog_12_method_13_code 6 = .ok (.goto 4, 3) := by decide +kernel
theorem d_Md_size_9 : decode prog_12_method_13_code 9 = .ok (.iload_n 0, 1) := by decide +kernel
theorem d_Md_size_10 : decode prog_12_method_13_code 10 = .ok (.ireturn, 1) := by decide +kernel
theorem d_Md_streamBytes_0 : decode prog_12_method_27_code 0 = .ok (.aload_n 0, 1) := by decide +kernel
theorem d_Md_streamBytes_1 : decode prog_12_method_27_code 1 = .ok (.getfield 145, 3) := by decide +kernel
theorem d_Md_streamBytes_4 : decode prog_12_method_27_code 4 = .ok (.bipush 7, 2) := by decide +kernel
theorem d_Md_streamBytes_6 : decode prog_12_method_27_code 6 = .ok (.iadd, 1) := by decide +kernel
theorem d_Md_streamBytes_7 : decode prog_12_method_27_code 7 = .ok (.bipush 8, 2) := by decide +kernel
theorem d_Md_streamBytes_9 : decode prog_12_method_27_code 9 = .ok (.idiv, 1) := by decide +kernel
theorem d_Md_streamBytes_10 : decode prog_12_method_27_code 10 = .ok (.ireturn, 1) := by decide +kernel
theorem d_Md_tell_0 : decode prog_12_method_16_code 0 = .ok (.iconst 0, 1) := by decide +kernel
theorem d_Md_tell_1 : decode prog_12_method_16_code 1 = .ok (.istore_n 3, 1) := by decide +kernel
theorem d_Md_tell_2 : decode prog_12_method_16_code 2 = .ok (.iload_n 2, 1) := by decide +kernel
theorem d_Md_tell_3 : decode prog_12_method_16_code 3 = .ok (.iconst 1, 1) := by decide +kernel
theorem d_Md_tell_4 : decode prog_12_method_16_code 4 = .ok (.isub, 1) := by decide +kernel
theorem d_Md_tell_5 : decode prog_12_method_16_code 5 = .ok (.istore 4, 2) := by decide +kernel
theorem d_Md_tell_7 : decode prog_12_method_16_code 7 = .ok (.iload 4, 2) := by decide +kernel
theorem d_Md_tell_9 : decode prog_12_method_16_code 9 = .ok (.ifCond .lt 20, 3) := by decide +kernel
theorem d_Md_tell_12 : decode prog_12_method_16_code 12 = .ok (.aload_n 0, 1) := by decide +kernel
theorem d_Md_tell_13 : decode prog_12_method_16_code 13 = .ok (.iload_n 1, 1) := by decide +kernel
theorem d_Md_tell_14 : decode prog_12_method_16_code 14 = .ok (.iload 4, 2) := by decide +kernel
theorem d_Md_tell_16 : decode prog_12_method_16_code 16 = .ok (.ishr, 1) := by decide +kernel
theorem d_Md_tell_17 : decode prog_12_method_16_code 17 = .ok (.iconst 1, 1) := by decide +kernel
theorem d_Md_tell_18 : decode prog_12_method_16_code 18 = .ok (.iand, 1) := by decide +kernel
theorem d_Md_tell_19 : decode prog_12_method_16_code 19 = .ok (.invokevirtual 102, 3) := by decide +kernel
theorem d_Md_tell_22 : decode prog_12_method_16_code 22 = .ok (.istore_n 3, 1) := by decide +kernel
theorem d_Md_tell_23 : decode prog_12_method_16_code 23 = .ok (.iinc 4 (-1), 3) := by decide +kernel
theorem d_Md_tell_26 : decode prog_12_method_16_code 26 = .ok (.goto (-19), 3) := by decide +kernel
theorem d_Md_tell_29 : decode prog_12_method_16_code 29 = .ok (.iload_n 3, 1) := by decide +kernel
theorem d_Md_tell_30 : decode prog_12_method_16_code 30 = .ok (.iconst (-1), 1) := by decide +kernel
theorem d_Md_tell_31 : decode prog_12_method_16_code 31 = .ok (.if_icmp .eq 7, 3) := by decide +kernel
theorem d_Md_tell_34 : decode prog_12_method_16_code 34 = .ok (.iconst 1, 1) := by decide +kernel
theorem d_Md_tell_35 : decode prog_12_method_16_code 35 = .ok (.goto 4, 3) := by decide +kernel
theorem d_Md_tell_38 : decode prog_12_method_16_code 38 = .ok (.iconst 0, 1) := by decide +kernel
theorem d_Md_tell_39 : decode prog_12_method_16_code 39 = .ok (.ireturn, 1) := by decide +kernel
theorem d_Md_tellHead_0 : decode prog_12_method_17_code 0 = .ok (.aload_n 0, 1) := by decide +kernel
theorem d_Md_tellHead_1 : decode prog_12_method_17_code 1 = .ok (.aload_n 0, 1) := by decide +kernel
theorem d_Md_tellHead_2 : decode prog_12_method_17_code 2 = .ok (.getfield 53, 3) := by decide +kernel
theorem d_Md_tellHead_5 : decode prog_12_method_17_code 5 = .ok (.iconst 1, 1) := by decide +kernel
theorem d_Md_tellHead_6 : decode prog_12_method_17_code 6 = .ok (.isub, 1) := by decide +kernel
theorem d_Md_tellHead_7 : decode prog_12_method_17_code 7 = .ok (.iconst 4, 1) := by decide +kernel
theorem d_Md_tellHead_8 : decode prog_12_method_17_code 8 = .ok (.invokevirtual 105, 3) := by decide +kernel
theorem d_Md_tellHead_11 : decode prog_12_method_17_code 11 = .ok (.ifCond .eq 33, 3) := by decide +kernel
theorem d_Md_tellHead_14 : decode prog_12_method_17_code 14 = .ok (.aload_n 0, 1) := by decide +kernel
theorem d_Md_tellHead_15 : decode prog_12_method_17_code 15 = .ok (.aload_n 0, 1) := by decide +kernel
theorem d_Md_tellHead_16 : decode prog_12_method_17_code 16 = .ok (.getfield 57, 3) := by decide +kernel
theorem d_Md_tellHead_19 : decode prog_12_method_17_code 19 = .ok (.iconst 1, 1) := by decide +kernel
theorem d_Md_tellHead_20 : decode prog_12_method_17_code 20 = .ok (.isub, 1) := by decide +kernel
theorem d_Md_tellHead_21 : decode prog_12_method_17_code 21 = .ok (.iconst 4, 1) := by decide +kernel
theorem d_Md_tellHead_22 : decode prog_12_method_17_code 22 = .ok (.invokevirtual 105, 3) := by decide +kernel
theorem d_Md_tellHead_25 : decode prog_12_method_17_code 25 = .ok (.ifCond .eq 19, 3) := by decide +kernel
theorem d_Md_tellHead_28 : decode prog_12_method_17_code 28 = .ok (.aload_n 0, 1) := by decide +kernel
theorem d_Md_tellHead_29 : decode prog_12_method_17_code 29 = .ok (.aload_n 0, 1) := by decide +kernel
theorem d_Md_tellHead_30 : decode prog_12_method_17_code 30 = .ok (.invokevirtual 108, 3) := by decide +kernel
theorem d_Md_tellHead_33 : decode prog_12_method_17_code 33 = .ok (.iconst 5, 1) := by decide +kernel
theorem d_Md_tellHead_34 : decode prog_12_method_17_code 34 = .ok (.invokevirtual 105, 3) := by decide +kernel
theorem d_Md_tellHead_37 : decode prog_12_method_17_code 37 = .ok (.ifCond .eq 7, 3) := by decide +kernel
theorem d_Md_tellHead_40 : decode prog_12_method_17_code 40 = .ok (.iconst 1, 1) := by decide +kernel
theorem d_Md_tellHead_41 : decode prog_12_method_17_code 41 = .ok (.goto 4, 3) := by decide +kernel
theorem d_Md_tellHead_44 : decode prog_12_method_17_code 44 = .ok (.iconst 0, 1) := by decide +kernel
theorem d_Md_tellHead_45 : decode prog_12_method_17_code 45 = .ok (.istore_n 1, 1) := by decide +kernel
theorem d_Md_tellHead_46 : decode prog_12_method_17_code 46 = .ok (.iconst 0, 1) := by decide +kernel
theorem d_Md_tellHead_47 : decode prog_12_method_17_code 47 = .ok (.istore_n 2, 1) := by decide +kernel
theorem d_Md_tellHead_48 : decode prog_12_method_17_code 48 = .ok (.iconst 0, 1) := by decide +kernel
theorem d_Md_tellHead_49 : decode prog_12_method_17_code 49 = .ok (.istore_n 3, 1) := by decide +kernel
theorem d_Md_tellHead_50 : decode prog_12_method_17_code 50 = .ok (.iload_n 2, 1) := by decide +kernel
theorem d_Md_tellHead_51 : decode prog_12_method_17_code 51 = .ok (.aload_n 0, 1) := by decide +kernel
theorem d_Md_tellHead_52 : decode prog_12_method_17_code 52 = .ok (.getfield 53, 3) := by decide +kernel
theorem d_Md_tellHead_55 : decode prog_12_method_17_code 55 = .ok (.aload_n 0, 1) := by decide +kernel
theorem d_Md_tellHead_56 : decode prog_12_method_17_code 56 = .ok (.getfield 57, 3) := by decide +kernel
theorem d_Md_tellHead_59 : decode prog_12_method_17_code 59 = .ok (.imul, 1) := by decide +kernel
theorem d_Md_tellHead_60 : decode prog_12_method_17_code 60 = .ok (.if_icmp .ge 129, 3) := by decide +kernel
theorem d_Md_tellHead_63 : decode prog_12_method_17_code 63 = .ok (.iload_n 2, 1) := by decide +kernel
theorem d_Md_tellHead_64 : decode prog_12_method_17_code 64 = .ok (.istore 4, 2) := by decide +kernel
theorem d_Md_tellHead_66 : decode prog_12_method_17_code 66 = .ok (.iload 4, 2) := by decide +kernel
theorem d_Md_tellHead_68 : decode prog_12_method_17_code 68 = .ok (.aload_n 0, 1) := by decide +kernel
theorem d_Md_tellHead_69 : decode prog_12_method_17_code 69 = .ok (.getfield 53, 3) := by decide +kernel
theorem d_Md_tellHead_72 : decode prog_12_method_17_code 72 = .ok (.aload_n 0, 1) := by decide +kernel
theorem d_Md_tellHead_73 : decode prog_12_method_17_code 73 = .ok (.getfield 57, 3) := by decide +kernel
theorem d_Md_tellHead_76 : decode prog_12_method_17_code 76 = .ok (.imul, 1) := by decide +kernel
theorem d_Md_tellHead_77 : decode prog_12_method_17_code 77 = .ok (.if_icmp .ge 36, 3) := by decide +kernel
theorem d_Md_tellHead_80 : decode prog_12_method_17_code 80 = .ok (.aload_n 0, 1) := by decide +kernel
theorem d_Md_tellHead_81 : decode prog_12_method_17_code 81 = .ok (.getfield 7, 3) := by decide +kernel
theorem d_Md_tellHead_84 : decode prog_12_method_17_code 84 = .ok (.bipush 16, 2) := by decide +kernel
theorem d_Md_tellHead_86 : decode prog_12_method_17_code 86 = .ok (.iload 4, 2) := by decide +kernel
theorem d_Md_tellHead_88 : decode prog_12_method_17_code 88 = .ok (.aload_n 0, 1) := by decide +kernel
theorem d_Md_tellHead_89 : decode prog_12_method_17_code 89 = .ok (.getfield 53, 3) := by decide +kernel
theorem d_Md_tellHead_92 : decode prog_12_method_17_code 92 = .ok (.idiv, 1) := by decide +kernel
theorem d_Md_tellHead_93 : decode prog_12_method_17_code 93 = .ok (.imul, 1) := by decide +kernel
theorem d_Md_tellHead_94 : decode prog_12_method_17_code 94 = .ok (.iload 4, 2) := by decide +kernel
theorem d_Md_tellHead_96 : decode prog_12_method_17_code 96 = .ok (.aload_n 0, 1) := by decide +kernel
theorem d_Md_tellHead_97 : decode prog_12_method_17_code 97 = .ok (.getfield 53, 3) := by decide +kernel
theorem d_Md_tellHead_100 : decode prog_12_method_17_code 100 = .ok (.irem, 1) := by decide +kernel
theorem d_Md_tellHead_101 : decode prog_12_method_17_code 101 = .ok (.iadd, 1) := by decide +kernel
theorem d_Md_tellHead_102 : decode prog_12_method_17_code 102 = .ok (.baload, 1) := by decide +kernel
theorem d_Md_tellHead_103 : decode prog_12_method_17_code 103 = .ok (.iload_n 3, 1) := by decide +kernel
theorem d_Md_tellHead_104 : decode prog_12_method_17_code 104 = .ok (.if_icmp .ne 9, 3) := by decide +kernel
theorem d_Md_tellHead_107 : decode prog_12_method_17_code 107 = .ok (.iinc 4 1, 3) := by decide +kernel
theorem d_Md_tellHead_110 : decode prog_12_method_17_code 110 = .ok (.goto (-44), 3) := by decide +kernel
theorem d_Md_tellHead_113 : decode prog_12_method_17_code 113 = .ok (.iload 4, 2) := by decide +kernel
theorem d_Md_tellHead_115 : decode prog_12_method_17_code 115 = .ok (.iload_n 2, 1) := by decide +kernel
theorem d_Md_tellHead_116 : decode prog_12_method_17_code 116 = .ok (.isub, 1) := by decide +kernel
theorem d_Md_tellHead_117 : decode prog_12_method_17_code 117 = .ok (.iconst 1, 1) := by decide +kernel
theorem d_Md_tellHead_118 : decode prog_12_method_17_code 118 = .ok (.iadd, 1) := by decide +kernel
theorem d_Md_tellHead_119 : decode prog_12_method_17_code 119 = .ok (.istore 5, 2) := by decide +kernel
theorem d_Md_tellHead_121 : decode prog_12_method_17_code 121 = .ok (.iconst 0, 1) := by decide +kernel
theorem d_Md_tellHead_122 : decode prog_12_method_17_code 122 = .ok (.istore 6, 2) := by decide +kernel
theorem d_Md_tellHead_124 : decode prog_12_method_17_code 124 = .ok (.iload 5, 2) := by decide +kernel
theorem d_Md_tellHead_126 : decode prog_12_method_17_code 126 = .ok (.iload 6, 2) := by decide +kernel
theorem d_Md_tellHead_128 : decode prog_12_method_17_code 128 = .ok (.iconst 1, 1) := by decide +kernel
theorem d_Md_tellHead_129 : decode prog_12_method_17_code 129 = .ok (.iadd, 1) := by decide +kernel
theorem d_Md_tellHead_130 : decode prog_12_method_17_code 130 = .ok (.ishr, 1) := by decide +kernel
theorem d_Md_tellHead_131 : decode prog_12_method_17_code 131 = .ok (.ifCond .le 9, 3) := by decide +kernel
theorem d_Md_tellHead_134 : decode prog_12_method_17_code 134 = .ok (.iinc 6 1, 3) := by decide +kernel
theorem d_Md_tellHead_137 : decode prog_12_method_17_code 137 = .ok (.goto (-13), 3) := by decide +kernel
theorem d_Md_tellHead_140 : decode prog_12_method_17_code 140 = .ok (.aload_n 0, 1) := by decide +kernel
theorem d_Md_tellHead_141 : decode prog_12_method_17_code 141 = .ok (.iconst 0, 1) := by decide +kernel
theorem d_Md_tellHead_142 : decode prog_12_method_17_code 142 = .ok (.iload 6, 2) := by decide +kernel
theorem d_Md_tellHead_144 : decode prog_12_method_17_code 144 = .ok (.invokevirtual 105, 3) := by decide +kernel
theorem d_Md_tellHead_147 : decode prog_12_method_17_code 147 = .ok (.ifCond .eq 24, 3) := by decide +kernel
theorem d_Md_tellHead_150 : decode prog_12_method_17_code 150 = .ok (.aload_n 0, 1) := by decide +kernel
theorem d_Md_tellHead_151 : decode prog_12_method_17_code 151 = .ok (.iload 5, 2) := by decide +kernel
theorem d_Md_tellHead_153 : decode prog_12_method_17_code 153 = .ok (.iload 6, 2) := by decide +kernel
theorem d_Md_tellHead_155 : decode prog_12_method_17_code 155 = .ok (.iconst 1, 1) := by decide +kernel
theorem d_Md_tellHead_156 : decode prog_12_method_17_code 156 = .ok (.iadd, 1) := by decide +kernel
theorem d_Md_tellHead_157 : decode prog_12_method_17_code 157 = .ok (.invokevirtual 105, 3) := by decide +kernel
theorem d_Md_tellHead_160 : decode prog_12_method_17_code 160 = .ok (.ifCond .eq 11, 3) := by decide +kernel
theorem d_Md_tellHead_163 : decode prog_12_method_17_code 163 = .ok (.iload_n 1, 1) := by decide +kernel
theorem d_Md_tellHead_164 : decode prog_12_method_17_code 164 = .ok (.ifCond .eq 7, 3) := by decide +kernel
theorem d_Md_tellHead_167 : decode prog_12_method_17_code 167 = .ok (.iconst 1, 1) := by decide +kernel
theorem d_Md_tellHead_168 : decode prog_12_method_17_code 168 = .ok (.goto 4, 3) := by decide +kernel
theorem d_Md_tellHead_171 : decode prog_12_method_17_code 171 = .ok (.iconst 0, 1) := by decide +kernel
theorem d_Md_tellHead_172 : decode prog_12_method_17_code 172 = .ok (.istore_n 1, 1) := by decide +kernel
theorem d_Md_tellHead_173 : decode prog_12_method_17_code 173 = .ok (.iload 4, 2) := by decide +kernel
theorem d_Md_tellHead_175 : decode prog_12_method_17_code 175 = .ok (.istore_n 2, 1) := by decide +kernel
theorem d_Md_tellHead_176 : decode prog_12_method_17_code 176 = .ok (.iload_n 3, 1) := by decide +kernel
theorem d_Md_tellHead_177 : decode prog_12_method_17_code 177 = .ok (.ifCond .ne 7, 3) := by decide +kernel
theorem d_Md_tellHead_180 : decode prog_12_method_17_code 180 = .ok (.iconst 1, 1) := by decide +kernel
theorem d_Md_tellHead_181 : decode prog_12_method_17_code 181 = .ok (.goto 4, 3) := by decide +kernel
theorem d_Md_tellHead_184 : decode prog_12_method_17_code 184 = .ok (.iconst 0, 1) := by decide +kernel
theorem d_Md_tellHead_185 : decode prog_12_method_17_code 185 = .ok (.istore_n 3, 1) := by decide +kernel
theorem d_Md_tellHead_186 : decode prog_12_method_17_code 186 = .ok (.goto (-136), 3) := by decide +kernel
theorem d_Md_tellHead_189 : decode prog_12_method_17_code 189 = .ok (.return_, 1) := by decide +kernel
theorem d_Md_thrown_0 : decode prog_12_method_2_code 0 = .ok (.aload_n 0, 1) := by decide +kernel
theorem d_Md_thrown_1 : decode prog_12_method_2_code 1 = .ok (.getfield 60, 3) := by decide +kernel
theorem d_Md_thrown_4 : decode prog_12_method_2_code 4 = .ok (.ireturn, 1) := by decide +kernel
theorem d_Md_told_0 : decode prog_12_method_42_code 0 = .ok (.aload_n 0, 1) := by decide +kernel
theorem d_Md_told_1 : decode prog_12_method_42_code 1 = .ok (.iconst 0, 1) := by decide +kernel
theorem d_Md_told_2 : decode prog_12_method_42_code 2 = .ok (.putfield 60, 3) := by decide +kernel
theorem d_Md_told_5 : decode prog_12_method_42_code 5 = .ok (.aload_n 0, 1) := by decide +kernel
theorem d_Md_told_6 : decode prog_12_method_42_code 6 = .ok (.invokevirtual 85, 3) := by decide +kernel
theorem d_Md_told_9 : decode prog_12_method_42_code 9 = .ok (.istore_n 2, 1) := by decide +kernel
theorem d_Md_told_10 : decode prog_12_method_42_code 10 = .ok (.iload_n 1, 1) := by decide +kernel
theorem d_Md_told_11 : decode prog_12_method_42_code 11 = .ok (.tableswitch 196 0 12 #[65, 70, 75, 83, 85, 90, 95, 100, 105, 121, 137, 156, 180], 65) := by decide +kernel
theorem d_Md_told_76 : decode prog_12_method_42_code 76 = .ok (.aload_n 0, 1) := by decide +kernel
theorem d_Md_told_77 : decode prog_12_method_42_code 77 = .ok (.getfield 53, 3) := by decide +kernel
theorem d_Md_told_80 : decode prog_12_method_42_code 80 = .ok (.ireturn, 1) := by decide +kernel
theorem d_Md_told_81 : decode prog_12_method_42_code 81 = .ok (.aload_n 0, 1) := by decide +kernel
theorem d_Md_told_82 : decode prog_12_method_42_code 82 = .ok (.getfield 57, 3) := by decide +kernel
theorem d_Md_told_85 : decode prog_12_method_42_code 85 = .ok (.ireturn, 1) := by decide +kernel
theorem d_Md_told_86 : decode prog_12_method_42_code 86 = .ok (.aload_n 0, 1) := by decide +kernel
theorem d_Md_told_87 : decode prog_12_method_42_code 87 = .ok (.getfield 7, 3) := by decide +kernel
theorem d_Md_told_90 : decode prog_12_method_42_code 90 = .ok (.invokestatic 181, 3) := by decide +kernel
theorem d_Md_told_93 : decode prog_12_method_42_code 93 = .ok (.ireturn, 1) := by decide +kernel
theorem d_Md_told_94 : decode prog_12_method_42_code 94 = .ok (.iload_n 2, 1) := by decide +kernel
theorem d_Md_told_95 : decode prog_12_method_42_code 95 = .ok (.ireturn, 1) := by decide +kernel
theorem d_Md_told_96 : decode prog_12_method_42_code 96 = .ok (.aload_n 0, 1) := by decide +kernel
theorem d_Md_told_97 : decode prog_12_method_42_code 97 = .ok (.invokevirtual 108, 3) := by decide +kernel
theorem d_Md_told_100 : decode prog_12_method_42_code 100 = .ok (.ireturn, 1) := by decide +kernel
theorem d_Md_told_101 : decode prog_12_method_42_code 101 = .ok (.aload_n 0, 1) := by decide +kernel
theorem d_Md_told_102 : decode prog_12_method_42_code 102 = .ok (.invokevirtual 185, 3) := by decide +kernel
theorem d_Md_told_105 : decode prog_12_method_42_code 105 = .ok (.ireturn, 1) := by decide +kernel
theorem d_Md_told_106 : decode prog_12_method_42_code 106 = .ok (.aload_n 0, 1) := by decide +kernel
theorem d_Md_told_107 : decode prog_12_method_42_code 107 = .ok (.getfield 145, 3) := by decide +kernel
theorem d_Md_told_110 : decode prog_12_method_42_code 110 = .ok (.ireturn, 1) := by decide +kernel
theorem d_Md_told_111 : decode prog_12_method_42_code 111 = .ok (.aload_n 0, 1) := by decide +kernel
theorem d_Md_told_112 : decode prog_12_method_42_code 112 = .ok (.getfield 151, 3) := by decide +kernel
theorem d_Md_told_115 : decode prog_12_method_42_code 115 = .ok (.ireturn, 1) := by decide +kernel
theorem d_Md_told_116 : decode prog_12_method_42_code 116 = .ok (.aload_n 0, 1) := by decide +kernel
theorem d_Md_told_117 : decode prog_12_method_42_code 117 = .ok (.getfield 173, 3) := by decide +kernel
theorem d_Md_told_120 : decode prog_12_method_42_code 120 = .ok (.ifCond .eq 10, 3) := by decide +kernel
theorem d_Md_told_123 : decode prog_12_method_42_code 123 = .ok (.aload_n 0, 1) := by decide +kernel
theorem d_Md_told_124 : decode prog_12_method_42_code 124 = .ok (.getfield 160, 3) := by decide +kernel
theorem d_Md_told_127 : decode prog_12_method_42_code 127 = .ok (.goto 4, 3) := by decide +kernel
theorem d_Md_told_130 : decode prog_12_method_42_code 130 = .ok (.iconst 0, 1) := by decide +kernel
theorem d_Md_told_131 : decode prog_12_method_42_code 131 = .ok (.ireturn, 1) := by decide +kernel
theorem d_Md_told_132 : decode prog_12_method_42_code 132 = .ok (.aload_n 0, 1) := by decide +kernel
theorem d_Md_told_133 : decode prog_12_method_42_code 133 = .ok (.getfield 173, 3) := by decide +kernel
theorem d_Md_told_136 : decode prog_12_method_42_code 136 = .ok (.ifCond .eq 10, 3) := by decide +kernel
theorem d_Md_told_139 : decode prog_12_method_42_code 139 = .ok (.aload_n 0, 1) := by decide +kernel
theorem d_Md_told_140 : decode prog_12_method_42_code 140 = .ok (.getfield 163, 3) := by decide +kernel
theorem d_Md_told_143 : decode prog_12_method_42_code 143 = .ok (.goto 4, 3) := by decide +kernel
theorem d_Md_told_146 : decode prog_12_method_42_code 146 = .ok (.iconst 0, 1) := by decide +kernel
theorem d_Md_told_147 : decode prog_12_method_42_code 147 = .ok (.ireturn, 1) := by decide +kernel
theorem d_Md_told_148 : decode prog_12_method_42_code 148 = .ok (.aload_n 0, 1) := by decide +kernel
theorem d_Md_told_149 : decode prog_12_method_42_code 149 = .ok (.getfield 173, 3) := by decide +kernel
theorem d_Md_told_152 : decode prog_12_method_42_code 152 = .ok (.ifCond .eq 13, 3) := by decide +kernel
theorem d_Md_told_155 : decode prog_12_method_42_code 155 = .ok (.aload_n 0, 1) := by decide +kernel
theorem d_Md_told_156 : decode prog_12_method_42_code 156 = .ok (.getfield 23, 3) := by decide +kernel
theorem d_Md_told_159 : decode prog_12_method_42_code 159 = .ok (.invokestatic 181, 3) := by decide +kernel
theorem d_Md_told_162 : decode prog_12_method_42_code 162 = .ok (.goto 4, 3) := by decide +kernel
theorem d_Md_told_165 : decode prog_12_method_42_code 165 = .ok (.iconst 0, 1) := by decide +kernel
theorem d_Md_told_166 : decode prog_12_method_42_code 166 = .ok (.ireturn, 1) := by decide +kernel
theorem d_Md_told_167 : decode prog_12_method_42_code 167 = .ok (.aload_n 0, 1) := by decide +kernel
theorem d_Md_told_168 : decode prog_12_method_42_code 168 = .ok (.getfield 173, 3) := by decide +kernel
theorem d_Md_told_171 : decode prog_12_method_42_code 171 = .ok (.ifCond .eq 18, 3) := by decide +kernel
theorem d_Md_told_174 : decode prog_12_method_42_code 174 = .ok (.aload_n 0, 1) := by decide +kernel
theorem d_Md_told_175 : decode prog_12_method_42_code 175 = .ok (.aload_n 0, 1) := by decide +kernel
theorem d_Md_told_176 : decode prog_12_method_42_code 176 = .ok (.getfield 23, 3) := by decide +kernel
theorem d_Md_told_179 : decode prog_12_method_42_code 179 = .ok (.aload_n 0, 1) := by decide +kernel
theorem d_Md_told_180 : decode prog_12_method_42_code 180 = .ok (.getfield 26, 3) := by decide +kernel
theorem d_Md_told_183 : decode prog_12_method_42_code 183 = .ok (.invokevirtual 76, 3) := by decide +kernel
theorem d_Md_told_186 : decode prog_12_method_42_code 186 = .ok (.goto 4, 3) := by decide +kernel
theorem d_Md_told_189 : decode prog_12_method_42_code 189 = .ok (.iconst 0, 1) := by decide +kernel
theorem d_Md_told_190 : decode prog_12_method_42_code 190 = .ok (.ireturn, 1) := by decide +kernel
theorem d_Md_told_191 : decode prog_12_method_42_code 191 = .ok (.aload_n 0, 1) := by decide +kernel
theorem d_Md_told_192 : decode prog_12_method_42_code 192 = .ok (.getfield 173, 3) := by decide +kernel
theorem d_Md_told_195 : decode prog_12_method_42_code 195 = .ok (.ifCond .eq 10, 3) := by decide +kernel
theorem d_Md_told_198 : decode prog_12_method_42_code 198 = .ok (.aload_n 0, 1) := by decide +kernel
theorem d_Md_told_199 : decode prog_12_method_42_code 199 = .ok (.getfield 157, 3) := by decide +kernel
theorem d_Md_told_202 : decode prog_12_method_42_code 202 = .ok (.goto 4, 3) := by decide +kernel
theorem d_Md_told_205 : decode prog_12_method_42_code 205 = .ok (.iconst 0, 1) := by decide +kernel
theorem d_Md_told_206 : decode prog_12_method_42_code 206 = .ok (.ireturn, 1) := by decide +kernel
theorem d_Md_told_207 : decode prog_12_method_42_code 207 = .ok (.iconst (-1), 1) := by decide +kernel
theorem d_Md_told_208 : decode prog_12_method_42_code 208 = .ok (.ireturn, 1) := by decide +kernel
theorem d_Md_wave_0 : decode prog_12_method_12_code 0 = .ok (.aload_n 0, 1) := by decide +kernel
theorem d_Md_wave_1 : decode prog_12_method_12_code 1 = .ok (.aload_n 0, 1) := by decide +kernel
theorem d_Md_wave_2 : decode prog_12_method_12_code 2 = .ok (.iload_n 1, 1) := by decide +kernel
theorem d_Md_wave_3 : decode prog_12_method_12_code 3 = .ok (.iload_n 2, 1) := by decide +kernel
theorem d_Md_wave_4 : decode prog_12_method_12_code 4 = .ok (.invokevirtual 63, 3) := by decide +kernel
theorem d_Md_wave_7 : decode prog_12_method_12_code 7 = .ok (.ifCond .eq 7, 3) := by decide +kernel
theorem d_Md_wave_10 : decode prog_12_method_12_code 10 = .ok (.iconst 0, 1) := by decide +kernel
theorem d_Md_wave_11 : decode prog_12_method_12_code 11 = .ok (.goto 4, 3) := by decide +kernel
theorem d_Md_wave_14 : decode prog_12_method_12_code 14 = .ok (.iconst 1, 1) := by decide +kernel
theorem d_Md_wave_15 : decode prog_12_method_12_code 15 = .ok (.putfield 60, 3) := by decide +kernel
theorem d_Md_wave_18 : decode prog_12_method_12_code 18 = .ok (.aload_n 0, 1) := by decide +kernel
theorem d_Md_wave_19 : decode prog_12_method_12_code 19 = .ok (.getfield 60, 3) := by decide +kernel
theorem d_Md_wave_22 : decode prog_12_method_12_code 22 = .ok (.ifCond .gt 17, 3) := by decide +kernel
theorem d_Md_wave_25 : decode prog_12_method_12_code 25 = .ok (.aload_n 0, 1) := by decide +kernel
theorem d_Md_wave_26 : decode prog_12_method_12_code 26 = .ok (.getfield 7, 3) := by decide +kernel
theorem d_Md_wave_29 : decode prog_12_method_12_code 29 = .ok (.bipush 16, 2) := by decide +kernel
theorem d_Md_wave_31 : decode prog_12_method_12_code 31 = .ok (.iload_n 2, 1) := by decide +kernel
theorem d_Md_wave_32 : decode prog_12_method_12_code 32 = .ok (.imul, 1) := by decide +kernel
theorem d_Md_wave_33 : decode prog_12_method_12_code 33 = .ok (.iload_n 1, 1) := by decide +kernel
theorem d_Md_wave_34 : decode prog_12_method_12_code 34 = .ok (.iadd, 1) := by decide +kernel
theorem d_Md_wave_35 : decode prog_12_method_12_code 35 = .ok (.baload, 1) := by decide +kernel
theorem d_Md_wave_36 : decode prog_12_method_12_code 36 = .ok (.ifCond .ne 17, 3) := by decide +kernel
theorem d_Md_wave_39 : decode prog_12_method_12_code 39 = .ok (.aload_n 0, 1) := by decide +kernel
theorem d_Md_wave_40 : decode prog_12_method_12_code 40 = .ok (.getfield 60, 3) := by decide +kernel
theorem d_Md_wave_43 : decode prog_12_method_12_code 43 = .ok (.ifCond .le 7, 3) := by decide +kernel
theorem d_Md_wave_46 : decode prog_12_method_12_code 46 = .ok (.iconst 0, 1) := by decide +kernel
theorem d_Md_wave_47 : decode prog_12_method_12_code 47 = .ok (.goto 5, 3) := by decide +kernel
theorem d_Md_wave_50 : decode prog_12_method_12_code 50 = .ok (.ldc 84, 2) := by decide +kernel
theorem d_Md_wave_52 : decode prog_12_method_12_code 52 = .ok (.ireturn, 1) := by decide +kernel
theorem d_Md_wave_53 : decode prog_12_method_12_code 53 = .ok (.aload_n 0, 1) := by decide +kernel
theorem d_Md_wave_54 : decode prog_12_method_12_code 54 = .ok (.invokevirtual 85, 3) := by decide +kernel
theorem d_Md_wave_57 : decode prog_12_method_12_code 57 = .ok (.istore_n 3, 1) := by decide +kernel
theorem d_Md_wave_58 : decode prog_12_method_12_code 58 = .ok (.aload_n 0, 1) := by decide +kernel
theorem d_Md_wave_59 : decode prog_12_method_12_code 59 = .ok (.getfield 20, 3) := by decide +kernel
theorem d_Md_wave_62 : decode prog_12_method_12_code 62 = .ok (.bipush 16, 2) := by decide +kernel
theorem d_Md_wave_64 : decode prog_12_method_12_code 64 = .ok (.iload_n 2, 1) := by decide +kernel
theorem d_Md_wave_65 : decode prog_12_method_12_code 65 = .ok (.imul, 1) := by decide +kernel
theorem d_Md_wave_66 : decode prog_12_method_12_code 66 = .ok (.iload_n 1, 1) := by decide +kernel
theorem d_Md_wave_67 : decode prog_12_method_12_code 67 = .ok (.iadd, 1) := by decide +kernel
theorem d_Md_wave_68 : decode prog_12_method_12_code 68 = .ok (.iaload, 1) := by decide +kernel
theorem d_Md_wave_69 : decode prog_12_method_12_code 69 = .ok (.ireturn, 1) := by decide +kernel
theorem d_Md_zeros_0 : decode prog_12_method_29_code 0 = .ok (.aload_n 0, 1) := by decide +kernel
theorem d_Md_zeros_1 : decode prog_12_method_29_code 1 = .ok (.iload_n 1, 1) := by decide +kernel
theorem d_Md_zeros_2 : decode prog_12_method_29_code 2 = .ok (.ifCond .lt 8, 3) := by decide +kernel
theorem d_Md_zeros_5 : decode prog_12_method_29_code 5 = .ok (.iload_n 1, 1) := by decide +kernel
theorem d_Md_zeros_6 : decode prog_12_method_29_code 6 = .ok (.iconst 3, 1) := by decide +kernel
theorem d_Md_zeros_7 : decode prog_12_method_29_code 7 = .ok (.if_icmp .le 7, 3) := by decide +kernel
theorem d_Md_zeros_10 : decode prog_12_method_29_code 10 = .ok (.iconst 1, 1) := by decide +kernel
theorem d_Md_zeros_11 : decode prog_12_method_29_code 11 = .ok (.goto 4, 3) := by decide +kernel
theorem d_Md_zeros_14 : decode prog_12_method_29_code 14 = .ok (.iconst 0, 1) := by decide +kernel
theorem d_Md_zeros_15 : decode prog_12_method_29_code 15 = .ok (.putfield 60, 3) := by decide +kernel
theorem d_Md_zeros_18 : decode prog_12_method_29_code 18 = .ok (.aload_n 0, 1) := by decide +kernel
theorem d_Md_zeros_19 : decode prog_12_method_29_code 19 = .ok (.getfield 60, 3) := by decide +kernel
theorem d_Md_zeros_22 : decode prog_12_method_29_code 22 = .ok (.ifCond .le 7, 3) := by decide +kernel
theorem d_Md_zeros_25 : decode prog_12_method_29_code 25 = .ok (.iconst 0, 1) := by decide +kernel
theorem d_Md_zeros_26 : decode prog_12_method_29_code 26 = .ok (.goto 9, 3) := by decide +kernel
theorem d_Md_zeros_29 : decode prog_12_method_29_code 29 = .ok (.aload_n 0, 1) := by decide +kernel
theorem d_Md_zeros_30 : decode prog_12_method_29_code 30 = .ok (.getfield 35, 3) := by decide +kernel
theorem d_Md_zeros_33 : decode prog_12_method_29_code 33 = .ok (.iload_n 1, 1) := by decide +kernel
theorem d_Md_zeros_34 : decode prog_12_method_29_code 34 = .ok (.iaload, 1) := by decide +kernel
theorem d_Md_zeros_35 : decode prog_12_method_29_code 35 = .ok (.ireturn, 1) := by decide +kernel
