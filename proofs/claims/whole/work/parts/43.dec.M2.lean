abbrev b_M_row : ByteArray := prog_9_method_28_code
def y_M_row : MethodName := ⟨"RegistryLogModel", "row", "(II)I"⟩
theorem d_M_row_0 : decode b_M_row 0 = .ok (.aload_n 0, 1) := by decide +kernel
theorem d_M_row_1 : decode b_M_row 1 = .ok (.iconst 0, 1) := by decide +kernel
theorem d_M_row_2 : decode b_M_row 2 = .ok (.putfield 108, 3) := by decide +kernel
theorem d_M_row_5 : decode b_M_row 5 = .ok (.aload_n 0, 1) := by decide +kernel
theorem d_M_row_6 : decode b_M_row 6 = .ok (.iload_n 1, 1) := by decide +kernel
theorem d_M_row_7 : decode b_M_row 7 = .ok (.invokevirtual 196, 3) := by decide +kernel
theorem d_M_row_10 : decode b_M_row 10 = .ok (.ifCond .ne 5, 3) := by decide +kernel
theorem d_M_row_13 : decode b_M_row 13 = .ok (.iconst (-1), 1) := by decide +kernel
theorem d_M_row_14 : decode b_M_row 14 = .ok (.ireturn, 1) := by decide +kernel
theorem d_M_row_15 : decode b_M_row 15 = .ok (.iload_n 2, 1) := by decide +kernel
theorem d_M_row_16 : decode b_M_row 16 = .ok (.ifCond .ne 12, 3) := by decide +kernel
theorem d_M_row_19 : decode b_M_row 19 = .ok (.aload_n 0, 1) := by decide +kernel
theorem d_M_row_20 : decode b_M_row 20 = .ok (.getfield 13, 3) := by decide +kernel
theorem d_M_row_23 : decode b_M_row 23 = .ok (.iload_n 1, 1) := by decide +kernel
theorem d_M_row_24 : decode b_M_row 24 = .ok (.iaload, 1) := by decide +kernel
theorem d_M_row_25 : decode b_M_row 25 = .ok (.goto 46, 3) := by decide +kernel
theorem d_M_row_28 : decode b_M_row 28 = .ok (.iload_n 2, 1) := by decide +kernel
theorem d_M_row_29 : decode b_M_row 29 = .ok (.iconst 1, 1) := by decide +kernel
theorem d_M_row_30 : decode b_M_row 30 = .ok (.if_icmp .ne 12, 3) := by decide +kernel
theorem d_M_row_33 : decode b_M_row 33 = .ok (.aload_n 0, 1) := by decide +kernel
theorem d_M_row_34 : decode b_M_row 34 = .ok (.getfield 16, 3) := by decide +kernel
theorem d_M_row_37 : decode b_M_row 37 = .ok (.iload_n 1, 1) := by decide +kernel
theorem d_M_row_38 : decode b_M_row 38 = .ok (.iaload, 1) := by decide +kernel
theorem d_M_row_39 : decode b_M_row 39 = .ok (.goto 32, 3) := by decide +kernel
theorem d_M_row_42 : decode b_M_row 42 = .ok (.iload_n 2, 1) := by decide +kernel
theorem d_M_row_43 : decode b_M_row 43 = .ok (.iconst 2, 1) := by decide +kernel
theorem d_M_row_44 : decode b_M_row 44 = .ok (.if_icmp .ne 12, 3) := by decide +kernel
theorem d_M_row_47 : decode b_M_row 47 = .ok (.aload_n 0, 1) := by decide +kernel
theorem d_M_row_48 : decode b_M_row 48 = .ok (.getfield 19, 3) := by decide +kernel
theorem d_M_row_51 : decode b_M_row 51 = .ok (.iload_n 1, 1) := by decide +kernel
theorem d_M_row_52 : decode b_M_row 52 = .ok (.iaload, 1) := by decide +kernel
theorem d_M_row_53 : decode b_M_row 53 = .ok (.goto 18, 3) := by decide +kernel
theorem d_M_row_56 : decode b_M_row 56 = .ok (.iload_n 2, 1) := by decide +kernel
theorem d_M_row_57 : decode b_M_row 57 = .ok (.iconst 3, 1) := by decide +kernel
theorem d_M_row_58 : decode b_M_row 58 = .ok (.if_icmp .ne 12, 3) := by decide +kernel
theorem d_M_row_61 : decode b_M_row 61 = .ok (.aload_n 0, 1) := by decide +kernel
theorem d_M_row_62 : decode b_M_row 62 = .ok (.getfield 22, 3) := by decide +kernel
theorem d_M_row_65 : decode b_M_row 65 = .ok (.iload_n 1, 1) := by decide +kernel
theorem d_M_row_66 : decode b_M_row 66 = .ok (.iaload, 1) := by decide +kernel
theorem d_M_row_67 : decode b_M_row 67 = .ok (.goto 4, 3) := by decide +kernel
theorem d_M_row_70 : decode b_M_row 70 = .ok (.iconst (-1), 1) := by decide +kernel
theorem d_M_row_71 : decode b_M_row 71 = .ok (.ireturn, 1) := by decide +kernel

abbrev b_M_mix : ByteArray := prog_9_method_29_code
def y_M_mix : MethodName := ⟨"RegistryLogModel", "mix", "(JJ)J"⟩
theorem d_M_mix_0 : decode b_M_mix 0 = .ok (.lload_n 0, 1) := by decide +kernel
theorem d_M_mix_1 : decode b_M_mix 1 = .ok (.lload_n 2, 1) := by decide +kernel
theorem d_M_mix_2 : decode b_M_mix 2 = .ok (.lxor, 1) := by decide +kernel
theorem d_M_mix_3 : decode b_M_mix 3 = .ok (.ldc2_w 199, 3) := by decide +kernel
theorem d_M_mix_6 : decode b_M_mix 6 = .ok (.lmul, 1) := by decide +kernel
theorem d_M_mix_7 : decode b_M_mix 7 = .ok (.lstore 4, 2) := by decide +kernel
theorem d_M_mix_9 : decode b_M_mix 9 = .ok (.lload 4, 2) := by decide +kernel
theorem d_M_mix_11 : decode b_M_mix 11 = .ok (.lload 4, 2) := by decide +kernel
theorem d_M_mix_13 : decode b_M_mix 13 = .ok (.bipush 29, 2) := by decide +kernel
theorem d_M_mix_15 : decode b_M_mix 15 = .ok (.lushr, 1) := by decide +kernel
theorem d_M_mix_16 : decode b_M_mix 16 = .ok (.lxor, 1) := by decide +kernel
theorem d_M_mix_17 : decode b_M_mix 17 = .ok (.lreturn, 1) := by decide +kernel

abbrev b_M_join : ByteArray := prog_9_method_30_code
def y_M_join : MethodName := ⟨"RegistryLogModel", "join", "(JJ)J"⟩
theorem d_M_join_0 : decode b_M_join 0 = .ok (.lconst 1, 1) := by decide +kernel
theorem d_M_join_1 : decode b_M_join 1 = .ok (.lload_n 0, 1) := by decide +kernel
theorem d_M_join_2 : decode b_M_join 2 = .ok (.invokestatic 201, 3) := by decide +kernel
theorem d_M_join_5 : decode b_M_join 5 = .ok (.lload_n 2, 1) := by decide +kernel
theorem d_M_join_6 : decode b_M_join 6 = .ok (.invokestatic 201, 3) := by decide +kernel
theorem d_M_join_9 : decode b_M_join 9 = .ok (.lreturn, 1) := by decide +kernel

abbrev b_M_digestOf : ByteArray := prog_9_method_31_code
def y_M_digestOf : MethodName := ⟨"RegistryLogModel", "digestOf", "(II)J"⟩
theorem d_M_digestOf_0 : decode b_M_digestOf 0 = .ok (.lconst 0, 1) := by decide +kernel
theorem d_M_digestOf_1 : decode b_M_digestOf 1 = .ok (.aload_n 0, 1) := by decide +kernel
theorem d_M_digestOf_2 : decode b_M_digestOf 2 = .ok (.getfield 13, 3) := by decide +kernel
theorem d_M_digestOf_5 : decode b_M_digestOf 5 = .ok (.iload_n 2, 1) := by decide +kernel
theorem d_M_digestOf_6 : decode b_M_digestOf 6 = .ok (.iaload, 1) := by decide +kernel
theorem d_M_digestOf_7 : decode b_M_digestOf 7 = .ok (.i2l, 1) := by decide +kernel
theorem d_M_digestOf_8 : decode b_M_digestOf 8 = .ok (.invokestatic 201, 3) := by decide +kernel
theorem d_M_digestOf_11 : decode b_M_digestOf 11 = .ok (.aload_n 0, 1) := by decide +kernel
theorem d_M_digestOf_12 : decode b_M_digestOf 12 = .ok (.getfield 16, 3) := by decide +kernel
theorem d_M_digestOf_15 : decode b_M_digestOf 15 = .ok (.iload_n 2, 1) := by decide +kernel
theorem d_M_digestOf_16 : decode b_M_digestOf 16 = .ok (.iaload, 1) := by decide +kernel
theorem d_M_digestOf_17 : decode b_M_digestOf 17 = .ok (.i2l, 1) := by decide +kernel
theorem d_M_digestOf_18 : decode b_M_digestOf 18 = .ok (.invokestatic 201, 3) := by decide +kernel
theorem d_M_digestOf_21 : decode b_M_digestOf 21 = .ok (.lstore_n 3, 1) := by decide +kernel
theorem d_M_digestOf_22 : decode b_M_digestOf 22 = .ok (.iconst 0, 1) := by decide +kernel
theorem d_M_digestOf_23 : decode b_M_digestOf 23 = .ok (.istore 5, 2) := by decide +kernel
theorem d_M_digestOf_25 : decode b_M_digestOf 25 = .ok (.iload 5, 2) := by decide +kernel
theorem d_M_digestOf_27 : decode b_M_digestOf 27 = .ok (.aload_n 0, 1) := by decide +kernel
theorem d_M_digestOf_28 : decode b_M_digestOf 28 = .ok (.getfield 25, 3) := by decide +kernel
theorem d_M_digestOf_31 : decode b_M_digestOf 31 = .ok (.iload_n 2, 1) := by decide +kernel
theorem d_M_digestOf_32 : decode b_M_digestOf 32 = .ok (.iaload, 1) := by decide +kernel
theorem d_M_digestOf_33 : decode b_M_digestOf 33 = .ok (.if_icmp .ge 27, 3) := by decide +kernel
theorem d_M_digestOf_36 : decode b_M_digestOf 36 = .ok (.lload_n 3, 1) := by decide +kernel
theorem d_M_digestOf_37 : decode b_M_digestOf 37 = .ok (.aload_n 0, 1) := by decide +kernel
theorem d_M_digestOf_38 : decode b_M_digestOf 38 = .ok (.getfield 31, 3) := by decide +kernel
theorem d_M_digestOf_41 : decode b_M_digestOf 41 = .ok (.bipush 10, 2) := by decide +kernel
theorem d_M_digestOf_43 : decode b_M_digestOf 43 = .ok (.iload_n 2, 1) := by decide +kernel
theorem d_M_digestOf_44 : decode b_M_digestOf 44 = .ok (.imul, 1) := by decide +kernel
theorem d_M_digestOf_45 : decode b_M_digestOf 45 = .ok (.iload 5, 2) := by decide +kernel
theorem d_M_digestOf_47 : decode b_M_digestOf 47 = .ok (.iadd, 1) := by decide +kernel
theorem d_M_digestOf_48 : decode b_M_digestOf 48 = .ok (.iaload, 1) := by decide +kernel
theorem d_M_digestOf_49 : decode b_M_digestOf 49 = .ok (.i2l, 1) := by decide +kernel
theorem d_M_digestOf_50 : decode b_M_digestOf 50 = .ok (.invokestatic 201, 3) := by decide +kernel
theorem d_M_digestOf_53 : decode b_M_digestOf 53 = .ok (.lstore_n 3, 1) := by decide +kernel
theorem d_M_digestOf_54 : decode b_M_digestOf 54 = .ok (.iinc 5 1, 3) := by decide +kernel
theorem d_M_digestOf_57 : decode b_M_digestOf 57 = .ok (.goto (-32), 3) := by decide +kernel
theorem d_M_digestOf_60 : decode b_M_digestOf 60 = .ok (.lload_n 3, 1) := by decide +kernel
theorem d_M_digestOf_61 : decode b_M_digestOf 61 = .ok (.ldc2_w 205, 3) := by decide +kernel
theorem d_M_digestOf_64 : decode b_M_digestOf 64 = .ok (.invokestatic 201, 3) := by decide +kernel
theorem d_M_digestOf_67 : decode b_M_digestOf 67 = .ok (.lstore_n 3, 1) := by decide +kernel
theorem d_M_digestOf_68 : decode b_M_digestOf 68 = .ok (.aload_n 0, 1) := by decide +kernel
theorem d_M_digestOf_69 : decode b_M_digestOf 69 = .ok (.getfield 13, 3) := by decide +kernel
theorem d_M_digestOf_72 : decode b_M_digestOf 72 = .ok (.iload_n 2, 1) := by decide +kernel
theorem d_M_digestOf_73 : decode b_M_digestOf 73 = .ok (.iaload, 1) := by decide +kernel
theorem d_M_digestOf_74 : decode b_M_digestOf 74 = .ok (.iconst 3, 1) := by decide +kernel
theorem d_M_digestOf_75 : decode b_M_digestOf 75 = .ok (.if_icmp .ge 49, 3) := by decide +kernel
theorem d_M_digestOf_78 : decode b_M_digestOf 78 = .ok (.lload_n 3, 1) := by decide +kernel
theorem d_M_digestOf_79 : decode b_M_digestOf 79 = .ok (.aload_n 0, 1) := by decide +kernel
theorem d_M_digestOf_80 : decode b_M_digestOf 80 = .ok (.getfield 19, 3) := by decide +kernel
theorem d_M_digestOf_83 : decode b_M_digestOf 83 = .ok (.iload_n 2, 1) := by decide +kernel
theorem d_M_digestOf_84 : decode b_M_digestOf 84 = .ok (.iaload, 1) := by decide +kernel
theorem d_M_digestOf_85 : decode b_M_digestOf 85 = .ok (.i2l, 1) := by decide +kernel
theorem d_M_digestOf_86 : decode b_M_digestOf 86 = .ok (.invokestatic 201, 3) := by decide +kernel
theorem d_M_digestOf_89 : decode b_M_digestOf 89 = .ok (.aload_n 0, 1) := by decide +kernel
theorem d_M_digestOf_90 : decode b_M_digestOf 90 = .ok (.getfield 13, 3) := by decide +kernel
theorem d_M_digestOf_93 : decode b_M_digestOf 93 = .ok (.iload_n 2, 1) := by decide +kernel
theorem d_M_digestOf_94 : decode b_M_digestOf 94 = .ok (.iaload, 1) := by decide +kernel
theorem d_M_digestOf_95 : decode b_M_digestOf 95 = .ok (.ifCond .ne 18, 3) := by decide +kernel
theorem d_M_digestOf_98 : decode b_M_digestOf 98 = .ok (.aload_n 0, 1) := by decide +kernel
theorem d_M_digestOf_99 : decode b_M_digestOf 99 = .ok (.getfield 37, 3) := by decide +kernel
theorem d_M_digestOf_102 : decode b_M_digestOf 102 = .ok (.bipush 120, 2) := by decide +kernel
theorem d_M_digestOf_104 : decode b_M_digestOf 104 = .ok (.iload_n 1, 1) := by decide +kernel
theorem d_M_digestOf_105 : decode b_M_digestOf 105 = .ok (.imul, 1) := by decide +kernel
theorem d_M_digestOf_106 : decode b_M_digestOf 106 = .ok (.iload_n 2, 1) := by decide +kernel
theorem d_M_digestOf_107 : decode b_M_digestOf 107 = .ok (.iadd, 1) := by decide +kernel
theorem d_M_digestOf_108 : decode b_M_digestOf 108 = .ok (.iaload, 1) := by decide +kernel
theorem d_M_digestOf_109 : decode b_M_digestOf 109 = .ok (.i2l, 1) := by decide +kernel
theorem d_M_digestOf_110 : decode b_M_digestOf 110 = .ok (.goto 10, 3) := by decide +kernel
theorem d_M_digestOf_113 : decode b_M_digestOf 113 = .ok (.aload_n 0, 1) := by decide +kernel
theorem d_M_digestOf_114 : decode b_M_digestOf 114 = .ok (.getfield 22, 3) := by decide +kernel
theorem d_M_digestOf_117 : decode b_M_digestOf 117 = .ok (.iload_n 2, 1) := by decide +kernel
theorem d_M_digestOf_118 : decode b_M_digestOf 118 = .ok (.iaload, 1) := by decide +kernel
theorem d_M_digestOf_119 : decode b_M_digestOf 119 = .ok (.i2l, 1) := by decide +kernel
theorem d_M_digestOf_120 : decode b_M_digestOf 120 = .ok (.invokestatic 201, 3) := by decide +kernel
theorem d_M_digestOf_123 : decode b_M_digestOf 123 = .ok (.lstore_n 3, 1) := by decide +kernel
theorem d_M_digestOf_124 : decode b_M_digestOf 124 = .ok (.iconst 0, 1) := by decide +kernel
theorem d_M_digestOf_125 : decode b_M_digestOf 125 = .ok (.istore 5, 2) := by decide +kernel
theorem d_M_digestOf_127 : decode b_M_digestOf 127 = .ok (.iload 5, 2) := by decide +kernel
theorem d_M_digestOf_129 : decode b_M_digestOf 129 = .ok (.aload_n 0, 1) := by decide +kernel
theorem d_M_digestOf_130 : decode b_M_digestOf 130 = .ok (.getfield 28, 3) := by decide +kernel
theorem d_M_digestOf_133 : decode b_M_digestOf 133 = .ok (.iload_n 2, 1) := by decide +kernel
theorem d_M_digestOf_134 : decode b_M_digestOf 134 = .ok (.iaload, 1) := by decide +kernel
theorem d_M_digestOf_135 : decode b_M_digestOf 135 = .ok (.if_icmp .ge 37, 3) := by decide +kernel
theorem d_M_digestOf_138 : decode b_M_digestOf 138 = .ok (.aload_n 0, 1) := by decide +kernel
theorem d_M_digestOf_139 : decode b_M_digestOf 139 = .ok (.getfield 13, 3) := by decide +kernel
theorem d_M_digestOf_142 : decode b_M_digestOf 142 = .ok (.iload_n 2, 1) := by decide +kernel
theorem d_M_digestOf_143 : decode b_M_digestOf 143 = .ok (.iaload, 1) := by decide +kernel
theorem d_M_digestOf_144 : decode b_M_digestOf 144 = .ok (.iconst 3, 1) := by decide +kernel
theorem d_M_digestOf_145 : decode b_M_digestOf 145 = .ok (.if_icmp .ne 27, 3) := by decide +kernel
theorem d_M_digestOf_148 : decode b_M_digestOf 148 = .ok (.lload_n 3, 1) := by decide +kernel
theorem d_M_digestOf_149 : decode b_M_digestOf 149 = .ok (.aload_n 0, 1) := by decide +kernel
theorem d_M_digestOf_150 : decode b_M_digestOf 150 = .ok (.getfield 34, 3) := by decide +kernel
theorem d_M_digestOf_153 : decode b_M_digestOf 153 = .ok (.bipush 10, 2) := by decide +kernel
theorem d_M_digestOf_155 : decode b_M_digestOf 155 = .ok (.iload_n 2, 1) := by decide +kernel
theorem d_M_digestOf_156 : decode b_M_digestOf 156 = .ok (.imul, 1) := by decide +kernel
theorem d_M_digestOf_157 : decode b_M_digestOf 157 = .ok (.iload 5, 2) := by decide +kernel
theorem d_M_digestOf_159 : decode b_M_digestOf 159 = .ok (.iadd, 1) := by decide +kernel
theorem d_M_digestOf_160 : decode b_M_digestOf 160 = .ok (.iaload, 1) := by decide +kernel
theorem d_M_digestOf_161 : decode b_M_digestOf 161 = .ok (.i2l, 1) := by decide +kernel
theorem d_M_digestOf_162 : decode b_M_digestOf 162 = .ok (.invokestatic 201, 3) := by decide +kernel
theorem d_M_digestOf_165 : decode b_M_digestOf 165 = .ok (.lstore_n 3, 1) := by decide +kernel
theorem d_M_digestOf_166 : decode b_M_digestOf 166 = .ok (.iinc 5 1, 3) := by decide +kernel
theorem d_M_digestOf_169 : decode b_M_digestOf 169 = .ok (.goto (-42), 3) := by decide +kernel
theorem d_M_digestOf_172 : decode b_M_digestOf 172 = .ok (.lload_n 3, 1) := by decide +kernel
theorem d_M_digestOf_173 : decode b_M_digestOf 173 = .ok (.lreturn, 1) := by decide +kernel

abbrev b_M_headOf : ByteArray := prog_9_method_32_code
def y_M_headOf : MethodName := ⟨"RegistryLogModel", "headOf", "(III)J"⟩
theorem d_M_headOf_0 : decode b_M_headOf 0 = .ok (.iconst 0, 1) := by decide +kernel
theorem d_M_headOf_1 : decode b_M_headOf 1 = .ok (.istore 4, 2) := by decide +kernel
theorem d_M_headOf_3 : decode b_M_headOf 3 = .ok (.iload_n 2, 1) := by decide +kernel
theorem d_M_headOf_4 : decode b_M_headOf 4 = .ok (.istore 5, 2) := by decide +kernel
theorem d_M_headOf_6 : decode b_M_headOf 6 = .ok (.bipush 64, 2) := by decide +kernel
theorem d_M_headOf_8 : decode b_M_headOf 8 = .ok (.istore 6, 2) := by decide +kernel
theorem d_M_headOf_10 : decode b_M_headOf 10 = .ok (.iload 6, 2) := by decide +kernel
theorem d_M_headOf_12 : decode b_M_headOf 12 = .ok (.ifCond .le 145, 3) := by decide +kernel
theorem d_M_headOf_15 : decode b_M_headOf 15 = .ok (.iload_n 3, 1) := by decide +kernel
theorem d_M_headOf_16 : decode b_M_headOf 16 = .ok (.iload 6, 2) := by decide +kernel
theorem d_M_headOf_18 : decode b_M_headOf 18 = .ok (.iand, 1) := by decide +kernel
theorem d_M_headOf_19 : decode b_M_headOf 19 = .ok (.ifCond .ne 6, 3) := by decide +kernel
theorem d_M_headOf_22 : decode b_M_headOf 22 = .ok (.goto 126, 3) := by decide +kernel
theorem d_M_headOf_25 : decode b_M_headOf 25 = .ok (.iconst 0, 1) := by decide +kernel
theorem d_M_headOf_26 : decode b_M_headOf 26 = .ok (.istore 7, 2) := by decide +kernel
theorem d_M_headOf_28 : decode b_M_headOf 28 = .ok (.iload 7, 2) := by decide +kernel
theorem d_M_headOf_30 : decode b_M_headOf 30 = .ok (.iload 6, 2) := by decide +kernel
theorem d_M_headOf_32 : decode b_M_headOf 32 = .ok (.if_icmp .ge 26, 3) := by decide +kernel
theorem d_M_headOf_35 : decode b_M_headOf 35 = .ok (.aload_n 0, 1) := by decide +kernel
theorem d_M_headOf_36 : decode b_M_headOf 36 = .ok (.getfield 92, 3) := by decide +kernel
theorem d_M_headOf_39 : decode b_M_headOf 39 = .ok (.iload 7, 2) := by decide +kernel
theorem d_M_headOf_41 : decode b_M_headOf 41 = .ok (.aload_n 0, 1) := by decide +kernel
theorem d_M_headOf_42 : decode b_M_headOf 42 = .ok (.iload_n 1, 1) := by decide +kernel
theorem d_M_headOf_43 : decode b_M_headOf 43 = .ok (.iload 5, 2) := by decide +kernel
theorem d_M_headOf_45 : decode b_M_headOf 45 = .ok (.iload 7, 2) := by decide +kernel
theorem d_M_headOf_47 : decode b_M_headOf 47 = .ok (.iadd, 1) := by decide +kernel
theorem d_M_headOf_48 : decode b_M_headOf 48 = .ok (.invokevirtual 207, 3) := by decide +kernel
theorem d_M_headOf_51 : decode b_M_headOf 51 = .ok (.lastore, 1) := by decide +kernel
theorem d_M_headOf_52 : decode b_M_headOf 52 = .ok (.iinc 7 1, 3) := by decide +kernel
theorem d_M_headOf_55 : decode b_M_headOf 55 = .ok (.goto (-27), 3) := by decide +kernel
theorem d_M_headOf_58 : decode b_M_headOf 58 = .ok (.iload 6, 2) := by decide +kernel
theorem d_M_headOf_60 : decode b_M_headOf 60 = .ok (.istore 7, 2) := by decide +kernel
theorem d_M_headOf_62 : decode b_M_headOf 62 = .ok (.iload 7, 2) := by decide +kernel
theorem d_M_headOf_64 : decode b_M_headOf 64 = .ok (.iconst 1, 1) := by decide +kernel
theorem d_M_headOf_65 : decode b_M_headOf 65 = .ok (.if_icmp .le 60, 3) := by decide +kernel
theorem d_M_headOf_68 : decode b_M_headOf 68 = .ok (.iconst 0, 1) := by decide +kernel
theorem d_M_headOf_69 : decode b_M_headOf 69 = .ok (.istore 8, 2) := by decide +kernel
theorem d_M_headOf_71 : decode b_M_headOf 71 = .ok (.iload 8, 2) := by decide +kernel
theorem d_M_headOf_73 : decode b_M_headOf 73 = .ok (.iload 7, 2) := by decide +kernel
theorem d_M_headOf_75 : decode b_M_headOf 75 = .ok (.iconst 2, 1) := by decide +kernel
theorem d_M_headOf_76 : decode b_M_headOf 76 = .ok (.idiv, 1) := by decide +kernel
theorem d_M_headOf_77 : decode b_M_headOf 77 = .ok (.if_icmp .ge 39, 3) := by decide +kernel
theorem d_M_headOf_80 : decode b_M_headOf 80 = .ok (.aload_n 0, 1) := by decide +kernel
theorem d_M_headOf_81 : decode b_M_headOf 81 = .ok (.getfield 92, 3) := by decide +kernel
theorem d_M_headOf_84 : decode b_M_headOf 84 = .ok (.iload 8, 2) := by decide +kernel
theorem d_M_headOf_86 : decode b_M_headOf 86 = .ok (.aload_n 0, 1) := by decide +kernel
theorem d_M_headOf_87 : decode b_M_headOf 87 = .ok (.getfield 92, 3) := by decide +kernel
theorem d_M_headOf_90 : decode b_M_headOf 90 = .ok (.iconst 2, 1) := by decide +kernel
theorem d_M_headOf_91 : decode b_M_headOf 91 = .ok (.iload 8, 2) := by decide +kernel
theorem d_M_headOf_93 : decode b_M_headOf 93 = .ok (.imul, 1) := by decide +kernel
theorem d_M_headOf_94 : decode b_M_headOf 94 = .ok (.laload, 1) := by decide +kernel
theorem d_M_headOf_95 : decode b_M_headOf 95 = .ok (.aload_n 0, 1) := by decide +kernel
theorem d_M_headOf_96 : decode b_M_headOf 96 = .ok (.getfield 92, 3) := by decide +kernel
theorem d_M_headOf_99 : decode b_M_headOf 99 = .ok (.iconst 2, 1) := by decide +kernel
theorem d_M_headOf_100 : decode b_M_headOf 100 = .ok (.iload 8, 2) := by decide +kernel
theorem d_M_headOf_102 : decode b_M_headOf 102 = .ok (.imul, 1) := by decide +kernel
theorem d_M_headOf_103 : decode b_M_headOf 103 = .ok (.iconst 1, 1) := by decide +kernel
theorem d_M_headOf_104 : decode b_M_headOf 104 = .ok (.iadd, 1) := by decide +kernel
theorem d_M_headOf_105 : decode b_M_headOf 105 = .ok (.laload, 1) := by decide +kernel
theorem d_M_headOf_106 : decode b_M_headOf 106 = .ok (.invokestatic 211, 3) := by decide +kernel
theorem d_M_headOf_109 : decode b_M_headOf 109 = .ok (.lastore, 1) := by decide +kernel
theorem d_M_headOf_110 : decode b_M_headOf 110 = .ok (.iinc 8 1, 3) := by decide +kernel
theorem d_M_headOf_113 : decode b_M_headOf 113 = .ok (.goto (-42), 3) := by decide +kernel
theorem d_M_headOf_116 : decode b_M_headOf 116 = .ok (.iload 7, 2) := by decide +kernel
theorem d_M_headOf_118 : decode b_M_headOf 118 = .ok (.iconst 2, 1) := by decide +kernel
theorem d_M_headOf_119 : decode b_M_headOf 119 = .ok (.idiv, 1) := by decide +kernel
theorem d_M_headOf_120 : decode b_M_headOf 120 = .ok (.istore 7, 2) := by decide +kernel
theorem d_M_headOf_122 : decode b_M_headOf 122 = .ok (.goto (-60), 3) := by decide +kernel
theorem d_M_headOf_125 : decode b_M_headOf 125 = .ok (.aload_n 0, 1) := by decide +kernel
theorem d_M_headOf_126 : decode b_M_headOf 126 = .ok (.getfield 95, 3) := by decide +kernel
theorem d_M_headOf_129 : decode b_M_headOf 129 = .ok (.iload 4, 2) := by decide +kernel
theorem d_M_headOf_131 : decode b_M_headOf 131 = .ok (.aload_n 0, 1) := by decide +kernel
theorem d_M_headOf_132 : decode b_M_headOf 132 = .ok (.getfield 92, 3) := by decide +kernel
theorem d_M_headOf_135 : decode b_M_headOf 135 = .ok (.iconst 0, 1) := by decide +kernel
theorem d_M_headOf_136 : decode b_M_headOf 136 = .ok (.laload, 1) := by decide +kernel
theorem d_M_headOf_137 : decode b_M_headOf 137 = .ok (.lastore, 1) := by decide +kernel
theorem d_M_headOf_138 : decode b_M_headOf 138 = .ok (.iinc 4 1, 3) := by decide +kernel
theorem d_M_headOf_141 : decode b_M_headOf 141 = .ok (.iload 5, 2) := by decide +kernel
theorem d_M_headOf_143 : decode b_M_headOf 143 = .ok (.iload 6, 2) := by decide +kernel
theorem d_M_headOf_145 : decode b_M_headOf 145 = .ok (.iadd, 1) := by decide +kernel
theorem d_M_headOf_146 : decode b_M_headOf 146 = .ok (.istore 5, 2) := by decide +kernel
theorem d_M_headOf_148 : decode b_M_headOf 148 = .ok (.iload 6, 2) := by decide +kernel
theorem d_M_headOf_150 : decode b_M_headOf 150 = .ok (.iconst 2, 1) := by decide +kernel
theorem d_M_headOf_151 : decode b_M_headOf 151 = .ok (.idiv, 1) := by decide +kernel
theorem d_M_headOf_152 : decode b_M_headOf 152 = .ok (.istore 6, 2) := by decide +kernel
theorem d_M_headOf_154 : decode b_M_headOf 154 = .ok (.goto (-144), 3) := by decide +kernel
theorem d_M_headOf_157 : decode b_M_headOf 157 = .ok (.iload 4, 2) := by decide +kernel
theorem d_M_headOf_159 : decode b_M_headOf 159 = .ok (.ifCond .ne 5, 3) := by decide +kernel
theorem d_M_headOf_162 : decode b_M_headOf 162 = .ok (.lconst 0, 1) := by decide +kernel
theorem d_M_headOf_163 : decode b_M_headOf 163 = .ok (.lreturn, 1) := by decide +kernel
theorem d_M_headOf_164 : decode b_M_headOf 164 = .ok (.aload_n 0, 1) := by decide +kernel
theorem d_M_headOf_165 : decode b_M_headOf 165 = .ok (.getfield 95, 3) := by decide +kernel
theorem d_M_headOf_168 : decode b_M_headOf 168 = .ok (.iload 4, 2) := by decide +kernel
theorem d_M_headOf_170 : decode b_M_headOf 170 = .ok (.iconst 1, 1) := by decide +kernel
theorem d_M_headOf_171 : decode b_M_headOf 171 = .ok (.isub, 1) := by decide +kernel
theorem d_M_headOf_172 : decode b_M_headOf 172 = .ok (.laload, 1) := by decide +kernel
theorem d_M_headOf_173 : decode b_M_headOf 173 = .ok (.lstore 6, 2) := by decide +kernel
theorem d_M_headOf_175 : decode b_M_headOf 175 = .ok (.iload 4, 2) := by decide +kernel
theorem d_M_headOf_177 : decode b_M_headOf 177 = .ok (.iconst 2, 1) := by decide +kernel
theorem d_M_headOf_178 : decode b_M_headOf 178 = .ok (.isub, 1) := by decide +kernel
theorem d_M_headOf_179 : decode b_M_headOf 179 = .ok (.istore 8, 2) := by decide +kernel
theorem d_M_headOf_181 : decode b_M_headOf 181 = .ok (.iload 8, 2) := by decide +kernel
theorem d_M_headOf_183 : decode b_M_headOf 183 = .ok (.ifCond .lt 23, 3) := by decide +kernel
theorem d_M_headOf_186 : decode b_M_headOf 186 = .ok (.aload_n 0, 1) := by decide +kernel
theorem d_M_headOf_187 : decode b_M_headOf 187 = .ok (.getfield 95, 3) := by decide +kernel
theorem d_M_headOf_190 : decode b_M_headOf 190 = .ok (.iload 8, 2) := by decide +kernel
theorem d_M_headOf_192 : decode b_M_headOf 192 = .ok (.laload, 1) := by decide +kernel
theorem d_M_headOf_193 : decode b_M_headOf 193 = .ok (.lload 6, 2) := by decide +kernel
theorem d_M_headOf_195 : decode b_M_headOf 195 = .ok (.invokestatic 211, 3) := by decide +kernel
theorem d_M_headOf_198 : decode b_M_headOf 198 = .ok (.lstore 6, 2) := by decide +kernel
theorem d_M_headOf_200 : decode b_M_headOf 200 = .ok (.iinc 8 (-1), 3) := by decide +kernel
theorem d_M_headOf_203 : decode b_M_headOf 203 = .ok (.goto (-22), 3) := by decide +kernel
theorem d_M_headOf_206 : decode b_M_headOf 206 = .ok (.lload 6, 2) := by decide +kernel
theorem d_M_headOf_208 : decode b_M_headOf 208 = .ok (.lreturn, 1) := by decide +kernel

abbrev b_M_half : ByteArray := prog_9_method_33_code
def y_M_half : MethodName := ⟨"RegistryLogModel", "half", "(I)I"⟩
theorem d_M_half_0 : decode b_M_half 0 = .ok (.iconst 1, 1) := by decide +kernel
theorem d_M_half_1 : decode b_M_half 1 = .ok (.istore_n 1, 1) := by decide +kernel
theorem d_M_half_2 : decode b_M_half 2 = .ok (.iconst 2, 1) := by decide +kernel
theorem d_M_half_3 : decode b_M_half 3 = .ok (.iload_n 1, 1) := by decide +kernel
theorem d_M_half_4 : decode b_M_half 4 = .ok (.imul, 1) := by decide +kernel
theorem d_M_half_5 : decode b_M_half 5 = .ok (.iload_n 0, 1) := by decide +kernel
theorem d_M_half_6 : decode b_M_half 6 = .ok (.if_icmp .ge 10, 3) := by decide +kernel
theorem d_M_half_9 : decode b_M_half 9 = .ok (.iload_n 1, 1) := by decide +kernel
theorem d_M_half_10 : decode b_M_half 10 = .ok (.iconst 2, 1) := by decide +kernel
theorem d_M_half_11 : decode b_M_half 11 = .ok (.imul, 1) := by decide +kernel
theorem d_M_half_12 : decode b_M_half 12 = .ok (.istore_n 1, 1) := by decide +kernel
theorem d_M_half_13 : decode b_M_half 13 = .ok (.goto (-11), 3) := by decide +kernel
theorem d_M_half_16 : decode b_M_half 16 = .ok (.iload_n 1, 1) := by decide +kernel
theorem d_M_half_17 : decode b_M_half 17 = .ok (.ireturn, 1) := by decide +kernel

abbrev b_M_digest : ByteArray := prog_9_method_34_code
def y_M_digest : MethodName := ⟨"RegistryLogModel", "digest", "(I)J"⟩
theorem d_M_digest_0 : decode b_M_digest 0 = .ok (.aload_n 0, 1) := by decide +kernel
theorem d_M_digest_1 : decode b_M_digest 1 = .ok (.iconst 0, 1) := by decide +kernel
theorem d_M_digest_2 : decode b_M_digest 2 = .ok (.putfield 108, 3) := by decide +kernel
theorem d_M_digest_5 : decode b_M_digest 5 = .ok (.aload_n 0, 1) := by decide +kernel
theorem d_M_digest_6 : decode b_M_digest 6 = .ok (.iload_n 1, 1) := by decide +kernel
theorem d_M_digest_7 : decode b_M_digest 7 = .ok (.invokevirtual 196, 3) := by decide +kernel
theorem d_M_digest_10 : decode b_M_digest 10 = .ok (.ifCond .eq 12, 3) := by decide +kernel
theorem d_M_digest_13 : decode b_M_digest 13 = .ok (.aload_n 0, 1) := by decide +kernel
theorem d_M_digest_14 : decode b_M_digest 14 = .ok (.iconst 4, 1) := by decide +kernel
theorem d_M_digest_15 : decode b_M_digest 15 = .ok (.iload_n 1, 1) := by decide +kernel
theorem d_M_digest_16 : decode b_M_digest 16 = .ok (.invokevirtual 207, 3) := by decide +kernel
theorem d_M_digest_19 : decode b_M_digest 19 = .ok (.goto 4, 3) := by decide +kernel
theorem d_M_digest_22 : decode b_M_digest 22 = .ok (.lconst 0, 1) := by decide +kernel
theorem d_M_digest_23 : decode b_M_digest 23 = .ok (.lreturn, 1) := by decide +kernel

abbrev b_M_head : ByteArray := prog_9_method_35_code
def y_M_head : MethodName := ⟨"RegistryLogModel", "head", "(I)J"⟩
theorem d_M_head_0 : decode b_M_head 0 = .ok (.aload_n 0, 1) := by decide +kernel
theorem d_M_head_1 : decode b_M_head 1 = .ok (.iconst 0, 1) := by decide +kernel
theorem d_M_head_2 : decode b_M_head 2 = .ok (.putfield 108, 3) := by decide +kernel
theorem d_M_head_5 : decode b_M_head 5 = .ok (.iload_n 1, 1) := by decide +kernel
theorem d_M_head_6 : decode b_M_head 6 = .ok (.ifCond .lt 13, 3) := by decide +kernel
theorem d_M_head_9 : decode b_M_head 9 = .ok (.iload_n 1, 1) := by decide +kernel
theorem d_M_head_10 : decode b_M_head 10 = .ok (.aload_n 0, 1) := by decide +kernel
theorem d_M_head_11 : decode b_M_head 11 = .ok (.getfield 40, 3) := by decide +kernel
theorem d_M_head_14 : decode b_M_head 14 = .ok (.iconst 4, 1) := by decide +kernel
theorem d_M_head_15 : decode b_M_head 15 = .ok (.iaload, 1) := by decide +kernel
theorem d_M_head_16 : decode b_M_head 16 = .ok (.if_icmp .le 7, 3) := by decide +kernel
theorem d_M_head_19 : decode b_M_head 19 = .ok (.lconst 0, 1) := by decide +kernel
theorem d_M_head_20 : decode b_M_head 20 = .ok (.goto 10, 3) := by decide +kernel
theorem d_M_head_23 : decode b_M_head 23 = .ok (.aload_n 0, 1) := by decide +kernel
theorem d_M_head_24 : decode b_M_head 24 = .ok (.iconst 4, 1) := by decide +kernel
theorem d_M_head_25 : decode b_M_head 25 = .ok (.iconst 0, 1) := by decide +kernel
theorem d_M_head_26 : decode b_M_head 26 = .ok (.iload_n 1, 1) := by decide +kernel
theorem d_M_head_27 : decode b_M_head 27 = .ok (.invokevirtual 214, 3) := by decide +kernel
theorem d_M_head_30 : decode b_M_head 30 = .ok (.lreturn, 1) := by decide +kernel

abbrev b_M_goDown : ByteArray := prog_9_method_36_code
def y_M_goDown : MethodName := ⟨"RegistryLogModel", "goDown", "(IIZ)V"⟩
theorem d_M_goDown_0 : decode b_M_goDown 0 = .ok (.aload_n 0, 1) := by decide +kernel
theorem d_M_goDown_1 : decode b_M_goDown 1 = .ok (.iconst 0, 1) := by decide +kernel
theorem d_M_goDown_2 : decode b_M_goDown 2 = .ok (.putfield 218, 3) := by decide +kernel
theorem d_M_goDown_5 : decode b_M_goDown 5 = .ok (.aload_n 0, 1) := by decide +kernel
theorem d_M_goDown_6 : decode b_M_goDown 6 = .ok (.iconst 0, 1) := by decide +kernel
theorem d_M_goDown_7 : decode b_M_goDown 7 = .ok (.putfield 221, 3) := by decide +kernel
theorem d_M_goDown_10 : decode b_M_goDown 10 = .ok (.aload_n 0, 1) := by decide +kernel
theorem d_M_goDown_11 : decode b_M_goDown 11 = .ok (.iload_n 2, 1) := by decide +kernel
theorem d_M_goDown_12 : decode b_M_goDown 12 = .ok (.putfield 224, 3) := by decide +kernel
theorem d_M_goDown_15 : decode b_M_goDown 15 = .ok (.aload_n 0, 1) := by decide +kernel
theorem d_M_goDown_16 : decode b_M_goDown 16 = .ok (.iload_n 1, 1) := by decide +kernel
theorem d_M_goDown_17 : decode b_M_goDown 17 = .ok (.putfield 227, 3) := by decide +kernel
theorem d_M_goDown_20 : decode b_M_goDown 20 = .ok (.aload_n 0, 1) := by decide +kernel
theorem d_M_goDown_21 : decode b_M_goDown 21 = .ok (.iconst 1, 1) := by decide +kernel
theorem d_M_goDown_22 : decode b_M_goDown 22 = .ok (.putfield 230, 3) := by decide +kernel
theorem d_M_goDown_25 : decode b_M_goDown 25 = .ok (.iload_n 3, 1) := by decide +kernel
theorem d_M_goDown_26 : decode b_M_goDown 26 = .ok (.ifCond .eq 17, 3) := by decide +kernel
theorem d_M_goDown_29 : decode b_M_goDown 29 = .ok (.aload_n 0, 1) := by decide +kernel
theorem d_M_goDown_30 : decode b_M_goDown 30 = .ok (.getfield 227, 3) := by decide +kernel
theorem d_M_goDown_33 : decode b_M_goDown 33 = .ok (.aload_n 0, 1) := by decide +kernel
theorem d_M_goDown_34 : decode b_M_goDown 34 = .ok (.getfield 224, 3) := by decide +kernel
theorem d_M_goDown_37 : decode b_M_goDown 37 = .ok (.if_icmp .ge 220, 3) := by decide +kernel
theorem d_M_goDown_40 : decode b_M_goDown 40 = .ok (.goto 11, 3) := by decide +kernel
theorem d_M_goDown_43 : decode b_M_goDown 43 = .ok (.aload_n 0, 1) := by decide +kernel
theorem d_M_goDown_44 : decode b_M_goDown 44 = .ok (.getfield 224, 3) := by decide +kernel
theorem d_M_goDown_47 : decode b_M_goDown 47 = .ok (.iconst 1, 1) := by decide +kernel
theorem d_M_goDown_48 : decode b_M_goDown 48 = .ok (.if_icmp .le 209, 3) := by decide +kernel
theorem d_M_goDown_51 : decode b_M_goDown 51 = .ok (.aload_n 0, 1) := by decide +kernel
theorem d_M_goDown_52 : decode b_M_goDown 52 = .ok (.getfield 224, 3) := by decide +kernel
theorem d_M_goDown_55 : decode b_M_goDown 55 = .ok (.invokestatic 234, 3) := by decide +kernel
theorem d_M_goDown_58 : decode b_M_goDown 58 = .ok (.istore 4, 2) := by decide +kernel
theorem d_M_goDown_60 : decode b_M_goDown 60 = .ok (.iload_n 3, 1) := by decide +kernel
theorem d_M_goDown_61 : decode b_M_goDown 61 = .ok (.ifCond .eq 20, 3) := by decide +kernel
theorem d_M_goDown_64 : decode b_M_goDown 64 = .ok (.aload_n 0, 1) := by decide +kernel
theorem d_M_goDown_65 : decode b_M_goDown 65 = .ok (.getfield 227, 3) := by decide +kernel
theorem d_M_goDown_68 : decode b_M_goDown 68 = .ok (.iload 4, 2) := by decide +kernel
theorem d_M_goDown_70 : decode b_M_goDown 70 = .ok (.if_icmp .gt 7, 3) := by decide +kernel
theorem d_M_goDown_73 : decode b_M_goDown 73 = .ok (.iconst 1, 1) := by decide +kernel
theorem d_M_goDown_74 : decode b_M_goDown 74 = .ok (.goto 21, 3) := by decide +kernel
theorem d_M_goDown_77 : decode b_M_goDown 77 = .ok (.iconst 0, 1) := by decide +kernel
theorem d_M_goDown_78 : decode b_M_goDown 78 = .ok (.goto 17, 3) := by decide +kernel
theorem d_M_goDown_81 : decode b_M_goDown 81 = .ok (.aload_n 0, 1) := by decide +kernel
theorem d_M_goDown_82 : decode b_M_goDown 82 = .ok (.getfield 227, 3) := by decide +kernel
theorem d_M_goDown_85 : decode b_M_goDown 85 = .ok (.iload 4, 2) := by decide +kernel
theorem d_M_goDown_87 : decode b_M_goDown 87 = .ok (.if_icmp .ge 7, 3) := by decide +kernel
theorem d_M_goDown_90 : decode b_M_goDown 90 = .ok (.iconst 1, 1) := by decide +kernel
theorem d_M_goDown_91 : decode b_M_goDown 91 = .ok (.goto 4, 3) := by decide +kernel
theorem d_M_goDown_94 : decode b_M_goDown 94 = .ok (.iconst 0, 1) := by decide +kernel
theorem d_M_goDown_95 : decode b_M_goDown 95 = .ok (.istore 5, 2) := by decide +kernel
theorem d_M_goDown_97 : decode b_M_goDown 97 = .ok (.aload_n 0, 1) := by decide +kernel
theorem d_M_goDown_98 : decode b_M_goDown 98 = .ok (.getfield 98, 3) := by decide +kernel
theorem d_M_goDown_101 : decode b_M_goDown 101 = .ok (.aload_n 0, 1) := by decide +kernel
theorem d_M_goDown_102 : decode b_M_goDown 102 = .ok (.getfield 218, 3) := by decide +kernel
theorem d_M_goDown_105 : decode b_M_goDown 105 = .ok (.iload 5, 2) := by decide +kernel
theorem d_M_goDown_107 : decode b_M_goDown 107 = .ok (.ifCond .eq 13, 3) := by decide +kernel
theorem d_M_goDown_110 : decode b_M_goDown 110 = .ok (.aload_n 0, 1) := by decide +kernel
theorem d_M_goDown_111 : decode b_M_goDown 111 = .ok (.getfield 221, 3) := by decide +kernel
theorem d_M_goDown_114 : decode b_M_goDown 114 = .ok (.iload 4, 2) := by decide +kernel
theorem d_M_goDown_116 : decode b_M_goDown 116 = .ok (.iadd, 1) := by decide +kernel
theorem d_M_goDown_117 : decode b_M_goDown 117 = .ok (.goto 7, 3) := by decide +kernel
theorem d_M_goDown_120 : decode b_M_goDown 120 = .ok (.aload_n 0, 1) := by decide +kernel
theorem d_M_goDown_121 : decode b_M_goDown 121 = .ok (.getfield 221, 3) := by decide +kernel
theorem d_M_goDown_124 : decode b_M_goDown 124 = .ok (.iastore, 1) := by decide +kernel
theorem d_M_goDown_125 : decode b_M_goDown 125 = .ok (.aload_n 0, 1) := by decide +kernel
theorem d_M_goDown_126 : decode b_M_goDown 126 = .ok (.getfield 101, 3) := by decide +kernel
theorem d_M_goDown_129 : decode b_M_goDown 129 = .ok (.aload_n 0, 1) := by decide +kernel
theorem d_M_goDown_130 : decode b_M_goDown 130 = .ok (.getfield 218, 3) := by decide +kernel
theorem d_M_goDown_133 : decode b_M_goDown 133 = .ok (.iload 5, 2) := by decide +kernel
theorem d_M_goDown_135 : decode b_M_goDown 135 = .ok (.ifCond .eq 13, 3) := by decide +kernel
theorem d_M_goDown_138 : decode b_M_goDown 138 = .ok (.aload_n 0, 1) := by decide +kernel
theorem d_M_goDown_139 : decode b_M_goDown 139 = .ok (.getfield 224, 3) := by decide +kernel
theorem d_M_goDown_142 : decode b_M_goDown 142 = .ok (.iload 4, 2) := by decide +kernel
theorem d_M_goDown_144 : decode b_M_goDown 144 = .ok (.isub, 1) := by decide +kernel
theorem d_M_goDown_145 : decode b_M_goDown 145 = .ok (.goto 5, 3) := by decide +kernel
theorem d_M_goDown_148 : decode b_M_goDown 148 = .ok (.iload 4, 2) := by decide +kernel
theorem d_M_goDown_150 : decode b_M_goDown 150 = .ok (.iastore, 1) := by decide +kernel
theorem d_M_goDown_151 : decode b_M_goDown 151 = .ok (.aload_n 0, 1) := by decide +kernel
theorem d_M_goDown_152 : decode b_M_goDown 152 = .ok (.getfield 104, 3) := by decide +kernel
theorem d_M_goDown_155 : decode b_M_goDown 155 = .ok (.aload_n 0, 1) := by decide +kernel
theorem d_M_goDown_156 : decode b_M_goDown 156 = .ok (.getfield 218, 3) := by decide +kernel
theorem d_M_goDown_159 : decode b_M_goDown 159 = .ok (.iload 5, 2) := by decide +kernel
theorem d_M_goDown_161 : decode b_M_goDown 161 = .ok (.bastore, 1) := by decide +kernel
theorem d_M_goDown_162 : decode b_M_goDown 162 = .ok (.aload_n 0, 1) := by decide +kernel
theorem d_M_goDown_163 : decode b_M_goDown 163 = .ok (.dup, 1) := by decide +kernel
theorem d_M_goDown_164 : decode b_M_goDown 164 = .ok (.getfield 218, 3) := by decide +kernel
theorem d_M_goDown_167 : decode b_M_goDown 167 = .ok (.iconst 1, 1) := by decide +kernel
theorem d_M_goDown_168 : decode b_M_goDown 168 = .ok (.iadd, 1) := by decide +kernel
theorem d_M_goDown_169 : decode b_M_goDown 169 = .ok (.putfield 218, 3) := by decide +kernel
theorem d_M_goDown_172 : decode b_M_goDown 172 = .ok (.aload_n 0, 1) := by decide +kernel
theorem d_M_goDown_173 : decode b_M_goDown 173 = .ok (.dup, 1) := by decide +kernel
theorem d_M_goDown_174 : decode b_M_goDown 174 = .ok (.getfield 227, 3) := by decide +kernel
theorem d_M_goDown_177 : decode b_M_goDown 177 = .ok (.iload 5, 2) := by decide +kernel
theorem d_M_goDown_179 : decode b_M_goDown 179 = .ok (.ifCond .eq 7, 3) := by decide +kernel
theorem d_M_goDown_182 : decode b_M_goDown 182 = .ok (.iconst 0, 1) := by decide +kernel
theorem d_M_goDown_183 : decode b_M_goDown 183 = .ok (.goto 5, 3) := by decide +kernel
theorem d_M_goDown_186 : decode b_M_goDown 186 = .ok (.iload 4, 2) := by decide +kernel
theorem d_M_goDown_188 : decode b_M_goDown 188 = .ok (.isub, 1) := by decide +kernel
theorem d_M_goDown_189 : decode b_M_goDown 189 = .ok (.putfield 227, 3) := by decide +kernel
theorem d_M_goDown_192 : decode b_M_goDown 192 = .ok (.aload_n 0, 1) := by decide +kernel
theorem d_M_goDown_193 : decode b_M_goDown 193 = .ok (.dup, 1) := by decide +kernel
theorem d_M_goDown_194 : decode b_M_goDown 194 = .ok (.getfield 221, 3) := by decide +kernel
theorem d_M_goDown_197 : decode b_M_goDown 197 = .ok (.iload 5, 2) := by decide +kernel
theorem d_M_goDown_199 : decode b_M_goDown 199 = .ok (.ifCond .eq 7, 3) := by decide +kernel
theorem d_M_goDown_202 : decode b_M_goDown 202 = .ok (.iconst 0, 1) := by decide +kernel
theorem d_M_goDown_203 : decode b_M_goDown 203 = .ok (.goto 5, 3) := by decide +kernel
theorem d_M_goDown_206 : decode b_M_goDown 206 = .ok (.iload 4, 2) := by decide +kernel
theorem d_M_goDown_208 : decode b_M_goDown 208 = .ok (.iadd, 1) := by decide +kernel
theorem d_M_goDown_209 : decode b_M_goDown 209 = .ok (.putfield 221, 3) := by decide +kernel
theorem d_M_goDown_212 : decode b_M_goDown 212 = .ok (.aload_n 0, 1) := by decide +kernel
theorem d_M_goDown_213 : decode b_M_goDown 213 = .ok (.iload 5, 2) := by decide +kernel
theorem d_M_goDown_215 : decode b_M_goDown 215 = .ok (.ifCond .eq 8, 3) := by decide +kernel
theorem d_M_goDown_218 : decode b_M_goDown 218 = .ok (.iload 4, 2) := by decide +kernel
theorem d_M_goDown_220 : decode b_M_goDown 220 = .ok (.goto 10, 3) := by decide +kernel
theorem d_M_goDown_223 : decode b_M_goDown 223 = .ok (.aload_n 0, 1) := by decide +kernel
theorem d_M_goDown_224 : decode b_M_goDown 224 = .ok (.getfield 224, 3) := by decide +kernel
theorem d_M_goDown_227 : decode b_M_goDown 227 = .ok (.iload 4, 2) := by decide +kernel
theorem d_M_goDown_229 : decode b_M_goDown 229 = .ok (.isub, 1) := by decide +kernel
theorem d_M_goDown_230 : decode b_M_goDown 230 = .ok (.putfield 224, 3) := by decide +kernel
theorem d_M_goDown_233 : decode b_M_goDown 233 = .ok (.aload_n 0, 1) := by decide +kernel
theorem d_M_goDown_234 : decode b_M_goDown 234 = .ok (.aload_n 0, 1) := by decide +kernel
theorem d_M_goDown_235 : decode b_M_goDown 235 = .ok (.getfield 230, 3) := by decide +kernel
theorem d_M_goDown_238 : decode b_M_goDown 238 = .ok (.ifCond .eq 12, 3) := by decide +kernel
theorem d_M_goDown_241 : decode b_M_goDown 241 = .ok (.iload 5, 2) := by decide +kernel
theorem d_M_goDown_243 : decode b_M_goDown 243 = .ok (.ifCond .eq 7, 3) := by decide +kernel
theorem d_M_goDown_246 : decode b_M_goDown 246 = .ok (.iconst 1, 1) := by decide +kernel
theorem d_M_goDown_247 : decode b_M_goDown 247 = .ok (.goto 4, 3) := by decide +kernel
theorem d_M_goDown_250 : decode b_M_goDown 250 = .ok (.iconst 0, 1) := by decide +kernel
theorem d_M_goDown_251 : decode b_M_goDown 251 = .ok (.putfield 230, 3) := by decide +kernel
theorem d_M_goDown_254 : decode b_M_goDown 254 = .ok (.goto (-229), 3) := by decide +kernel
theorem d_M_goDown_257 : decode b_M_goDown 257 = .ok (.return_, 1) := by decide +kernel

abbrev b_M_prove : ByteArray := prog_9_method_37_code
def y_M_prove : MethodName := ⟨"RegistryLogModel", "prove", "(J)V"⟩
theorem d_M_prove_0 : decode b_M_prove 0 = .ok (.aload_n 0, 1) := by decide +kernel
theorem d_M_prove_1 : decode b_M_prove 1 = .ok (.getfield 43, 3) := by decide +kernel
theorem d_M_prove_4 : decode b_M_prove 4 = .ok (.aload_n 0, 1) := by decide +kernel
theorem d_M_prove_5 : decode b_M_prove 5 = .ok (.getfield 238, 3) := by decide +kernel
theorem d_M_prove_8 : decode b_M_prove 8 = .ok (.lload_n 1, 1) := by decide +kernel
theorem d_M_prove_9 : decode b_M_prove 9 = .ok (.lastore, 1) := by decide +kernel
theorem d_M_prove_10 : decode b_M_prove 10 = .ok (.aload_n 0, 1) := by decide +kernel
theorem d_M_prove_11 : decode b_M_prove 11 = .ok (.dup, 1) := by decide +kernel
theorem d_M_prove_12 : decode b_M_prove 12 = .ok (.getfield 238, 3) := by decide +kernel
theorem d_M_prove_15 : decode b_M_prove 15 = .ok (.iconst 1, 1) := by decide +kernel
theorem d_M_prove_16 : decode b_M_prove 16 = .ok (.iadd, 1) := by decide +kernel
theorem d_M_prove_17 : decode b_M_prove 17 = .ok (.putfield 238, 3) := by decide +kernel
theorem d_M_prove_20 : decode b_M_prove 20 = .ok (.return_, 1) := by decide +kernel

abbrev b_M_inside : ByteArray := prog_9_method_38_code
def y_M_inside : MethodName := ⟨"RegistryLogModel", "inside", "(II)I"⟩
theorem d_M_inside_0 : decode b_M_inside 0 = .ok (.aload_n 0, 1) := by decide +kernel
theorem d_M_inside_1 : decode b_M_inside 1 = .ok (.iconst 0, 1) := by decide +kernel
theorem d_M_inside_2 : decode b_M_inside 2 = .ok (.putfield 108, 3) := by decide +kernel
theorem d_M_inside_5 : decode b_M_inside 5 = .ok (.aload_n 0, 1) := by decide +kernel
theorem d_M_inside_6 : decode b_M_inside 6 = .ok (.iconst 0, 1) := by decide +kernel
theorem d_M_inside_7 : decode b_M_inside 7 = .ok (.putfield 238, 3) := by decide +kernel
theorem d_M_inside_10 : decode b_M_inside 10 = .ok (.iload_n 2, 1) := by decide +kernel
theorem d_M_inside_11 : decode b_M_inside 11 = .ok (.aload_n 0, 1) := by decide +kernel
theorem d_M_inside_12 : decode b_M_inside 12 = .ok (.getfield 40, 3) := by decide +kernel
theorem d_M_inside_15 : decode b_M_inside 15 = .ok (.iconst 4, 1) := by decide +kernel
theorem d_M_inside_16 : decode b_M_inside 16 = .ok (.iaload, 1) := by decide +kernel
theorem d_M_inside_17 : decode b_M_inside 17 = .ok (.if_icmp .gt 12, 3) := by decide +kernel
theorem d_M_inside_20 : decode b_M_inside 20 = .ok (.iload_n 1, 1) := by decide +kernel
theorem d_M_inside_21 : decode b_M_inside 21 = .ok (.ifCond .lt 8, 3) := by decide +kernel
theorem d_M_inside_24 : decode b_M_inside 24 = .ok (.iload_n 1, 1) := by decide +kernel
theorem d_M_inside_25 : decode b_M_inside 25 = .ok (.iload_n 2, 1) := by decide +kernel
theorem d_M_inside_26 : decode b_M_inside 26 = .ok (.if_icmp .lt 5, 3) := by decide +kernel
theorem d_M_inside_29 : decode b_M_inside 29 = .ok (.iconst (-1), 1) := by decide +kernel
theorem d_M_inside_30 : decode b_M_inside 30 = .ok (.ireturn, 1) := by decide +kernel
theorem d_M_inside_31 : decode b_M_inside 31 = .ok (.aload_n 0, 1) := by decide +kernel
theorem d_M_inside_32 : decode b_M_inside 32 = .ok (.iload_n 1, 1) := by decide +kernel
theorem d_M_inside_33 : decode b_M_inside 33 = .ok (.iload_n 2, 1) := by decide +kernel
theorem d_M_inside_34 : decode b_M_inside 34 = .ok (.iconst 0, 1) := by decide +kernel
theorem d_M_inside_35 : decode b_M_inside 35 = .ok (.invokevirtual 241, 3) := by decide +kernel
theorem d_M_inside_38 : decode b_M_inside 38 = .ok (.aload_n 0, 1) := by decide +kernel
theorem d_M_inside_39 : decode b_M_inside 39 = .ok (.getfield 218, 3) := by decide +kernel
theorem d_M_inside_42 : decode b_M_inside 42 = .ok (.iconst 1, 1) := by decide +kernel
theorem d_M_inside_43 : decode b_M_inside 43 = .ok (.isub, 1) := by decide +kernel
theorem d_M_inside_44 : decode b_M_inside 44 = .ok (.istore_n 3, 1) := by decide +kernel
theorem d_M_inside_45 : decode b_M_inside 45 = .ok (.iload_n 3, 1) := by decide +kernel
theorem d_M_inside_46 : decode b_M_inside 46 = .ok (.ifCond .lt 30, 3) := by decide +kernel
theorem d_M_inside_49 : decode b_M_inside 49 = .ok (.aload_n 0, 1) := by decide +kernel
theorem d_M_inside_50 : decode b_M_inside 50 = .ok (.aload_n 0, 1) := by decide +kernel
theorem d_M_inside_51 : decode b_M_inside 51 = .ok (.iconst 4, 1) := by decide +kernel
theorem d_M_inside_52 : decode b_M_inside 52 = .ok (.aload_n 0, 1) := by decide +kernel
theorem d_M_inside_53 : decode b_M_inside 53 = .ok (.getfield 98, 3) := by decide +kernel
theorem d_M_inside_56 : decode b_M_inside 56 = .ok (.iload_n 3, 1) := by decide +kernel
theorem d_M_inside_57 : decode b_M_inside 57 = .ok (.iaload, 1) := by decide +kernel
theorem d_M_inside_58 : decode b_M_inside 58 = .ok (.aload_n 0, 1) := by decide +kernel
theorem d_M_inside_59 : decode b_M_inside 59 = .ok (.getfield 101, 3) := by decide +kernel
theorem d_M_inside_62 : decode b_M_inside 62 = .ok (.iload_n 3, 1) := by decide +kernel
theorem d_M_inside_63 : decode b_M_inside 63 = .ok (.iaload, 1) := by decide +kernel
theorem d_M_inside_64 : decode b_M_inside 64 = .ok (.invokevirtual 214, 3) := by decide +kernel
theorem d_M_inside_67 : decode b_M_inside 67 = .ok (.invokevirtual 245, 3) := by decide +kernel
theorem d_M_inside_70 : decode b_M_inside 70 = .ok (.iinc 3 (-1), 3) := by decide +kernel
theorem d_M_inside_73 : decode b_M_inside 73 = .ok (.goto (-28), 3) := by decide +kernel
theorem d_M_inside_76 : decode b_M_inside 76 = .ok (.aload_n 0, 1) := by decide +kernel
theorem d_M_inside_77 : decode b_M_inside 77 = .ok (.getfield 238, 3) := by decide +kernel
theorem d_M_inside_80 : decode b_M_inside 80 = .ok (.ireturn, 1) := by decide +kernel

abbrev b_M_growth : ByteArray := prog_9_method_39_code
def y_M_growth : MethodName := ⟨"RegistryLogModel", "growth", "(II)I"⟩
theorem d_M_growth_0 : decode b_M_growth 0 = .ok (.aload_n 0, 1) := by decide +kernel
theorem d_M_growth_1 : decode b_M_growth 1 = .ok (.iconst 0, 1) := by decide +kernel
theorem d_M_growth_2 : decode b_M_growth 2 = .ok (.putfield 108, 3) := by decide +kernel
theorem d_M_growth_5 : decode b_M_growth 5 = .ok (.aload_n 0, 1) := by decide +kernel
theorem d_M_growth_6 : decode b_M_growth 6 = .ok (.iconst 0, 1) := by decide +kernel
theorem d_M_growth_7 : decode b_M_growth 7 = .ok (.putfield 238, 3) := by decide +kernel
theorem d_M_growth_10 : decode b_M_growth 10 = .ok (.iload_n 2, 1) := by decide +kernel
theorem d_M_growth_11 : decode b_M_growth 11 = .ok (.aload_n 0, 1) := by decide +kernel
theorem d_M_growth_12 : decode b_M_growth 12 = .ok (.getfield 40, 3) := by decide +kernel
theorem d_M_growth_15 : decode b_M_growth 15 = .ok (.iconst 4, 1) := by decide +kernel
theorem d_M_growth_16 : decode b_M_growth 16 = .ok (.iaload, 1) := by decide +kernel
theorem d_M_growth_17 : decode b_M_growth 17 = .ok (.if_icmp .gt 13, 3) := by decide +kernel
theorem d_M_growth_20 : decode b_M_growth 20 = .ok (.iload_n 1, 1) := by decide +kernel
theorem d_M_growth_21 : decode b_M_growth 21 = .ok (.iconst 1, 1) := by decide +kernel
theorem d_M_growth_22 : decode b_M_growth 22 = .ok (.if_icmp .lt 8, 3) := by decide +kernel
theorem d_M_growth_25 : decode b_M_growth 25 = .ok (.iload_n 1, 1) := by decide +kernel
theorem d_M_growth_26 : decode b_M_growth 26 = .ok (.iload_n 2, 1) := by decide +kernel
theorem d_M_growth_27 : decode b_M_growth 27 = .ok (.if_icmp .le 5, 3) := by decide +kernel
theorem d_M_growth_30 : decode b_M_growth 30 = .ok (.iconst (-1), 1) := by decide +kernel
theorem d_M_growth_31 : decode b_M_growth 31 = .ok (.ireturn, 1) := by decide +kernel
theorem d_M_growth_32 : decode b_M_growth 32 = .ok (.aload_n 0, 1) := by decide +kernel
theorem d_M_growth_33 : decode b_M_growth 33 = .ok (.iload_n 1, 1) := by decide +kernel
theorem d_M_growth_34 : decode b_M_growth 34 = .ok (.iload_n 2, 1) := by decide +kernel
theorem d_M_growth_35 : decode b_M_growth 35 = .ok (.iconst 1, 1) := by decide +kernel
theorem d_M_growth_36 : decode b_M_growth 36 = .ok (.invokevirtual 241, 3) := by decide +kernel
theorem d_M_growth_39 : decode b_M_growth 39 = .ok (.aload_n 0, 1) := by decide +kernel
theorem d_M_growth_40 : decode b_M_growth 40 = .ok (.getfield 230, 3) := by decide +kernel
theorem d_M_growth_43 : decode b_M_growth 43 = .ok (.ifCond .ne 20, 3) := by decide +kernel
theorem d_M_growth_46 : decode b_M_growth 46 = .ok (.aload_n 0, 1) := by decide +kernel
theorem d_M_growth_47 : decode b_M_growth 47 = .ok (.aload_n 0, 1) := by decide +kernel
theorem d_M_growth_48 : decode b_M_growth 48 = .ok (.iconst 4, 1) := by decide +kernel
theorem d_M_growth_49 : decode b_M_growth 49 = .ok (.aload_n 0, 1) := by decide +kernel
theorem d_M_growth_50 : decode b_M_growth 50 = .ok (.getfield 221, 3) := by decide +kernel
theorem d_M_growth_53 : decode b_M_growth 53 = .ok (.aload_n 0, 1) := by decide +kernel
theorem d_M_growth_54 : decode b_M_growth 54 = .ok (.getfield 224, 3) := by decide +kernel
theorem d_M_growth_57 : decode b_M_growth 57 = .ok (.invokevirtual 214, 3) := by decide +kernel
theorem d_M_growth_60 : decode b_M_growth 60 = .ok (.invokevirtual 245, 3) := by decide +kernel
theorem d_M_growth_63 : decode b_M_growth 63 = .ok (.aload_n 0, 1) := by decide +kernel
theorem d_M_growth_64 : decode b_M_growth 64 = .ok (.getfield 218, 3) := by decide +kernel
theorem d_M_growth_67 : decode b_M_growth 67 = .ok (.iconst 1, 1) := by decide +kernel
theorem d_M_growth_68 : decode b_M_growth 68 = .ok (.isub, 1) := by decide +kernel
theorem d_M_growth_69 : decode b_M_growth 69 = .ok (.istore_n 3, 1) := by decide +kernel
theorem d_M_growth_70 : decode b_M_growth 70 = .ok (.iload_n 3, 1) := by decide +kernel
theorem d_M_growth_71 : decode b_M_growth 71 = .ok (.ifCond .lt 30, 3) := by decide +kernel
theorem d_M_growth_74 : decode b_M_growth 74 = .ok (.aload_n 0, 1) := by decide +kernel
theorem d_M_growth_75 : decode b_M_growth 75 = .ok (.aload_n 0, 1) := by decide +kernel
theorem d_M_growth_76 : decode b_M_growth 76 = .ok (.iconst 4, 1) := by decide +kernel
theorem d_M_growth_77 : decode b_M_growth 77 = .ok (.aload_n 0, 1) := by decide +kernel
theorem d_M_growth_78 : decode b_M_growth 78 = .ok (.getfield 98, 3) := by decide +kernel
theorem d_M_growth_81 : decode b_M_growth 81 = .ok (.iload_n 3, 1) := by decide +kernel
theorem d_M_growth_82 : decode b_M_growth 82 = .ok (.iaload, 1) := by decide +kernel
theorem d_M_growth_83 : decode b_M_growth 83 = .ok (.aload_n 0, 1) := by decide +kernel
theorem d_M_growth_84 : decode b_M_growth 84 = .ok (.getfield 101, 3) := by decide +kernel
theorem d_M_growth_87 : decode b_M_growth 87 = .ok (.iload_n 3, 1) := by decide +kernel
theorem d_M_growth_88 : decode b_M_growth 88 = .ok (.iaload, 1) := by decide +kernel
theorem d_M_growth_89 : decode b_M_growth 89 = .ok (.invokevirtual 214, 3) := by decide +kernel
theorem d_M_growth_92 : decode b_M_growth 92 = .ok (.invokevirtual 245, 3) := by decide +kernel
theorem d_M_growth_95 : decode b_M_growth 95 = .ok (.iinc 3 (-1), 3) := by decide +kernel
theorem d_M_growth_98 : decode b_M_growth 98 = .ok (.goto (-28), 3) := by decide +kernel
theorem d_M_growth_101 : decode b_M_growth 101 = .ok (.aload_n 0, 1) := by decide +kernel
theorem d_M_growth_102 : decode b_M_growth 102 = .ok (.getfield 238, 3) := by decide +kernel
theorem d_M_growth_105 : decode b_M_growth 105 = .ok (.ireturn, 1) := by decide +kernel

abbrev b_M_proof : ByteArray := prog_9_method_40_code
def y_M_proof : MethodName := ⟨"RegistryLogModel", "proof", "(I)J"⟩
theorem d_M_proof_0 : decode b_M_proof 0 = .ok (.aload_n 0, 1) := by decide +kernel
theorem d_M_proof_1 : decode b_M_proof 1 = .ok (.iconst 0, 1) := by decide +kernel
theorem d_M_proof_2 : decode b_M_proof 2 = .ok (.putfield 108, 3) := by decide +kernel
theorem d_M_proof_5 : decode b_M_proof 5 = .ok (.iload_n 1, 1) := by decide +kernel
theorem d_M_proof_6 : decode b_M_proof 6 = .ok (.ifCond .lt 11, 3) := by decide +kernel
theorem d_M_proof_9 : decode b_M_proof 9 = .ok (.iload_n 1, 1) := by decide +kernel
theorem d_M_proof_10 : decode b_M_proof 10 = .ok (.aload_n 0, 1) := by decide +kernel
theorem d_M_proof_11 : decode b_M_proof 11 = .ok (.getfield 238, 3) := by decide +kernel
theorem d_M_proof_14 : decode b_M_proof 14 = .ok (.if_icmp .lt 7, 3) := by decide +kernel
theorem d_M_proof_17 : decode b_M_proof 17 = .ok (.lconst 0, 1) := by decide +kernel
theorem d_M_proof_18 : decode b_M_proof 18 = .ok (.goto 9, 3) := by decide +kernel
theorem d_M_proof_21 : decode b_M_proof 21 = .ok (.aload_n 0, 1) := by decide +kernel
theorem d_M_proof_22 : decode b_M_proof 22 = .ok (.getfield 43, 3) := by decide +kernel
theorem d_M_proof_25 : decode b_M_proof 25 = .ok (.iload_n 1, 1) := by decide +kernel
theorem d_M_proof_26 : decode b_M_proof 26 = .ok (.laload, 1) := by decide +kernel
theorem d_M_proof_27 : decode b_M_proof 27 = .ok (.lreturn, 1) := by decide +kernel

abbrev b_M_take : ByteArray := prog_9_method_41_code
def y_M_take : MethodName := ⟨"RegistryLogModel", "take", "(J)Z"⟩
theorem d_M_take_0 : decode b_M_take 0 = .ok (.aload_n 0, 1) := by decide +kernel
theorem d_M_take_1 : decode b_M_take 1 = .ok (.iconst 0, 1) := by decide +kernel
theorem d_M_take_2 : decode b_M_take 2 = .ok (.putfield 108, 3) := by decide +kernel
theorem d_M_take_5 : decode b_M_take 5 = .ok (.aload_n 0, 1) := by decide +kernel
theorem d_M_take_6 : decode b_M_take 6 = .ok (.getfield 249, 3) := by decide +kernel
theorem d_M_take_9 : decode b_M_take 9 = .ok (.bipush 16, 2) := by decide +kernel
theorem d_M_take_11 : decode b_M_take 11 = .ok (.if_icmp .ne 5, 3) := by decide +kernel
theorem d_M_take_14 : decode b_M_take 14 = .ok (.iconst 0, 1) := by decide +kernel
theorem d_M_take_15 : decode b_M_take 15 = .ok (.ireturn, 1) := by decide +kernel
theorem d_M_take_16 : decode b_M_take 16 = .ok (.aload_n 0, 1) := by decide +kernel
theorem d_M_take_17 : decode b_M_take 17 = .ok (.getfield 47, 3) := by decide +kernel
theorem d_M_take_20 : decode b_M_take 20 = .ok (.aload_n 0, 1) := by decide +kernel
theorem d_M_take_21 : decode b_M_take 21 = .ok (.getfield 249, 3) := by decide +kernel
theorem d_M_take_24 : decode b_M_take 24 = .ok (.lload_n 1, 1) := by decide +kernel
theorem d_M_take_25 : decode b_M_take 25 = .ok (.lastore, 1) := by decide +kernel
theorem d_M_take_26 : decode b_M_take 26 = .ok (.aload_n 0, 1) := by decide +kernel
theorem d_M_take_27 : decode b_M_take 27 = .ok (.dup, 1) := by decide +kernel
theorem d_M_take_28 : decode b_M_take 28 = .ok (.getfield 249, 3) := by decide +kernel
theorem d_M_take_31 : decode b_M_take 31 = .ok (.iconst 1, 1) := by decide +kernel
theorem d_M_take_32 : decode b_M_take 32 = .ok (.iadd, 1) := by decide +kernel
theorem d_M_take_33 : decode b_M_take 33 = .ok (.putfield 249, 3) := by decide +kernel
theorem d_M_take_36 : decode b_M_take 36 = .ok (.iconst 1, 1) := by decide +kernel
theorem d_M_take_37 : decode b_M_take 37 = .ok (.ireturn, 1) := by decide +kernel

abbrev b_M_isInside : ByteArray := prog_9_method_42_code
def y_M_isInside : MethodName := ⟨"RegistryLogModel", "isInside", "(IIJJ)Z"⟩
theorem d_M_isInside_0 : decode b_M_isInside 0 = .ok (.aload_n 0, 1) := by decide +kernel
theorem d_M_isInside_1 : decode b_M_isInside 1 = .ok (.iconst 0, 1) := by decide +kernel
theorem d_M_isInside_2 : decode b_M_isInside 2 = .ok (.putfield 108, 3) := by decide +kernel
theorem d_M_isInside_5 : decode b_M_isInside 5 = .ok (.aload_n 0, 1) := by decide +kernel
theorem d_M_isInside_6 : decode b_M_isInside 6 = .ok (.getfield 249, 3) := by decide +kernel
theorem d_M_isInside_9 : decode b_M_isInside 9 = .ok (.istore 7, 2) := by decide +kernel
theorem d_M_isInside_11 : decode b_M_isInside 11 = .ok (.aload_n 0, 1) := by decide +kernel
theorem d_M_isInside_12 : decode b_M_isInside 12 = .ok (.iconst 0, 1) := by decide +kernel
theorem d_M_isInside_13 : decode b_M_isInside 13 = .ok (.putfield 249, 3) := by decide +kernel
theorem d_M_isInside_16 : decode b_M_isInside 16 = .ok (.iload_n 2, 1) := by decide +kernel
theorem d_M_isInside_17 : decode b_M_isInside 17 = .ok (.iconst 1, 1) := by decide +kernel
theorem d_M_isInside_18 : decode b_M_isInside 18 = .ok (.if_icmp .lt 18, 3) := by decide +kernel
theorem d_M_isInside_21 : decode b_M_isInside 21 = .ok (.iload_n 2, 1) := by decide +kernel
theorem d_M_isInside_22 : decode b_M_isInside 22 = .ok (.bipush 120, 2) := by decide +kernel
theorem d_M_isInside_24 : decode b_M_isInside 24 = .ok (.if_icmp .gt 12, 3) := by decide +kernel
theorem d_M_isInside_27 : decode b_M_isInside 27 = .ok (.iload_n 1, 1) := by decide +kernel
theorem d_M_isInside_28 : decode b_M_isInside 28 = .ok (.ifCond .lt 8, 3) := by decide +kernel
theorem d_M_isInside_31 : decode b_M_isInside 31 = .ok (.iload_n 1, 1) := by decide +kernel
theorem d_M_isInside_32 : decode b_M_isInside 32 = .ok (.iload_n 2, 1) := by decide +kernel
theorem d_M_isInside_33 : decode b_M_isInside 33 = .ok (.if_icmp .lt 5, 3) := by decide +kernel
theorem d_M_isInside_36 : decode b_M_isInside 36 = .ok (.iconst 0, 1) := by decide +kernel
theorem d_M_isInside_37 : decode b_M_isInside 37 = .ok (.ireturn, 1) := by decide +kernel
theorem d_M_isInside_38 : decode b_M_isInside 38 = .ok (.aload_n 0, 1) := by decide +kernel
theorem d_M_isInside_39 : decode b_M_isInside 39 = .ok (.iload_n 1, 1) := by decide +kernel
theorem d_M_isInside_40 : decode b_M_isInside 40 = .ok (.iload_n 2, 1) := by decide +kernel
theorem d_M_isInside_41 : decode b_M_isInside 41 = .ok (.iconst 0, 1) := by decide +kernel
theorem d_M_isInside_42 : decode b_M_isInside 42 = .ok (.invokevirtual 241, 3) := by decide +kernel
theorem d_M_isInside_45 : decode b_M_isInside 45 = .ok (.aload_n 0, 1) := by decide +kernel
theorem d_M_isInside_46 : decode b_M_isInside 46 = .ok (.getfield 218, 3) := by decide +kernel
theorem d_M_isInside_49 : decode b_M_isInside 49 = .ok (.iload 7, 2) := by decide +kernel
theorem d_M_isInside_51 : decode b_M_isInside 51 = .ok (.if_icmp .eq 5, 3) := by decide +kernel
theorem d_M_isInside_54 : decode b_M_isInside 54 = .ok (.iconst 0, 1) := by decide +kernel
theorem d_M_isInside_55 : decode b_M_isInside 55 = .ok (.ireturn, 1) := by decide +kernel
theorem d_M_isInside_56 : decode b_M_isInside 56 = .ok (.lload_n 3, 1) := by decide +kernel
theorem d_M_isInside_57 : decode b_M_isInside 57 = .ok (.lstore 8, 2) := by decide +kernel
theorem d_M_isInside_59 : decode b_M_isInside 59 = .ok (.iconst 0, 1) := by decide +kernel
theorem d_M_isInside_60 : decode b_M_isInside 60 = .ok (.istore 10, 2) := by decide +kernel
theorem d_M_isInside_62 : decode b_M_isInside 62 = .ok (.iload 10, 2) := by decide +kernel
theorem d_M_isInside_64 : decode b_M_isInside 64 = .ok (.iload 7, 2) := by decide +kernel
theorem d_M_isInside_66 : decode b_M_isInside 66 = .ok (.if_icmp .ge 55, 3) := by decide +kernel
theorem d_M_isInside_69 : decode b_M_isInside 69 = .ok (.aload_n 0, 1) := by decide +kernel
theorem d_M_isInside_70 : decode b_M_isInside 70 = .ok (.getfield 104, 3) := by decide +kernel
theorem d_M_isInside_73 : decode b_M_isInside 73 = .ok (.aload_n 0, 1) := by decide +kernel
theorem d_M_isInside_74 : decode b_M_isInside 74 = .ok (.getfield 218, 3) := by decide +kernel
theorem d_M_isInside_77 : decode b_M_isInside 77 = .ok (.iconst 1, 1) := by decide +kernel
theorem d_M_isInside_78 : decode b_M_isInside 78 = .ok (.isub, 1) := by decide +kernel
theorem d_M_isInside_79 : decode b_M_isInside 79 = .ok (.iload 10, 2) := by decide +kernel
theorem d_M_isInside_81 : decode b_M_isInside 81 = .ok (.isub, 1) := by decide +kernel
theorem d_M_isInside_82 : decode b_M_isInside 82 = .ok (.baload, 1) := by decide +kernel
theorem d_M_isInside_83 : decode b_M_isInside 83 = .ok (.ifCond .eq 18, 3) := by decide +kernel
theorem d_M_isInside_86 : decode b_M_isInside 86 = .ok (.lload 8, 2) := by decide +kernel
theorem d_M_isInside_88 : decode b_M_isInside 88 = .ok (.aload_n 0, 1) := by decide +kernel
theorem d_M_isInside_89 : decode b_M_isInside 89 = .ok (.getfield 47, 3) := by decide +kernel
theorem d_M_isInside_92 : decode b_M_isInside 92 = .ok (.iload 10, 2) := by decide +kernel
theorem d_M_isInside_94 : decode b_M_isInside 94 = .ok (.laload, 1) := by decide +kernel
theorem d_M_isInside_95 : decode b_M_isInside 95 = .ok (.invokestatic 211, 3) := by decide +kernel
theorem d_M_isInside_98 : decode b_M_isInside 98 = .ok (.goto 15, 3) := by decide +kernel
theorem d_M_isInside_101 : decode b_M_isInside 101 = .ok (.aload_n 0, 1) := by decide +kernel
theorem d_M_isInside_102 : decode b_M_isInside 102 = .ok (.getfield 47, 3) := by decide +kernel
theorem d_M_isInside_105 : decode b_M_isInside 105 = .ok (.iload 10, 2) := by decide +kernel
theorem d_M_isInside_107 : decode b_M_isInside 107 = .ok (.laload, 1) := by decide +kernel
theorem d_M_isInside_108 : decode b_M_isInside 108 = .ok (.lload 8, 2) := by decide +kernel
theorem d_M_isInside_110 : decode b_M_isInside 110 = .ok (.invokestatic 211, 3) := by decide +kernel
theorem d_M_isInside_113 : decode b_M_isInside 113 = .ok (.lstore 8, 2) := by decide +kernel
theorem d_M_isInside_115 : decode b_M_isInside 115 = .ok (.iinc 10 1, 3) := by decide +kernel
theorem d_M_isInside_118 : decode b_M_isInside 118 = .ok (.goto (-56), 3) := by decide +kernel
theorem d_M_isInside_121 : decode b_M_isInside 121 = .ok (.lload 8, 2) := by decide +kernel
theorem d_M_isInside_123 : decode b_M_isInside 123 = .ok (.lload 5, 2) := by decide +kernel
theorem d_M_isInside_125 : decode b_M_isInside 125 = .ok (.lcmp, 1) := by decide +kernel
theorem d_M_isInside_126 : decode b_M_isInside 126 = .ok (.ifCond .ne 7, 3) := by decide +kernel
theorem d_M_isInside_129 : decode b_M_isInside 129 = .ok (.iconst 1, 1) := by decide +kernel
theorem d_M_isInside_130 : decode b_M_isInside 130 = .ok (.goto 4, 3) := by decide +kernel
theorem d_M_isInside_133 : decode b_M_isInside 133 = .ok (.iconst 0, 1) := by decide +kernel
theorem d_M_isInside_134 : decode b_M_isInside 134 = .ok (.ireturn, 1) := by decide +kernel

abbrev b_M_isGrowth : ByteArray := prog_9_method_43_code
def y_M_isGrowth : MethodName := ⟨"RegistryLogModel", "isGrowth", "(IIJJ)Z"⟩
theorem d_M_isGrowth_0 : decode b_M_isGrowth 0 = .ok (.aload_n 0, 1) := by decide +kernel
theorem d_M_isGrowth_1 : decode b_M_isGrowth 1 = .ok (.iconst 0, 1) := by decide +kernel
theorem d_M_isGrowth_2 : decode b_M_isGrowth 2 = .ok (.putfield 108, 3) := by decide +kernel
theorem d_M_isGrowth_5 : decode b_M_isGrowth 5 = .ok (.aload_n 0, 1) := by decide +kernel
theorem d_M_isGrowth_6 : decode b_M_isGrowth 6 = .ok (.getfield 249, 3) := by decide +kernel
theorem d_M_isGrowth_9 : decode b_M_isGrowth 9 = .ok (.istore 7, 2) := by decide +kernel
theorem d_M_isGrowth_11 : decode b_M_isGrowth 11 = .ok (.aload_n 0, 1) := by decide +kernel
theorem d_M_isGrowth_12 : decode b_M_isGrowth 12 = .ok (.iconst 0, 1) := by decide +kernel
theorem d_M_isGrowth_13 : decode b_M_isGrowth 13 = .ok (.putfield 249, 3) := by decide +kernel
theorem d_M_isGrowth_16 : decode b_M_isGrowth 16 = .ok (.iload_n 2, 1) := by decide +kernel
theorem d_M_isGrowth_17 : decode b_M_isGrowth 17 = .ok (.iconst 1, 1) := by decide +kernel
theorem d_M_isGrowth_18 : decode b_M_isGrowth 18 = .ok (.if_icmp .lt 19, 3) := by decide +kernel
theorem d_M_isGrowth_21 : decode b_M_isGrowth 21 = .ok (.iload_n 2, 1) := by decide +kernel
theorem d_M_isGrowth_22 : decode b_M_isGrowth 22 = .ok (.bipush 120, 2) := by decide +kernel
theorem d_M_isGrowth_24 : decode b_M_isGrowth 24 = .ok (.if_icmp .gt 13, 3) := by decide +kernel
theorem d_M_isGrowth_27 : decode b_M_isGrowth 27 = .ok (.iload_n 1, 1) := by decide +kernel
theorem d_M_isGrowth_28 : decode b_M_isGrowth 28 = .ok (.iconst 1, 1) := by decide +kernel
theorem d_M_isGrowth_29 : decode b_M_isGrowth 29 = .ok (.if_icmp .lt 8, 3) := by decide +kernel
theorem d_M_isGrowth_32 : decode b_M_isGrowth 32 = .ok (.iload_n 1, 1) := by decide +kernel
theorem d_M_isGrowth_33 : decode b_M_isGrowth 33 = .ok (.iload_n 2, 1) := by decide +kernel
theorem d_M_isGrowth_34 : decode b_M_isGrowth 34 = .ok (.if_icmp .le 5, 3) := by decide +kernel
theorem d_M_isGrowth_37 : decode b_M_isGrowth 37 = .ok (.iconst 0, 1) := by decide +kernel
theorem d_M_isGrowth_38 : decode b_M_isGrowth 38 = .ok (.ireturn, 1) := by decide +kernel
theorem d_M_isGrowth_39 : decode b_M_isGrowth 39 = .ok (.aload_n 0, 1) := by decide +kernel
theorem d_M_isGrowth_40 : decode b_M_isGrowth 40 = .ok (.iload_n 1, 1) := by decide +kernel
theorem d_M_isGrowth_41 : decode b_M_isGrowth 41 = .ok (.iload_n 2, 1) := by decide +kernel
theorem d_M_isGrowth_42 : decode b_M_isGrowth 42 = .ok (.iconst 1, 1) := by decide +kernel
theorem d_M_isGrowth_43 : decode b_M_isGrowth 43 = .ok (.invokevirtual 241, 3) := by decide +kernel
theorem d_M_isGrowth_46 : decode b_M_isGrowth 46 = .ok (.aload_n 0, 1) := by decide +kernel
theorem d_M_isGrowth_47 : decode b_M_isGrowth 47 = .ok (.getfield 230, 3) := by decide +kernel
theorem d_M_isGrowth_50 : decode b_M_isGrowth 50 = .ok (.ifCond .eq 7, 3) := by decide +kernel
theorem d_M_isGrowth_53 : decode b_M_isGrowth 53 = .ok (.iconst 0, 1) := by decide +kernel
theorem d_M_isGrowth_54 : decode b_M_isGrowth 54 = .ok (.goto 4, 3) := by decide +kernel
theorem d_M_isGrowth_57 : decode b_M_isGrowth 57 = .ok (.iconst 1, 1) := by decide +kernel
theorem d_M_isGrowth_58 : decode b_M_isGrowth 58 = .ok (.istore 8, 2) := by decide +kernel
theorem d_M_isGrowth_60 : decode b_M_isGrowth 60 = .ok (.aload_n 0, 1) := by decide +kernel
theorem d_M_isGrowth_61 : decode b_M_isGrowth 61 = .ok (.getfield 218, 3) := by decide +kernel
theorem d_M_isGrowth_64 : decode b_M_isGrowth 64 = .ok (.iload 8, 2) := by decide +kernel
theorem d_M_isGrowth_66 : decode b_M_isGrowth 66 = .ok (.iadd, 1) := by decide +kernel
theorem d_M_isGrowth_67 : decode b_M_isGrowth 67 = .ok (.iload 7, 2) := by decide +kernel
theorem d_M_isGrowth_69 : decode b_M_isGrowth 69 = .ok (.if_icmp .eq 5, 3) := by decide +kernel
theorem d_M_isGrowth_72 : decode b_M_isGrowth 72 = .ok (.iconst 0, 1) := by decide +kernel
theorem d_M_isGrowth_73 : decode b_M_isGrowth 73 = .ok (.ireturn, 1) := by decide +kernel
theorem d_M_isGrowth_74 : decode b_M_isGrowth 74 = .ok (.aload_n 0, 1) := by decide +kernel
theorem d_M_isGrowth_75 : decode b_M_isGrowth 75 = .ok (.getfield 230, 3) := by decide +kernel
theorem d_M_isGrowth_78 : decode b_M_isGrowth 78 = .ok (.ifCond .eq 7, 3) := by decide +kernel
theorem d_M_isGrowth_81 : decode b_M_isGrowth 81 = .ok (.lload_n 3, 1) := by decide +kernel
theorem d_M_isGrowth_82 : decode b_M_isGrowth 82 = .ok (.goto 9, 3) := by decide +kernel
theorem d_M_isGrowth_85 : decode b_M_isGrowth 85 = .ok (.aload_n 0, 1) := by decide +kernel
theorem d_M_isGrowth_86 : decode b_M_isGrowth 86 = .ok (.getfield 47, 3) := by decide +kernel
theorem d_M_isGrowth_89 : decode b_M_isGrowth 89 = .ok (.iconst 0, 1) := by decide +kernel
theorem d_M_isGrowth_90 : decode b_M_isGrowth 90 = .ok (.laload, 1) := by decide +kernel
theorem d_M_isGrowth_91 : decode b_M_isGrowth 91 = .ok (.lstore 9, 2) := by decide +kernel
theorem d_M_isGrowth_93 : decode b_M_isGrowth 93 = .ok (.lload 9, 2) := by decide +kernel
theorem d_M_isGrowth_95 : decode b_M_isGrowth 95 = .ok (.lstore 11, 2) := by decide +kernel
theorem d_M_isGrowth_97 : decode b_M_isGrowth 97 = .ok (.iload 8, 2) := by decide +kernel
theorem d_M_isGrowth_99 : decode b_M_isGrowth 99 = .ok (.istore 13, 2) := by decide +kernel
theorem d_M_isGrowth_101 : decode b_M_isGrowth 101 = .ok (.iload 13, 2) := by decide +kernel
theorem d_M_isGrowth_103 : decode b_M_isGrowth 103 = .ok (.iload 7, 2) := by decide +kernel
theorem d_M_isGrowth_105 : decode b_M_isGrowth 105 = .ok (.if_icmp .ge 86, 3) := by decide +kernel
theorem d_M_isGrowth_108 : decode b_M_isGrowth 108 = .ok (.aload_n 0, 1) := by decide +kernel
theorem d_M_isGrowth_109 : decode b_M_isGrowth 109 = .ok (.getfield 104, 3) := by decide +kernel
theorem d_M_isGrowth_112 : decode b_M_isGrowth 112 = .ok (.aload_n 0, 1) := by decide +kernel
theorem d_M_isGrowth_113 : decode b_M_isGrowth 113 = .ok (.getfield 218, 3) := by decide +kernel
theorem d_M_isGrowth_116 : decode b_M_isGrowth 116 = .ok (.iconst 1, 1) := by decide +kernel
theorem d_M_isGrowth_117 : decode b_M_isGrowth 117 = .ok (.isub, 1) := by decide +kernel
theorem d_M_isGrowth_118 : decode b_M_isGrowth 118 = .ok (.iload 13, 2) := by decide +kernel
theorem d_M_isGrowth_120 : decode b_M_isGrowth 120 = .ok (.iload 8, 2) := by decide +kernel
theorem d_M_isGrowth_122 : decode b_M_isGrowth 122 = .ok (.isub, 1) := by decide +kernel
theorem d_M_isGrowth_123 : decode b_M_isGrowth 123 = .ok (.isub, 1) := by decide +kernel
theorem d_M_isGrowth_124 : decode b_M_isGrowth 124 = .ok (.baload, 1) := by decide +kernel
theorem d_M_isGrowth_125 : decode b_M_isGrowth 125 = .ok (.istore 14, 2) := by decide +kernel
theorem d_M_isGrowth_127 : decode b_M_isGrowth 127 = .ok (.iload 14, 2) := by decide +kernel
theorem d_M_isGrowth_129 : decode b_M_isGrowth 129 = .ok (.ifCond .eq 18, 3) := by decide +kernel
theorem d_M_isGrowth_132 : decode b_M_isGrowth 132 = .ok (.lload 11, 2) := by decide +kernel
theorem d_M_isGrowth_134 : decode b_M_isGrowth 134 = .ok (.aload_n 0, 1) := by decide +kernel
theorem d_M_isGrowth_135 : decode b_M_isGrowth 135 = .ok (.getfield 47, 3) := by decide +kernel
theorem d_M_isGrowth_138 : decode b_M_isGrowth 138 = .ok (.iload 13, 2) := by decide +kernel
theorem d_M_isGrowth_140 : decode b_M_isGrowth 140 = .ok (.laload, 1) := by decide +kernel
theorem d_M_isGrowth_141 : decode b_M_isGrowth 141 = .ok (.invokestatic 211, 3) := by decide +kernel
theorem d_M_isGrowth_144 : decode b_M_isGrowth 144 = .ok (.goto 15, 3) := by decide +kernel
theorem d_M_isGrowth_147 : decode b_M_isGrowth 147 = .ok (.aload_n 0, 1) := by decide +kernel
theorem d_M_isGrowth_148 : decode b_M_isGrowth 148 = .ok (.getfield 47, 3) := by decide +kernel
theorem d_M_isGrowth_151 : decode b_M_isGrowth 151 = .ok (.iload 13, 2) := by decide +kernel
theorem d_M_isGrowth_153 : decode b_M_isGrowth 153 = .ok (.laload, 1) := by decide +kernel
theorem d_M_isGrowth_154 : decode b_M_isGrowth 154 = .ok (.lload 11, 2) := by decide +kernel
theorem d_M_isGrowth_156 : decode b_M_isGrowth 156 = .ok (.invokestatic 211, 3) := by decide +kernel
theorem d_M_isGrowth_159 : decode b_M_isGrowth 159 = .ok (.lstore 11, 2) := by decide +kernel
theorem d_M_isGrowth_161 : decode b_M_isGrowth 161 = .ok (.iload 14, 2) := by decide +kernel
theorem d_M_isGrowth_163 : decode b_M_isGrowth 163 = .ok (.ifCond .eq 8, 3) := by decide +kernel
theorem d_M_isGrowth_166 : decode b_M_isGrowth 166 = .ok (.lload 9, 2) := by decide +kernel
theorem d_M_isGrowth_168 : decode b_M_isGrowth 168 = .ok (.goto 15, 3) := by decide +kernel
theorem d_M_isGrowth_171 : decode b_M_isGrowth 171 = .ok (.aload_n 0, 1) := by decide +kernel
theorem d_M_isGrowth_172 : decode b_M_isGrowth 172 = .ok (.getfield 47, 3) := by decide +kernel
theorem d_M_isGrowth_175 : decode b_M_isGrowth 175 = .ok (.iload 13, 2) := by decide +kernel
theorem d_M_isGrowth_177 : decode b_M_isGrowth 177 = .ok (.laload, 1) := by decide +kernel
theorem d_M_isGrowth_178 : decode b_M_isGrowth 178 = .ok (.lload 9, 2) := by decide +kernel
theorem d_M_isGrowth_180 : decode b_M_isGrowth 180 = .ok (.invokestatic 211, 3) := by decide +kernel
theorem d_M_isGrowth_183 : decode b_M_isGrowth 183 = .ok (.lstore 9, 2) := by decide +kernel
theorem d_M_isGrowth_185 : decode b_M_isGrowth 185 = .ok (.iinc 13 1, 3) := by decide +kernel
theorem d_M_isGrowth_188 : decode b_M_isGrowth 188 = .ok (.goto (-87), 3) := by decide +kernel
theorem d_M_isGrowth_191 : decode b_M_isGrowth 191 = .ok (.lload 9, 2) := by decide +kernel
theorem d_M_isGrowth_193 : decode b_M_isGrowth 193 = .ok (.lload_n 3, 1) := by decide +kernel
theorem d_M_isGrowth_194 : decode b_M_isGrowth 194 = .ok (.lcmp, 1) := by decide +kernel
theorem d_M_isGrowth_195 : decode b_M_isGrowth 195 = .ok (.ifCond .ne 15, 3) := by decide +kernel
theorem d_M_isGrowth_198 : decode b_M_isGrowth 198 = .ok (.lload 11, 2) := by decide +kernel
theorem d_M_isGrowth_200 : decode b_M_isGrowth 200 = .ok (.lload 5, 2) := by decide +kernel
theorem d_M_isGrowth_202 : decode b_M_isGrowth 202 = .ok (.lcmp, 1) := by decide +kernel
theorem d_M_isGrowth_203 : decode b_M_isGrowth 203 = .ok (.ifCond .ne 7, 3) := by decide +kernel
theorem d_M_isGrowth_206 : decode b_M_isGrowth 206 = .ok (.iconst 1, 1) := by decide +kernel
theorem d_M_isGrowth_207 : decode b_M_isGrowth 207 = .ok (.goto 4, 3) := by decide +kernel
theorem d_M_isGrowth_210 : decode b_M_isGrowth 210 = .ok (.iconst 0, 1) := by decide +kernel
theorem d_M_isGrowth_211 : decode b_M_isGrowth 211 = .ok (.ireturn, 1) := by decide +kernel

abbrev b_M_isMirror : ByteArray := prog_9_method_44_code
def y_M_isMirror : MethodName := ⟨"RegistryLogModel", "isMirror", "(I)Z"⟩
theorem d_M_isMirror_0 : decode b_M_isMirror 0 = .ok (.iload_n 0, 1) := by decide +kernel
theorem d_M_isMirror_1 : decode b_M_isMirror 1 = .ok (.ifCond .lt 12, 3) := by decide +kernel
theorem d_M_isMirror_4 : decode b_M_isMirror 4 = .ok (.iload_n 0, 1) := by decide +kernel
theorem d_M_isMirror_5 : decode b_M_isMirror 5 = .ok (.iconst 4, 1) := by decide +kernel
theorem d_M_isMirror_6 : decode b_M_isMirror 6 = .ok (.if_icmp .ge 7, 3) := by decide +kernel
theorem d_M_isMirror_9 : decode b_M_isMirror 9 = .ok (.iconst 1, 1) := by decide +kernel
theorem d_M_isMirror_10 : decode b_M_isMirror 10 = .ok (.goto 4, 3) := by decide +kernel
theorem d_M_isMirror_13 : decode b_M_isMirror 13 = .ok (.iconst 0, 1) := by decide +kernel
theorem d_M_isMirror_14 : decode b_M_isMirror 14 = .ok (.ireturn, 1) := by decide +kernel

abbrev b_M_follow : ByteArray := prog_9_method_45_code
def y_M_follow : MethodName := ⟨"RegistryLogModel", "follow", "(II)I"⟩
theorem d_M_follow_0 : decode b_M_follow 0 = .ok (.aload_n 0, 1) := by decide +kernel
theorem d_M_follow_1 : decode b_M_follow 1 = .ok (.iconst 0, 1) := by decide +kernel
theorem d_M_follow_2 : decode b_M_follow 2 = .ok (.putfield 108, 3) := by decide +kernel
theorem d_M_follow_5 : decode b_M_follow 5 = .ok (.iload_n 1, 1) := by decide +kernel
theorem d_M_follow_6 : decode b_M_follow 6 = .ok (.invokestatic 252, 3) := by decide +kernel
theorem d_M_follow_9 : decode b_M_follow 9 = .ok (.ifCond .eq 7, 3) := by decide +kernel
theorem d_M_follow_12 : decode b_M_follow 12 = .ok (.iload_n 2, 1) := by decide +kernel
theorem d_M_follow_13 : decode b_M_follow 13 = .ok (.ifCond .ge 5, 3) := by decide +kernel
theorem d_M_follow_16 : decode b_M_follow 16 = .ok (.iconst (-1), 1) := by decide +kernel
theorem d_M_follow_17 : decode b_M_follow 17 = .ok (.ireturn, 1) := by decide +kernel
theorem d_M_follow_18 : decode b_M_follow 18 = .ok (.iconst 0, 1) := by decide +kernel
theorem d_M_follow_19 : decode b_M_follow 19 = .ok (.istore_n 3, 1) := by decide +kernel
theorem d_M_follow_20 : decode b_M_follow 20 = .ok (.iload_n 3, 1) := by decide +kernel
theorem d_M_follow_21 : decode b_M_follow 21 = .ok (.iload_n 2, 1) := by decide +kernel
theorem d_M_follow_22 : decode b_M_follow 22 = .ok (.if_icmp .ge 65, 3) := by decide +kernel
theorem d_M_follow_25 : decode b_M_follow 25 = .ok (.aload_n 0, 1) := by decide +kernel
theorem d_M_follow_26 : decode b_M_follow 26 = .ok (.getfield 40, 3) := by decide +kernel
theorem d_M_follow_29 : decode b_M_follow 29 = .ok (.iload_n 1, 1) := by decide +kernel
theorem d_M_follow_30 : decode b_M_follow 30 = .ok (.iaload, 1) := by decide +kernel
theorem d_M_follow_31 : decode b_M_follow 31 = .ok (.aload_n 0, 1) := by decide +kernel
theorem d_M_follow_32 : decode b_M_follow 32 = .ok (.getfield 40, 3) := by decide +kernel
theorem d_M_follow_35 : decode b_M_follow 35 = .ok (.iconst 4, 1) := by decide +kernel
theorem d_M_follow_36 : decode b_M_follow 36 = .ok (.iaload, 1) := by decide +kernel
theorem d_M_follow_37 : decode b_M_follow 37 = .ok (.if_icmp .ge 50, 3) := by decide +kernel
theorem d_M_follow_40 : decode b_M_follow 40 = .ok (.aload_n 0, 1) := by decide +kernel
theorem d_M_follow_41 : decode b_M_follow 41 = .ok (.getfield 37, 3) := by decide +kernel
theorem d_M_follow_44 : decode b_M_follow 44 = .ok (.bipush 120, 2) := by decide +kernel
theorem d_M_follow_46 : decode b_M_follow 46 = .ok (.iload_n 1, 1) := by decide +kernel
theorem d_M_follow_47 : decode b_M_follow 47 = .ok (.imul, 1) := by decide +kernel
theorem d_M_follow_48 : decode b_M_follow 48 = .ok (.aload_n 0, 1) := by decide +kernel
theorem d_M_follow_49 : decode b_M_follow 49 = .ok (.getfield 40, 3) := by decide +kernel
theorem d_M_follow_52 : decode b_M_follow 52 = .ok (.iload_n 1, 1) := by decide +kernel
theorem d_M_follow_53 : decode b_M_follow 53 = .ok (.iaload, 1) := by decide +kernel
theorem d_M_follow_54 : decode b_M_follow 54 = .ok (.iadd, 1) := by decide +kernel
theorem d_M_follow_55 : decode b_M_follow 55 = .ok (.aload_n 0, 1) := by decide +kernel
theorem d_M_follow_56 : decode b_M_follow 56 = .ok (.getfield 37, 3) := by decide +kernel
theorem d_M_follow_59 : decode b_M_follow 59 = .ok (.sipush 480, 3) := by decide +kernel
theorem d_M_follow_62 : decode b_M_follow 62 = .ok (.aload_n 0, 1) := by decide +kernel
theorem d_M_follow_63 : decode b_M_follow 63 = .ok (.getfield 40, 3) := by decide +kernel
theorem d_M_follow_66 : decode b_M_follow 66 = .ok (.iload_n 1, 1) := by decide +kernel
theorem d_M_follow_67 : decode b_M_follow 67 = .ok (.iaload, 1) := by decide +kernel
theorem d_M_follow_68 : decode b_M_follow 68 = .ok (.iadd, 1) := by decide +kernel
theorem d_M_follow_69 : decode b_M_follow 69 = .ok (.iaload, 1) := by decide +kernel
theorem d_M_follow_70 : decode b_M_follow 70 = .ok (.iastore, 1) := by decide +kernel
theorem d_M_follow_71 : decode b_M_follow 71 = .ok (.aload_n 0, 1) := by decide +kernel
theorem d_M_follow_72 : decode b_M_follow 72 = .ok (.getfield 40, 3) := by decide +kernel
theorem d_M_follow_75 : decode b_M_follow 75 = .ok (.iload_n 1, 1) := by decide +kernel
theorem d_M_follow_76 : decode b_M_follow 76 = .ok (.dup2, 1) := by decide +kernel
theorem d_M_follow_77 : decode b_M_follow 77 = .ok (.iaload, 1) := by decide +kernel
theorem d_M_follow_78 : decode b_M_follow 78 = .ok (.iconst 1, 1) := by decide +kernel
theorem d_M_follow_79 : decode b_M_follow 79 = .ok (.iadd, 1) := by decide +kernel
theorem d_M_follow_80 : decode b_M_follow 80 = .ok (.iastore, 1) := by decide +kernel
theorem d_M_follow_81 : decode b_M_follow 81 = .ok (.iinc 3 1, 3) := by decide +kernel
theorem d_M_follow_84 : decode b_M_follow 84 = .ok (.goto (-64), 3) := by decide +kernel
theorem d_M_follow_87 : decode b_M_follow 87 = .ok (.iload_n 3, 1) := by decide +kernel
theorem d_M_follow_88 : decode b_M_follow 88 = .ok (.ireturn, 1) := by decide +kernel

abbrev b_M_spoil : ByteArray := prog_9_method_46_code
def y_M_spoil : MethodName := ⟨"RegistryLogModel", "spoil", "(III)Z"⟩
theorem d_M_spoil_0 : decode b_M_spoil 0 = .ok (.aload_n 0, 1) := by decide +kernel
theorem d_M_spoil_1 : decode b_M_spoil 1 = .ok (.iconst 0, 1) := by decide +kernel
theorem d_M_spoil_2 : decode b_M_spoil 2 = .ok (.putfield 108, 3) := by decide +kernel
theorem d_M_spoil_5 : decode b_M_spoil 5 = .ok (.iload_n 1, 1) := by decide +kernel
theorem d_M_spoil_6 : decode b_M_spoil 6 = .ok (.invokestatic 252, 3) := by decide +kernel
theorem d_M_spoil_9 : decode b_M_spoil 9 = .ok (.ifCond .eq 26, 3) := by decide +kernel
theorem d_M_spoil_12 : decode b_M_spoil 12 = .ok (.iload_n 2, 1) := by decide +kernel
theorem d_M_spoil_13 : decode b_M_spoil 13 = .ok (.ifCond .lt 22, 3) := by decide +kernel
theorem d_M_spoil_16 : decode b_M_spoil 16 = .ok (.iload_n 2, 1) := by decide +kernel
theorem d_M_spoil_17 : decode b_M_spoil 17 = .ok (.aload_n 0, 1) := by decide +kernel
theorem d_M_spoil_18 : decode b_M_spoil 18 = .ok (.getfield 40, 3) := by decide +kernel
theorem d_M_spoil_21 : decode b_M_spoil 21 = .ok (.iload_n 1, 1) := by decide +kernel
theorem d_M_spoil_22 : decode b_M_spoil 22 = .ok (.iaload, 1) := by decide +kernel
theorem d_M_spoil_23 : decode b_M_spoil 23 = .ok (.if_icmp .ge 12, 3) := by decide +kernel
theorem d_M_spoil_26 : decode b_M_spoil 26 = .ok (.aload_n 0, 1) := by decide +kernel
theorem d_M_spoil_27 : decode b_M_spoil 27 = .ok (.getfield 13, 3) := by decide +kernel
theorem d_M_spoil_30 : decode b_M_spoil 30 = .ok (.iload_n 2, 1) := by decide +kernel
theorem d_M_spoil_31 : decode b_M_spoil 31 = .ok (.iaload, 1) := by decide +kernel
theorem d_M_spoil_32 : decode b_M_spoil 32 = .ok (.ifCond .eq 5, 3) := by decide +kernel
theorem d_M_spoil_35 : decode b_M_spoil 35 = .ok (.iconst 0, 1) := by decide +kernel
theorem d_M_spoil_36 : decode b_M_spoil 36 = .ok (.ireturn, 1) := by decide +kernel
theorem d_M_spoil_37 : decode b_M_spoil 37 = .ok (.aload_n 0, 1) := by decide +kernel
theorem d_M_spoil_38 : decode b_M_spoil 38 = .ok (.getfield 37, 3) := by decide +kernel
theorem d_M_spoil_41 : decode b_M_spoil 41 = .ok (.bipush 120, 2) := by decide +kernel
theorem d_M_spoil_43 : decode b_M_spoil 43 = .ok (.iload_n 1, 1) := by decide +kernel
theorem d_M_spoil_44 : decode b_M_spoil 44 = .ok (.imul, 1) := by decide +kernel
theorem d_M_spoil_45 : decode b_M_spoil 45 = .ok (.iload_n 2, 1) := by decide +kernel
theorem d_M_spoil_46 : decode b_M_spoil 46 = .ok (.iadd, 1) := by decide +kernel
theorem d_M_spoil_47 : decode b_M_spoil 47 = .ok (.iload_n 3, 1) := by decide +kernel
theorem d_M_spoil_48 : decode b_M_spoil 48 = .ok (.iastore, 1) := by decide +kernel
theorem d_M_spoil_49 : decode b_M_spoil 49 = .ok (.iconst 1, 1) := by decide +kernel
theorem d_M_spoil_50 : decode b_M_spoil 50 = .ok (.ireturn, 1) := by decide +kernel

abbrev b_M_mirrored : ByteArray := prog_9_method_47_code
def y_M_mirrored : MethodName := ⟨"RegistryLogModel", "mirrored", "(I)J"⟩
theorem d_M_mirrored_0 : decode b_M_mirrored 0 = .ok (.aload_n 0, 1) := by decide +kernel
theorem d_M_mirrored_1 : decode b_M_mirrored 1 = .ok (.iconst 0, 1) := by decide +kernel
theorem d_M_mirrored_2 : decode b_M_mirrored 2 = .ok (.putfield 108, 3) := by decide +kernel
theorem d_M_mirrored_5 : decode b_M_mirrored 5 = .ok (.iload_n 1, 1) := by decide +kernel
theorem d_M_mirrored_6 : decode b_M_mirrored 6 = .ok (.invokestatic 252, 3) := by decide +kernel
theorem d_M_mirrored_9 : decode b_M_mirrored 9 = .ok (.ifCond .eq 18, 3) := by decide +kernel
theorem d_M_mirrored_12 : decode b_M_mirrored 12 = .ok (.aload_n 0, 1) := by decide +kernel
theorem d_M_mirrored_13 : decode b_M_mirrored 13 = .ok (.iload_n 1, 1) := by decide +kernel
theorem d_M_mirrored_14 : decode b_M_mirrored 14 = .ok (.iconst 0, 1) := by decide +kernel
theorem d_M_mirrored_15 : decode b_M_mirrored 15 = .ok (.aload_n 0, 1) := by decide +kernel
theorem d_M_mirrored_16 : decode b_M_mirrored 16 = .ok (.getfield 40, 3) := by decide +kernel
theorem d_M_mirrored_19 : decode b_M_mirrored 19 = .ok (.iload_n 1, 1) := by decide +kernel
theorem d_M_mirrored_20 : decode b_M_mirrored 20 = .ok (.iaload, 1) := by decide +kernel
theorem d_M_mirrored_21 : decode b_M_mirrored 21 = .ok (.invokevirtual 214, 3) := by decide +kernel
theorem d_M_mirrored_24 : decode b_M_mirrored 24 = .ok (.goto 4, 3) := by decide +kernel
theorem d_M_mirrored_27 : decode b_M_mirrored 27 = .ok (.lconst 0, 1) := by decide +kernel
theorem d_M_mirrored_28 : decode b_M_mirrored 28 = .ok (.lreturn, 1) := by decide +kernel

abbrev b_M_apart : ByteArray := prog_9_method_48_code
def y_M_apart : MethodName := ⟨"RegistryLogModel", "apart", "(I)I"⟩
theorem d_M_apart_0 : decode b_M_apart 0 = .ok (.aload_n 0, 1) := by decide +kernel
theorem d_M_apart_1 : decode b_M_apart 1 = .ok (.iconst 0, 1) := by decide +kernel
theorem d_M_apart_2 : decode b_M_apart 2 = .ok (.putfield 108, 3) := by decide +kernel
theorem d_M_apart_5 : decode b_M_apart 5 = .ok (.iload_n 1, 1) := by decide +kernel
theorem d_M_apart_6 : decode b_M_apart 6 = .ok (.invokestatic 252, 3) := by decide +kernel
theorem d_M_apart_9 : decode b_M_apart 9 = .ok (.ifCond .ne 5, 3) := by decide +kernel
theorem d_M_apart_12 : decode b_M_apart 12 = .ok (.iconst (-1), 1) := by decide +kernel
theorem d_M_apart_13 : decode b_M_apart 13 = .ok (.ireturn, 1) := by decide +kernel
theorem d_M_apart_14 : decode b_M_apart 14 = .ok (.iconst 1, 1) := by decide +kernel
theorem d_M_apart_15 : decode b_M_apart 15 = .ok (.istore_n 2, 1) := by decide +kernel
theorem d_M_apart_16 : decode b_M_apart 16 = .ok (.iload_n 2, 1) := by decide +kernel
theorem d_M_apart_17 : decode b_M_apart 17 = .ok (.aload_n 0, 1) := by decide +kernel
theorem d_M_apart_18 : decode b_M_apart 18 = .ok (.getfield 40, 3) := by decide +kernel
theorem d_M_apart_21 : decode b_M_apart 21 = .ok (.iload_n 1, 1) := by decide +kernel
theorem d_M_apart_22 : decode b_M_apart 22 = .ok (.iaload, 1) := by decide +kernel
theorem d_M_apart_23 : decode b_M_apart 23 = .ok (.if_icmp .gt 29, 3) := by decide +kernel
theorem d_M_apart_26 : decode b_M_apart 26 = .ok (.aload_n 0, 1) := by decide +kernel
theorem d_M_apart_27 : decode b_M_apart 27 = .ok (.iload_n 1, 1) := by decide +kernel
theorem d_M_apart_28 : decode b_M_apart 28 = .ok (.iconst 0, 1) := by decide +kernel
theorem d_M_apart_29 : decode b_M_apart 29 = .ok (.iload_n 2, 1) := by decide +kernel
theorem d_M_apart_30 : decode b_M_apart 30 = .ok (.invokevirtual 214, 3) := by decide +kernel
theorem d_M_apart_33 : decode b_M_apart 33 = .ok (.aload_n 0, 1) := by decide +kernel
theorem d_M_apart_34 : decode b_M_apart 34 = .ok (.iconst 4, 1) := by decide +kernel
theorem d_M_apart_35 : decode b_M_apart 35 = .ok (.iconst 0, 1) := by decide +kernel
theorem d_M_apart_36 : decode b_M_apart 36 = .ok (.iload_n 2, 1) := by decide +kernel
theorem d_M_apart_37 : decode b_M_apart 37 = .ok (.invokevirtual 214, 3) := by decide +kernel
theorem d_M_apart_40 : decode b_M_apart 40 = .ok (.lcmp, 1) := by decide +kernel
theorem d_M_apart_41 : decode b_M_apart 41 = .ok (.ifCond .eq 5, 3) := by decide +kernel
theorem d_M_apart_44 : decode b_M_apart 44 = .ok (.iload_n 2, 1) := by decide +kernel
theorem d_M_apart_45 : decode b_M_apart 45 = .ok (.ireturn, 1) := by decide +kernel
theorem d_M_apart_46 : decode b_M_apart 46 = .ok (.iinc 2 1, 3) := by decide +kernel
theorem d_M_apart_49 : decode b_M_apart 49 = .ok (.goto (-33), 3) := by decide +kernel
theorem d_M_apart_52 : decode b_M_apart 52 = .ok (.iconst (-1), 1) := by decide +kernel
theorem d_M_apart_53 : decode b_M_apart 53 = .ok (.ireturn, 1) := by decide +kernel

abbrev b_M_asked : ByteArray := prog_9_method_49_code
def y_M_asked : MethodName := ⟨"RegistryLogModel", "asked", "(I)I"⟩
theorem d_M_asked_0 : decode b_M_asked 0 = .ok (.aload_n 0, 1) := by decide +kernel
theorem d_M_asked_1 : decode b_M_asked 1 = .ok (.iconst 0, 1) := by decide +kernel
theorem d_M_asked_2 : decode b_M_asked 2 = .ok (.invokevirtual 161, 3) := by decide +kernel
theorem d_M_asked_5 : decode b_M_asked 5 = .ok (.istore_n 2, 1) := by decide +kernel
theorem d_M_asked_6 : decode b_M_asked 6 = .ok (.iload_n 2, 1) := by decide +kernel
theorem d_M_asked_7 : decode b_M_asked 7 = .ok (.ifCond .eq 15, 3) := by decide +kernel
theorem d_M_asked_10 : decode b_M_asked 10 = .ok (.iload_n 1, 1) := by decide +kernel
theorem d_M_asked_11 : decode b_M_asked 11 = .ok (.iconst (-1), 1) := by decide +kernel
theorem d_M_asked_12 : decode b_M_asked 12 = .ok (.if_icmp .eq 12, 3) := by decide +kernel
theorem d_M_asked_15 : decode b_M_asked 15 = .ok (.iload_n 1, 1) := by decide +kernel
theorem d_M_asked_16 : decode b_M_asked 16 = .ok (.invokestatic 252, 3) := by decide +kernel
theorem d_M_asked_19 : decode b_M_asked 19 = .ok (.ifCond .ne 5, 3) := by decide +kernel
theorem d_M_asked_22 : decode b_M_asked 22 = .ok (.iconst (-1), 1) := by decide +kernel
theorem d_M_asked_23 : decode b_M_asked 23 = .ok (.ireturn, 1) := by decide +kernel
theorem d_M_asked_24 : decode b_M_asked 24 = .ok (.aload_n 0, 1) := by decide +kernel
theorem d_M_asked_25 : decode b_M_asked 25 = .ok (.iload_n 1, 1) := by decide +kernel
theorem d_M_asked_26 : decode b_M_asked 26 = .ok (.iconst (-1), 1) := by decide +kernel
theorem d_M_asked_27 : decode b_M_asked 27 = .ok (.if_icmp .ne 7, 3) := by decide +kernel
theorem d_M_asked_30 : decode b_M_asked 30 = .ok (.iconst 4, 1) := by decide +kernel
theorem d_M_asked_31 : decode b_M_asked 31 = .ok (.goto 4, 3) := by decide +kernel
theorem d_M_asked_34 : decode b_M_asked 34 = .ok (.iload_n 1, 1) := by decide +kernel
theorem d_M_asked_35 : decode b_M_asked 35 = .ok (.invokevirtual 171, 3) := by decide +kernel
theorem d_M_asked_38 : decode b_M_asked 38 = .ok (.aload_n 0, 1) := by decide +kernel
theorem d_M_asked_39 : decode b_M_asked 39 = .ok (.aload_n 0, 1) := by decide +kernel
theorem d_M_asked_40 : decode b_M_asked 40 = .ok (.getfield 80, 3) := by decide +kernel
theorem d_M_asked_43 : decode b_M_asked 43 = .ok (.iconst 0, 1) := by decide +kernel
theorem d_M_asked_44 : decode b_M_asked 44 = .ok (.aload_n 0, 1) := by decide +kernel
theorem d_M_asked_45 : decode b_M_asked 45 = .ok (.getfield 123, 3) := by decide +kernel
theorem d_M_asked_48 : decode b_M_asked 48 = .ok (.invokevirtual 142, 3) := by decide +kernel
theorem d_M_asked_51 : decode b_M_asked 51 = .ok (.istore_n 3, 1) := by decide +kernel
theorem d_M_asked_52 : decode b_M_asked 52 = .ok (.aload_n 0, 1) := by decide +kernel
theorem d_M_asked_53 : decode b_M_asked 53 = .ok (.iload_n 3, 1) := by decide +kernel
theorem d_M_asked_54 : decode b_M_asked 54 = .ok (.invokevirtual 154, 3) := by decide +kernel
theorem d_M_asked_57 : decode b_M_asked 57 = .ok (.ifCond .eq 7, 3) := by decide +kernel
theorem d_M_asked_60 : decode b_M_asked 60 = .ok (.iload_n 3, 1) := by decide +kernel
theorem d_M_asked_61 : decode b_M_asked 61 = .ok (.goto 4, 3) := by decide +kernel
theorem d_M_asked_64 : decode b_M_asked 64 = .ok (.iconst (-1), 1) := by decide +kernel
theorem d_M_asked_65 : decode b_M_asked 65 = .ok (.ireturn, 1) := by decide +kernel

abbrev b_M_founder : ByteArray := prog_9_method_50_code
def y_M_founder : MethodName := ⟨"RegistryLogModel", "founder", "(I)I"⟩
theorem d_M_founder_0 : decode b_M_founder 0 = .ok (.aload_n 0, 1) := by decide +kernel
theorem d_M_founder_1 : decode b_M_founder 1 = .ok (.iconst 0, 1) := by decide +kernel
theorem d_M_founder_2 : decode b_M_founder 2 = .ok (.putfield 108, 3) := by decide +kernel
theorem d_M_founder_5 : decode b_M_founder 5 = .ok (.aload_n 0, 1) := by decide +kernel
theorem d_M_founder_6 : decode b_M_founder 6 = .ok (.iload_n 1, 1) := by decide +kernel
theorem d_M_founder_7 : decode b_M_founder 7 = .ok (.invokevirtual 255, 3) := by decide +kernel
theorem d_M_founder_10 : decode b_M_founder 10 = .ok (.istore_n 2, 1) := by decide +kernel
theorem d_M_founder_11 : decode b_M_founder 11 = .ok (.iload_n 2, 1) := by decide +kernel
theorem d_M_founder_12 : decode b_M_founder 12 = .ok (.iconst (-1), 1) := by decide +kernel
theorem d_M_founder_13 : decode b_M_founder 13 = .ok (.if_icmp .ne 7, 3) := by decide +kernel
theorem d_M_founder_16 : decode b_M_founder 16 = .ok (.iconst (-1), 1) := by decide +kernel
theorem d_M_founder_17 : decode b_M_founder 17 = .ok (.goto 14, 3) := by decide +kernel
theorem d_M_founder_20 : decode b_M_founder 20 = .ok (.aload_n 0, 1) := by decide +kernel
theorem d_M_founder_21 : decode b_M_founder 21 = .ok (.getfield 62, 3) := by decide +kernel
theorem d_M_founder_24 : decode b_M_founder 24 = .ok (.aload_n 0, 1) := by decide +kernel
theorem d_M_founder_25 : decode b_M_founder 25 = .ok (.getfield 59, 3) := by decide +kernel
theorem d_M_founder_28 : decode b_M_founder 28 = .ok (.iload_n 2, 1) := by decide +kernel
theorem d_M_founder_29 : decode b_M_founder 29 = .ok (.iaload, 1) := by decide +kernel
theorem d_M_founder_30 : decode b_M_founder 30 = .ok (.iaload, 1) := by decide +kernel
theorem d_M_founder_31 : decode b_M_founder 31 = .ok (.ireturn, 1) := by decide +kernel

abbrev b_M_has : ByteArray := prog_9_method_51_code
def y_M_has : MethodName := ⟨"RegistryLogModel", "has", "(II)Z"⟩
theorem d_M_has_0 : decode b_M_has 0 = .ok (.aload_n 0, 1) := by decide +kernel
theorem d_M_has_1 : decode b_M_has 1 = .ok (.iconst 0, 1) := by decide +kernel
theorem d_M_has_2 : decode b_M_has 2 = .ok (.putfield 108, 3) := by decide +kernel
theorem d_M_has_5 : decode b_M_has 5 = .ok (.aload_n 0, 1) := by decide +kernel
theorem d_M_has_6 : decode b_M_has 6 = .ok (.iload_n 1, 1) := by decide +kernel
theorem d_M_has_7 : decode b_M_has 7 = .ok (.invokevirtual 255, 3) := by decide +kernel
theorem d_M_has_10 : decode b_M_has 10 = .ok (.istore_n 3, 1) := by decide +kernel
theorem d_M_has_11 : decode b_M_has 11 = .ok (.iload_n 3, 1) := by decide +kernel
theorem d_M_has_12 : decode b_M_has 12 = .ok (.iconst (-1), 1) := by decide +kernel
theorem d_M_has_13 : decode b_M_has 13 = .ok (.if_icmp .eq 23, 3) := by decide +kernel
theorem d_M_has_16 : decode b_M_has 16 = .ok (.iload_n 2, 1) := by decide +kernel
theorem d_M_has_17 : decode b_M_has 17 = .ok (.invokestatic 165, 3) := by decide +kernel
theorem d_M_has_20 : decode b_M_has 20 = .ok (.ifCond .eq 16, 3) := by decide +kernel
theorem d_M_has_23 : decode b_M_has 23 = .ok (.aload_n 0, 1) := by decide +kernel
theorem d_M_has_24 : decode b_M_has 24 = .ok (.iload_n 3, 1) := by decide +kernel
theorem d_M_has_25 : decode b_M_has 25 = .ok (.iload_n 2, 1) := by decide +kernel
theorem d_M_has_26 : decode b_M_has 26 = .ok (.invokevirtual 178, 3) := by decide +kernel
theorem d_M_has_29 : decode b_M_has 29 = .ok (.ifCond .eq 7, 3) := by decide +kernel
theorem d_M_has_32 : decode b_M_has 32 = .ok (.iconst 1, 1) := by decide +kernel
theorem d_M_has_33 : decode b_M_has 33 = .ok (.goto 4, 3) := by decide +kernel
theorem d_M_has_36 : decode b_M_has 36 = .ok (.iconst 0, 1) := by decide +kernel
theorem d_M_has_37 : decode b_M_has 37 = .ok (.ireturn, 1) := by decide +kernel

abbrev b_M_versionAsked : ByteArray := prog_9_method_52_code
def y_M_versionAsked : MethodName := ⟨"RegistryLogModel", "versionAsked", "(II)I"⟩
theorem d_M_versionAsked_0 : decode b_M_versionAsked 0 = .ok (.aload_n 0, 1) := by decide +kernel
theorem d_M_versionAsked_1 : decode b_M_versionAsked 1 = .ok (.iload_n 1, 1) := by decide +kernel
theorem d_M_versionAsked_2 : decode b_M_versionAsked 2 = .ok (.invokevirtual 255, 3) := by decide +kernel
theorem d_M_versionAsked_5 : decode b_M_versionAsked 5 = .ok (.istore_n 3, 1) := by decide +kernel
theorem d_M_versionAsked_6 : decode b_M_versionAsked 6 = .ok (.iload_n 3, 1) := by decide +kernel
theorem d_M_versionAsked_7 : decode b_M_versionAsked 7 = .ok (.iconst (-1), 1) := by decide +kernel
theorem d_M_versionAsked_8 : decode b_M_versionAsked 8 = .ok (.if_icmp .ne 7, 3) := by decide +kernel
theorem d_M_versionAsked_11 : decode b_M_versionAsked 11 = .ok (.iconst (-1), 1) := by decide +kernel
theorem d_M_versionAsked_12 : decode b_M_versionAsked 12 = .ok (.goto 14, 3) := by decide +kernel
theorem d_M_versionAsked_15 : decode b_M_versionAsked 15 = .ok (.aload_n 0, 1) := by decide +kernel
theorem d_M_versionAsked_16 : decode b_M_versionAsked 16 = .ok (.aload_n 0, 1) := by decide +kernel
theorem d_M_versionAsked_17 : decode b_M_versionAsked 17 = .ok (.getfield 59, 3) := by decide +kernel
theorem d_M_versionAsked_20 : decode b_M_versionAsked 20 = .ok (.iload_n 3, 1) := by decide +kernel
theorem d_M_versionAsked_21 : decode b_M_versionAsked 21 = .ok (.iaload, 1) := by decide +kernel
theorem d_M_versionAsked_22 : decode b_M_versionAsked 22 = .ok (.iload_n 2, 1) := by decide +kernel
theorem d_M_versionAsked_23 : decode b_M_versionAsked 23 = .ok (.invokevirtual 150, 3) := by decide +kernel
theorem d_M_versionAsked_26 : decode b_M_versionAsked 26 = .ok (.ireturn, 1) := by decide +kernel

abbrev b_M_version : ByteArray := prog_9_method_53_code
def y_M_version : MethodName := ⟨"RegistryLogModel", "version", "(II)I"⟩
theorem d_M_version_0 : decode b_M_version 0 = .ok (.aload_n 0, 1) := by decide +kernel
theorem d_M_version_1 : decode b_M_version 1 = .ok (.iconst 0, 1) := by decide +kernel
theorem d_M_version_2 : decode b_M_version 2 = .ok (.putfield 108, 3) := by decide +kernel
theorem d_M_version_5 : decode b_M_version 5 = .ok (.aload_n 0, 1) := by decide +kernel
theorem d_M_version_6 : decode b_M_version 6 = .ok (.iload_n 1, 1) := by decide +kernel
theorem d_M_version_7 : decode b_M_version 7 = .ok (.iload_n 2, 1) := by decide +kernel
theorem d_M_version_8 : decode b_M_version 8 = .ok (.invokevirtual 258, 3) := by decide +kernel
theorem d_M_version_11 : decode b_M_version 11 = .ok (.istore_n 3, 1) := by decide +kernel
theorem d_M_version_12 : decode b_M_version 12 = .ok (.iload_n 3, 1) := by decide +kernel
theorem d_M_version_13 : decode b_M_version 13 = .ok (.iconst (-1), 1) := by decide +kernel
theorem d_M_version_14 : decode b_M_version 14 = .ok (.if_icmp .ne 7, 3) := by decide +kernel
theorem d_M_version_17 : decode b_M_version 17 = .ok (.iconst 0, 1) := by decide +kernel
theorem d_M_version_18 : decode b_M_version 18 = .ok (.goto 11, 3) := by decide +kernel
theorem d_M_version_21 : decode b_M_version 21 = .ok (.iconst 1, 1) := by decide +kernel
theorem d_M_version_22 : decode b_M_version 22 = .ok (.aload_n 0, 1) := by decide +kernel
theorem d_M_version_23 : decode b_M_version 23 = .ok (.getfield 77, 3) := by decide +kernel
theorem d_M_version_26 : decode b_M_version 26 = .ok (.iload_n 3, 1) := by decide +kernel
theorem d_M_version_27 : decode b_M_version 27 = .ok (.iaload, 1) := by decide +kernel
theorem d_M_version_28 : decode b_M_version 28 = .ok (.iadd, 1) := by decide +kernel
theorem d_M_version_29 : decode b_M_version 29 = .ok (.ireturn, 1) := by decide +kernel

abbrev b_M_sum : ByteArray := prog_9_method_54_code
def y_M_sum : MethodName := ⟨"RegistryLogModel", "sum", "(II)I"⟩
theorem d_M_sum_0 : decode b_M_sum 0 = .ok (.aload_n 0, 1) := by decide +kernel
theorem d_M_sum_1 : decode b_M_sum 1 = .ok (.iconst 0, 1) := by decide +kernel
theorem d_M_sum_2 : decode b_M_sum 2 = .ok (.putfield 108, 3) := by decide +kernel
theorem d_M_sum_5 : decode b_M_sum 5 = .ok (.aload_n 0, 1) := by decide +kernel
theorem d_M_sum_6 : decode b_M_sum 6 = .ok (.iload_n 1, 1) := by decide +kernel
theorem d_M_sum_7 : decode b_M_sum 7 = .ok (.iload_n 2, 1) := by decide +kernel
theorem d_M_sum_8 : decode b_M_sum 8 = .ok (.invokevirtual 258, 3) := by decide +kernel
theorem d_M_sum_11 : decode b_M_sum 11 = .ok (.istore_n 3, 1) := by decide +kernel
theorem d_M_sum_12 : decode b_M_sum 12 = .ok (.iload_n 3, 1) := by decide +kernel
theorem d_M_sum_13 : decode b_M_sum 13 = .ok (.iconst (-1), 1) := by decide +kernel
theorem d_M_sum_14 : decode b_M_sum 14 = .ok (.if_icmp .ne 7, 3) := by decide +kernel
theorem d_M_sum_17 : decode b_M_sum 17 = .ok (.iconst 0, 1) := by decide +kernel
theorem d_M_sum_18 : decode b_M_sum 18 = .ok (.goto 9, 3) := by decide +kernel
theorem d_M_sum_21 : decode b_M_sum 21 = .ok (.aload_n 0, 1) := by decide +kernel
theorem d_M_sum_22 : decode b_M_sum 22 = .ok (.getfield 74, 3) := by decide +kernel
theorem d_M_sum_25 : decode b_M_sum 25 = .ok (.iload_n 3, 1) := by decide +kernel
theorem d_M_sum_26 : decode b_M_sum 26 = .ok (.iaload, 1) := by decide +kernel
theorem d_M_sum_27 : decode b_M_sum 27 = .ok (.ireturn, 1) := by decide +kernel
