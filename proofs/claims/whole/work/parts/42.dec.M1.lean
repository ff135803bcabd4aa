abbrev b_M_init : ByteArray := prog_9_method_1_code
def y_M_init : MethodName := ⟨"RegistryLogModel", "<init>", "()V"⟩
theorem d_M_init_0 : decode b_M_init 0 = .ok (.aload_n 0, 1) := by decide +kernel
theorem d_M_init_1 : decode b_M_init 1 = .ok (.invokespecial 1, 3) := by decide +kernel
theorem d_M_init_4 : decode b_M_init 4 = .ok (.aload_n 0, 1) := by decide +kernel
theorem d_M_init_5 : decode b_M_init 5 = .ok (.bipush 24, 2) := by decide +kernel
theorem d_M_init_7 : decode b_M_init 7 = .ok (.newarray .int, 2) := by decide +kernel
theorem d_M_init_9 : decode b_M_init 9 = .ok (.putfield 7, 3) := by decide +kernel
theorem d_M_init_12 : decode b_M_init 12 = .ok (.aload_n 0, 1) := by decide +kernel
theorem d_M_init_13 : decode b_M_init 13 = .ok (.bipush 120, 2) := by decide +kernel
theorem d_M_init_15 : decode b_M_init 15 = .ok (.newarray .int, 2) := by decide +kernel
theorem d_M_init_17 : decode b_M_init 17 = .ok (.putfield 13, 3) := by decide +kernel
theorem d_M_init_20 : decode b_M_init 20 = .ok (.aload_n 0, 1) := by decide +kernel
theorem d_M_init_21 : decode b_M_init 21 = .ok (.bipush 120, 2) := by decide +kernel
theorem d_M_init_23 : decode b_M_init 23 = .ok (.newarray .int, 2) := by decide +kernel
theorem d_M_init_25 : decode b_M_init 25 = .ok (.putfield 16, 3) := by decide +kernel
theorem d_M_init_28 : decode b_M_init 28 = .ok (.aload_n 0, 1) := by decide +kernel
theorem d_M_init_29 : decode b_M_init 29 = .ok (.bipush 120, 2) := by decide +kernel
theorem d_M_init_31 : decode b_M_init 31 = .ok (.newarray .int, 2) := by decide +kernel
theorem d_M_init_33 : decode b_M_init 33 = .ok (.putfield 19, 3) := by decide +kernel
theorem d_M_init_36 : decode b_M_init 36 = .ok (.aload_n 0, 1) := by decide +kernel
theorem d_M_init_37 : decode b_M_init 37 = .ok (.bipush 120, 2) := by decide +kernel
theorem d_M_init_39 : decode b_M_init 39 = .ok (.newarray .int, 2) := by decide +kernel
theorem d_M_init_41 : decode b_M_init 41 = .ok (.putfield 22, 3) := by decide +kernel
theorem d_M_init_44 : decode b_M_init 44 = .ok (.aload_n 0, 1) := by decide +kernel
theorem d_M_init_45 : decode b_M_init 45 = .ok (.bipush 120, 2) := by decide +kernel
theorem d_M_init_47 : decode b_M_init 47 = .ok (.newarray .int, 2) := by decide +kernel
theorem d_M_init_49 : decode b_M_init 49 = .ok (.putfield 25, 3) := by decide +kernel
theorem d_M_init_52 : decode b_M_init 52 = .ok (.aload_n 0, 1) := by decide +kernel
theorem d_M_init_53 : decode b_M_init 53 = .ok (.bipush 120, 2) := by decide +kernel
theorem d_M_init_55 : decode b_M_init 55 = .ok (.newarray .int, 2) := by decide +kernel
theorem d_M_init_57 : decode b_M_init 57 = .ok (.putfield 28, 3) := by decide +kernel
theorem d_M_init_60 : decode b_M_init 60 = .ok (.aload_n 0, 1) := by decide +kernel
theorem d_M_init_61 : decode b_M_init 61 = .ok (.sipush 1200, 3) := by decide +kernel
theorem d_M_init_64 : decode b_M_init 64 = .ok (.newarray .int, 2) := by decide +kernel
theorem d_M_init_66 : decode b_M_init 66 = .ok (.putfield 31, 3) := by decide +kernel
theorem d_M_init_69 : decode b_M_init 69 = .ok (.aload_n 0, 1) := by decide +kernel
theorem d_M_init_70 : decode b_M_init 70 = .ok (.sipush 1200, 3) := by decide +kernel
theorem d_M_init_73 : decode b_M_init 73 = .ok (.newarray .int, 2) := by decide +kernel
theorem d_M_init_75 : decode b_M_init 75 = .ok (.putfield 34, 3) := by decide +kernel
theorem d_M_init_78 : decode b_M_init 78 = .ok (.aload_n 0, 1) := by decide +kernel
theorem d_M_init_79 : decode b_M_init 79 = .ok (.sipush 600, 3) := by decide +kernel
theorem d_M_init_82 : decode b_M_init 82 = .ok (.newarray .int, 2) := by decide +kernel
theorem d_M_init_84 : decode b_M_init 84 = .ok (.putfield 37, 3) := by decide +kernel
theorem d_M_init_87 : decode b_M_init 87 = .ok (.aload_n 0, 1) := by decide +kernel
theorem d_M_init_88 : decode b_M_init 88 = .ok (.iconst 5, 1) := by decide +kernel
theorem d_M_init_89 : decode b_M_init 89 = .ok (.newarray .int, 2) := by decide +kernel
theorem d_M_init_91 : decode b_M_init 91 = .ok (.putfield 40, 3) := by decide +kernel
theorem d_M_init_94 : decode b_M_init 94 = .ok (.aload_n 0, 1) := by decide +kernel
theorem d_M_init_95 : decode b_M_init 95 = .ok (.bipush 16, 2) := by decide +kernel
theorem d_M_init_97 : decode b_M_init 97 = .ok (.newarray .long, 2) := by decide +kernel
theorem d_M_init_99 : decode b_M_init 99 = .ok (.putfield 43, 3) := by decide +kernel
theorem d_M_init_102 : decode b_M_init 102 = .ok (.aload_n 0, 1) := by decide +kernel
theorem d_M_init_103 : decode b_M_init 103 = .ok (.bipush 16, 2) := by decide +kernel
theorem d_M_init_105 : decode b_M_init 105 = .ok (.newarray .long, 2) := by decide +kernel
theorem d_M_init_107 : decode b_M_init 107 = .ok (.putfield 47, 3) := by decide +kernel
theorem d_M_init_110 : decode b_M_init 110 = .ok (.aload_n 0, 1) := by decide +kernel
theorem d_M_init_111 : decode b_M_init 111 = .ok (.sipush 2400, 3) := by decide +kernel
theorem d_M_init_114 : decode b_M_init 114 = .ok (.newarray .int, 2) := by decide +kernel
theorem d_M_init_116 : decode b_M_init 116 = .ok (.putfield 50, 3) := by decide +kernel
theorem d_M_init_119 : decode b_M_init 119 = .ok (.aload_n 0, 1) := by decide +kernel
theorem d_M_init_120 : decode b_M_init 120 = .ok (.sipush 240, 3) := by decide +kernel
theorem d_M_init_123 : decode b_M_init 123 = .ok (.newarray .int, 2) := by decide +kernel
theorem d_M_init_125 : decode b_M_init 125 = .ok (.putfield 53, 3) := by decide +kernel
theorem d_M_init_128 : decode b_M_init 128 = .ok (.aload_n 0, 1) := by decide +kernel
theorem d_M_init_129 : decode b_M_init 129 = .ok (.sipush 240, 3) := by decide +kernel
theorem d_M_init_132 : decode b_M_init 132 = .ok (.newarray .int, 2) := by decide +kernel
theorem d_M_init_134 : decode b_M_init 134 = .ok (.putfield 56, 3) := by decide +kernel
theorem d_M_init_137 : decode b_M_init 137 = .ok (.aload_n 0, 1) := by decide +kernel
theorem d_M_init_138 : decode b_M_init 138 = .ok (.sipush 240, 3) := by decide +kernel
theorem d_M_init_141 : decode b_M_init 141 = .ok (.newarray .int, 2) := by decide +kernel
theorem d_M_init_143 : decode b_M_init 143 = .ok (.putfield 59, 3) := by decide +kernel
theorem d_M_init_146 : decode b_M_init 146 = .ok (.aload_n 0, 1) := by decide +kernel
theorem d_M_init_147 : decode b_M_init 147 = .ok (.bipush 120, 2) := by decide +kernel
theorem d_M_init_149 : decode b_M_init 149 = .ok (.newarray .int, 2) := by decide +kernel
theorem d_M_init_151 : decode b_M_init 151 = .ok (.putfield 62, 3) := by decide +kernel
theorem d_M_init_154 : decode b_M_init 154 = .ok (.aload_n 0, 1) := by decide +kernel
theorem d_M_init_155 : decode b_M_init 155 = .ok (.bipush 120, 2) := by decide +kernel
theorem d_M_init_157 : decode b_M_init 157 = .ok (.newarray .int, 2) := by decide +kernel
theorem d_M_init_159 : decode b_M_init 159 = .ok (.putfield 65, 3) := by decide +kernel
theorem d_M_init_162 : decode b_M_init 162 = .ok (.aload_n 0, 1) := by decide +kernel
theorem d_M_init_163 : decode b_M_init 163 = .ok (.bipush 120, 2) := by decide +kernel
theorem d_M_init_165 : decode b_M_init 165 = .ok (.newarray .int, 2) := by decide +kernel
theorem d_M_init_167 : decode b_M_init 167 = .ok (.putfield 68, 3) := by decide +kernel
theorem d_M_init_170 : decode b_M_init 170 = .ok (.aload_n 0, 1) := by decide +kernel
theorem d_M_init_171 : decode b_M_init 171 = .ok (.bipush 120, 2) := by decide +kernel
theorem d_M_init_173 : decode b_M_init 173 = .ok (.newarray .int, 2) := by decide +kernel
theorem d_M_init_175 : decode b_M_init 175 = .ok (.putfield 71, 3) := by decide +kernel
theorem d_M_init_178 : decode b_M_init 178 = .ok (.aload_n 0, 1) := by decide +kernel
theorem d_M_init_179 : decode b_M_init 179 = .ok (.bipush 120, 2) := by decide +kernel
theorem d_M_init_181 : decode b_M_init 181 = .ok (.newarray .int, 2) := by decide +kernel
theorem d_M_init_183 : decode b_M_init 183 = .ok (.putfield 74, 3) := by decide +kernel
theorem d_M_init_186 : decode b_M_init 186 = .ok (.aload_n 0, 1) := by decide +kernel
theorem d_M_init_187 : decode b_M_init 187 = .ok (.bipush 120, 2) := by decide +kernel
theorem d_M_init_189 : decode b_M_init 189 = .ok (.newarray .int, 2) := by decide +kernel
theorem d_M_init_191 : decode b_M_init 191 = .ok (.putfield 77, 3) := by decide +kernel
theorem d_M_init_194 : decode b_M_init 194 = .ok (.aload_n 0, 1) := by decide +kernel
theorem d_M_init_195 : decode b_M_init 195 = .ok (.bipush 10, 2) := by decide +kernel
theorem d_M_init_197 : decode b_M_init 197 = .ok (.newarray .int, 2) := by decide +kernel
theorem d_M_init_199 : decode b_M_init 199 = .ok (.putfield 80, 3) := by decide +kernel
theorem d_M_init_202 : decode b_M_init 202 = .ok (.aload_n 0, 1) := by decide +kernel
theorem d_M_init_203 : decode b_M_init 203 = .ok (.bipush 10, 2) := by decide +kernel
theorem d_M_init_205 : decode b_M_init 205 = .ok (.newarray .int, 2) := by decide +kernel
theorem d_M_init_207 : decode b_M_init 207 = .ok (.putfield 83, 3) := by decide +kernel
theorem d_M_init_210 : decode b_M_init 210 = .ok (.aload_n 0, 1) := by decide +kernel
theorem d_M_init_211 : decode b_M_init 211 = .ok (.bipush 10, 2) := by decide +kernel
theorem d_M_init_213 : decode b_M_init 213 = .ok (.newarray .int, 2) := by decide +kernel
theorem d_M_init_215 : decode b_M_init 215 = .ok (.putfield 86, 3) := by decide +kernel
theorem d_M_init_218 : decode b_M_init 218 = .ok (.aload_n 0, 1) := by decide +kernel
theorem d_M_init_219 : decode b_M_init 219 = .ok (.bipush 10, 2) := by decide +kernel
theorem d_M_init_221 : decode b_M_init 221 = .ok (.newarray .int, 2) := by decide +kernel
theorem d_M_init_223 : decode b_M_init 223 = .ok (.putfield 89, 3) := by decide +kernel
theorem d_M_init_226 : decode b_M_init 226 = .ok (.aload_n 0, 1) := by decide +kernel
theorem d_M_init_227 : decode b_M_init 227 = .ok (.sipush 128, 3) := by decide +kernel
theorem d_M_init_230 : decode b_M_init 230 = .ok (.newarray .long, 2) := by decide +kernel
theorem d_M_init_232 : decode b_M_init 232 = .ok (.putfield 92, 3) := by decide +kernel
theorem d_M_init_235 : decode b_M_init 235 = .ok (.aload_n 0, 1) := by decide +kernel
theorem d_M_init_236 : decode b_M_init 236 = .ok (.bipush 8, 2) := by decide +kernel
theorem d_M_init_238 : decode b_M_init 238 = .ok (.newarray .long, 2) := by decide +kernel
theorem d_M_init_240 : decode b_M_init 240 = .ok (.putfield 95, 3) := by decide +kernel
theorem d_M_init_243 : decode b_M_init 243 = .ok (.aload_n 0, 1) := by decide +kernel
theorem d_M_init_244 : decode b_M_init 244 = .ok (.bipush 16, 2) := by decide +kernel
theorem d_M_init_246 : decode b_M_init 246 = .ok (.newarray .int, 2) := by decide +kernel
theorem d_M_init_248 : decode b_M_init 248 = .ok (.putfield 98, 3) := by decide +kernel
theorem d_M_init_251 : decode b_M_init 251 = .ok (.aload_n 0, 1) := by decide +kernel
theorem d_M_init_252 : decode b_M_init 252 = .ok (.bipush 16, 2) := by decide +kernel
theorem d_M_init_254 : decode b_M_init 254 = .ok (.newarray .int, 2) := by decide +kernel
theorem d_M_init_256 : decode b_M_init 256 = .ok (.putfield 101, 3) := by decide +kernel
theorem d_M_init_259 : decode b_M_init 259 = .ok (.aload_n 0, 1) := by decide +kernel
theorem d_M_init_260 : decode b_M_init 260 = .ok (.bipush 16, 2) := by decide +kernel
theorem d_M_init_262 : decode b_M_init 262 = .ok (.newarray .boolean, 2) := by decide +kernel
theorem d_M_init_264 : decode b_M_init 264 = .ok (.putfield 104, 3) := by decide +kernel
theorem d_M_init_267 : decode b_M_init 267 = .ok (.return_, 1) := by decide +kernel

abbrev b_M_thrown : ByteArray := prog_9_method_2_code
def y_M_thrown : MethodName := ⟨"RegistryLogModel", "thrown", "()I"⟩
theorem d_M_thrown_0 : decode b_M_thrown 0 = .ok (.aload_n 0, 1) := by decide +kernel
theorem d_M_thrown_1 : decode b_M_thrown 1 = .ok (.getfield 108, 3) := by decide +kernel
theorem d_M_thrown_4 : decode b_M_thrown 4 = .ok (.ireturn, 1) := by decide +kernel

abbrev b_M_refuses : ByteArray := prog_9_method_3_code
def y_M_refuses : MethodName := ⟨"RegistryLogModel", "refuses", "(ZZ)Z"⟩
theorem d_M_refuses_0 : decode b_M_refuses 0 = .ok (.aload_n 0, 1) := by decide +kernel
theorem d_M_refuses_1 : decode b_M_refuses 1 = .ok (.iload_n 1, 1) := by decide +kernel
theorem d_M_refuses_2 : decode b_M_refuses 2 = .ok (.ifCond .eq 7, 3) := by decide +kernel
theorem d_M_refuses_5 : decode b_M_refuses 5 = .ok (.iconst 1, 1) := by decide +kernel
theorem d_M_refuses_6 : decode b_M_refuses 6 = .ok (.goto 12, 3) := by decide +kernel
theorem d_M_refuses_9 : decode b_M_refuses 9 = .ok (.iload_n 2, 1) := by decide +kernel
theorem d_M_refuses_10 : decode b_M_refuses 10 = .ok (.ifCond .eq 7, 3) := by decide +kernel
theorem d_M_refuses_13 : decode b_M_refuses 13 = .ok (.iconst 2, 1) := by decide +kernel
theorem d_M_refuses_14 : decode b_M_refuses 14 = .ok (.goto 4, 3) := by decide +kernel
theorem d_M_refuses_17 : decode b_M_refuses 17 = .ok (.iconst 0, 1) := by decide +kernel
theorem d_M_refuses_18 : decode b_M_refuses 18 = .ok (.putfield 108, 3) := by decide +kernel
theorem d_M_refuses_21 : decode b_M_refuses 21 = .ok (.aload_n 0, 1) := by decide +kernel
theorem d_M_refuses_22 : decode b_M_refuses 22 = .ok (.getfield 108, 3) := by decide +kernel
theorem d_M_refuses_25 : decode b_M_refuses 25 = .ok (.ifCond .le 7, 3) := by decide +kernel
theorem d_M_refuses_28 : decode b_M_refuses 28 = .ok (.iconst 1, 1) := by decide +kernel
theorem d_M_refuses_29 : decode b_M_refuses 29 = .ok (.goto 4, 3) := by decide +kernel
theorem d_M_refuses_32 : decode b_M_refuses 32 = .ok (.iconst 0, 1) := by decide +kernel
theorem d_M_refuses_33 : decode b_M_refuses 33 = .ok (.ireturn, 1) := by decide +kernel

abbrev b_M_type : ByteArray := prog_9_method_4_code
def y_M_type : MethodName := ⟨"RegistryLogModel", "type", "(C)Z"⟩
theorem d_M_type_0 : decode b_M_type 0 = .ok (.aload_n 0, 1) := by decide +kernel
theorem d_M_type_1 : decode b_M_type 1 = .ok (.iconst 0, 1) := by decide +kernel
theorem d_M_type_2 : decode b_M_type 2 = .ok (.putfield 108, 3) := by decide +kernel
theorem d_M_type_5 : decode b_M_type 5 = .ok (.iload_n 1, 1) := by decide +kernel
theorem d_M_type_6 : decode b_M_type 6 = .ok (.bipush 32, 2) := by decide +kernel
theorem d_M_type_8 : decode b_M_type 8 = .ok (.if_icmp .lt 18, 3) := by decide +kernel
theorem d_M_type_11 : decode b_M_type 11 = .ok (.iload_n 1, 1) := by decide +kernel
theorem d_M_type_12 : decode b_M_type 12 = .ok (.bipush 126, 2) := by decide +kernel
theorem d_M_type_14 : decode b_M_type 14 = .ok (.if_icmp .gt 12, 3) := by decide +kernel
theorem d_M_type_17 : decode b_M_type 17 = .ok (.aload_n 0, 1) := by decide +kernel
theorem d_M_type_18 : decode b_M_type 18 = .ok (.getfield 112, 3) := by decide +kernel
theorem d_M_type_21 : decode b_M_type 21 = .ok (.bipush 24, 2) := by decide +kernel
theorem d_M_type_23 : decode b_M_type 23 = .ok (.if_icmp .ne 5, 3) := by decide +kernel
theorem d_M_type_26 : decode b_M_type 26 = .ok (.iconst 0, 1) := by decide +kernel
theorem d_M_type_27 : decode b_M_type 27 = .ok (.ireturn, 1) := by decide +kernel
theorem d_M_type_28 : decode b_M_type 28 = .ok (.aload_n 0, 1) := by decide +kernel
theorem d_M_type_29 : decode b_M_type 29 = .ok (.getfield 7, 3) := by decide +kernel
theorem d_M_type_32 : decode b_M_type 32 = .ok (.aload_n 0, 1) := by decide +kernel
theorem d_M_type_33 : decode b_M_type 33 = .ok (.getfield 112, 3) := by decide +kernel
theorem d_M_type_36 : decode b_M_type 36 = .ok (.iload_n 1, 1) := by decide +kernel
theorem d_M_type_37 : decode b_M_type 37 = .ok (.iastore, 1) := by decide +kernel
theorem d_M_type_38 : decode b_M_type 38 = .ok (.aload_n 0, 1) := by decide +kernel
theorem d_M_type_39 : decode b_M_type 39 = .ok (.dup, 1) := by decide +kernel
theorem d_M_type_40 : decode b_M_type 40 = .ok (.getfield 112, 3) := by decide +kernel
theorem d_M_type_43 : decode b_M_type 43 = .ok (.iconst 1, 1) := by decide +kernel
theorem d_M_type_44 : decode b_M_type 44 = .ok (.iadd, 1) := by decide +kernel
theorem d_M_type_45 : decode b_M_type 45 = .ok (.putfield 112, 3) := by decide +kernel
theorem d_M_type_48 : decode b_M_type 48 = .ok (.iconst 1, 1) := by decide +kernel
theorem d_M_type_49 : decode b_M_type 49 = .ok (.ireturn, 1) := by decide +kernel

abbrev b_M_isLetter : ByteArray := prog_9_method_5_code
def y_M_isLetter : MethodName := ⟨"RegistryLogModel", "isLetter", "(I)Z"⟩
theorem d_M_isLetter_0 : decode b_M_isLetter 0 = .ok (.iload_n 0, 1) := by decide +kernel
theorem d_M_isLetter_1 : decode b_M_isLetter 1 = .ok (.bipush 97, 2) := by decide +kernel
theorem d_M_isLetter_3 : decode b_M_isLetter 3 = .ok (.if_icmp .lt 13, 3) := by decide +kernel
theorem d_M_isLetter_6 : decode b_M_isLetter 6 = .ok (.iload_n 0, 1) := by decide +kernel
theorem d_M_isLetter_7 : decode b_M_isLetter 7 = .ok (.bipush 122, 2) := by decide +kernel
theorem d_M_isLetter_9 : decode b_M_isLetter 9 = .ok (.if_icmp .gt 7, 3) := by decide +kernel
theorem d_M_isLetter_12 : decode b_M_isLetter 12 = .ok (.iconst 1, 1) := by decide +kernel
theorem d_M_isLetter_13 : decode b_M_isLetter 13 = .ok (.goto 4, 3) := by decide +kernel
theorem d_M_isLetter_16 : decode b_M_isLetter 16 = .ok (.iconst 0, 1) := by decide +kernel
theorem d_M_isLetter_17 : decode b_M_isLetter 17 = .ok (.ireturn, 1) := by decide +kernel

abbrev b_M_isName : ByteArray := prog_9_method_6_code
def y_M_isName : MethodName := ⟨"RegistryLogModel", "isName", "(II)Z"⟩
theorem d_M_isName_0 : decode b_M_isName 0 = .ok (.iload_n 2, 1) := by decide +kernel
theorem d_M_isName_1 : decode b_M_isName 1 = .ok (.iload_n 1, 1) := by decide +kernel
theorem d_M_isName_2 : decode b_M_isName 2 = .ok (.isub, 1) := by decide +kernel
theorem d_M_isName_3 : decode b_M_isName 3 = .ok (.iconst 1, 1) := by decide +kernel
theorem d_M_isName_4 : decode b_M_isName 4 = .ok (.if_icmp .lt 41, 3) := by decide +kernel
theorem d_M_isName_7 : decode b_M_isName 7 = .ok (.iload_n 2, 1) := by decide +kernel
theorem d_M_isName_8 : decode b_M_isName 8 = .ok (.iload_n 1, 1) := by decide +kernel
theorem d_M_isName_9 : decode b_M_isName 9 = .ok (.isub, 1) := by decide +kernel
theorem d_M_isName_10 : decode b_M_isName 10 = .ok (.bipush 10, 2) := by decide +kernel
theorem d_M_isName_12 : decode b_M_isName 12 = .ok (.if_icmp .gt 33, 3) := by decide +kernel
theorem d_M_isName_15 : decode b_M_isName 15 = .ok (.aload_n 0, 1) := by decide +kernel
theorem d_M_isName_16 : decode b_M_isName 16 = .ok (.getfield 7, 3) := by decide +kernel
theorem d_M_isName_19 : decode b_M_isName 19 = .ok (.iload_n 1, 1) := by decide +kernel
theorem d_M_isName_20 : decode b_M_isName 20 = .ok (.iaload, 1) := by decide +kernel
theorem d_M_isName_21 : decode b_M_isName 21 = .ok (.invokestatic 115, 3) := by decide +kernel
theorem d_M_isName_24 : decode b_M_isName 24 = .ok (.ifCond .eq 21, 3) := by decide +kernel
theorem d_M_isName_27 : decode b_M_isName 27 = .ok (.aload_n 0, 1) := by decide +kernel
theorem d_M_isName_28 : decode b_M_isName 28 = .ok (.getfield 7, 3) := by decide +kernel
theorem d_M_isName_31 : decode b_M_isName 31 = .ok (.iload_n 2, 1) := by decide +kernel
theorem d_M_isName_32 : decode b_M_isName 32 = .ok (.iconst 1, 1) := by decide +kernel
theorem d_M_isName_33 : decode b_M_isName 33 = .ok (.isub, 1) := by decide +kernel
theorem d_M_isName_34 : decode b_M_isName 34 = .ok (.iaload, 1) := by decide +kernel
theorem d_M_isName_35 : decode b_M_isName 35 = .ok (.invokestatic 115, 3) := by decide +kernel
theorem d_M_isName_38 : decode b_M_isName 38 = .ok (.ifCond .eq 7, 3) := by decide +kernel
theorem d_M_isName_41 : decode b_M_isName 41 = .ok (.iconst 1, 1) := by decide +kernel
theorem d_M_isName_42 : decode b_M_isName 42 = .ok (.goto 4, 3) := by decide +kernel
theorem d_M_isName_45 : decode b_M_isName 45 = .ok (.iconst 0, 1) := by decide +kernel
theorem d_M_isName_46 : decode b_M_isName 46 = .ok (.istore_n 3, 1) := by decide +kernel
theorem d_M_isName_47 : decode b_M_isName 47 = .ok (.iload_n 1, 1) := by decide +kernel
theorem d_M_isName_48 : decode b_M_isName 48 = .ok (.istore 4, 2) := by decide +kernel
theorem d_M_isName_50 : decode b_M_isName 50 = .ok (.iload 4, 2) := by decide +kernel
theorem d_M_isName_52 : decode b_M_isName 52 = .ok (.iload_n 2, 1) := by decide +kernel
theorem d_M_isName_53 : decode b_M_isName 53 = .ok (.if_icmp .ge 58, 3) := by decide +kernel
theorem d_M_isName_56 : decode b_M_isName 56 = .ok (.iload_n 3, 1) := by decide +kernel
theorem d_M_isName_57 : decode b_M_isName 57 = .ok (.ifCond .eq 54, 3) := by decide +kernel
theorem d_M_isName_60 : decode b_M_isName 60 = .ok (.aload_n 0, 1) := by decide +kernel
theorem d_M_isName_61 : decode b_M_isName 61 = .ok (.getfield 7, 3) := by decide +kernel
theorem d_M_isName_64 : decode b_M_isName 64 = .ok (.iload 4, 2) := by decide +kernel
theorem d_M_isName_66 : decode b_M_isName 66 = .ok (.iaload, 1) := by decide +kernel
theorem d_M_isName_67 : decode b_M_isName 67 = .ok (.invokestatic 115, 3) := by decide +kernel
theorem d_M_isName_70 : decode b_M_isName 70 = .ok (.ifCond .ne 29, 3) := by decide +kernel
theorem d_M_isName_73 : decode b_M_isName 73 = .ok (.aload_n 0, 1) := by decide +kernel
theorem d_M_isName_74 : decode b_M_isName 74 = .ok (.getfield 7, 3) := by decide +kernel
theorem d_M_isName_77 : decode b_M_isName 77 = .ok (.iload 4, 2) := by decide +kernel
theorem d_M_isName_79 : decode b_M_isName 79 = .ok (.iaload, 1) := by decide +kernel
theorem d_M_isName_80 : decode b_M_isName 80 = .ok (.bipush 45, 2) := by decide +kernel
theorem d_M_isName_82 : decode b_M_isName 82 = .ok (.if_icmp .ne 21, 3) := by decide +kernel
theorem d_M_isName_85 : decode b_M_isName 85 = .ok (.aload_n 0, 1) := by decide +kernel
theorem d_M_isName_86 : decode b_M_isName 86 = .ok (.getfield 7, 3) := by decide +kernel
theorem d_M_isName_89 : decode b_M_isName 89 = .ok (.iload 4, 2) := by decide +kernel
theorem d_M_isName_91 : decode b_M_isName 91 = .ok (.iconst 1, 1) := by decide +kernel
theorem d_M_isName_92 : decode b_M_isName 92 = .ok (.isub, 1) := by decide +kernel
theorem d_M_isName_93 : decode b_M_isName 93 = .ok (.iaload, 1) := by decide +kernel
theorem d_M_isName_94 : decode b_M_isName 94 = .ok (.bipush 45, 2) := by decide +kernel
theorem d_M_isName_96 : decode b_M_isName 96 = .ok (.if_icmp .eq 7, 3) := by decide +kernel
theorem d_M_isName_99 : decode b_M_isName 99 = .ok (.iconst 1, 1) := by decide +kernel
theorem d_M_isName_100 : decode b_M_isName 100 = .ok (.goto 4, 3) := by decide +kernel
theorem d_M_isName_103 : decode b_M_isName 103 = .ok (.iconst 0, 1) := by decide +kernel
theorem d_M_isName_104 : decode b_M_isName 104 = .ok (.istore_n 3, 1) := by decide +kernel
theorem d_M_isName_105 : decode b_M_isName 105 = .ok (.iinc 4 1, 3) := by decide +kernel
theorem d_M_isName_108 : decode b_M_isName 108 = .ok (.goto (-58), 3) := by decide +kernel
theorem d_M_isName_111 : decode b_M_isName 111 = .ok (.iload_n 3, 1) := by decide +kernel
theorem d_M_isName_112 : decode b_M_isName 112 = .ok (.ireturn, 1) := by decide +kernel

abbrev b_M_takes : ByteArray := prog_9_method_7_code
def y_M_takes : MethodName := ⟨"RegistryLogModel", "takes", "(Z)Z"⟩
theorem d_M_takes_0 : decode b_M_takes 0 = .ok (.aload_n 0, 1) := by decide +kernel
theorem d_M_takes_1 : decode b_M_takes 1 = .ok (.getfield 112, 3) := by decide +kernel
theorem d_M_takes_4 : decode b_M_takes 4 = .ok (.istore_n 2, 1) := by decide +kernel
theorem d_M_takes_5 : decode b_M_takes 5 = .ok (.aload_n 0, 1) := by decide +kernel
theorem d_M_takes_6 : decode b_M_takes 6 = .ok (.iconst 0, 1) := by decide +kernel
theorem d_M_takes_7 : decode b_M_takes 7 = .ok (.putfield 112, 3) := by decide +kernel
theorem d_M_takes_10 : decode b_M_takes 10 = .ok (.iload_n 2, 1) := by decide +kernel
theorem d_M_takes_11 : decode b_M_takes 11 = .ok (.istore_n 3, 1) := by decide +kernel
theorem d_M_takes_12 : decode b_M_takes 12 = .ok (.iload_n 2, 1) := by decide +kernel
theorem d_M_takes_13 : decode b_M_takes 13 = .ok (.iconst 1, 1) := by decide +kernel
theorem d_M_takes_14 : decode b_M_takes 14 = .ok (.isub, 1) := by decide +kernel
theorem d_M_takes_15 : decode b_M_takes 15 = .ok (.istore 4, 2) := by decide +kernel
theorem d_M_takes_17 : decode b_M_takes 17 = .ok (.iload 4, 2) := by decide +kernel
theorem d_M_takes_19 : decode b_M_takes 19 = .ok (.ifCond .lt 32, 3) := by decide +kernel
theorem d_M_takes_22 : decode b_M_takes 22 = .ok (.iload_n 1, 1) := by decide +kernel
theorem d_M_takes_23 : decode b_M_takes 23 = .ok (.ifCond .eq 28, 3) := by decide +kernel
theorem d_M_takes_26 : decode b_M_takes 26 = .ok (.aload_n 0, 1) := by decide +kernel
theorem d_M_takes_27 : decode b_M_takes 27 = .ok (.getfield 7, 3) := by decide +kernel
theorem d_M_takes_30 : decode b_M_takes 30 = .ok (.iload 4, 2) := by decide +kernel
theorem d_M_takes_32 : decode b_M_takes 32 = .ok (.iaload, 1) := by decide +kernel
theorem d_M_takes_33 : decode b_M_takes 33 = .ok (.bipush 62, 2) := by decide +kernel
theorem d_M_takes_35 : decode b_M_takes 35 = .ok (.if_icmp .ne 8, 3) := by decide +kernel
theorem d_M_takes_38 : decode b_M_takes 38 = .ok (.iload 4, 2) := by decide +kernel
theorem d_M_takes_40 : decode b_M_takes 40 = .ok (.goto 4, 3) := by decide +kernel
theorem d_M_takes_43 : decode b_M_takes 43 = .ok (.iload_n 3, 1) := by decide +kernel
theorem d_M_takes_44 : decode b_M_takes 44 = .ok (.istore_n 3, 1) := by decide +kernel
theorem d_M_takes_45 : decode b_M_takes 45 = .ok (.iinc 4 (-1), 3) := by decide +kernel
theorem d_M_takes_48 : decode b_M_takes 48 = .ok (.goto (-31), 3) := by decide +kernel
theorem d_M_takes_51 : decode b_M_takes 51 = .ok (.iload_n 1, 1) := by decide +kernel
theorem d_M_takes_52 : decode b_M_takes 52 = .ok (.ifCond .eq 8, 3) := by decide +kernel
theorem d_M_takes_55 : decode b_M_takes 55 = .ok (.iload_n 3, 1) := by decide +kernel
theorem d_M_takes_56 : decode b_M_takes 56 = .ok (.iload_n 2, 1) := by decide +kernel
theorem d_M_takes_57 : decode b_M_takes 57 = .ok (.if_icmp .eq 27, 3) := by decide +kernel
theorem d_M_takes_60 : decode b_M_takes 60 = .ok (.aload_n 0, 1) := by decide +kernel
theorem d_M_takes_61 : decode b_M_takes 61 = .ok (.iconst 0, 1) := by decide +kernel
theorem d_M_takes_62 : decode b_M_takes 62 = .ok (.iload_n 3, 1) := by decide +kernel
theorem d_M_takes_63 : decode b_M_takes 63 = .ok (.invokevirtual 119, 3) := by decide +kernel
theorem d_M_takes_66 : decode b_M_takes 66 = .ok (.ifCond .eq 18, 3) := by decide +kernel
theorem d_M_takes_69 : decode b_M_takes 69 = .ok (.iload_n 1, 1) := by decide +kernel
theorem d_M_takes_70 : decode b_M_takes 70 = .ok (.ifCond .eq 16, 3) := by decide +kernel
theorem d_M_takes_73 : decode b_M_takes 73 = .ok (.aload_n 0, 1) := by decide +kernel
theorem d_M_takes_74 : decode b_M_takes 74 = .ok (.iload_n 3, 1) := by decide +kernel
theorem d_M_takes_75 : decode b_M_takes 75 = .ok (.iconst 1, 1) := by decide +kernel
theorem d_M_takes_76 : decode b_M_takes 76 = .ok (.iadd, 1) := by decide +kernel
theorem d_M_takes_77 : decode b_M_takes 77 = .ok (.iload_n 2, 1) := by decide +kernel
theorem d_M_takes_78 : decode b_M_takes 78 = .ok (.invokevirtual 119, 3) := by decide +kernel
theorem d_M_takes_81 : decode b_M_takes 81 = .ok (.ifCond .ne 5, 3) := by decide +kernel
theorem d_M_takes_84 : decode b_M_takes 84 = .ok (.iconst 0, 1) := by decide +kernel
theorem d_M_takes_85 : decode b_M_takes 85 = .ok (.ireturn, 1) := by decide +kernel
theorem d_M_takes_86 : decode b_M_takes 86 = .ok (.aload_n 0, 1) := by decide +kernel
theorem d_M_takes_87 : decode b_M_takes 87 = .ok (.iload_n 3, 1) := by decide +kernel
theorem d_M_takes_88 : decode b_M_takes 88 = .ok (.putfield 123, 3) := by decide +kernel
theorem d_M_takes_91 : decode b_M_takes 91 = .ok (.iconst 0, 1) := by decide +kernel
theorem d_M_takes_92 : decode b_M_takes 92 = .ok (.istore 4, 2) := by decide +kernel
theorem d_M_takes_94 : decode b_M_takes 94 = .ok (.iload 4, 2) := by decide +kernel
theorem d_M_takes_96 : decode b_M_takes 96 = .ok (.iload_n 3, 1) := by decide +kernel
theorem d_M_takes_97 : decode b_M_takes 97 = .ok (.if_icmp .ge 23, 3) := by decide +kernel
theorem d_M_takes_100 : decode b_M_takes 100 = .ok (.aload_n 0, 1) := by decide +kernel
theorem d_M_takes_101 : decode b_M_takes 101 = .ok (.getfield 80, 3) := by decide +kernel
theorem d_M_takes_104 : decode b_M_takes 104 = .ok (.iload 4, 2) := by decide +kernel
theorem d_M_takes_106 : decode b_M_takes 106 = .ok (.aload_n 0, 1) := by decide +kernel
theorem d_M_takes_107 : decode b_M_takes 107 = .ok (.getfield 7, 3) := by decide +kernel
theorem d_M_takes_110 : decode b_M_takes 110 = .ok (.iload 4, 2) := by decide +kernel
theorem d_M_takes_112 : decode b_M_takes 112 = .ok (.iaload, 1) := by decide +kernel
theorem d_M_takes_113 : decode b_M_takes 113 = .ok (.iastore, 1) := by decide +kernel
theorem d_M_takes_114 : decode b_M_takes 114 = .ok (.iinc 4 1, 3) := by decide +kernel
theorem d_M_takes_117 : decode b_M_takes 117 = .ok (.goto (-23), 3) := by decide +kernel
theorem d_M_takes_120 : decode b_M_takes 120 = .ok (.aload_n 0, 1) := by decide +kernel
theorem d_M_takes_121 : decode b_M_takes 121 = .ok (.iload_n 1, 1) := by decide +kernel
theorem d_M_takes_122 : decode b_M_takes 122 = .ok (.ifCond .eq 11, 3) := by decide +kernel
theorem d_M_takes_125 : decode b_M_takes 125 = .ok (.iload_n 2, 1) := by decide +kernel
theorem d_M_takes_126 : decode b_M_takes 126 = .ok (.iload_n 3, 1) := by decide +kernel
theorem d_M_takes_127 : decode b_M_takes 127 = .ok (.isub, 1) := by decide +kernel
theorem d_M_takes_128 : decode b_M_takes 128 = .ok (.iconst 1, 1) := by decide +kernel
theorem d_M_takes_129 : decode b_M_takes 129 = .ok (.isub, 1) := by decide +kernel
theorem d_M_takes_130 : decode b_M_takes 130 = .ok (.goto 4, 3) := by decide +kernel
theorem d_M_takes_133 : decode b_M_takes 133 = .ok (.iconst 0, 1) := by decide +kernel
theorem d_M_takes_134 : decode b_M_takes 134 = .ok (.putfield 126, 3) := by decide +kernel
theorem d_M_takes_137 : decode b_M_takes 137 = .ok (.iconst 0, 1) := by decide +kernel
theorem d_M_takes_138 : decode b_M_takes 138 = .ok (.istore 4, 2) := by decide +kernel
theorem d_M_takes_140 : decode b_M_takes 140 = .ok (.iload 4, 2) := by decide +kernel
theorem d_M_takes_142 : decode b_M_takes 142 = .ok (.aload_n 0, 1) := by decide +kernel
theorem d_M_takes_143 : decode b_M_takes 143 = .ok (.getfield 126, 3) := by decide +kernel
theorem d_M_takes_146 : decode b_M_takes 146 = .ok (.if_icmp .ge 27, 3) := by decide +kernel
theorem d_M_takes_149 : decode b_M_takes 149 = .ok (.aload_n 0, 1) := by decide +kernel
theorem d_M_takes_150 : decode b_M_takes 150 = .ok (.getfield 83, 3) := by decide +kernel
theorem d_M_takes_153 : decode b_M_takes 153 = .ok (.iload 4, 2) := by decide +kernel
theorem d_M_takes_155 : decode b_M_takes 155 = .ok (.aload_n 0, 1) := by decide +kernel
theorem d_M_takes_156 : decode b_M_takes 156 = .ok (.getfield 7, 3) := by decide +kernel
theorem d_M_takes_159 : decode b_M_takes 159 = .ok (.iload_n 3, 1) := by decide +kernel
theorem d_M_takes_160 : decode b_M_takes 160 = .ok (.iconst 1, 1) := by decide +kernel
theorem d_M_takes_161 : decode b_M_takes 161 = .ok (.iadd, 1) := by decide +kernel
theorem d_M_takes_162 : decode b_M_takes 162 = .ok (.iload 4, 2) := by decide +kernel
theorem d_M_takes_164 : decode b_M_takes 164 = .ok (.iadd, 1) := by decide +kernel
theorem d_M_takes_165 : decode b_M_takes 165 = .ok (.iaload, 1) := by decide +kernel
theorem d_M_takes_166 : decode b_M_takes 166 = .ok (.iastore, 1) := by decide +kernel
theorem d_M_takes_167 : decode b_M_takes 167 = .ok (.iinc 4 1, 3) := by decide +kernel
theorem d_M_takes_170 : decode b_M_takes 170 = .ok (.goto (-30), 3) := by decide +kernel
theorem d_M_takes_173 : decode b_M_takes 173 = .ok (.iconst 1, 1) := by decide +kernel
theorem d_M_takes_174 : decode b_M_takes 174 = .ok (.ireturn, 1) := by decide +kernel

abbrev b_M_fold : ByteArray := prog_9_method_8_code
def y_M_fold : MethodName := ⟨"RegistryLogModel", "fold", "([III[I)I"⟩
theorem d_M_fold_0 : decode b_M_fold 0 = .ok (.iconst 0, 1) := by decide +kernel
theorem d_M_fold_1 : decode b_M_fold 1 = .ok (.istore 4, 2) := by decide +kernel
theorem d_M_fold_3 : decode b_M_fold 3 = .ok (.iconst 0, 1) := by decide +kernel
theorem d_M_fold_4 : decode b_M_fold 4 = .ok (.istore 5, 2) := by decide +kernel
theorem d_M_fold_6 : decode b_M_fold 6 = .ok (.iload 5, 2) := by decide +kernel
theorem d_M_fold_8 : decode b_M_fold 8 = .ok (.iload_n 2, 1) := by decide +kernel
theorem d_M_fold_9 : decode b_M_fold 9 = .ok (.if_icmp .ge 50, 3) := by decide +kernel
theorem d_M_fold_12 : decode b_M_fold 12 = .ok (.aload_n 3, 1) := by decide +kernel
theorem d_M_fold_13 : decode b_M_fold 13 = .ok (.iload 4, 2) := by decide +kernel
theorem d_M_fold_15 : decode b_M_fold 15 = .ok (.aload_n 0, 1) := by decide +kernel
theorem d_M_fold_16 : decode b_M_fold 16 = .ok (.iload_n 1, 1) := by decide +kernel
theorem d_M_fold_17 : decode b_M_fold 17 = .ok (.iload 5, 2) := by decide +kernel
theorem d_M_fold_19 : decode b_M_fold 19 = .ok (.iadd, 1) := by decide +kernel
theorem d_M_fold_20 : decode b_M_fold 20 = .ok (.iaload, 1) := by decide +kernel
theorem d_M_fold_21 : decode b_M_fold 21 = .ok (.iastore, 1) := by decide +kernel
theorem d_M_fold_22 : decode b_M_fold 22 = .ok (.iload 4, 2) := by decide +kernel
theorem d_M_fold_24 : decode b_M_fold 24 = .ok (.aload_n 0, 1) := by decide +kernel
theorem d_M_fold_25 : decode b_M_fold 25 = .ok (.iload_n 1, 1) := by decide +kernel
theorem d_M_fold_26 : decode b_M_fold 26 = .ok (.iload 5, 2) := by decide +kernel
theorem d_M_fold_28 : decode b_M_fold 28 = .ok (.iadd, 1) := by decide +kernel
theorem d_M_fold_29 : decode b_M_fold 29 = .ok (.iaload, 1) := by decide +kernel
theorem d_M_fold_30 : decode b_M_fold 30 = .ok (.bipush 45, 2) := by decide +kernel
theorem d_M_fold_32 : decode b_M_fold 32 = .ok (.if_icmp .ne 7, 3) := by decide +kernel
theorem d_M_fold_35 : decode b_M_fold 35 = .ok (.iconst 0, 1) := by decide +kernel
theorem d_M_fold_36 : decode b_M_fold 36 = .ok (.goto 4, 3) := by decide +kernel
theorem d_M_fold_39 : decode b_M_fold 39 = .ok (.iconst 1, 1) := by decide +kernel
theorem d_M_fold_40 : decode b_M_fold 40 = .ok (.iadd, 1) := by decide +kernel
theorem d_M_fold_41 : decode b_M_fold 41 = .ok (.istore 4, 2) := by decide +kernel
theorem d_M_fold_43 : decode b_M_fold 43 = .ok (.iload 4, 2) := by decide +kernel
theorem d_M_fold_45 : decode b_M_fold 45 = .ok (.aload_n 3, 1) := by decide +kernel
theorem d_M_fold_46 : decode b_M_fold 46 = .ok (.arraylength, 1) := by decide +kernel
theorem d_M_fold_47 : decode b_M_fold 47 = .ok (.if_icmp .ne 6, 3) := by decide +kernel
theorem d_M_fold_50 : decode b_M_fold 50 = .ok (.iload 4, 2) := by decide +kernel
theorem d_M_fold_52 : decode b_M_fold 52 = .ok (.ireturn, 1) := by decide +kernel
theorem d_M_fold_53 : decode b_M_fold 53 = .ok (.iinc 5 1, 3) := by decide +kernel
theorem d_M_fold_56 : decode b_M_fold 56 = .ok (.goto (-50), 3) := by decide +kernel
theorem d_M_fold_59 : decode b_M_fold 59 = .ok (.iload 4, 2) := by decide +kernel
theorem d_M_fold_61 : decode b_M_fold 61 = .ok (.ireturn, 1) := by decide +kernel

abbrev b_M_isNear : ByteArray := prog_9_method_9_code
def y_M_isNear : MethodName := ⟨"RegistryLogModel", "isNear", "([III)Z"⟩
theorem d_M_isNear_0 : decode b_M_isNear 0 = .ok (.aload_n 1, 1) := by decide +kernel
theorem d_M_isNear_1 : decode b_M_isNear 1 = .ok (.iconst 0, 1) := by decide +kernel
theorem d_M_isNear_2 : decode b_M_isNear 2 = .ok (.iload_n 2, 1) := by decide +kernel
theorem d_M_isNear_3 : decode b_M_isNear 3 = .ok (.aload_n 0, 1) := by decide +kernel
theorem d_M_isNear_4 : decode b_M_isNear 4 = .ok (.getfield 86, 3) := by decide +kernel
theorem d_M_isNear_7 : decode b_M_isNear 7 = .ok (.invokestatic 129, 3) := by decide +kernel
theorem d_M_isNear_10 : decode b_M_isNear 10 = .ok (.istore 4, 2) := by decide +kernel
theorem d_M_isNear_12 : decode b_M_isNear 12 = .ok (.aload_n 0, 1) := by decide +kernel
theorem d_M_isNear_13 : decode b_M_isNear 13 = .ok (.getfield 50, 3) := by decide +kernel
theorem d_M_isNear_16 : decode b_M_isNear 16 = .ok (.bipush 10, 2) := by decide +kernel
theorem d_M_isNear_18 : decode b_M_isNear 18 = .ok (.iload_n 3, 1) := by decide +kernel
theorem d_M_isNear_19 : decode b_M_isNear 19 = .ok (.imul, 1) := by decide +kernel
theorem d_M_isNear_20 : decode b_M_isNear 20 = .ok (.aload_n 0, 1) := by decide +kernel
theorem d_M_isNear_21 : decode b_M_isNear 21 = .ok (.getfield 53, 3) := by decide +kernel
theorem d_M_isNear_24 : decode b_M_isNear 24 = .ok (.iload_n 3, 1) := by decide +kernel
theorem d_M_isNear_25 : decode b_M_isNear 25 = .ok (.iaload, 1) := by decide +kernel
theorem d_M_isNear_26 : decode b_M_isNear 26 = .ok (.aload_n 0, 1) := by decide +kernel
theorem d_M_isNear_27 : decode b_M_isNear 27 = .ok (.getfield 89, 3) := by decide +kernel
theorem d_M_isNear_30 : decode b_M_isNear 30 = .ok (.invokestatic 129, 3) := by decide +kernel
theorem d_M_isNear_33 : decode b_M_isNear 33 = .ok (.istore 5, 2) := by decide +kernel
theorem d_M_isNear_35 : decode b_M_isNear 35 = .ok (.iconst 0, 1) := by decide +kernel
theorem d_M_isNear_36 : decode b_M_isNear 36 = .ok (.istore 6, 2) := by decide +kernel
theorem d_M_isNear_38 : decode b_M_isNear 38 = .ok (.iload 6, 2) := by decide +kernel
theorem d_M_isNear_40 : decode b_M_isNear 40 = .ok (.iload 4, 2) := by decide +kernel
theorem d_M_isNear_42 : decode b_M_isNear 42 = .ok (.if_icmp .ge 33, 3) := by decide +kernel
theorem d_M_isNear_45 : decode b_M_isNear 45 = .ok (.iload 6, 2) := by decide +kernel
theorem d_M_isNear_47 : decode b_M_isNear 47 = .ok (.iload 5, 2) := by decide +kernel
theorem d_M_isNear_49 : decode b_M_isNear 49 = .ok (.if_icmp .ge 26, 3) := by decide +kernel
theorem d_M_isNear_52 : decode b_M_isNear 52 = .ok (.aload_n 0, 1) := by decide +kernel
theorem d_M_isNear_53 : decode b_M_isNear 53 = .ok (.getfield 86, 3) := by decide +kernel
theorem d_M_isNear_56 : decode b_M_isNear 56 = .ok (.iload 6, 2) := by decide +kernel
theorem d_M_isNear_58 : decode b_M_isNear 58 = .ok (.iaload, 1) := by decide +kernel
theorem d_M_isNear_59 : decode b_M_isNear 59 = .ok (.aload_n 0, 1) := by decide +kernel
theorem d_M_isNear_60 : decode b_M_isNear 60 = .ok (.getfield 89, 3) := by decide +kernel
theorem d_M_isNear_63 : decode b_M_isNear 63 = .ok (.iload 6, 2) := by decide +kernel
theorem d_M_isNear_65 : decode b_M_isNear 65 = .ok (.iaload, 1) := by decide +kernel
theorem d_M_isNear_66 : decode b_M_isNear 66 = .ok (.if_icmp .ne 9, 3) := by decide +kernel
theorem d_M_isNear_69 : decode b_M_isNear 69 = .ok (.iinc 6 1, 3) := by decide +kernel
theorem d_M_isNear_72 : decode b_M_isNear 72 = .ok (.goto (-34), 3) := by decide +kernel
theorem d_M_isNear_75 : decode b_M_isNear 75 = .ok (.iconst 0, 1) := by decide +kernel
theorem d_M_isNear_76 : decode b_M_isNear 76 = .ok (.istore 7, 2) := by decide +kernel
theorem d_M_isNear_78 : decode b_M_isNear 78 = .ok (.iload 7, 2) := by decide +kernel
theorem d_M_isNear_80 : decode b_M_isNear 80 = .ok (.iload 4, 2) := by decide +kernel
theorem d_M_isNear_82 : decode b_M_isNear 82 = .ok (.iload 6, 2) := by decide +kernel
theorem d_M_isNear_84 : decode b_M_isNear 84 = .ok (.isub, 1) := by decide +kernel
theorem d_M_isNear_85 : decode b_M_isNear 85 = .ok (.if_icmp .ge 46, 3) := by decide +kernel
theorem d_M_isNear_88 : decode b_M_isNear 88 = .ok (.iload 7, 2) := by decide +kernel
theorem d_M_isNear_90 : decode b_M_isNear 90 = .ok (.iload 5, 2) := by decide +kernel
theorem d_M_isNear_92 : decode b_M_isNear 92 = .ok (.iload 6, 2) := by decide +kernel
theorem d_M_isNear_94 : decode b_M_isNear 94 = .ok (.isub, 1) := by decide +kernel
theorem d_M_isNear_95 : decode b_M_isNear 95 = .ok (.if_icmp .ge 36, 3) := by decide +kernel
theorem d_M_isNear_98 : decode b_M_isNear 98 = .ok (.aload_n 0, 1) := by decide +kernel
theorem d_M_isNear_99 : decode b_M_isNear 99 = .ok (.getfield 86, 3) := by decide +kernel
theorem d_M_isNear_102 : decode b_M_isNear 102 = .ok (.iload 4, 2) := by decide +kernel
theorem d_M_isNear_104 : decode b_M_isNear 104 = .ok (.iconst 1, 1) := by decide +kernel
theorem d_M_isNear_105 : decode b_M_isNear 105 = .ok (.isub, 1) := by decide +kernel
theorem d_M_isNear_106 : decode b_M_isNear 106 = .ok (.iload 7, 2) := by decide +kernel
theorem d_M_isNear_108 : decode b_M_isNear 108 = .ok (.isub, 1) := by decide +kernel
theorem d_M_isNear_109 : decode b_M_isNear 109 = .ok (.iaload, 1) := by decide +kernel
theorem d_M_isNear_110 : decode b_M_isNear 110 = .ok (.aload_n 0, 1) := by decide +kernel
theorem d_M_isNear_111 : decode b_M_isNear 111 = .ok (.getfield 89, 3) := by decide +kernel
theorem d_M_isNear_114 : decode b_M_isNear 114 = .ok (.iload 5, 2) := by decide +kernel
theorem d_M_isNear_116 : decode b_M_isNear 116 = .ok (.iconst 1, 1) := by decide +kernel
theorem d_M_isNear_117 : decode b_M_isNear 117 = .ok (.isub, 1) := by decide +kernel
theorem d_M_isNear_118 : decode b_M_isNear 118 = .ok (.iload 7, 2) := by decide +kernel
theorem d_M_isNear_120 : decode b_M_isNear 120 = .ok (.isub, 1) := by decide +kernel
theorem d_M_isNear_121 : decode b_M_isNear 121 = .ok (.iaload, 1) := by decide +kernel
theorem d_M_isNear_122 : decode b_M_isNear 122 = .ok (.if_icmp .ne 9, 3) := by decide +kernel
theorem d_M_isNear_125 : decode b_M_isNear 125 = .ok (.iinc 7 1, 3) := by decide +kernel
theorem d_M_isNear_128 : decode b_M_isNear 128 = .ok (.goto (-50), 3) := by decide +kernel
theorem d_M_isNear_131 : decode b_M_isNear 131 = .ok (.iload 4, 2) := by decide +kernel
theorem d_M_isNear_133 : decode b_M_isNear 133 = .ok (.iload 6, 2) := by decide +kernel
theorem d_M_isNear_135 : decode b_M_isNear 135 = .ok (.isub, 1) := by decide +kernel
theorem d_M_isNear_136 : decode b_M_isNear 136 = .ok (.iload 7, 2) := by decide +kernel
theorem d_M_isNear_138 : decode b_M_isNear 138 = .ok (.isub, 1) := by decide +kernel
theorem d_M_isNear_139 : decode b_M_isNear 139 = .ok (.iconst 1, 1) := by decide +kernel
theorem d_M_isNear_140 : decode b_M_isNear 140 = .ok (.if_icmp .gt 19, 3) := by decide +kernel
theorem d_M_isNear_143 : decode b_M_isNear 143 = .ok (.iload 5, 2) := by decide +kernel
theorem d_M_isNear_145 : decode b_M_isNear 145 = .ok (.iload 6, 2) := by decide +kernel
theorem d_M_isNear_147 : decode b_M_isNear 147 = .ok (.isub, 1) := by decide +kernel
theorem d_M_isNear_148 : decode b_M_isNear 148 = .ok (.iload 7, 2) := by decide +kernel
theorem d_M_isNear_150 : decode b_M_isNear 150 = .ok (.isub, 1) := by decide +kernel
theorem d_M_isNear_151 : decode b_M_isNear 151 = .ok (.iconst 1, 1) := by decide +kernel
theorem d_M_isNear_152 : decode b_M_isNear 152 = .ok (.if_icmp .gt 7, 3) := by decide +kernel
theorem d_M_isNear_155 : decode b_M_isNear 155 = .ok (.iconst 1, 1) := by decide +kernel
theorem d_M_isNear_156 : decode b_M_isNear 156 = .ok (.goto 4, 3) := by decide +kernel
theorem d_M_isNear_159 : decode b_M_isNear 159 = .ok (.iconst 0, 1) := by decide +kernel
theorem d_M_isNear_160 : decode b_M_isNear 160 = .ok (.ireturn, 1) := by decide +kernel

abbrev b_M_met : ByteArray := prog_9_method_10_code
def y_M_met : MethodName := ⟨"RegistryLogModel", "met", "([III)I"⟩
theorem d_M_met_0 : decode b_M_met 0 = .ok (.iconst (-1), 1) := by decide +kernel
theorem d_M_met_1 : decode b_M_met 1 = .ok (.istore 4, 2) := by decide +kernel
theorem d_M_met_3 : decode b_M_met 3 = .ok (.iconst 0, 1) := by decide +kernel
theorem d_M_met_4 : decode b_M_met 4 = .ok (.istore 5, 2) := by decide +kernel
theorem d_M_met_6 : decode b_M_met 6 = .ok (.iload 5, 2) := by decide +kernel
theorem d_M_met_8 : decode b_M_met 8 = .ok (.aload_n 0, 1) := by decide +kernel
theorem d_M_met_9 : decode b_M_met 9 = .ok (.getfield 133, 3) := by decide +kernel
theorem d_M_met_12 : decode b_M_met 12 = .ok (.if_icmp .ge 90, 3) := by decide +kernel
theorem d_M_met_15 : decode b_M_met 15 = .ok (.aload_n 0, 1) := by decide +kernel
theorem d_M_met_16 : decode b_M_met 16 = .ok (.getfield 53, 3) := by decide +kernel
theorem d_M_met_19 : decode b_M_met 19 = .ok (.iload 5, 2) := by decide +kernel
theorem d_M_met_21 : decode b_M_met 21 = .ok (.iaload, 1) := by decide +kernel
theorem d_M_met_22 : decode b_M_met 22 = .ok (.iload_n 3, 1) := by decide +kernel
theorem d_M_met_23 : decode b_M_met 23 = .ok (.if_icmp .ne 7, 3) := by decide +kernel
theorem d_M_met_26 : decode b_M_met 26 = .ok (.iconst 1, 1) := by decide +kernel
theorem d_M_met_27 : decode b_M_met 27 = .ok (.goto 4, 3) := by decide +kernel
theorem d_M_met_30 : decode b_M_met 30 = .ok (.iconst 0, 1) := by decide +kernel
theorem d_M_met_31 : decode b_M_met 31 = .ok (.istore 6, 2) := by decide +kernel
theorem d_M_met_33 : decode b_M_met 33 = .ok (.iconst 0, 1) := by decide +kernel
theorem d_M_met_34 : decode b_M_met 34 = .ok (.istore 7, 2) := by decide +kernel
theorem d_M_met_36 : decode b_M_met 36 = .ok (.iload 7, 2) := by decide +kernel
theorem d_M_met_38 : decode b_M_met 38 = .ok (.iload_n 3, 1) := by decide +kernel
theorem d_M_met_39 : decode b_M_met 39 = .ok (.if_icmp .ge 43, 3) := by decide +kernel
theorem d_M_met_42 : decode b_M_met 42 = .ok (.iload 6, 2) := by decide +kernel
theorem d_M_met_44 : decode b_M_met 44 = .ok (.ifCond .eq 38, 3) := by decide +kernel
theorem d_M_met_47 : decode b_M_met 47 = .ok (.aload_n 0, 1) := by decide +kernel
theorem d_M_met_48 : decode b_M_met 48 = .ok (.getfield 50, 3) := by decide +kernel
theorem d_M_met_51 : decode b_M_met 51 = .ok (.bipush 10, 2) := by decide +kernel
theorem d_M_met_53 : decode b_M_met 53 = .ok (.iload 5, 2) := by decide +kernel
theorem d_M_met_55 : decode b_M_met 55 = .ok (.imul, 1) := by decide +kernel
theorem d_M_met_56 : decode b_M_met 56 = .ok (.iload 7, 2) := by decide +kernel
theorem d_M_met_58 : decode b_M_met 58 = .ok (.iadd, 1) := by decide +kernel
theorem d_M_met_59 : decode b_M_met 59 = .ok (.iaload, 1) := by decide +kernel
theorem d_M_met_60 : decode b_M_met 60 = .ok (.aload_n 1, 1) := by decide +kernel
theorem d_M_met_61 : decode b_M_met 61 = .ok (.iload_n 2, 1) := by decide +kernel
theorem d_M_met_62 : decode b_M_met 62 = .ok (.iload 7, 2) := by decide +kernel
theorem d_M_met_64 : decode b_M_met 64 = .ok (.iadd, 1) := by decide +kernel
theorem d_M_met_65 : decode b_M_met 65 = .ok (.iaload, 1) := by decide +kernel
theorem d_M_met_66 : decode b_M_met 66 = .ok (.if_icmp .ne 7, 3) := by decide +kernel
theorem d_M_met_69 : decode b_M_met 69 = .ok (.iconst 1, 1) := by decide +kernel
theorem d_M_met_70 : decode b_M_met 70 = .ok (.goto 4, 3) := by decide +kernel
theorem d_M_met_73 : decode b_M_met 73 = .ok (.iconst 0, 1) := by decide +kernel
theorem d_M_met_74 : decode b_M_met 74 = .ok (.istore 6, 2) := by decide +kernel
theorem d_M_met_76 : decode b_M_met 76 = .ok (.iinc 7 1, 3) := by decide +kernel
theorem d_M_met_79 : decode b_M_met 79 = .ok (.goto (-43), 3) := by decide +kernel
theorem d_M_met_82 : decode b_M_met 82 = .ok (.iload 6, 2) := by decide +kernel
theorem d_M_met_84 : decode b_M_met 84 = .ok (.ifCond .eq 8, 3) := by decide +kernel
theorem d_M_met_87 : decode b_M_met 87 = .ok (.iload 5, 2) := by decide +kernel
theorem d_M_met_89 : decode b_M_met 89 = .ok (.goto 5, 3) := by decide +kernel
theorem d_M_met_92 : decode b_M_met 92 = .ok (.iload 4, 2) := by decide +kernel
theorem d_M_met_94 : decode b_M_met 94 = .ok (.istore 4, 2) := by decide +kernel
theorem d_M_met_96 : decode b_M_met 96 = .ok (.iinc 5 1, 3) := by decide +kernel
theorem d_M_met_99 : decode b_M_met 99 = .ok (.goto (-93), 3) := by decide +kernel
theorem d_M_met_102 : decode b_M_met 102 = .ok (.iload 4, 2) := by decide +kernel
theorem d_M_met_104 : decode b_M_met 104 = .ok (.ireturn, 1) := by decide +kernel

abbrev b_M_meet : ByteArray := prog_9_method_11_code
def y_M_meet : MethodName := ⟨"RegistryLogModel", "meet", "([IIII)I"⟩
theorem d_M_meet_0 : decode b_M_meet 0 = .ok (.aload_n 0, 1) := by decide +kernel
theorem d_M_meet_1 : decode b_M_meet 1 = .ok (.getfield 53, 3) := by decide +kernel
theorem d_M_meet_4 : decode b_M_meet 4 = .ok (.aload_n 0, 1) := by decide +kernel
theorem d_M_meet_5 : decode b_M_meet 5 = .ok (.getfield 133, 3) := by decide +kernel
theorem d_M_meet_8 : decode b_M_meet 8 = .ok (.iload_n 3, 1) := by decide +kernel
theorem d_M_meet_9 : decode b_M_meet 9 = .ok (.iastore, 1) := by decide +kernel
theorem d_M_meet_10 : decode b_M_meet 10 = .ok (.iconst 0, 1) := by decide +kernel
theorem d_M_meet_11 : decode b_M_meet 11 = .ok (.istore 5, 2) := by decide +kernel
theorem d_M_meet_13 : decode b_M_meet 13 = .ok (.iload 5, 2) := by decide +kernel
theorem d_M_meet_15 : decode b_M_meet 15 = .ok (.iload_n 3, 1) := by decide +kernel
theorem d_M_meet_16 : decode b_M_meet 16 = .ok (.if_icmp .ge 30, 3) := by decide +kernel
theorem d_M_meet_19 : decode b_M_meet 19 = .ok (.aload_n 0, 1) := by decide +kernel
theorem d_M_meet_20 : decode b_M_meet 20 = .ok (.getfield 50, 3) := by decide +kernel
theorem d_M_meet_23 : decode b_M_meet 23 = .ok (.bipush 10, 2) := by decide +kernel
theorem d_M_meet_25 : decode b_M_meet 25 = .ok (.aload_n 0, 1) := by decide +kernel
theorem d_M_meet_26 : decode b_M_meet 26 = .ok (.getfield 133, 3) := by decide +kernel
theorem d_M_meet_29 : decode b_M_meet 29 = .ok (.imul, 1) := by decide +kernel
theorem d_M_meet_30 : decode b_M_meet 30 = .ok (.iload 5, 2) := by decide +kernel
theorem d_M_meet_32 : decode b_M_meet 32 = .ok (.iadd, 1) := by decide +kernel
theorem d_M_meet_33 : decode b_M_meet 33 = .ok (.aload_n 1, 1) := by decide +kernel
theorem d_M_meet_34 : decode b_M_meet 34 = .ok (.iload_n 2, 1) := by decide +kernel
theorem d_M_meet_35 : decode b_M_meet 35 = .ok (.iload 5, 2) := by decide +kernel
theorem d_M_meet_37 : decode b_M_meet 37 = .ok (.iadd, 1) := by decide +kernel
theorem d_M_meet_38 : decode b_M_meet 38 = .ok (.iaload, 1) := by decide +kernel
theorem d_M_meet_39 : decode b_M_meet 39 = .ok (.iastore, 1) := by decide +kernel
theorem d_M_meet_40 : decode b_M_meet 40 = .ok (.iinc 5 1, 3) := by decide +kernel
theorem d_M_meet_43 : decode b_M_meet 43 = .ok (.goto (-30), 3) := by decide +kernel
theorem d_M_meet_46 : decode b_M_meet 46 = .ok (.aload_n 0, 1) := by decide +kernel
theorem d_M_meet_47 : decode b_M_meet 47 = .ok (.getfield 56, 3) := by decide +kernel
theorem d_M_meet_50 : decode b_M_meet 50 = .ok (.aload_n 0, 1) := by decide +kernel
theorem d_M_meet_51 : decode b_M_meet 51 = .ok (.getfield 133, 3) := by decide +kernel
theorem d_M_meet_54 : decode b_M_meet 54 = .ok (.iconst 1, 1) := by decide +kernel
theorem d_M_meet_55 : decode b_M_meet 55 = .ok (.iastore, 1) := by decide +kernel
theorem d_M_meet_56 : decode b_M_meet 56 = .ok (.aload_n 0, 1) := by decide +kernel
theorem d_M_meet_57 : decode b_M_meet 57 = .ok (.getfield 59, 3) := by decide +kernel
theorem d_M_meet_60 : decode b_M_meet 60 = .ok (.aload_n 0, 1) := by decide +kernel
theorem d_M_meet_61 : decode b_M_meet 61 = .ok (.getfield 133, 3) := by decide +kernel
theorem d_M_meet_64 : decode b_M_meet 64 = .ok (.iload 4, 2) := by decide +kernel
theorem d_M_meet_66 : decode b_M_meet 66 = .ok (.iastore, 1) := by decide +kernel
theorem d_M_meet_67 : decode b_M_meet 67 = .ok (.aload_n 0, 1) := by decide +kernel
theorem d_M_meet_68 : decode b_M_meet 68 = .ok (.dup, 1) := by decide +kernel
theorem d_M_meet_69 : decode b_M_meet 69 = .ok (.getfield 133, 3) := by decide +kernel
theorem d_M_meet_72 : decode b_M_meet 72 = .ok (.iconst 1, 1) := by decide +kernel
theorem d_M_meet_73 : decode b_M_meet 73 = .ok (.iadd, 1) := by decide +kernel
theorem d_M_meet_74 : decode b_M_meet 74 = .ok (.putfield 133, 3) := by decide +kernel
theorem d_M_meet_77 : decode b_M_meet 77 = .ok (.aload_n 0, 1) := by decide +kernel
theorem d_M_meet_78 : decode b_M_meet 78 = .ok (.getfield 133, 3) := by decide +kernel
theorem d_M_meet_81 : decode b_M_meet 81 = .ok (.iconst 1, 1) := by decide +kernel
theorem d_M_meet_82 : decode b_M_meet 82 = .ok (.isub, 1) := by decide +kernel
theorem d_M_meet_83 : decode b_M_meet 83 = .ok (.ireturn, 1) := by decide +kernel

abbrev b_M_versionAt : ByteArray := prog_9_method_12_code
def y_M_versionAt : MethodName := ⟨"RegistryLogModel", "versionAt", "(II)I"⟩
theorem d_M_versionAt_0 : decode b_M_versionAt 0 = .ok (.iconst (-1), 1) := by decide +kernel
theorem d_M_versionAt_1 : decode b_M_versionAt 1 = .ok (.istore_n 3, 1) := by decide +kernel
theorem d_M_versionAt_2 : decode b_M_versionAt 2 = .ok (.iconst 0, 1) := by decide +kernel
theorem d_M_versionAt_3 : decode b_M_versionAt 3 = .ok (.istore 4, 2) := by decide +kernel
theorem d_M_versionAt_5 : decode b_M_versionAt 5 = .ok (.iload 4, 2) := by decide +kernel
theorem d_M_versionAt_7 : decode b_M_versionAt 7 = .ok (.aload_n 0, 1) := by decide +kernel
theorem d_M_versionAt_8 : decode b_M_versionAt 8 = .ok (.getfield 136, 3) := by decide +kernel
theorem d_M_versionAt_11 : decode b_M_versionAt 11 = .ok (.if_icmp .ge 38, 3) := by decide +kernel
theorem d_M_versionAt_14 : decode b_M_versionAt 14 = .ok (.aload_n 0, 1) := by decide +kernel
theorem d_M_versionAt_15 : decode b_M_versionAt 15 = .ok (.getfield 68, 3) := by decide +kernel
theorem d_M_versionAt_18 : decode b_M_versionAt 18 = .ok (.iload 4, 2) := by decide +kernel
theorem d_M_versionAt_20 : decode b_M_versionAt 20 = .ok (.iaload, 1) := by decide +kernel
theorem d_M_versionAt_21 : decode b_M_versionAt 21 = .ok (.iload_n 1, 1) := by decide +kernel
theorem d_M_versionAt_22 : decode b_M_versionAt 22 = .ok (.if_icmp .ne 19, 3) := by decide +kernel
theorem d_M_versionAt_25 : decode b_M_versionAt 25 = .ok (.aload_n 0, 1) := by decide +kernel
theorem d_M_versionAt_26 : decode b_M_versionAt 26 = .ok (.getfield 71, 3) := by decide +kernel
theorem d_M_versionAt_29 : decode b_M_versionAt 29 = .ok (.iload 4, 2) := by decide +kernel
theorem d_M_versionAt_31 : decode b_M_versionAt 31 = .ok (.iaload, 1) := by decide +kernel
theorem d_M_versionAt_32 : decode b_M_versionAt 32 = .ok (.iload_n 2, 1) := by decide +kernel
theorem d_M_versionAt_33 : decode b_M_versionAt 33 = .ok (.if_icmp .ne 8, 3) := by decide +kernel
theorem d_M_versionAt_36 : decode b_M_versionAt 36 = .ok (.iload 4, 2) := by decide +kernel
theorem d_M_versionAt_38 : decode b_M_versionAt 38 = .ok (.goto 4, 3) := by decide +kernel
theorem d_M_versionAt_41 : decode b_M_versionAt 41 = .ok (.iload_n 3, 1) := by decide +kernel
theorem d_M_versionAt_42 : decode b_M_versionAt 42 = .ok (.istore_n 3, 1) := by decide +kernel
theorem d_M_versionAt_43 : decode b_M_versionAt 43 = .ok (.iinc 4 1, 3) := by decide +kernel
theorem d_M_versionAt_46 : decode b_M_versionAt 46 = .ok (.goto (-41), 3) := by decide +kernel
theorem d_M_versionAt_49 : decode b_M_versionAt 49 = .ok (.iload_n 3, 1) := by decide +kernel
theorem d_M_versionAt_50 : decode b_M_versionAt 50 = .ok (.ireturn, 1) := by decide +kernel

abbrev b_M_goThrough : ByteArray := prog_9_method_13_code
def y_M_goThrough : MethodName := ⟨"RegistryLogModel", "goThrough", "(I)V"⟩
theorem d_M_goThrough_0 : decode b_M_goThrough 0 = .ok (.aload_n 0, 1) := by decide +kernel
theorem d_M_goThrough_1 : decode b_M_goThrough 1 = .ok (.iconst 0, 1) := by decide +kernel
theorem d_M_goThrough_2 : decode b_M_goThrough 2 = .ok (.putfield 133, 3) := by decide +kernel
theorem d_M_goThrough_5 : decode b_M_goThrough 5 = .ok (.aload_n 0, 1) := by decide +kernel
theorem d_M_goThrough_6 : decode b_M_goThrough 6 = .ok (.iconst 0, 1) := by decide +kernel
theorem d_M_goThrough_7 : decode b_M_goThrough 7 = .ok (.putfield 139, 3) := by decide +kernel
theorem d_M_goThrough_10 : decode b_M_goThrough 10 = .ok (.aload_n 0, 1) := by decide +kernel
theorem d_M_goThrough_11 : decode b_M_goThrough 11 = .ok (.iconst 0, 1) := by decide +kernel
theorem d_M_goThrough_12 : decode b_M_goThrough 12 = .ok (.putfield 136, 3) := by decide +kernel
theorem d_M_goThrough_15 : decode b_M_goThrough 15 = .ok (.iconst 0, 1) := by decide +kernel
theorem d_M_goThrough_16 : decode b_M_goThrough 16 = .ok (.istore_n 2, 1) := by decide +kernel
theorem d_M_goThrough_17 : decode b_M_goThrough 17 = .ok (.iload_n 2, 1) := by decide +kernel
theorem d_M_goThrough_18 : decode b_M_goThrough 18 = .ok (.aload_n 0, 1) := by decide +kernel
theorem d_M_goThrough_19 : decode b_M_goThrough 19 = .ok (.getfield 40, 3) := by decide +kernel
theorem d_M_goThrough_22 : decode b_M_goThrough 22 = .ok (.iload_n 1, 1) := by decide +kernel
theorem d_M_goThrough_23 : decode b_M_goThrough 23 = .ok (.iaload, 1) := by decide +kernel
theorem d_M_goThrough_24 : decode b_M_goThrough 24 = .ok (.if_icmp .ge 322, 3) := by decide +kernel
theorem d_M_goThrough_27 : decode b_M_goThrough 27 = .ok (.aload_n 0, 1) := by decide +kernel
theorem d_M_goThrough_28 : decode b_M_goThrough 28 = .ok (.aload_n 0, 1) := by decide +kernel
theorem d_M_goThrough_29 : decode b_M_goThrough 29 = .ok (.getfield 31, 3) := by decide +kernel
theorem d_M_goThrough_32 : decode b_M_goThrough 32 = .ok (.bipush 10, 2) := by decide +kernel
theorem d_M_goThrough_34 : decode b_M_goThrough 34 = .ok (.iload_n 2, 1) := by decide +kernel
theorem d_M_goThrough_35 : decode b_M_goThrough 35 = .ok (.imul, 1) := by decide +kernel
theorem d_M_goThrough_36 : decode b_M_goThrough 36 = .ok (.aload_n 0, 1) := by decide +kernel
theorem d_M_goThrough_37 : decode b_M_goThrough 37 = .ok (.getfield 25, 3) := by decide +kernel
theorem d_M_goThrough_40 : decode b_M_goThrough 40 = .ok (.iload_n 2, 1) := by decide +kernel
theorem d_M_goThrough_41 : decode b_M_goThrough 41 = .ok (.iaload, 1) := by decide +kernel
theorem d_M_goThrough_42 : decode b_M_goThrough 42 = .ok (.invokevirtual 142, 3) := by decide +kernel
theorem d_M_goThrough_45 : decode b_M_goThrough 45 = .ok (.istore_n 3, 1) := by decide +kernel
theorem d_M_goThrough_46 : decode b_M_goThrough 46 = .ok (.aload_n 0, 1) := by decide +kernel
theorem d_M_goThrough_47 : decode b_M_goThrough 47 = .ok (.getfield 13, 3) := by decide +kernel
theorem d_M_goThrough_50 : decode b_M_goThrough 50 = .ok (.iload_n 2, 1) := by decide +kernel
theorem d_M_goThrough_51 : decode b_M_goThrough 51 = .ok (.iaload, 1) := by decide +kernel
theorem d_M_goThrough_52 : decode b_M_goThrough 52 = .ok (.ifCond .ne 139, 3) := by decide +kernel
theorem d_M_goThrough_55 : decode b_M_goThrough 55 = .ok (.iload_n 3, 1) := by decide +kernel
theorem d_M_goThrough_56 : decode b_M_goThrough 56 = .ok (.iconst (-1), 1) := by decide +kernel
theorem d_M_goThrough_57 : decode b_M_goThrough 57 = .ok (.if_icmp .ne 61, 3) := by decide +kernel
theorem d_M_goThrough_60 : decode b_M_goThrough 60 = .ok (.aload_n 0, 1) := by decide +kernel
theorem d_M_goThrough_61 : decode b_M_goThrough 61 = .ok (.aload_n 0, 1) := by decide +kernel
theorem d_M_goThrough_62 : decode b_M_goThrough 62 = .ok (.getfield 31, 3) := by decide +kernel
theorem d_M_goThrough_65 : decode b_M_goThrough 65 = .ok (.bipush 10, 2) := by decide +kernel
theorem d_M_goThrough_67 : decode b_M_goThrough 67 = .ok (.iload_n 2, 1) := by decide +kernel
theorem d_M_goThrough_68 : decode b_M_goThrough 68 = .ok (.imul, 1) := by decide +kernel
theorem d_M_goThrough_69 : decode b_M_goThrough 69 = .ok (.aload_n 0, 1) := by decide +kernel
theorem d_M_goThrough_70 : decode b_M_goThrough 70 = .ok (.getfield 25, 3) := by decide +kernel
theorem d_M_goThrough_73 : decode b_M_goThrough 73 = .ok (.iload_n 2, 1) := by decide +kernel
theorem d_M_goThrough_74 : decode b_M_goThrough 74 = .ok (.iaload, 1) := by decide +kernel
theorem d_M_goThrough_75 : decode b_M_goThrough 75 = .ok (.aload_n 0, 1) := by decide +kernel
theorem d_M_goThrough_76 : decode b_M_goThrough 76 = .ok (.getfield 139, 3) := by decide +kernel
theorem d_M_goThrough_79 : decode b_M_goThrough 79 = .ok (.invokevirtual 146, 3) := by decide +kernel
theorem d_M_goThrough_82 : decode b_M_goThrough 82 = .ok (.istore_n 3, 1) := by decide +kernel
theorem d_M_goThrough_83 : decode b_M_goThrough 83 = .ok (.aload_n 0, 1) := by decide +kernel
theorem d_M_goThrough_84 : decode b_M_goThrough 84 = .ok (.getfield 62, 3) := by decide +kernel
theorem d_M_goThrough_87 : decode b_M_goThrough 87 = .ok (.aload_n 0, 1) := by decide +kernel
theorem d_M_goThrough_88 : decode b_M_goThrough 88 = .ok (.getfield 139, 3) := by decide +kernel
theorem d_M_goThrough_91 : decode b_M_goThrough 91 = .ok (.aload_n 0, 1) := by decide +kernel
theorem d_M_goThrough_92 : decode b_M_goThrough 92 = .ok (.getfield 16, 3) := by decide +kernel
theorem d_M_goThrough_95 : decode b_M_goThrough 95 = .ok (.iload_n 2, 1) := by decide +kernel
theorem d_M_goThrough_96 : decode b_M_goThrough 96 = .ok (.iaload, 1) := by decide +kernel
theorem d_M_goThrough_97 : decode b_M_goThrough 97 = .ok (.iastore, 1) := by decide +kernel
theorem d_M_goThrough_98 : decode b_M_goThrough 98 = .ok (.aload_n 0, 1) := by decide +kernel
theorem d_M_goThrough_99 : decode b_M_goThrough 99 = .ok (.getfield 65, 3) := by decide +kernel
theorem d_M_goThrough_102 : decode b_M_goThrough 102 = .ok (.aload_n 0, 1) := by decide +kernel
theorem d_M_goThrough_103 : decode b_M_goThrough 103 = .ok (.getfield 139, 3) := by decide +kernel
theorem d_M_goThrough_106 : decode b_M_goThrough 106 = .ok (.iconst 0, 1) := by decide +kernel
theorem d_M_goThrough_107 : decode b_M_goThrough 107 = .ok (.iastore, 1) := by decide +kernel
theorem d_M_goThrough_108 : decode b_M_goThrough 108 = .ok (.aload_n 0, 1) := by decide +kernel
theorem d_M_goThrough_109 : decode b_M_goThrough 109 = .ok (.dup, 1) := by decide +kernel
theorem d_M_goThrough_110 : decode b_M_goThrough 110 = .ok (.getfield 139, 3) := by decide +kernel
theorem d_M_goThrough_113 : decode b_M_goThrough 113 = .ok (.iconst 1, 1) := by decide +kernel
theorem d_M_goThrough_114 : decode b_M_goThrough 114 = .ok (.iadd, 1) := by decide +kernel
theorem d_M_goThrough_115 : decode b_M_goThrough 115 = .ok (.putfield 139, 3) := by decide +kernel
theorem d_M_goThrough_118 : decode b_M_goThrough 118 = .ok (.aload_n 0, 1) := by decide +kernel
theorem d_M_goThrough_119 : decode b_M_goThrough 119 = .ok (.getfield 68, 3) := by decide +kernel
theorem d_M_goThrough_122 : decode b_M_goThrough 122 = .ok (.aload_n 0, 1) := by decide +kernel
theorem d_M_goThrough_123 : decode b_M_goThrough 123 = .ok (.getfield 136, 3) := by decide +kernel
theorem d_M_goThrough_126 : decode b_M_goThrough 126 = .ok (.aload_n 0, 1) := by decide +kernel
theorem d_M_goThrough_127 : decode b_M_goThrough 127 = .ok (.getfield 59, 3) := by decide +kernel
theorem d_M_goThrough_130 : decode b_M_goThrough 130 = .ok (.iload_n 3, 1) := by decide +kernel
theorem d_M_goThrough_131 : decode b_M_goThrough 131 = .ok (.iaload, 1) := by decide +kernel
theorem d_M_goThrough_132 : decode b_M_goThrough 132 = .ok (.iastore, 1) := by decide +kernel
theorem d_M_goThrough_133 : decode b_M_goThrough 133 = .ok (.aload_n 0, 1) := by decide +kernel
theorem d_M_goThrough_134 : decode b_M_goThrough 134 = .ok (.getfield 71, 3) := by decide +kernel
theorem d_M_goThrough_137 : decode b_M_goThrough 137 = .ok (.aload_n 0, 1) := by decide +kernel
theorem d_M_goThrough_138 : decode b_M_goThrough 138 = .ok (.getfield 136, 3) := by decide +kernel
theorem d_M_goThrough_141 : decode b_M_goThrough 141 = .ok (.aload_n 0, 1) := by decide +kernel
theorem d_M_goThrough_142 : decode b_M_goThrough 142 = .ok (.getfield 19, 3) := by decide +kernel
theorem d_M_goThrough_145 : decode b_M_goThrough 145 = .ok (.iload_n 2, 1) := by decide +kernel
theorem d_M_goThrough_146 : decode b_M_goThrough 146 = .ok (.iaload, 1) := by decide +kernel
theorem d_M_goThrough_147 : decode b_M_goThrough 147 = .ok (.iastore, 1) := by decide +kernel
theorem d_M_goThrough_148 : decode b_M_goThrough 148 = .ok (.aload_n 0, 1) := by decide +kernel
theorem d_M_goThrough_149 : decode b_M_goThrough 149 = .ok (.getfield 74, 3) := by decide +kernel
theorem d_M_goThrough_152 : decode b_M_goThrough 152 = .ok (.aload_n 0, 1) := by decide +kernel
theorem d_M_goThrough_153 : decode b_M_goThrough 153 = .ok (.getfield 136, 3) := by decide +kernel
theorem d_M_goThrough_156 : decode b_M_goThrough 156 = .ok (.aload_n 0, 1) := by decide +kernel
theorem d_M_goThrough_157 : decode b_M_goThrough 157 = .ok (.getfield 37, 3) := by decide +kernel
theorem d_M_goThrough_160 : decode b_M_goThrough 160 = .ok (.bipush 120, 2) := by decide +kernel
theorem d_M_goThrough_162 : decode b_M_goThrough 162 = .ok (.iload_n 1, 1) := by decide +kernel
theorem d_M_goThrough_163 : decode b_M_goThrough 163 = .ok (.imul, 1) := by decide +kernel
theorem d_M_goThrough_164 : decode b_M_goThrough 164 = .ok (.iload_n 2, 1) := by decide +kernel
theorem d_M_goThrough_165 : decode b_M_goThrough 165 = .ok (.iadd, 1) := by decide +kernel
theorem d_M_goThrough_166 : decode b_M_goThrough 166 = .ok (.iaload, 1) := by decide +kernel
theorem d_M_goThrough_167 : decode b_M_goThrough 167 = .ok (.iastore, 1) := by decide +kernel
theorem d_M_goThrough_168 : decode b_M_goThrough 168 = .ok (.aload_n 0, 1) := by decide +kernel
theorem d_M_goThrough_169 : decode b_M_goThrough 169 = .ok (.getfield 77, 3) := by decide +kernel
theorem d_M_goThrough_172 : decode b_M_goThrough 172 = .ok (.aload_n 0, 1) := by decide +kernel
theorem d_M_goThrough_173 : decode b_M_goThrough 173 = .ok (.getfield 136, 3) := by decide +kernel
theorem d_M_goThrough_176 : decode b_M_goThrough 176 = .ok (.iconst 0, 1) := by decide +kernel
theorem d_M_goThrough_177 : decode b_M_goThrough 177 = .ok (.iastore, 1) := by decide +kernel
theorem d_M_goThrough_178 : decode b_M_goThrough 178 = .ok (.aload_n 0, 1) := by decide +kernel
theorem d_M_goThrough_179 : decode b_M_goThrough 179 = .ok (.dup, 1) := by decide +kernel
theorem d_M_goThrough_180 : decode b_M_goThrough 180 = .ok (.getfield 136, 3) := by decide +kernel
theorem d_M_goThrough_183 : decode b_M_goThrough 183 = .ok (.iconst 1, 1) := by decide +kernel
theorem d_M_goThrough_184 : decode b_M_goThrough 184 = .ok (.iadd, 1) := by decide +kernel
theorem d_M_goThrough_185 : decode b_M_goThrough 185 = .ok (.putfield 136, 3) := by decide +kernel
theorem d_M_goThrough_188 : decode b_M_goThrough 188 = .ok (.goto 152, 3) := by decide +kernel
theorem d_M_goThrough_191 : decode b_M_goThrough 191 = .ok (.aload_n 0, 1) := by decide +kernel
theorem d_M_goThrough_192 : decode b_M_goThrough 192 = .ok (.getfield 13, 3) := by decide +kernel
theorem d_M_goThrough_195 : decode b_M_goThrough 195 = .ok (.iload_n 2, 1) := by decide +kernel
theorem d_M_goThrough_196 : decode b_M_goThrough 196 = .ok (.iaload, 1) := by decide +kernel
theorem d_M_goThrough_197 : decode b_M_goThrough 197 = .ok (.iconst 1, 1) := by decide +kernel
theorem d_M_goThrough_198 : decode b_M_goThrough 198 = .ok (.if_icmp .ne 33, 3) := by decide +kernel
theorem d_M_goThrough_201 : decode b_M_goThrough 201 = .ok (.aload_n 0, 1) := by decide +kernel
theorem d_M_goThrough_202 : decode b_M_goThrough 202 = .ok (.getfield 77, 3) := by decide +kernel
theorem d_M_goThrough_205 : decode b_M_goThrough 205 = .ok (.aload_n 0, 1) := by decide +kernel
theorem d_M_goThrough_206 : decode b_M_goThrough 206 = .ok (.aload_n 0, 1) := by decide +kernel
theorem d_M_goThrough_207 : decode b_M_goThrough 207 = .ok (.getfield 59, 3) := by decide +kernel
theorem d_M_goThrough_210 : decode b_M_goThrough 210 = .ok (.iload_n 3, 1) := by decide +kernel
theorem d_M_goThrough_211 : decode b_M_goThrough 211 = .ok (.iaload, 1) := by decide +kernel
theorem d_M_goThrough_212 : decode b_M_goThrough 212 = .ok (.aload_n 0, 1) := by decide +kernel
theorem d_M_goThrough_213 : decode b_M_goThrough 213 = .ok (.getfield 19, 3) := by decide +kernel
theorem d_M_goThrough_216 : decode b_M_goThrough 216 = .ok (.iload_n 2, 1) := by decide +kernel
theorem d_M_goThrough_217 : decode b_M_goThrough 217 = .ok (.iaload, 1) := by decide +kernel
theorem d_M_goThrough_218 : decode b_M_goThrough 218 = .ok (.invokevirtual 150, 3) := by decide +kernel
theorem d_M_goThrough_221 : decode b_M_goThrough 221 = .ok (.aload_n 0, 1) := by decide +kernel
theorem d_M_goThrough_222 : decode b_M_goThrough 222 = .ok (.getfield 22, 3) := by decide +kernel
theorem d_M_goThrough_225 : decode b_M_goThrough 225 = .ok (.iload_n 2, 1) := by decide +kernel
theorem d_M_goThrough_226 : decode b_M_goThrough 226 = .ok (.iaload, 1) := by decide +kernel
theorem d_M_goThrough_227 : decode b_M_goThrough 227 = .ok (.iastore, 1) := by decide +kernel
theorem d_M_goThrough_228 : decode b_M_goThrough 228 = .ok (.goto 112, 3) := by decide +kernel
theorem d_M_goThrough_231 : decode b_M_goThrough 231 = .ok (.aload_n 0, 1) := by decide +kernel
theorem d_M_goThrough_232 : decode b_M_goThrough 232 = .ok (.getfield 13, 3) := by decide +kernel
theorem d_M_goThrough_235 : decode b_M_goThrough 235 = .ok (.iload_n 2, 1) := by decide +kernel
theorem d_M_goThrough_236 : decode b_M_goThrough 236 = .ok (.iaload, 1) := by decide +kernel
theorem d_M_goThrough_237 : decode b_M_goThrough 237 = .ok (.iconst 2, 1) := by decide +kernel
theorem d_M_goThrough_238 : decode b_M_goThrough 238 = .ok (.if_icmp .ne 70, 3) := by decide +kernel
theorem d_M_goThrough_241 : decode b_M_goThrough 241 = .ok (.iconst 1, 1) := by decide +kernel
theorem d_M_goThrough_242 : decode b_M_goThrough 242 = .ok (.aload_n 0, 1) := by decide +kernel
theorem d_M_goThrough_243 : decode b_M_goThrough 243 = .ok (.getfield 19, 3) := by decide +kernel
theorem d_M_goThrough_246 : decode b_M_goThrough 246 = .ok (.iload_n 2, 1) := by decide +kernel
theorem d_M_goThrough_247 : decode b_M_goThrough 247 = .ok (.iaload, 1) := by decide +kernel
theorem d_M_goThrough_248 : decode b_M_goThrough 248 = .ok (.ishl, 1) := by decide +kernel
theorem d_M_goThrough_249 : decode b_M_goThrough 249 = .ok (.istore 4, 2) := by decide +kernel
theorem d_M_goThrough_251 : decode b_M_goThrough 251 = .ok (.aload_n 0, 1) := by decide +kernel
theorem d_M_goThrough_252 : decode b_M_goThrough 252 = .ok (.getfield 65, 3) := by decide +kernel
theorem d_M_goThrough_255 : decode b_M_goThrough 255 = .ok (.aload_n 0, 1) := by decide +kernel
theorem d_M_goThrough_256 : decode b_M_goThrough 256 = .ok (.getfield 59, 3) := by decide +kernel
theorem d_M_goThrough_259 : decode b_M_goThrough 259 = .ok (.iload_n 3, 1) := by decide +kernel
theorem d_M_goThrough_260 : decode b_M_goThrough 260 = .ok (.iaload, 1) := by decide +kernel
theorem d_M_goThrough_261 : decode b_M_goThrough 261 = .ok (.aload_n 0, 1) := by decide +kernel
theorem d_M_goThrough_262 : decode b_M_goThrough 262 = .ok (.getfield 22, 3) := by decide +kernel
theorem d_M_goThrough_265 : decode b_M_goThrough 265 = .ok (.iload_n 2, 1) := by decide +kernel
theorem d_M_goThrough_266 : decode b_M_goThrough 266 = .ok (.iaload, 1) := by decide +kernel
theorem d_M_goThrough_267 : decode b_M_goThrough 267 = .ok (.iconst 1, 1) := by decide +kernel
theorem d_M_goThrough_268 : decode b_M_goThrough 268 = .ok (.if_icmp .ne 20, 3) := by decide +kernel
theorem d_M_goThrough_271 : decode b_M_goThrough 271 = .ok (.aload_n 0, 1) := by decide +kernel
theorem d_M_goThrough_272 : decode b_M_goThrough 272 = .ok (.getfield 65, 3) := by decide +kernel
theorem d_M_goThrough_275 : decode b_M_goThrough 275 = .ok (.aload_n 0, 1) := by decide +kernel
theorem d_M_goThrough_276 : decode b_M_goThrough 276 = .ok (.getfield 59, 3) := by decide +kernel
theorem d_M_goThrough_279 : decode b_M_goThrough 279 = .ok (.iload_n 3, 1) := by decide +kernel
theorem d_M_goThrough_280 : decode b_M_goThrough 280 = .ok (.iaload, 1) := by decide +kernel
theorem d_M_goThrough_281 : decode b_M_goThrough 281 = .ok (.iaload, 1) := by decide +kernel
theorem d_M_goThrough_282 : decode b_M_goThrough 282 = .ok (.iload 4, 2) := by decide +kernel
theorem d_M_goThrough_284 : decode b_M_goThrough 284 = .ok (.ior, 1) := by decide +kernel
theorem d_M_goThrough_285 : decode b_M_goThrough 285 = .ok (.goto 19, 3) := by decide +kernel
theorem d_M_goThrough_288 : decode b_M_goThrough 288 = .ok (.aload_n 0, 1) := by decide +kernel
theorem d_M_goThrough_289 : decode b_M_goThrough 289 = .ok (.getfield 65, 3) := by decide +kernel
theorem d_M_goThrough_292 : decode b_M_goThrough 292 = .ok (.aload_n 0, 1) := by decide +kernel
theorem d_M_goThrough_293 : decode b_M_goThrough 293 = .ok (.getfield 59, 3) := by decide +kernel
theorem d_M_goThrough_296 : decode b_M_goThrough 296 = .ok (.iload_n 3, 1) := by decide +kernel
theorem d_M_goThrough_297 : decode b_M_goThrough 297 = .ok (.iaload, 1) := by decide +kernel
theorem d_M_goThrough_298 : decode b_M_goThrough 298 = .ok (.iaload, 1) := by decide +kernel
theorem d_M_goThrough_299 : decode b_M_goThrough 299 = .ok (.iload 4, 2) := by decide +kernel
theorem d_M_goThrough_301 : decode b_M_goThrough 301 = .ok (.iconst (-1), 1) := by decide +kernel
theorem d_M_goThrough_302 : decode b_M_goThrough 302 = .ok (.ixor, 1) := by decide +kernel
theorem d_M_goThrough_303 : decode b_M_goThrough 303 = .ok (.iand, 1) := by decide +kernel
theorem d_M_goThrough_304 : decode b_M_goThrough 304 = .ok (.iastore, 1) := by decide +kernel
theorem d_M_goThrough_305 : decode b_M_goThrough 305 = .ok (.goto 35, 3) := by decide +kernel
theorem d_M_goThrough_308 : decode b_M_goThrough 308 = .ok (.aload_n 0, 1) := by decide +kernel
theorem d_M_goThrough_309 : decode b_M_goThrough 309 = .ok (.getfield 56, 3) := by decide +kernel
theorem d_M_goThrough_312 : decode b_M_goThrough 312 = .ok (.iload_n 3, 1) := by decide +kernel
theorem d_M_goThrough_313 : decode b_M_goThrough 313 = .ok (.iconst 2, 1) := by decide +kernel
theorem d_M_goThrough_314 : decode b_M_goThrough 314 = .ok (.iastore, 1) := by decide +kernel
theorem d_M_goThrough_315 : decode b_M_goThrough 315 = .ok (.aload_n 0, 1) := by decide +kernel
theorem d_M_goThrough_316 : decode b_M_goThrough 316 = .ok (.aload_n 0, 1) := by decide +kernel
theorem d_M_goThrough_317 : decode b_M_goThrough 317 = .ok (.getfield 34, 3) := by decide +kernel
theorem d_M_goThrough_320 : decode b_M_goThrough 320 = .ok (.bipush 10, 2) := by decide +kernel
theorem d_M_goThrough_322 : decode b_M_goThrough 322 = .ok (.iload_n 2, 1) := by decide +kernel
theorem d_M_goThrough_323 : decode b_M_goThrough 323 = .ok (.imul, 1) := by decide +kernel
theorem d_M_goThrough_324 : decode b_M_goThrough 324 = .ok (.aload_n 0, 1) := by decide +kernel
theorem d_M_goThrough_325 : decode b_M_goThrough 325 = .ok (.getfield 28, 3) := by decide +kernel
theorem d_M_goThrough_328 : decode b_M_goThrough 328 = .ok (.iload_n 2, 1) := by decide +kernel
theorem d_M_goThrough_329 : decode b_M_goThrough 329 = .ok (.iaload, 1) := by decide +kernel
theorem d_M_goThrough_330 : decode b_M_goThrough 330 = .ok (.aload_n 0, 1) := by decide +kernel
theorem d_M_goThrough_331 : decode b_M_goThrough 331 = .ok (.getfield 59, 3) := by decide +kernel
theorem d_M_goThrough_334 : decode b_M_goThrough 334 = .ok (.iload_n 3, 1) := by decide +kernel
theorem d_M_goThrough_335 : decode b_M_goThrough 335 = .ok (.iaload, 1) := by decide +kernel
theorem d_M_goThrough_336 : decode b_M_goThrough 336 = .ok (.invokevirtual 146, 3) := by decide +kernel
theorem d_M_goThrough_339 : decode b_M_goThrough 339 = .ok (.pop, 1) := by decide +kernel
theorem d_M_goThrough_340 : decode b_M_goThrough 340 = .ok (.iinc 2 1, 3) := by decide +kernel
theorem d_M_goThrough_343 : decode b_M_goThrough 343 = .ok (.goto (-326), 3) := by decide +kernel
theorem d_M_goThrough_346 : decode b_M_goThrough 346 = .ok (.return_, 1) := by decide +kernel

abbrev b_M_isKnown : ByteArray := prog_9_method_14_code
def y_M_isKnown : MethodName := ⟨"RegistryLogModel", "isKnown", "(I)Z"⟩
theorem d_M_isKnown_0 : decode b_M_isKnown 0 = .ok (.iload_n 1, 1) := by decide +kernel
theorem d_M_isKnown_1 : decode b_M_isKnown 1 = .ok (.iconst (-1), 1) := by decide +kernel
theorem d_M_isKnown_2 : decode b_M_isKnown 2 = .ok (.if_icmp .eq 17, 3) := by decide +kernel
theorem d_M_isKnown_5 : decode b_M_isKnown 5 = .ok (.aload_n 0, 1) := by decide +kernel
theorem d_M_isKnown_6 : decode b_M_isKnown 6 = .ok (.getfield 56, 3) := by decide +kernel
theorem d_M_isKnown_9 : decode b_M_isKnown 9 = .ok (.iload_n 1, 1) := by decide +kernel
theorem d_M_isKnown_10 : decode b_M_isKnown 10 = .ok (.iaload, 1) := by decide +kernel
theorem d_M_isKnown_11 : decode b_M_isKnown 11 = .ok (.iconst 1, 1) := by decide +kernel
theorem d_M_isKnown_12 : decode b_M_isKnown 12 = .ok (.if_icmp .ne 7, 3) := by decide +kernel
theorem d_M_isKnown_15 : decode b_M_isKnown 15 = .ok (.iconst 1, 1) := by decide +kernel
theorem d_M_isKnown_16 : decode b_M_isKnown 16 = .ok (.goto 4, 3) := by decide +kernel
theorem d_M_isKnown_19 : decode b_M_isKnown 19 = .ok (.iconst 0, 1) := by decide +kernel
theorem d_M_isKnown_20 : decode b_M_isKnown 20 = .ok (.ireturn, 1) := by decide +kernel

abbrev b_M_hasRight : ByteArray := prog_9_method_15_code
def y_M_hasRight : MethodName := ⟨"RegistryLogModel", "hasRight", "(II)Z"⟩
theorem d_M_hasRight_0 : decode b_M_hasRight 0 = .ok (.aload_n 0, 1) := by decide +kernel
theorem d_M_hasRight_1 : decode b_M_hasRight 1 = .ok (.iload_n 1, 1) := by decide +kernel
theorem d_M_hasRight_2 : decode b_M_hasRight 2 = .ok (.invokevirtual 154, 3) := by decide +kernel
theorem d_M_hasRight_5 : decode b_M_hasRight 5 = .ok (.ifCond .eq 41, 3) := by decide +kernel
theorem d_M_hasRight_8 : decode b_M_hasRight 8 = .ok (.aload_n 0, 1) := by decide +kernel
theorem d_M_hasRight_9 : decode b_M_hasRight 9 = .ok (.getfield 62, 3) := by decide +kernel
theorem d_M_hasRight_12 : decode b_M_hasRight 12 = .ok (.aload_n 0, 1) := by decide +kernel
theorem d_M_hasRight_13 : decode b_M_hasRight 13 = .ok (.getfield 59, 3) := by decide +kernel
theorem d_M_hasRight_16 : decode b_M_hasRight 16 = .ok (.iload_n 1, 1) := by decide +kernel
theorem d_M_hasRight_17 : decode b_M_hasRight 17 = .ok (.iaload, 1) := by decide +kernel
theorem d_M_hasRight_18 : decode b_M_hasRight 18 = .ok (.iaload, 1) := by decide +kernel
theorem d_M_hasRight_19 : decode b_M_hasRight 19 = .ok (.iload_n 2, 1) := by decide +kernel
theorem d_M_hasRight_20 : decode b_M_hasRight 20 = .ok (.if_icmp .eq 22, 3) := by decide +kernel
theorem d_M_hasRight_23 : decode b_M_hasRight 23 = .ok (.aload_n 0, 1) := by decide +kernel
theorem d_M_hasRight_24 : decode b_M_hasRight 24 = .ok (.getfield 65, 3) := by decide +kernel
theorem d_M_hasRight_27 : decode b_M_hasRight 27 = .ok (.aload_n 0, 1) := by decide +kernel
theorem d_M_hasRight_28 : decode b_M_hasRight 28 = .ok (.getfield 59, 3) := by decide +kernel
theorem d_M_hasRight_31 : decode b_M_hasRight 31 = .ok (.iload_n 1, 1) := by decide +kernel
theorem d_M_hasRight_32 : decode b_M_hasRight 32 = .ok (.iaload, 1) := by decide +kernel
theorem d_M_hasRight_33 : decode b_M_hasRight 33 = .ok (.iaload, 1) := by decide +kernel
theorem d_M_hasRight_34 : decode b_M_hasRight 34 = .ok (.iload_n 2, 1) := by decide +kernel
theorem d_M_hasRight_35 : decode b_M_hasRight 35 = .ok (.ishr, 1) := by decide +kernel
theorem d_M_hasRight_36 : decode b_M_hasRight 36 = .ok (.iconst 1, 1) := by decide +kernel
theorem d_M_hasRight_37 : decode b_M_hasRight 37 = .ok (.iand, 1) := by decide +kernel
theorem d_M_hasRight_38 : decode b_M_hasRight 38 = .ok (.iconst 1, 1) := by decide +kernel
theorem d_M_hasRight_39 : decode b_M_hasRight 39 = .ok (.if_icmp .ne 7, 3) := by decide +kernel
theorem d_M_hasRight_42 : decode b_M_hasRight 42 = .ok (.iconst 1, 1) := by decide +kernel
theorem d_M_hasRight_43 : decode b_M_hasRight 43 = .ok (.goto 4, 3) := by decide +kernel
theorem d_M_hasRight_46 : decode b_M_hasRight 46 = .ok (.iconst 0, 1) := by decide +kernel
theorem d_M_hasRight_47 : decode b_M_hasRight 47 = .ok (.ireturn, 1) := by decide +kernel

abbrev b_M_isFounder : ByteArray := prog_9_method_16_code
def y_M_isFounder : MethodName := ⟨"RegistryLogModel", "isFounder", "(II)Z"⟩
theorem d_M_isFounder_0 : decode b_M_isFounder 0 = .ok (.aload_n 0, 1) := by decide +kernel
theorem d_M_isFounder_1 : decode b_M_isFounder 1 = .ok (.iload_n 1, 1) := by decide +kernel
theorem d_M_isFounder_2 : decode b_M_isFounder 2 = .ok (.invokevirtual 154, 3) := by decide +kernel
theorem d_M_isFounder_5 : decode b_M_isFounder 5 = .ok (.ifCond .eq 22, 3) := by decide +kernel
theorem d_M_isFounder_8 : decode b_M_isFounder 8 = .ok (.aload_n 0, 1) := by decide +kernel
theorem d_M_isFounder_9 : decode b_M_isFounder 9 = .ok (.getfield 62, 3) := by decide +kernel
theorem d_M_isFounder_12 : decode b_M_isFounder 12 = .ok (.aload_n 0, 1) := by decide +kernel
theorem d_M_isFounder_13 : decode b_M_isFounder 13 = .ok (.getfield 59, 3) := by decide +kernel
theorem d_M_isFounder_16 : decode b_M_isFounder 16 = .ok (.iload_n 1, 1) := by decide +kernel
theorem d_M_isFounder_17 : decode b_M_isFounder 17 = .ok (.iaload, 1) := by decide +kernel
theorem d_M_isFounder_18 : decode b_M_isFounder 18 = .ok (.iaload, 1) := by decide +kernel
theorem d_M_isFounder_19 : decode b_M_isFounder 19 = .ok (.iload_n 2, 1) := by decide +kernel
theorem d_M_isFounder_20 : decode b_M_isFounder 20 = .ok (.if_icmp .ne 7, 3) := by decide +kernel
theorem d_M_isFounder_23 : decode b_M_isFounder 23 = .ok (.iconst 1, 1) := by decide +kernel
theorem d_M_isFounder_24 : decode b_M_isFounder 24 = .ok (.goto 4, 3) := by decide +kernel
theorem d_M_isFounder_27 : decode b_M_isFounder 27 = .ok (.iconst 0, 1) := by decide +kernel
theorem d_M_isFounder_28 : decode b_M_isFounder 28 = .ok (.ireturn, 1) := by decide +kernel

abbrev b_M_isFree : ByteArray := prog_9_method_17_code
def y_M_isFree : MethodName := ⟨"RegistryLogModel", "isFree", "([III)Z"⟩
theorem d_M_isFree_0 : decode b_M_isFree 0 = .ok (.aload_n 0, 1) := by decide +kernel
theorem d_M_isFree_1 : decode b_M_isFree 1 = .ok (.aload_n 1, 1) := by decide +kernel
theorem d_M_isFree_2 : decode b_M_isFree 2 = .ok (.iconst 0, 1) := by decide +kernel
theorem d_M_isFree_3 : decode b_M_isFree 3 = .ok (.iload_n 2, 1) := by decide +kernel
theorem d_M_isFree_4 : decode b_M_isFree 4 = .ok (.invokevirtual 142, 3) := by decide +kernel
theorem d_M_isFree_7 : decode b_M_isFree 7 = .ok (.iconst (-1), 1) := by decide +kernel
theorem d_M_isFree_8 : decode b_M_isFree 8 = .ok (.if_icmp .ne 7, 3) := by decide +kernel
theorem d_M_isFree_11 : decode b_M_isFree 11 = .ok (.iconst 1, 1) := by decide +kernel
theorem d_M_isFree_12 : decode b_M_isFree 12 = .ok (.goto 4, 3) := by decide +kernel
theorem d_M_isFree_15 : decode b_M_isFree 15 = .ok (.iconst 0, 1) := by decide +kernel
theorem d_M_isFree_16 : decode b_M_isFree 16 = .ok (.istore 4, 2) := by decide +kernel
theorem d_M_isFree_18 : decode b_M_isFree 18 = .ok (.iconst 0, 1) := by decide +kernel
theorem d_M_isFree_19 : decode b_M_isFree 19 = .ok (.istore 5, 2) := by decide +kernel
theorem d_M_isFree_21 : decode b_M_isFree 21 = .ok (.iload 5, 2) := by decide +kernel
theorem d_M_isFree_23 : decode b_M_isFree 23 = .ok (.aload_n 0, 1) := by decide +kernel
theorem d_M_isFree_24 : decode b_M_isFree 24 = .ok (.getfield 133, 3) := by decide +kernel
theorem d_M_isFree_27 : decode b_M_isFree 27 = .ok (.if_icmp .ge 49, 3) := by decide +kernel
theorem d_M_isFree_30 : decode b_M_isFree 30 = .ok (.iload 4, 2) := by decide +kernel
theorem d_M_isFree_32 : decode b_M_isFree 32 = .ok (.ifCond .eq 44, 3) := by decide +kernel
theorem d_M_isFree_35 : decode b_M_isFree 35 = .ok (.iload 5, 2) := by decide +kernel
theorem d_M_isFree_37 : decode b_M_isFree 37 = .ok (.iload_n 3, 1) := by decide +kernel
theorem d_M_isFree_38 : decode b_M_isFree 38 = .ok (.if_icmp .eq 25, 3) := by decide +kernel
theorem d_M_isFree_41 : decode b_M_isFree 41 = .ok (.aload_n 0, 1) := by decide +kernel
theorem d_M_isFree_42 : decode b_M_isFree 42 = .ok (.getfield 56, 3) := by decide +kernel
theorem d_M_isFree_45 : decode b_M_isFree 45 = .ok (.iload 5, 2) := by decide +kernel
theorem d_M_isFree_47 : decode b_M_isFree 47 = .ok (.iaload, 1) := by decide +kernel
theorem d_M_isFree_48 : decode b_M_isFree 48 = .ok (.iconst 1, 1) := by decide +kernel
theorem d_M_isFree_49 : decode b_M_isFree 49 = .ok (.if_icmp .ne 14, 3) := by decide +kernel
theorem d_M_isFree_52 : decode b_M_isFree 52 = .ok (.aload_n 0, 1) := by decide +kernel
theorem d_M_isFree_53 : decode b_M_isFree 53 = .ok (.aload_n 1, 1) := by decide +kernel
theorem d_M_isFree_54 : decode b_M_isFree 54 = .ok (.iload_n 2, 1) := by decide +kernel
theorem d_M_isFree_55 : decode b_M_isFree 55 = .ok (.iload 5, 2) := by decide +kernel
theorem d_M_isFree_57 : decode b_M_isFree 57 = .ok (.invokevirtual 157, 3) := by decide +kernel
theorem d_M_isFree_60 : decode b_M_isFree 60 = .ok (.ifCond .ne 7, 3) := by decide +kernel
theorem d_M_isFree_63 : decode b_M_isFree 63 = .ok (.iconst 1, 1) := by decide +kernel
theorem d_M_isFree_64 : decode b_M_isFree 64 = .ok (.goto 4, 3) := by decide +kernel
theorem d_M_isFree_67 : decode b_M_isFree 67 = .ok (.iconst 0, 1) := by decide +kernel
theorem d_M_isFree_68 : decode b_M_isFree 68 = .ok (.istore 4, 2) := by decide +kernel
theorem d_M_isFree_70 : decode b_M_isFree 70 = .ok (.iinc 5 1, 3) := by decide +kernel
theorem d_M_isFree_73 : decode b_M_isFree 73 = .ok (.goto (-52), 3) := by decide +kernel
theorem d_M_isFree_76 : decode b_M_isFree 76 = .ok (.iload 4, 2) := by decide +kernel
theorem d_M_isFree_78 : decode b_M_isFree 78 = .ok (.ireturn, 1) := by decide +kernel

abbrev b_M_isPerson : ByteArray := prog_9_method_18_code
def y_M_isPerson : MethodName := ⟨"RegistryLogModel", "isPerson", "(I)Z"⟩
theorem d_M_isPerson_0 : decode b_M_isPerson 0 = .ok (.iload_n 0, 1) := by decide +kernel
theorem d_M_isPerson_1 : decode b_M_isPerson 1 = .ok (.ifCond .lt 13, 3) := by decide +kernel
theorem d_M_isPerson_4 : decode b_M_isPerson 4 = .ok (.iload_n 0, 1) := by decide +kernel
theorem d_M_isPerson_5 : decode b_M_isPerson 5 = .ok (.bipush 8, 2) := by decide +kernel
theorem d_M_isPerson_7 : decode b_M_isPerson 7 = .ok (.if_icmp .ge 7, 3) := by decide +kernel
theorem d_M_isPerson_10 : decode b_M_isPerson 10 = .ok (.iconst 1, 1) := by decide +kernel
theorem d_M_isPerson_11 : decode b_M_isPerson 11 = .ok (.goto 4, 3) := by decide +kernel
theorem d_M_isPerson_14 : decode b_M_isPerson 14 = .ok (.iconst 0, 1) := by decide +kernel
theorem d_M_isPerson_15 : decode b_M_isPerson 15 = .ok (.ireturn, 1) := by decide +kernel

abbrev b_M_isVersion : ByteArray := prog_9_method_19_code
def y_M_isVersion : MethodName := ⟨"RegistryLogModel", "isVersion", "(I)Z"⟩
theorem d_M_isVersion_0 : decode b_M_isVersion 0 = .ok (.iload_n 0, 1) := by decide +kernel
theorem d_M_isVersion_1 : decode b_M_isVersion 1 = .ok (.ifCond .lt 14, 3) := by decide +kernel
theorem d_M_isVersion_4 : decode b_M_isVersion 4 = .ok (.iload_n 0, 1) := by decide +kernel
theorem d_M_isVersion_5 : decode b_M_isVersion 5 = .ok (.sipush 1000, 3) := by decide +kernel
theorem d_M_isVersion_8 : decode b_M_isVersion 8 = .ok (.if_icmp .ge 7, 3) := by decide +kernel
theorem d_M_isVersion_11 : decode b_M_isVersion 11 = .ok (.iconst 1, 1) := by decide +kernel
theorem d_M_isVersion_12 : decode b_M_isVersion 12 = .ok (.goto 4, 3) := by decide +kernel
theorem d_M_isVersion_15 : decode b_M_isVersion 15 = .ok (.iconst 0, 1) := by decide +kernel
theorem d_M_isVersion_16 : decode b_M_isVersion 16 = .ok (.ireturn, 1) := by decide +kernel

abbrev b_M_write : ByteArray := prog_9_method_20_code
def y_M_write : MethodName := ⟨"RegistryLogModel", "write", "(IIII)I"⟩
theorem d_M_write_0 : decode b_M_write 0 = .ok (.aload_n 0, 1) := by decide +kernel
theorem d_M_write_1 : decode b_M_write 1 = .ok (.getfield 40, 3) := by decide +kernel
theorem d_M_write_4 : decode b_M_write 4 = .ok (.iconst 4, 1) := by decide +kernel
theorem d_M_write_5 : decode b_M_write 5 = .ok (.iaload, 1) := by decide +kernel
theorem d_M_write_6 : decode b_M_write 6 = .ok (.istore 5, 2) := by decide +kernel
theorem d_M_write_8 : decode b_M_write 8 = .ok (.aload_n 0, 1) := by decide +kernel
theorem d_M_write_9 : decode b_M_write 9 = .ok (.getfield 13, 3) := by decide +kernel
theorem d_M_write_12 : decode b_M_write 12 = .ok (.iload 5, 2) := by decide +kernel
theorem d_M_write_14 : decode b_M_write 14 = .ok (.iload_n 1, 1) := by decide +kernel
theorem d_M_write_15 : decode b_M_write 15 = .ok (.iastore, 1) := by decide +kernel
theorem d_M_write_16 : decode b_M_write 16 = .ok (.aload_n 0, 1) := by decide +kernel
theorem d_M_write_17 : decode b_M_write 17 = .ok (.getfield 16, 3) := by decide +kernel
theorem d_M_write_20 : decode b_M_write 20 = .ok (.iload 5, 2) := by decide +kernel
theorem d_M_write_22 : decode b_M_write 22 = .ok (.iload_n 2, 1) := by decide +kernel
theorem d_M_write_23 : decode b_M_write 23 = .ok (.iastore, 1) := by decide +kernel
theorem d_M_write_24 : decode b_M_write 24 = .ok (.aload_n 0, 1) := by decide +kernel
theorem d_M_write_25 : decode b_M_write 25 = .ok (.getfield 19, 3) := by decide +kernel
theorem d_M_write_28 : decode b_M_write 28 = .ok (.iload 5, 2) := by decide +kernel
theorem d_M_write_30 : decode b_M_write 30 = .ok (.iload_n 3, 1) := by decide +kernel
theorem d_M_write_31 : decode b_M_write 31 = .ok (.iastore, 1) := by decide +kernel
theorem d_M_write_32 : decode b_M_write 32 = .ok (.aload_n 0, 1) := by decide +kernel
theorem d_M_write_33 : decode b_M_write 33 = .ok (.getfield 22, 3) := by decide +kernel
theorem d_M_write_36 : decode b_M_write 36 = .ok (.iload 5, 2) := by decide +kernel
theorem d_M_write_38 : decode b_M_write 38 = .ok (.iload 4, 2) := by decide +kernel
theorem d_M_write_40 : decode b_M_write 40 = .ok (.iastore, 1) := by decide +kernel
theorem d_M_write_41 : decode b_M_write 41 = .ok (.aload_n 0, 1) := by decide +kernel
theorem d_M_write_42 : decode b_M_write 42 = .ok (.getfield 37, 3) := by decide +kernel
theorem d_M_write_45 : decode b_M_write 45 = .ok (.sipush 480, 3) := by decide +kernel
theorem d_M_write_48 : decode b_M_write 48 = .ok (.iload 5, 2) := by decide +kernel
theorem d_M_write_50 : decode b_M_write 50 = .ok (.iadd, 1) := by decide +kernel
theorem d_M_write_51 : decode b_M_write 51 = .ok (.iload 4, 2) := by decide +kernel
theorem d_M_write_53 : decode b_M_write 53 = .ok (.iastore, 1) := by decide +kernel
theorem d_M_write_54 : decode b_M_write 54 = .ok (.aload_n 0, 1) := by decide +kernel
theorem d_M_write_55 : decode b_M_write 55 = .ok (.getfield 25, 3) := by decide +kernel
theorem d_M_write_58 : decode b_M_write 58 = .ok (.iload 5, 2) := by decide +kernel
theorem d_M_write_60 : decode b_M_write 60 = .ok (.aload_n 0, 1) := by decide +kernel
theorem d_M_write_61 : decode b_M_write 61 = .ok (.getfield 123, 3) := by decide +kernel
theorem d_M_write_64 : decode b_M_write 64 = .ok (.iastore, 1) := by decide +kernel
theorem d_M_write_65 : decode b_M_write 65 = .ok (.aload_n 0, 1) := by decide +kernel
theorem d_M_write_66 : decode b_M_write 66 = .ok (.getfield 28, 3) := by decide +kernel
theorem d_M_write_69 : decode b_M_write 69 = .ok (.iload 5, 2) := by decide +kernel
theorem d_M_write_71 : decode b_M_write 71 = .ok (.aload_n 0, 1) := by decide +kernel
theorem d_M_write_72 : decode b_M_write 72 = .ok (.getfield 126, 3) := by decide +kernel
theorem d_M_write_75 : decode b_M_write 75 = .ok (.iastore, 1) := by decide +kernel
theorem d_M_write_76 : decode b_M_write 76 = .ok (.iconst 0, 1) := by decide +kernel
theorem d_M_write_77 : decode b_M_write 77 = .ok (.istore 6, 2) := by decide +kernel
theorem d_M_write_79 : decode b_M_write 79 = .ok (.iload 6, 2) := by decide +kernel
theorem d_M_write_81 : decode b_M_write 81 = .ok (.aload_n 0, 1) := by decide +kernel
theorem d_M_write_82 : decode b_M_write 82 = .ok (.getfield 123, 3) := by decide +kernel
theorem d_M_write_85 : decode b_M_write 85 = .ok (.if_icmp .ge 29, 3) := by decide +kernel
theorem d_M_write_88 : decode b_M_write 88 = .ok (.aload_n 0, 1) := by decide +kernel
theorem d_M_write_89 : decode b_M_write 89 = .ok (.getfield 31, 3) := by decide +kernel
theorem d_M_write_92 : decode b_M_write 92 = .ok (.bipush 10, 2) := by decide +kernel
theorem d_M_write_94 : decode b_M_write 94 = .ok (.iload 5, 2) := by decide +kernel
theorem d_M_write_96 : decode b_M_write 96 = .ok (.imul, 1) := by decide +kernel
theorem d_M_write_97 : decode b_M_write 97 = .ok (.iload 6, 2) := by decide +kernel
theorem d_M_write_99 : decode b_M_write 99 = .ok (.iadd, 1) := by decide +kernel
theorem d_M_write_100 : decode b_M_write 100 = .ok (.aload_n 0, 1) := by decide +kernel
theorem d_M_write_101 : decode b_M_write 101 = .ok (.getfield 80, 3) := by decide +kernel
theorem d_M_write_104 : decode b_M_write 104 = .ok (.iload 6, 2) := by decide +kernel
theorem d_M_write_106 : decode b_M_write 106 = .ok (.iaload, 1) := by decide +kernel
theorem d_M_write_107 : decode b_M_write 107 = .ok (.iastore, 1) := by decide +kernel
theorem d_M_write_108 : decode b_M_write 108 = .ok (.iinc 6 1, 3) := by decide +kernel
theorem d_M_write_111 : decode b_M_write 111 = .ok (.goto (-32), 3) := by decide +kernel
theorem d_M_write_114 : decode b_M_write 114 = .ok (.iconst 0, 1) := by decide +kernel
theorem d_M_write_115 : decode b_M_write 115 = .ok (.istore 6, 2) := by decide +kernel
theorem d_M_write_117 : decode b_M_write 117 = .ok (.iload 6, 2) := by decide +kernel
theorem d_M_write_119 : decode b_M_write 119 = .ok (.aload_n 0, 1) := by decide +kernel
theorem d_M_write_120 : decode b_M_write 120 = .ok (.getfield 126, 3) := by decide +kernel
theorem d_M_write_123 : decode b_M_write 123 = .ok (.if_icmp .ge 29, 3) := by decide +kernel
theorem d_M_write_126 : decode b_M_write 126 = .ok (.aload_n 0, 1) := by decide +kernel
theorem d_M_write_127 : decode b_M_write 127 = .ok (.getfield 34, 3) := by decide +kernel
theorem d_M_write_130 : decode b_M_write 130 = .ok (.bipush 10, 2) := by decide +kernel
theorem d_M_write_132 : decode b_M_write 132 = .ok (.iload 5, 2) := by decide +kernel
theorem d_M_write_134 : decode b_M_write 134 = .ok (.imul, 1) := by decide +kernel
theorem d_M_write_135 : decode b_M_write 135 = .ok (.iload 6, 2) := by decide +kernel
theorem d_M_write_137 : decode b_M_write 137 = .ok (.iadd, 1) := by decide +kernel
theorem d_M_write_138 : decode b_M_write 138 = .ok (.aload_n 0, 1) := by decide +kernel
theorem d_M_write_139 : decode b_M_write 139 = .ok (.getfield 83, 3) := by decide +kernel
theorem d_M_write_142 : decode b_M_write 142 = .ok (.iload 6, 2) := by decide +kernel
theorem d_M_write_144 : decode b_M_write 144 = .ok (.iaload, 1) := by decide +kernel
theorem d_M_write_145 : decode b_M_write 145 = .ok (.iastore, 1) := by decide +kernel
theorem d_M_write_146 : decode b_M_write 146 = .ok (.iinc 6 1, 3) := by decide +kernel
theorem d_M_write_149 : decode b_M_write 149 = .ok (.goto (-32), 3) := by decide +kernel
theorem d_M_write_152 : decode b_M_write 152 = .ok (.aload_n 0, 1) := by decide +kernel
theorem d_M_write_153 : decode b_M_write 153 = .ok (.getfield 40, 3) := by decide +kernel
theorem d_M_write_156 : decode b_M_write 156 = .ok (.iconst 4, 1) := by decide +kernel
theorem d_M_write_157 : decode b_M_write 157 = .ok (.dup2, 1) := by decide +kernel
theorem d_M_write_158 : decode b_M_write 158 = .ok (.iaload, 1) := by decide +kernel
theorem d_M_write_159 : decode b_M_write 159 = .ok (.iconst 1, 1) := by decide +kernel
theorem d_M_write_160 : decode b_M_write 160 = .ok (.iadd, 1) := by decide +kernel
theorem d_M_write_161 : decode b_M_write 161 = .ok (.iastore, 1) := by decide +kernel
theorem d_M_write_162 : decode b_M_write 162 = .ok (.iload 5, 2) := by decide +kernel
theorem d_M_write_164 : decode b_M_write 164 = .ok (.ireturn, 1) := by decide +kernel

abbrev b_M_isFull : ByteArray := prog_9_method_21_code
def y_M_isFull : MethodName := ⟨"RegistryLogModel", "isFull", "()Z"⟩
theorem d_M_isFull_0 : decode b_M_isFull 0 = .ok (.aload_n 0, 1) := by decide +kernel
theorem d_M_isFull_1 : decode b_M_isFull 1 = .ok (.getfield 40, 3) := by decide +kernel
theorem d_M_isFull_4 : decode b_M_isFull 4 = .ok (.iconst 4, 1) := by decide +kernel
theorem d_M_isFull_5 : decode b_M_isFull 5 = .ok (.iaload, 1) := by decide +kernel
theorem d_M_isFull_6 : decode b_M_isFull 6 = .ok (.bipush 120, 2) := by decide +kernel
theorem d_M_isFull_8 : decode b_M_isFull 8 = .ok (.if_icmp .ne 7, 3) := by decide +kernel
theorem d_M_isFull_11 : decode b_M_isFull 11 = .ok (.iconst 1, 1) := by decide +kernel
theorem d_M_isFull_12 : decode b_M_isFull 12 = .ok (.goto 4, 3) := by decide +kernel
theorem d_M_isFull_15 : decode b_M_isFull 15 = .ok (.iconst 0, 1) := by decide +kernel
theorem d_M_isFull_16 : decode b_M_isFull 16 = .ok (.ireturn, 1) := by decide +kernel

abbrev b_M_publish : ByteArray := prog_9_method_22_code
def y_M_publish : MethodName := ⟨"RegistryLogModel", "publish", "(III)I"⟩
theorem d_M_publish_0 : decode b_M_publish 0 = .ok (.aload_n 0, 1) := by decide +kernel
theorem d_M_publish_1 : decode b_M_publish 1 = .ok (.iconst 0, 1) := by decide +kernel
theorem d_M_publish_2 : decode b_M_publish 2 = .ok (.invokevirtual 161, 3) := by decide +kernel
theorem d_M_publish_5 : decode b_M_publish 5 = .ok (.ifCond .eq 17, 3) := by decide +kernel
theorem d_M_publish_8 : decode b_M_publish 8 = .ok (.iload_n 1, 1) := by decide +kernel
theorem d_M_publish_9 : decode b_M_publish 9 = .ok (.invokestatic 165, 3) := by decide +kernel
theorem d_M_publish_12 : decode b_M_publish 12 = .ok (.ifCond .eq 10, 3) := by decide +kernel
theorem d_M_publish_15 : decode b_M_publish 15 = .ok (.iload_n 2, 1) := by decide +kernel
theorem d_M_publish_16 : decode b_M_publish 16 = .ok (.invokestatic 168, 3) := by decide +kernel
theorem d_M_publish_19 : decode b_M_publish 19 = .ok (.ifCond .ne 7, 3) := by decide +kernel
theorem d_M_publish_22 : decode b_M_publish 22 = .ok (.iconst 1, 1) := by decide +kernel
theorem d_M_publish_23 : decode b_M_publish 23 = .ok (.goto 4, 3) := by decide +kernel
theorem d_M_publish_26 : decode b_M_publish 26 = .ok (.iconst 0, 1) := by decide +kernel
theorem d_M_publish_27 : decode b_M_publish 27 = .ok (.istore 4, 2) := by decide +kernel
theorem d_M_publish_29 : decode b_M_publish 29 = .ok (.aload_n 0, 1) := by decide +kernel
theorem d_M_publish_30 : decode b_M_publish 30 = .ok (.iconst 4, 1) := by decide +kernel
theorem d_M_publish_31 : decode b_M_publish 31 = .ok (.invokevirtual 171, 3) := by decide +kernel
theorem d_M_publish_34 : decode b_M_publish 34 = .ok (.iload 4, 2) := by decide +kernel
theorem d_M_publish_36 : decode b_M_publish 36 = .ok (.ifCond .eq 7, 3) := by decide +kernel
theorem d_M_publish_39 : decode b_M_publish 39 = .ok (.iconst (-1), 1) := by decide +kernel
theorem d_M_publish_40 : decode b_M_publish 40 = .ok (.goto 16, 3) := by decide +kernel
theorem d_M_publish_43 : decode b_M_publish 43 = .ok (.aload_n 0, 1) := by decide +kernel
theorem d_M_publish_44 : decode b_M_publish 44 = .ok (.aload_n 0, 1) := by decide +kernel
theorem d_M_publish_45 : decode b_M_publish 45 = .ok (.getfield 80, 3) := by decide +kernel
theorem d_M_publish_48 : decode b_M_publish 48 = .ok (.iconst 0, 1) := by decide +kernel
theorem d_M_publish_49 : decode b_M_publish 49 = .ok (.aload_n 0, 1) := by decide +kernel
theorem d_M_publish_50 : decode b_M_publish 50 = .ok (.getfield 123, 3) := by decide +kernel
theorem d_M_publish_53 : decode b_M_publish 53 = .ok (.invokevirtual 142, 3) := by decide +kernel
theorem d_M_publish_56 : decode b_M_publish 56 = .ok (.istore 5, 2) := by decide +kernel
theorem d_M_publish_58 : decode b_M_publish 58 = .ok (.iload 4, 2) := by decide +kernel
theorem d_M_publish_60 : decode b_M_publish 60 = .ok (.ifCond .ne 58, 3) := by decide +kernel
theorem d_M_publish_63 : decode b_M_publish 63 = .ok (.iload 5, 2) := by decide +kernel
theorem d_M_publish_65 : decode b_M_publish 65 = .ok (.iconst (-1), 1) := by decide +kernel
theorem d_M_publish_66 : decode b_M_publish 66 = .ok (.if_icmp .ne 22, 3) := by decide +kernel
theorem d_M_publish_69 : decode b_M_publish 69 = .ok (.aload_n 0, 1) := by decide +kernel
theorem d_M_publish_70 : decode b_M_publish 70 = .ok (.aload_n 0, 1) := by decide +kernel
theorem d_M_publish_71 : decode b_M_publish 71 = .ok (.getfield 80, 3) := by decide +kernel
theorem d_M_publish_74 : decode b_M_publish 74 = .ok (.aload_n 0, 1) := by decide +kernel
theorem d_M_publish_75 : decode b_M_publish 75 = .ok (.getfield 123, 3) := by decide +kernel
theorem d_M_publish_78 : decode b_M_publish 78 = .ok (.iconst (-1), 1) := by decide +kernel
theorem d_M_publish_79 : decode b_M_publish 79 = .ok (.invokevirtual 175, 3) := by decide +kernel
theorem d_M_publish_82 : decode b_M_publish 82 = .ok (.ifCond .eq 36, 3) := by decide +kernel
theorem d_M_publish_85 : decode b_M_publish 85 = .ok (.goto 29, 3) := by decide +kernel
theorem d_M_publish_88 : decode b_M_publish 88 = .ok (.aload_n 0, 1) := by decide +kernel
theorem d_M_publish_89 : decode b_M_publish 89 = .ok (.iload 5, 2) := by decide +kernel
theorem d_M_publish_91 : decode b_M_publish 91 = .ok (.iload_n 1, 1) := by decide +kernel
theorem d_M_publish_92 : decode b_M_publish 92 = .ok (.invokevirtual 178, 3) := by decide +kernel
theorem d_M_publish_95 : decode b_M_publish 95 = .ok (.ifCond .eq 23, 3) := by decide +kernel
theorem d_M_publish_98 : decode b_M_publish 98 = .ok (.aload_n 0, 1) := by decide +kernel
theorem d_M_publish_99 : decode b_M_publish 99 = .ok (.aload_n 0, 1) := by decide +kernel
theorem d_M_publish_100 : decode b_M_publish 100 = .ok (.getfield 59, 3) := by decide +kernel
theorem d_M_publish_103 : decode b_M_publish 103 = .ok (.iload 5, 2) := by decide +kernel
theorem d_M_publish_105 : decode b_M_publish 105 = .ok (.iaload, 1) := by decide +kernel
theorem d_M_publish_106 : decode b_M_publish 106 = .ok (.iload_n 2, 1) := by decide +kernel
theorem d_M_publish_107 : decode b_M_publish 107 = .ok (.invokevirtual 150, 3) := by decide +kernel
theorem d_M_publish_110 : decode b_M_publish 110 = .ok (.iconst (-1), 1) := by decide +kernel
theorem d_M_publish_111 : decode b_M_publish 111 = .ok (.if_icmp .ne 7, 3) := by decide +kernel
theorem d_M_publish_114 : decode b_M_publish 114 = .ok (.iconst 1, 1) := by decide +kernel
theorem d_M_publish_115 : decode b_M_publish 115 = .ok (.goto 4, 3) := by decide +kernel
theorem d_M_publish_118 : decode b_M_publish 118 = .ok (.iconst 0, 1) := by decide +kernel
theorem d_M_publish_119 : decode b_M_publish 119 = .ok (.istore 6, 2) := by decide +kernel
theorem d_M_publish_121 : decode b_M_publish 121 = .ok (.aload_n 0, 1) := by decide +kernel
theorem d_M_publish_122 : decode b_M_publish 122 = .ok (.iload 4, 2) := by decide +kernel
theorem d_M_publish_124 : decode b_M_publish 124 = .ok (.iload 6, 2) := by decide +kernel
theorem d_M_publish_126 : decode b_M_publish 126 = .ok (.ifCond .eq 10, 3) := by decide +kernel
theorem d_M_publish_129 : decode b_M_publish 129 = .ok (.aload_n 0, 1) := by decide +kernel
theorem d_M_publish_130 : decode b_M_publish 130 = .ok (.invokevirtual 181, 3) := by decide +kernel
theorem d_M_publish_133 : decode b_M_publish 133 = .ok (.ifCond .eq 7, 3) := by decide +kernel
theorem d_M_publish_136 : decode b_M_publish 136 = .ok (.iconst 1, 1) := by decide +kernel
theorem d_M_publish_137 : decode b_M_publish 137 = .ok (.goto 4, 3) := by decide +kernel
theorem d_M_publish_140 : decode b_M_publish 140 = .ok (.iconst 0, 1) := by decide +kernel
theorem d_M_publish_141 : decode b_M_publish 141 = .ok (.invokevirtual 185, 3) := by decide +kernel
theorem d_M_publish_144 : decode b_M_publish 144 = .ok (.ifCond .eq 7, 3) := by decide +kernel
theorem d_M_publish_147 : decode b_M_publish 147 = .ok (.iconst 0, 1) := by decide +kernel
theorem d_M_publish_148 : decode b_M_publish 148 = .ok (.goto 11, 3) := by decide +kernel
theorem d_M_publish_151 : decode b_M_publish 151 = .ok (.aload_n 0, 1) := by decide +kernel
theorem d_M_publish_152 : decode b_M_publish 152 = .ok (.iconst 0, 1) := by decide +kernel
theorem d_M_publish_153 : decode b_M_publish 153 = .ok (.iload_n 1, 1) := by decide +kernel
theorem d_M_publish_154 : decode b_M_publish 154 = .ok (.iload_n 2, 1) := by decide +kernel
theorem d_M_publish_155 : decode b_M_publish 155 = .ok (.iload_n 3, 1) := by decide +kernel
theorem d_M_publish_156 : decode b_M_publish 156 = .ok (.invokevirtual 189, 3) := by decide +kernel
theorem d_M_publish_159 : decode b_M_publish 159 = .ok (.ireturn, 1) := by decide +kernel

abbrev b_M_yank : ByteArray := prog_9_method_23_code
def y_M_yank : MethodName := ⟨"RegistryLogModel", "yank", "(IIZ)I"⟩
theorem d_M_yank_0 : decode b_M_yank 0 = .ok (.aload_n 0, 1) := by decide +kernel
theorem d_M_yank_1 : decode b_M_yank 1 = .ok (.iconst 0, 1) := by decide +kernel
theorem d_M_yank_2 : decode b_M_yank 2 = .ok (.invokevirtual 161, 3) := by decide +kernel
theorem d_M_yank_5 : decode b_M_yank 5 = .ok (.ifCond .eq 17, 3) := by decide +kernel
theorem d_M_yank_8 : decode b_M_yank 8 = .ok (.iload_n 1, 1) := by decide +kernel
theorem d_M_yank_9 : decode b_M_yank 9 = .ok (.invokestatic 165, 3) := by decide +kernel
theorem d_M_yank_12 : decode b_M_yank 12 = .ok (.ifCond .eq 10, 3) := by decide +kernel
theorem d_M_yank_15 : decode b_M_yank 15 = .ok (.iload_n 2, 1) := by decide +kernel
theorem d_M_yank_16 : decode b_M_yank 16 = .ok (.invokestatic 168, 3) := by decide +kernel
theorem d_M_yank_19 : decode b_M_yank 19 = .ok (.ifCond .ne 7, 3) := by decide +kernel
theorem d_M_yank_22 : decode b_M_yank 22 = .ok (.iconst 1, 1) := by decide +kernel
theorem d_M_yank_23 : decode b_M_yank 23 = .ok (.goto 4, 3) := by decide +kernel
theorem d_M_yank_26 : decode b_M_yank 26 = .ok (.iconst 0, 1) := by decide +kernel
theorem d_M_yank_27 : decode b_M_yank 27 = .ok (.istore 4, 2) := by decide +kernel
theorem d_M_yank_29 : decode b_M_yank 29 = .ok (.aload_n 0, 1) := by decide +kernel
theorem d_M_yank_30 : decode b_M_yank 30 = .ok (.iconst 4, 1) := by decide +kernel
theorem d_M_yank_31 : decode b_M_yank 31 = .ok (.invokevirtual 171, 3) := by decide +kernel
theorem d_M_yank_34 : decode b_M_yank 34 = .ok (.iload 4, 2) := by decide +kernel
theorem d_M_yank_36 : decode b_M_yank 36 = .ok (.ifCond .eq 7, 3) := by decide +kernel
theorem d_M_yank_39 : decode b_M_yank 39 = .ok (.iconst (-1), 1) := by decide +kernel
theorem d_M_yank_40 : decode b_M_yank 40 = .ok (.goto 16, 3) := by decide +kernel
theorem d_M_yank_43 : decode b_M_yank 43 = .ok (.aload_n 0, 1) := by decide +kernel
theorem d_M_yank_44 : decode b_M_yank 44 = .ok (.aload_n 0, 1) := by decide +kernel
theorem d_M_yank_45 : decode b_M_yank 45 = .ok (.getfield 80, 3) := by decide +kernel
theorem d_M_yank_48 : decode b_M_yank 48 = .ok (.iconst 0, 1) := by decide +kernel
theorem d_M_yank_49 : decode b_M_yank 49 = .ok (.aload_n 0, 1) := by decide +kernel
theorem d_M_yank_50 : decode b_M_yank 50 = .ok (.getfield 123, 3) := by decide +kernel
theorem d_M_yank_53 : decode b_M_yank 53 = .ok (.invokevirtual 142, 3) := by decide +kernel
theorem d_M_yank_56 : decode b_M_yank 56 = .ok (.istore 5, 2) := by decide +kernel
theorem d_M_yank_58 : decode b_M_yank 58 = .ok (.iload 5, 2) := by decide +kernel
theorem d_M_yank_60 : decode b_M_yank 60 = .ok (.iconst (-1), 1) := by decide +kernel
theorem d_M_yank_61 : decode b_M_yank 61 = .ok (.if_icmp .ne 7, 3) := by decide +kernel
theorem d_M_yank_64 : decode b_M_yank 64 = .ok (.iconst (-1), 1) := by decide +kernel
theorem d_M_yank_65 : decode b_M_yank 65 = .ok (.goto 15, 3) := by decide +kernel
theorem d_M_yank_68 : decode b_M_yank 68 = .ok (.aload_n 0, 1) := by decide +kernel
theorem d_M_yank_69 : decode b_M_yank 69 = .ok (.aload_n 0, 1) := by decide +kernel
theorem d_M_yank_70 : decode b_M_yank 70 = .ok (.getfield 59, 3) := by decide +kernel
theorem d_M_yank_73 : decode b_M_yank 73 = .ok (.iload 5, 2) := by decide +kernel
theorem d_M_yank_75 : decode b_M_yank 75 = .ok (.iaload, 1) := by decide +kernel
theorem d_M_yank_76 : decode b_M_yank 76 = .ok (.iload_n 2, 1) := by decide +kernel
theorem d_M_yank_77 : decode b_M_yank 77 = .ok (.invokevirtual 150, 3) := by decide +kernel
theorem d_M_yank_80 : decode b_M_yank 80 = .ok (.istore 6, 2) := by decide +kernel
theorem d_M_yank_82 : decode b_M_yank 82 = .ok (.iload 4, 2) := by decide +kernel
theorem d_M_yank_84 : decode b_M_yank 84 = .ok (.ifCond .ne 43, 3) := by decide +kernel
theorem d_M_yank_87 : decode b_M_yank 87 = .ok (.aload_n 0, 1) := by decide +kernel
theorem d_M_yank_88 : decode b_M_yank 88 = .ok (.iload 5, 2) := by decide +kernel
theorem d_M_yank_90 : decode b_M_yank 90 = .ok (.iload_n 1, 1) := by decide +kernel
theorem d_M_yank_91 : decode b_M_yank 91 = .ok (.invokevirtual 178, 3) := by decide +kernel
theorem d_M_yank_94 : decode b_M_yank 94 = .ok (.ifCond .eq 33, 3) := by decide +kernel
theorem d_M_yank_97 : decode b_M_yank 97 = .ok (.iload 6, 2) := by decide +kernel
theorem d_M_yank_99 : decode b_M_yank 99 = .ok (.iconst (-1), 1) := by decide +kernel
theorem d_M_yank_100 : decode b_M_yank 100 = .ok (.if_icmp .eq 27, 3) := by decide +kernel
theorem d_M_yank_103 : decode b_M_yank 103 = .ok (.aload_n 0, 1) := by decide +kernel
theorem d_M_yank_104 : decode b_M_yank 104 = .ok (.getfield 77, 3) := by decide +kernel
theorem d_M_yank_107 : decode b_M_yank 107 = .ok (.iload 6, 2) := by decide +kernel
theorem d_M_yank_109 : decode b_M_yank 109 = .ok (.iaload, 1) := by decide +kernel
theorem d_M_yank_110 : decode b_M_yank 110 = .ok (.iconst 1, 1) := by decide +kernel
theorem d_M_yank_111 : decode b_M_yank 111 = .ok (.if_icmp .ne 7, 3) := by decide +kernel
theorem d_M_yank_114 : decode b_M_yank 114 = .ok (.iconst 1, 1) := by decide +kernel
theorem d_M_yank_115 : decode b_M_yank 115 = .ok (.goto 4, 3) := by decide +kernel
theorem d_M_yank_118 : decode b_M_yank 118 = .ok (.iconst 0, 1) := by decide +kernel
theorem d_M_yank_119 : decode b_M_yank 119 = .ok (.iload_n 3, 1) := by decide +kernel
theorem d_M_yank_120 : decode b_M_yank 120 = .ok (.if_icmp .eq 7, 3) := by decide +kernel
theorem d_M_yank_123 : decode b_M_yank 123 = .ok (.iconst 1, 1) := by decide +kernel
theorem d_M_yank_124 : decode b_M_yank 124 = .ok (.goto 4, 3) := by decide +kernel
theorem d_M_yank_127 : decode b_M_yank 127 = .ok (.iconst 0, 1) := by decide +kernel
theorem d_M_yank_128 : decode b_M_yank 128 = .ok (.istore 7, 2) := by decide +kernel
theorem d_M_yank_130 : decode b_M_yank 130 = .ok (.aload_n 0, 1) := by decide +kernel
theorem d_M_yank_131 : decode b_M_yank 131 = .ok (.iload 4, 2) := by decide +kernel
theorem d_M_yank_133 : decode b_M_yank 133 = .ok (.iload 7, 2) := by decide +kernel
theorem d_M_yank_135 : decode b_M_yank 135 = .ok (.ifCond .eq 10, 3) := by decide +kernel
theorem d_M_yank_138 : decode b_M_yank 138 = .ok (.aload_n 0, 1) := by decide +kernel
theorem d_M_yank_139 : decode b_M_yank 139 = .ok (.invokevirtual 181, 3) := by decide +kernel
theorem d_M_yank_142 : decode b_M_yank 142 = .ok (.ifCond .eq 7, 3) := by decide +kernel
theorem d_M_yank_145 : decode b_M_yank 145 = .ok (.iconst 1, 1) := by decide +kernel
theorem d_M_yank_146 : decode b_M_yank 146 = .ok (.goto 4, 3) := by decide +kernel
theorem d_M_yank_149 : decode b_M_yank 149 = .ok (.iconst 0, 1) := by decide +kernel
theorem d_M_yank_150 : decode b_M_yank 150 = .ok (.invokevirtual 185, 3) := by decide +kernel
theorem d_M_yank_153 : decode b_M_yank 153 = .ok (.ifCond .eq 7, 3) := by decide +kernel
theorem d_M_yank_156 : decode b_M_yank 156 = .ok (.iconst 0, 1) := by decide +kernel
theorem d_M_yank_157 : decode b_M_yank 157 = .ok (.goto 19, 3) := by decide +kernel
theorem d_M_yank_160 : decode b_M_yank 160 = .ok (.aload_n 0, 1) := by decide +kernel
theorem d_M_yank_161 : decode b_M_yank 161 = .ok (.iconst 1, 1) := by decide +kernel
theorem d_M_yank_162 : decode b_M_yank 162 = .ok (.iload_n 1, 1) := by decide +kernel
theorem d_M_yank_163 : decode b_M_yank 163 = .ok (.iload_n 2, 1) := by decide +kernel
theorem d_M_yank_164 : decode b_M_yank 164 = .ok (.iload_n 3, 1) := by decide +kernel
theorem d_M_yank_165 : decode b_M_yank 165 = .ok (.ifCond .eq 7, 3) := by decide +kernel
theorem d_M_yank_168 : decode b_M_yank 168 = .ok (.iconst 1, 1) := by decide +kernel
theorem d_M_yank_169 : decode b_M_yank 169 = .ok (.goto 4, 3) := by decide +kernel
theorem d_M_yank_172 : decode b_M_yank 172 = .ok (.iconst 0, 1) := by decide +kernel
theorem d_M_yank_173 : decode b_M_yank 173 = .ok (.invokevirtual 189, 3) := by decide +kernel
theorem d_M_yank_176 : decode b_M_yank 176 = .ok (.ireturn, 1) := by decide +kernel

abbrev b_M_grant : ByteArray := prog_9_method_24_code
def y_M_grant : MethodName := ⟨"RegistryLogModel", "grant", "(IIZ)I"⟩
theorem d_M_grant_0 : decode b_M_grant 0 = .ok (.aload_n 0, 1) := by decide +kernel
theorem d_M_grant_1 : decode b_M_grant 1 = .ok (.iconst 0, 1) := by decide +kernel
theorem d_M_grant_2 : decode b_M_grant 2 = .ok (.invokevirtual 161, 3) := by decide +kernel
theorem d_M_grant_5 : decode b_M_grant 5 = .ok (.ifCond .eq 17, 3) := by decide +kernel
theorem d_M_grant_8 : decode b_M_grant 8 = .ok (.iload_n 1, 1) := by decide +kernel
theorem d_M_grant_9 : decode b_M_grant 9 = .ok (.invokestatic 165, 3) := by decide +kernel
theorem d_M_grant_12 : decode b_M_grant 12 = .ok (.ifCond .eq 10, 3) := by decide +kernel
theorem d_M_grant_15 : decode b_M_grant 15 = .ok (.iload_n 2, 1) := by decide +kernel
theorem d_M_grant_16 : decode b_M_grant 16 = .ok (.invokestatic 165, 3) := by decide +kernel
theorem d_M_grant_19 : decode b_M_grant 19 = .ok (.ifCond .ne 7, 3) := by decide +kernel
theorem d_M_grant_22 : decode b_M_grant 22 = .ok (.iconst 1, 1) := by decide +kernel
theorem d_M_grant_23 : decode b_M_grant 23 = .ok (.goto 4, 3) := by decide +kernel
theorem d_M_grant_26 : decode b_M_grant 26 = .ok (.iconst 0, 1) := by decide +kernel
theorem d_M_grant_27 : decode b_M_grant 27 = .ok (.istore 4, 2) := by decide +kernel
theorem d_M_grant_29 : decode b_M_grant 29 = .ok (.aload_n 0, 1) := by decide +kernel
theorem d_M_grant_30 : decode b_M_grant 30 = .ok (.iconst 4, 1) := by decide +kernel
theorem d_M_grant_31 : decode b_M_grant 31 = .ok (.invokevirtual 171, 3) := by decide +kernel
theorem d_M_grant_34 : decode b_M_grant 34 = .ok (.iload 4, 2) := by decide +kernel
theorem d_M_grant_36 : decode b_M_grant 36 = .ok (.ifCond .eq 7, 3) := by decide +kernel
theorem d_M_grant_39 : decode b_M_grant 39 = .ok (.iconst (-1), 1) := by decide +kernel
theorem d_M_grant_40 : decode b_M_grant 40 = .ok (.goto 16, 3) := by decide +kernel
theorem d_M_grant_43 : decode b_M_grant 43 = .ok (.aload_n 0, 1) := by decide +kernel
theorem d_M_grant_44 : decode b_M_grant 44 = .ok (.aload_n 0, 1) := by decide +kernel
theorem d_M_grant_45 : decode b_M_grant 45 = .ok (.getfield 80, 3) := by decide +kernel
theorem d_M_grant_48 : decode b_M_grant 48 = .ok (.iconst 0, 1) := by decide +kernel
theorem d_M_grant_49 : decode b_M_grant 49 = .ok (.aload_n 0, 1) := by decide +kernel
theorem d_M_grant_50 : decode b_M_grant 50 = .ok (.getfield 123, 3) := by decide +kernel
theorem d_M_grant_53 : decode b_M_grant 53 = .ok (.invokevirtual 142, 3) := by decide +kernel
theorem d_M_grant_56 : decode b_M_grant 56 = .ok (.istore 5, 2) := by decide +kernel
theorem d_M_grant_58 : decode b_M_grant 58 = .ok (.iload 4, 2) := by decide +kernel
theorem d_M_grant_60 : decode b_M_grant 60 = .ok (.ifCond .ne 33, 3) := by decide +kernel
theorem d_M_grant_63 : decode b_M_grant 63 = .ok (.aload_n 0, 1) := by decide +kernel
theorem d_M_grant_64 : decode b_M_grant 64 = .ok (.iload 5, 2) := by decide +kernel
theorem d_M_grant_66 : decode b_M_grant 66 = .ok (.iload_n 1, 1) := by decide +kernel
theorem d_M_grant_67 : decode b_M_grant 67 = .ok (.invokevirtual 193, 3) := by decide +kernel
theorem d_M_grant_70 : decode b_M_grant 70 = .ok (.ifCond .eq 23, 3) := by decide +kernel
theorem d_M_grant_73 : decode b_M_grant 73 = .ok (.iload_n 2, 1) := by decide +kernel
theorem d_M_grant_74 : decode b_M_grant 74 = .ok (.iload_n 1, 1) := by decide +kernel
theorem d_M_grant_75 : decode b_M_grant 75 = .ok (.if_icmp .eq 18, 3) := by decide +kernel
theorem d_M_grant_78 : decode b_M_grant 78 = .ok (.aload_n 0, 1) := by decide +kernel
theorem d_M_grant_79 : decode b_M_grant 79 = .ok (.iload 5, 2) := by decide +kernel
theorem d_M_grant_81 : decode b_M_grant 81 = .ok (.iload_n 2, 1) := by decide +kernel
theorem d_M_grant_82 : decode b_M_grant 82 = .ok (.invokevirtual 178, 3) := by decide +kernel
theorem d_M_grant_85 : decode b_M_grant 85 = .ok (.iload_n 3, 1) := by decide +kernel
theorem d_M_grant_86 : decode b_M_grant 86 = .ok (.if_icmp .eq 7, 3) := by decide +kernel
theorem d_M_grant_89 : decode b_M_grant 89 = .ok (.iconst 1, 1) := by decide +kernel
theorem d_M_grant_90 : decode b_M_grant 90 = .ok (.goto 4, 3) := by decide +kernel
theorem d_M_grant_93 : decode b_M_grant 93 = .ok (.iconst 0, 1) := by decide +kernel
theorem d_M_grant_94 : decode b_M_grant 94 = .ok (.istore 6, 2) := by decide +kernel
theorem d_M_grant_96 : decode b_M_grant 96 = .ok (.aload_n 0, 1) := by decide +kernel
theorem d_M_grant_97 : decode b_M_grant 97 = .ok (.iload 4, 2) := by decide +kernel
theorem d_M_grant_99 : decode b_M_grant 99 = .ok (.iload 6, 2) := by decide +kernel
theorem d_M_grant_101 : decode b_M_grant 101 = .ok (.ifCond .eq 10, 3) := by decide +kernel
theorem d_M_grant_104 : decode b_M_grant 104 = .ok (.aload_n 0, 1) := by decide +kernel
theorem d_M_grant_105 : decode b_M_grant 105 = .ok (.invokevirtual 181, 3) := by decide +kernel
theorem d_M_grant_108 : decode b_M_grant 108 = .ok (.ifCond .eq 7, 3) := by decide +kernel
theorem d_M_grant_111 : decode b_M_grant 111 = .ok (.iconst 1, 1) := by decide +kernel
theorem d_M_grant_112 : decode b_M_grant 112 = .ok (.goto 4, 3) := by decide +kernel
theorem d_M_grant_115 : decode b_M_grant 115 = .ok (.iconst 0, 1) := by decide +kernel
theorem d_M_grant_116 : decode b_M_grant 116 = .ok (.invokevirtual 185, 3) := by decide +kernel
theorem d_M_grant_119 : decode b_M_grant 119 = .ok (.ifCond .eq 7, 3) := by decide +kernel
theorem d_M_grant_122 : decode b_M_grant 122 = .ok (.iconst 0, 1) := by decide +kernel
theorem d_M_grant_123 : decode b_M_grant 123 = .ok (.goto 19, 3) := by decide +kernel
theorem d_M_grant_126 : decode b_M_grant 126 = .ok (.aload_n 0, 1) := by decide +kernel
theorem d_M_grant_127 : decode b_M_grant 127 = .ok (.iconst 2, 1) := by decide +kernel
theorem d_M_grant_128 : decode b_M_grant 128 = .ok (.iload_n 1, 1) := by decide +kernel
theorem d_M_grant_129 : decode b_M_grant 129 = .ok (.iload_n 2, 1) := by decide +kernel
theorem d_M_grant_130 : decode b_M_grant 130 = .ok (.iload_n 3, 1) := by decide +kernel
theorem d_M_grant_131 : decode b_M_grant 131 = .ok (.ifCond .eq 7, 3) := by decide +kernel
theorem d_M_grant_134 : decode b_M_grant 134 = .ok (.iconst 1, 1) := by decide +kernel
theorem d_M_grant_135 : decode b_M_grant 135 = .ok (.goto 4, 3) := by decide +kernel
theorem d_M_grant_138 : decode b_M_grant 138 = .ok (.iconst 0, 1) := by decide +kernel
theorem d_M_grant_139 : decode b_M_grant 139 = .ok (.invokevirtual 189, 3) := by decide +kernel
theorem d_M_grant_142 : decode b_M_grant 142 = .ok (.ireturn, 1) := by decide +kernel

abbrev b_M_move : ByteArray := prog_9_method_25_code
def y_M_move : MethodName := ⟨"RegistryLogModel", "move", "(I)I"⟩
theorem d_M_move_0 : decode b_M_move 0 = .ok (.aload_n 0, 1) := by decide +kernel
theorem d_M_move_1 : decode b_M_move 1 = .ok (.iconst 1, 1) := by decide +kernel
theorem d_M_move_2 : decode b_M_move 2 = .ok (.invokevirtual 161, 3) := by decide +kernel
theorem d_M_move_5 : decode b_M_move 5 = .ok (.ifCond .eq 10, 3) := by decide +kernel
theorem d_M_move_8 : decode b_M_move 8 = .ok (.iload_n 1, 1) := by decide +kernel
theorem d_M_move_9 : decode b_M_move 9 = .ok (.invokestatic 165, 3) := by decide +kernel
theorem d_M_move_12 : decode b_M_move 12 = .ok (.ifCond .ne 7, 3) := by decide +kernel
theorem d_M_move_15 : decode b_M_move 15 = .ok (.iconst 1, 1) := by decide +kernel
theorem d_M_move_16 : decode b_M_move 16 = .ok (.goto 4, 3) := by decide +kernel
theorem d_M_move_19 : decode b_M_move 19 = .ok (.iconst 0, 1) := by decide +kernel
theorem d_M_move_20 : decode b_M_move 20 = .ok (.istore_n 2, 1) := by decide +kernel
theorem d_M_move_21 : decode b_M_move 21 = .ok (.aload_n 0, 1) := by decide +kernel
theorem d_M_move_22 : decode b_M_move 22 = .ok (.iconst 4, 1) := by decide +kernel
theorem d_M_move_23 : decode b_M_move 23 = .ok (.invokevirtual 171, 3) := by decide +kernel
theorem d_M_move_26 : decode b_M_move 26 = .ok (.iload_n 2, 1) := by decide +kernel
theorem d_M_move_27 : decode b_M_move 27 = .ok (.ifCond .eq 7, 3) := by decide +kernel
theorem d_M_move_30 : decode b_M_move 30 = .ok (.iconst (-1), 1) := by decide +kernel
theorem d_M_move_31 : decode b_M_move 31 = .ok (.goto 16, 3) := by decide +kernel
theorem d_M_move_34 : decode b_M_move 34 = .ok (.aload_n 0, 1) := by decide +kernel
theorem d_M_move_35 : decode b_M_move 35 = .ok (.aload_n 0, 1) := by decide +kernel
theorem d_M_move_36 : decode b_M_move 36 = .ok (.getfield 80, 3) := by decide +kernel
theorem d_M_move_39 : decode b_M_move 39 = .ok (.iconst 0, 1) := by decide +kernel
theorem d_M_move_40 : decode b_M_move 40 = .ok (.aload_n 0, 1) := by decide +kernel
theorem d_M_move_41 : decode b_M_move 41 = .ok (.getfield 123, 3) := by decide +kernel
theorem d_M_move_44 : decode b_M_move 44 = .ok (.invokevirtual 142, 3) := by decide +kernel
theorem d_M_move_47 : decode b_M_move 47 = .ok (.istore_n 3, 1) := by decide +kernel
theorem d_M_move_48 : decode b_M_move 48 = .ok (.iload_n 2, 1) := by decide +kernel
theorem d_M_move_49 : decode b_M_move 49 = .ok (.ifCond .ne 32, 3) := by decide +kernel
theorem d_M_move_52 : decode b_M_move 52 = .ok (.aload_n 0, 1) := by decide +kernel
theorem d_M_move_53 : decode b_M_move 53 = .ok (.iload_n 3, 1) := by decide +kernel
theorem d_M_move_54 : decode b_M_move 54 = .ok (.iload_n 1, 1) := by decide +kernel
theorem d_M_move_55 : decode b_M_move 55 = .ok (.invokevirtual 193, 3) := by decide +kernel
theorem d_M_move_58 : decode b_M_move 58 = .ok (.ifCond .eq 23, 3) := by decide +kernel
theorem d_M_move_61 : decode b_M_move 61 = .ok (.aload_n 0, 1) := by decide +kernel
theorem d_M_move_62 : decode b_M_move 62 = .ok (.aload_n 0, 1) := by decide +kernel
theorem d_M_move_63 : decode b_M_move 63 = .ok (.getfield 83, 3) := by decide +kernel
theorem d_M_move_66 : decode b_M_move 66 = .ok (.aload_n 0, 1) := by decide +kernel
theorem d_M_move_67 : decode b_M_move 67 = .ok (.getfield 126, 3) := by decide +kernel
theorem d_M_move_70 : decode b_M_move 70 = .ok (.iload_n 3, 1) := by decide +kernel
theorem d_M_move_71 : decode b_M_move 71 = .ok (.invokevirtual 175, 3) := by decide +kernel
theorem d_M_move_74 : decode b_M_move 74 = .ok (.ifCond .eq 7, 3) := by decide +kernel
theorem d_M_move_77 : decode b_M_move 77 = .ok (.iconst 1, 1) := by decide +kernel
theorem d_M_move_78 : decode b_M_move 78 = .ok (.goto 4, 3) := by decide +kernel
theorem d_M_move_81 : decode b_M_move 81 = .ok (.iconst 0, 1) := by decide +kernel
theorem d_M_move_82 : decode b_M_move 82 = .ok (.istore 4, 2) := by decide +kernel
theorem d_M_move_84 : decode b_M_move 84 = .ok (.aload_n 0, 1) := by decide +kernel
theorem d_M_move_85 : decode b_M_move 85 = .ok (.iload_n 2, 1) := by decide +kernel
theorem d_M_move_86 : decode b_M_move 86 = .ok (.iload 4, 2) := by decide +kernel
theorem d_M_move_88 : decode b_M_move 88 = .ok (.ifCond .eq 10, 3) := by decide +kernel
theorem d_M_move_91 : decode b_M_move 91 = .ok (.aload_n 0, 1) := by decide +kernel
theorem d_M_move_92 : decode b_M_move 92 = .ok (.invokevirtual 181, 3) := by decide +kernel
theorem d_M_move_95 : decode b_M_move 95 = .ok (.ifCond .eq 7, 3) := by decide +kernel
theorem d_M_move_98 : decode b_M_move 98 = .ok (.iconst 1, 1) := by decide +kernel
theorem d_M_move_99 : decode b_M_move 99 = .ok (.goto 4, 3) := by decide +kernel
theorem d_M_move_102 : decode b_M_move 102 = .ok (.iconst 0, 1) := by decide +kernel
theorem d_M_move_103 : decode b_M_move 103 = .ok (.invokevirtual 185, 3) := by decide +kernel
theorem d_M_move_106 : decode b_M_move 106 = .ok (.ifCond .eq 7, 3) := by decide +kernel
theorem d_M_move_109 : decode b_M_move 109 = .ok (.iconst 0, 1) := by decide +kernel
theorem d_M_move_110 : decode b_M_move 110 = .ok (.goto 11, 3) := by decide +kernel
theorem d_M_move_113 : decode b_M_move 113 = .ok (.aload_n 0, 1) := by decide +kernel
theorem d_M_move_114 : decode b_M_move 114 = .ok (.iconst 3, 1) := by decide +kernel
theorem d_M_move_115 : decode b_M_move 115 = .ok (.iload_n 1, 1) := by decide +kernel
theorem d_M_move_116 : decode b_M_move 116 = .ok (.iconst (-1), 1) := by decide +kernel
theorem d_M_move_117 : decode b_M_move 117 = .ok (.iconst 0, 1) := by decide +kernel
theorem d_M_move_118 : decode b_M_move 118 = .ok (.invokevirtual 189, 3) := by decide +kernel
theorem d_M_move_121 : decode b_M_move 121 = .ok (.ireturn, 1) := by decide +kernel

abbrev b_M_rows : ByteArray := prog_9_method_26_code
def y_M_rows : MethodName := ⟨"RegistryLogModel", "rows", "()I"⟩
theorem d_M_rows_0 : decode b_M_rows 0 = .ok (.aload_n 0, 1) := by decide +kernel
theorem d_M_rows_1 : decode b_M_rows 1 = .ok (.iconst 0, 1) := by decide +kernel
theorem d_M_rows_2 : decode b_M_rows 2 = .ok (.putfield 108, 3) := by decide +kernel
theorem d_M_rows_5 : decode b_M_rows 5 = .ok (.aload_n 0, 1) := by decide +kernel
theorem d_M_rows_6 : decode b_M_rows 6 = .ok (.getfield 40, 3) := by decide +kernel
theorem d_M_rows_9 : decode b_M_rows 9 = .ok (.iconst 4, 1) := by decide +kernel
theorem d_M_rows_10 : decode b_M_rows 10 = .ok (.iaload, 1) := by decide +kernel
theorem d_M_rows_11 : decode b_M_rows 11 = .ok (.ireturn, 1) := by decide +kernel

abbrev b_M_isRow : ByteArray := prog_9_method_27_code
def y_M_isRow : MethodName := ⟨"RegistryLogModel", "isRow", "(I)Z"⟩
theorem d_M_isRow_0 : decode b_M_isRow 0 = .ok (.iload_n 1, 1) := by decide +kernel
theorem d_M_isRow_1 : decode b_M_isRow 1 = .ok (.ifCond .lt 17, 3) := by decide +kernel
theorem d_M_isRow_4 : decode b_M_isRow 4 = .ok (.iload_n 1, 1) := by decide +kernel
theorem d_M_isRow_5 : decode b_M_isRow 5 = .ok (.aload_n 0, 1) := by decide +kernel
theorem d_M_isRow_6 : decode b_M_isRow 6 = .ok (.getfield 40, 3) := by decide +kernel
theorem d_M_isRow_9 : decode b_M_isRow 9 = .ok (.iconst 4, 1) := by decide +kernel
theorem d_M_isRow_10 : decode b_M_isRow 10 = .ok (.iaload, 1) := by decide +kernel
theorem d_M_isRow_11 : decode b_M_isRow 11 = .ok (.if_icmp .ge 7, 3) := by decide +kernel
theorem d_M_isRow_14 : decode b_M_isRow 14 = .ok (.iconst 1, 1) := by decide +kernel
theorem d_M_isRow_15 : decode b_M_isRow 15 = .ok (.goto 4, 3) := by decide +kernel
theorem d_M_isRow_18 : decode b_M_isRow 18 = .ok (.iconst 0, 1) := by decide +kernel
theorem d_M_isRow_19 : decode b_M_isRow 19 = .ok (.ireturn, 1) := by decide +kernel
