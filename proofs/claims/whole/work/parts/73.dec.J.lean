abbrev b_B_init0 : ByteArray := prog_20_method_1_code
def y_B_init0 : MethodName := ⟨"java/lang/StringBuilder", "<init>", "()V"⟩
theorem d_B_init0_0 : decode b_B_init0 0 = .ok (.aload_n 0, 1) := by decide +kernel
theorem d_B_init0_1 : decode b_B_init0 1 = .ok (.bipush 16, 2) := by decide +kernel
theorem d_B_init0_3 : decode b_B_init0 3 = .ok (.invokespecial 1, 3) := by decide +kernel
theorem d_B_init0_6 : decode b_B_init0 6 = .ok (.return_, 1) := by decide +kernel

abbrev b_A_init1 : ByteArray := prog_10_method_2_code
def y_A_init1 : MethodName := ⟨"java/lang/AbstractStringBuilder", "<init>", "(I)V"⟩
theorem d_A_init1_0 : decode b_A_init1 0 = .ok (.aload_n 0, 1) := by decide +kernel
theorem d_A_init1_1 : decode b_A_init1 1 = .ok (.invokespecial 3, 3) := by decide +kernel
theorem d_A_init1_4 : decode b_A_init1 4 = .ok (.getstatic 18, 3) := by decide +kernel
theorem d_A_init1_7 : decode b_A_init1 7 = .ok (.ifCond .eq 18, 3) := by decide +kernel
theorem d_A_init1_10 : decode b_A_init1 10 = .ok (.aload_n 0, 1) := by decide +kernel
theorem d_A_init1_11 : decode b_A_init1 11 = .ok (.iload_n 1, 1) := by decide +kernel
theorem d_A_init1_12 : decode b_A_init1 12 = .ok (.newarray .byte, 2) := by decide +kernel
theorem d_A_init1_14 : decode b_A_init1 14 = .ok (.putfield 15, 3) := by decide +kernel
theorem d_A_init1_17 : decode b_A_init1 17 = .ok (.aload_n 0, 1) := by decide +kernel
theorem d_A_init1_18 : decode b_A_init1 18 = .ok (.iconst 0, 1) := by decide +kernel
theorem d_A_init1_19 : decode b_A_init1 19 = .ok (.putfield 22, 3) := by decide +kernel
theorem d_A_init1_22 : decode b_A_init1 22 = .ok (.goto 16, 3) := by decide +kernel
theorem d_A_init1_25 : decode b_A_init1 25 = .ok (.aload_n 0, 1) := by decide +kernel
theorem d_A_init1_26 : decode b_A_init1 26 = .ok (.iload_n 1, 1) := by decide +kernel
theorem d_A_init1_27 : decode b_A_init1 27 = .ok (.invokestatic 26, 3) := by decide +kernel
theorem d_A_init1_30 : decode b_A_init1 30 = .ok (.putfield 15, 3) := by decide +kernel
theorem d_A_init1_33 : decode b_A_init1 33 = .ok (.aload_n 0, 1) := by decide +kernel
theorem d_A_init1_34 : decode b_A_init1 34 = .ok (.iconst 1, 1) := by decide +kernel
theorem d_A_init1_35 : decode b_A_init1 35 = .ok (.putfield 22, 3) := by decide +kernel
theorem d_A_init1_38 : decode b_A_init1 38 = .ok (.return_, 1) := by decide +kernel

abbrev b_B_append2 : ByteArray := prog_20_method_14_code
def y_B_append2 : MethodName := ⟨"java/lang/StringBuilder", "append", "(C)Ljava/lang/StringBuilder;"⟩
theorem d_B_append2_0 : decode b_B_append2 0 = .ok (.aload_n 0, 1) := by decide +kernel
theorem d_B_append2_1 : decode b_B_append2 1 = .ok (.iload_n 1, 1) := by decide +kernel
theorem d_B_append2_2 : decode b_B_append2 2 = .ok (.invokespecial 50, 3) := by decide +kernel
theorem d_B_append2_5 : decode b_B_append2 5 = .ok (.pop, 1) := by decide +kernel
theorem d_B_append2_6 : decode b_B_append2 6 = .ok (.aload_n 0, 1) := by decide +kernel
theorem d_B_append2_7 : decode b_B_append2 7 = .ok (.areturn, 1) := by decide +kernel

abbrev b_A_append0 : ByteArray := prog_10_method_31_code
def y_A_append0 : MethodName := ⟨"java/lang/AbstractStringBuilder", "append", "(C)Ljava/lang/AbstractStringBuilder;"⟩
theorem d_A_append0_0 : decode b_A_append0 0 = .ok (.aload_n 0, 1) := by decide +kernel
theorem d_A_append0_1 : decode b_A_append0 1 = .ok (.aload_n 0, 1) := by decide +kernel
theorem d_A_append0_2 : decode b_A_append0 2 = .ok (.getfield 79, 3) := by decide +kernel
theorem d_A_append0_5 : decode b_A_append0 5 = .ok (.iconst 1, 1) := by decide +kernel
theorem d_A_append0_6 : decode b_A_append0 6 = .ok (.iadd, 1) := by decide +kernel
theorem d_A_append0_7 : decode b_A_append0 7 = .ok (.invokevirtual 100, 3) := by decide +kernel
theorem d_A_append0_10 : decode b_A_append0 10 = .ok (.aload_n 0, 1) := by decide +kernel
theorem d_A_append0_11 : decode b_A_append0 11 = .ok (.invokevirtual 83, 3) := by decide +kernel
theorem d_A_append0_14 : decode b_A_append0 14 = .ok (.ifCond .eq 31, 3) := by decide +kernel
theorem d_A_append0_17 : decode b_A_append0 17 = .ok (.iload_n 1, 1) := by decide +kernel
theorem d_A_append0_18 : decode b_A_append0 18 = .ok (.invokestatic 191, 3) := by decide +kernel
theorem d_A_append0_21 : decode b_A_append0 21 = .ok (.ifCond .eq 24, 3) := by decide +kernel
theorem d_A_append0_24 : decode b_A_append0 24 = .ok (.aload_n 0, 1) := by decide +kernel
theorem d_A_append0_25 : decode b_A_append0 25 = .ok (.getfield 15, 3) := by decide +kernel
theorem d_A_append0_28 : decode b_A_append0 28 = .ok (.aload_n 0, 1) := by decide +kernel
theorem d_A_append0_29 : decode b_A_append0 29 = .ok (.dup, 1) := by decide +kernel
theorem d_A_append0_30 : decode b_A_append0 30 = .ok (.getfield 79, 3) := by decide +kernel
theorem d_A_append0_33 : decode b_A_append0 33 = .ok (.dup_x1, 1) := by decide +kernel
theorem d_A_append0_34 : decode b_A_append0 34 = .ok (.iconst 1, 1) := by decide +kernel
theorem d_A_append0_35 : decode b_A_append0 35 = .ok (.iadd, 1) := by decide +kernel
theorem d_A_append0_36 : decode b_A_append0 36 = .ok (.putfield 79, 3) := by decide +kernel
theorem d_A_append0_39 : decode b_A_append0 39 = .ok (.iload_n 1, 1) := by decide +kernel
theorem d_A_append0_40 : decode b_A_append0 40 = .ok (.i2b, 1) := by decide +kernel
theorem d_A_append0_41 : decode b_A_append0 41 = .ok (.bastore, 1) := by decide +kernel
theorem d_A_append0_42 : decode b_A_append0 42 = .ok (.goto 33, 3) := by decide +kernel
theorem d_A_append0_45 : decode b_A_append0 45 = .ok (.aload_n 0, 1) := by decide +kernel
theorem d_A_append0_46 : decode b_A_append0 46 = .ok (.invokevirtual 83, 3) := by decide +kernel
theorem d_A_append0_49 : decode b_A_append0 49 = .ok (.ifCond .eq 7, 3) := by decide +kernel
theorem d_A_append0_52 : decode b_A_append0 52 = .ok (.aload_n 0, 1) := by decide +kernel
theorem d_A_append0_53 : decode b_A_append0 53 = .ok (.invokevirtual 195, 3) := by decide +kernel
theorem d_A_append0_56 : decode b_A_append0 56 = .ok (.aload_n 0, 1) := by decide +kernel
theorem d_A_append0_57 : decode b_A_append0 57 = .ok (.getfield 15, 3) := by decide +kernel
theorem d_A_append0_60 : decode b_A_append0 60 = .ok (.aload_n 0, 1) := by decide +kernel
theorem d_A_append0_61 : decode b_A_append0 61 = .ok (.dup, 1) := by decide +kernel
theorem d_A_append0_62 : decode b_A_append0 62 = .ok (.getfield 79, 3) := by decide +kernel
theorem d_A_append0_65 : decode b_A_append0 65 = .ok (.dup_x1, 1) := by decide +kernel
theorem d_A_append0_66 : decode b_A_append0 66 = .ok (.iconst 1, 1) := by decide +kernel
theorem d_A_append0_67 : decode b_A_append0 67 = .ok (.iadd, 1) := by decide +kernel
theorem d_A_append0_68 : decode b_A_append0 68 = .ok (.putfield 79, 3) := by decide +kernel
theorem d_A_append0_71 : decode b_A_append0 71 = .ok (.iload_n 1, 1) := by decide +kernel
theorem d_A_append0_72 : decode b_A_append0 72 = .ok (.invokestatic 197, 3) := by decide +kernel
theorem d_A_append0_75 : decode b_A_append0 75 = .ok (.aload_n 0, 1) := by decide +kernel
theorem d_A_append0_76 : decode b_A_append0 76 = .ok (.areturn, 1) := by decide +kernel

abbrev b_A_ensureCapacityInternal : ByteArray := prog_10_method_9_code
def y_A_ensureCapacityInternal : MethodName := ⟨"java/lang/AbstractStringBuilder", "ensureCapacityInternal", "(I)V"⟩
theorem d_A_ensureCapacityInternal_0 : decode b_A_ensureCapacityInternal 0 = .ok (.aload_n 0, 1) := by decide +kernel
theorem d_A_ensureCapacityInternal_1 : decode b_A_ensureCapacityInternal 1 = .ok (.getfield 15, 3) := by decide +kernel
theorem d_A_ensureCapacityInternal_4 : decode b_A_ensureCapacityInternal 4 = .ok (.arraylength, 1) := by decide +kernel
theorem d_A_ensureCapacityInternal_5 : decode b_A_ensureCapacityInternal 5 = .ok (.aload_n 0, 1) := by decide +kernel
theorem d_A_ensureCapacityInternal_6 : decode b_A_ensureCapacityInternal 6 = .ok (.getfield 22, 3) := by decide +kernel
theorem d_A_ensureCapacityInternal_9 : decode b_A_ensureCapacityInternal 9 = .ok (.ishr, 1) := by decide +kernel
theorem d_A_ensureCapacityInternal_10 : decode b_A_ensureCapacityInternal 10 = .ok (.istore_n 2, 1) := by decide +kernel
theorem d_A_ensureCapacityInternal_11 : decode b_A_ensureCapacityInternal 11 = .ok (.iload_n 1, 1) := by decide +kernel
theorem d_A_ensureCapacityInternal_12 : decode b_A_ensureCapacityInternal 12 = .ok (.iload_n 2, 1) := by decide +kernel
theorem d_A_ensureCapacityInternal_13 : decode b_A_ensureCapacityInternal 13 = .ok (.isub, 1) := by decide +kernel
theorem d_A_ensureCapacityInternal_14 : decode b_A_ensureCapacityInternal 14 = .ok (.ifCond .le 24, 3) := by decide +kernel
theorem d_A_ensureCapacityInternal_17 : decode b_A_ensureCapacityInternal 17 = .ok (.aload_n 0, 1) := by decide +kernel
theorem d_A_ensureCapacityInternal_18 : decode b_A_ensureCapacityInternal 18 = .ok (.aload_n 0, 1) := by decide +kernel
theorem d_A_ensureCapacityInternal_19 : decode b_A_ensureCapacityInternal 19 = .ok (.getfield 15, 3) := by decide +kernel
theorem d_A_ensureCapacityInternal_22 : decode b_A_ensureCapacityInternal 22 = .ok (.aload_n 0, 1) := by decide +kernel
theorem d_A_ensureCapacityInternal_23 : decode b_A_ensureCapacityInternal 23 = .ok (.iload_n 1, 1) := by decide +kernel
theorem d_A_ensureCapacityInternal_24 : decode b_A_ensureCapacityInternal 24 = .ok (.invokevirtual 104, 3) := by decide +kernel
theorem d_A_ensureCapacityInternal_27 : decode b_A_ensureCapacityInternal 27 = .ok (.aload_n 0, 1) := by decide +kernel
theorem d_A_ensureCapacityInternal_28 : decode b_A_ensureCapacityInternal 28 = .ok (.getfield 22, 3) := by decide +kernel
theorem d_A_ensureCapacityInternal_31 : decode b_A_ensureCapacityInternal 31 = .ok (.ishl, 1) := by decide +kernel
theorem d_A_ensureCapacityInternal_32 : decode b_A_ensureCapacityInternal 32 = .ok (.invokestatic 108, 3) := by decide +kernel
theorem d_A_ensureCapacityInternal_35 : decode b_A_ensureCapacityInternal 35 = .ok (.putfield 15, 3) := by decide +kernel
theorem d_A_ensureCapacityInternal_38 : decode b_A_ensureCapacityInternal 38 = .ok (.return_, 1) := by decide +kernel

abbrev b_A_newCapacity : ByteArray := prog_10_method_10_code
def y_A_newCapacity : MethodName := ⟨"java/lang/AbstractStringBuilder", "newCapacity", "(I)I"⟩
theorem d_A_newCapacity_0 : decode b_A_newCapacity 0 = .ok (.aload_n 0, 1) := by decide +kernel
theorem d_A_newCapacity_1 : decode b_A_newCapacity 1 = .ok (.getfield 15, 3) := by decide +kernel
theorem d_A_newCapacity_4 : decode b_A_newCapacity 4 = .ok (.arraylength, 1) := by decide +kernel
theorem d_A_newCapacity_5 : decode b_A_newCapacity 5 = .ok (.istore_n 2, 1) := by decide +kernel
theorem d_A_newCapacity_6 : decode b_A_newCapacity 6 = .ok (.iload_n 1, 1) := by decide +kernel
theorem d_A_newCapacity_7 : decode b_A_newCapacity 7 = .ok (.aload_n 0, 1) := by decide +kernel
theorem d_A_newCapacity_8 : decode b_A_newCapacity 8 = .ok (.getfield 22, 3) := by decide +kernel
theorem d_A_newCapacity_11 : decode b_A_newCapacity 11 = .ok (.ishl, 1) := by decide +kernel
theorem d_A_newCapacity_12 : decode b_A_newCapacity 12 = .ok (.istore_n 3, 1) := by decide +kernel
theorem d_A_newCapacity_13 : decode b_A_newCapacity 13 = .ok (.iload_n 3, 1) := by decide +kernel
theorem d_A_newCapacity_14 : decode b_A_newCapacity 14 = .ok (.iload_n 2, 1) := by decide +kernel
theorem d_A_newCapacity_15 : decode b_A_newCapacity 15 = .ok (.isub, 1) := by decide +kernel
theorem d_A_newCapacity_16 : decode b_A_newCapacity 16 = .ok (.istore 4, 2) := by decide +kernel
theorem d_A_newCapacity_18 : decode b_A_newCapacity 18 = .ok (.iload_n 2, 1) := by decide +kernel
theorem d_A_newCapacity_19 : decode b_A_newCapacity 19 = .ok (.iload 4, 2) := by decide +kernel
theorem d_A_newCapacity_21 : decode b_A_newCapacity 21 = .ok (.iload_n 2, 1) := by decide +kernel
theorem d_A_newCapacity_22 : decode b_A_newCapacity 22 = .ok (.iconst 2, 1) := by decide +kernel
theorem d_A_newCapacity_23 : decode b_A_newCapacity 23 = .ok (.aload_n 0, 1) := by decide +kernel
theorem d_A_newCapacity_24 : decode b_A_newCapacity 24 = .ok (.getfield 22, 3) := by decide +kernel
theorem d_A_newCapacity_27 : decode b_A_newCapacity 27 = .ok (.ishl, 1) := by decide +kernel
theorem d_A_newCapacity_28 : decode b_A_newCapacity 28 = .ok (.iadd, 1) := by decide +kernel
theorem d_A_newCapacity_29 : decode b_A_newCapacity 29 = .ok (.invokestatic 114, 3) := by decide +kernel
theorem d_A_newCapacity_32 : decode b_A_newCapacity 32 = .ok (.istore 5, 2) := by decide +kernel
theorem d_A_newCapacity_34 : decode b_A_newCapacity 34 = .ok (.iload 5, 2) := by decide +kernel
theorem d_A_newCapacity_36 : decode b_A_newCapacity 36 = .ok (.ldc 39, 2) := by decide +kernel
theorem d_A_newCapacity_38 : decode b_A_newCapacity 38 = .ok (.if_icmp .ne 13, 3) := by decide +kernel
theorem d_A_newCapacity_41 : decode b_A_newCapacity 41 = .ok (.new 120, 3) := by decide +kernel
theorem d_A_newCapacity_44 : decode b_A_newCapacity 44 = .ok (.dup, 1) := by decide +kernel
theorem d_A_newCapacity_45 : decode b_A_newCapacity 45 = .ok (.ldc 122, 2) := by decide +kernel
theorem d_A_newCapacity_47 : decode b_A_newCapacity 47 = .ok (.invokespecial 124, 3) := by decide +kernel
theorem d_A_newCapacity_50 : decode b_A_newCapacity 50 = .ok (.athrow, 1) := by decide +kernel
theorem d_A_newCapacity_51 : decode b_A_newCapacity 51 = .ok (.iload 5, 2) := by decide +kernel
theorem d_A_newCapacity_53 : decode b_A_newCapacity 53 = .ok (.aload_n 0, 1) := by decide +kernel
theorem d_A_newCapacity_54 : decode b_A_newCapacity 54 = .ok (.getfield 22, 3) := by decide +kernel
theorem d_A_newCapacity_57 : decode b_A_newCapacity 57 = .ok (.ishr, 1) := by decide +kernel
theorem d_A_newCapacity_58 : decode b_A_newCapacity 58 = .ok (.ireturn, 1) := by decide +kernel

abbrev b_V_newLength : ByteArray := prog_26_method_27_code
def y_V_newLength : MethodName := ⟨"jdk/internal/util/ArraysSupport", "newLength", "(III)I"⟩
theorem d_V_newLength_0 : decode b_V_newLength 0 = .ok (.iload_n 0, 1) := by decide +kernel
theorem d_V_newLength_1 : decode b_V_newLength 1 = .ok (.iload_n 1, 1) := by decide +kernel
theorem d_V_newLength_2 : decode b_V_newLength 2 = .ok (.iload_n 2, 1) := by decide +kernel
theorem d_V_newLength_3 : decode b_V_newLength 3 = .ok (.invokestatic 194, 3) := by decide +kernel
theorem d_V_newLength_6 : decode b_V_newLength 6 = .ok (.iadd, 1) := by decide +kernel
theorem d_V_newLength_7 : decode b_V_newLength 7 = .ok (.istore_n 3, 1) := by decide +kernel
theorem d_V_newLength_8 : decode b_V_newLength 8 = .ok (.iconst 0, 1) := by decide +kernel
theorem d_V_newLength_9 : decode b_V_newLength 9 = .ok (.iload_n 3, 1) := by decide +kernel
theorem d_V_newLength_10 : decode b_V_newLength 10 = .ok (.if_icmp .ge 11, 3) := by decide +kernel
theorem d_V_newLength_13 : decode b_V_newLength 13 = .ok (.iload_n 3, 1) := by decide +kernel
theorem d_V_newLength_14 : decode b_V_newLength 14 = .ok (.ldc 200, 2) := by decide +kernel
theorem d_V_newLength_16 : decode b_V_newLength 16 = .ok (.if_icmp .gt 5, 3) := by decide +kernel
theorem d_V_newLength_19 : decode b_V_newLength 19 = .ok (.iload_n 3, 1) := by decide +kernel
theorem d_V_newLength_20 : decode b_V_newLength 20 = .ok (.ireturn, 1) := by decide +kernel
theorem d_V_newLength_21 : decode b_V_newLength 21 = .ok (.iload_n 0, 1) := by decide +kernel
theorem d_V_newLength_22 : decode b_V_newLength 22 = .ok (.iload_n 1, 1) := by decide +kernel
theorem d_V_newLength_23 : decode b_V_newLength 23 = .ok (.invokestatic 201, 3) := by decide +kernel
theorem d_V_newLength_26 : decode b_V_newLength 26 = .ok (.ireturn, 1) := by decide +kernel

abbrev b_A_isLatin1 : ByteArray := prog_10_method_68_code
def y_A_isLatin1 : MethodName := ⟨"java/lang/AbstractStringBuilder", "isLatin1", "()Z"⟩
theorem d_A_isLatin1_0 : decode b_A_isLatin1 0 = .ok (.getstatic 18, 3) := by decide +kernel
theorem d_A_isLatin1_3 : decode b_A_isLatin1 3 = .ok (.ifCond .eq 14, 3) := by decide +kernel
theorem d_A_isLatin1_6 : decode b_A_isLatin1 6 = .ok (.aload_n 0, 1) := by decide +kernel
theorem d_A_isLatin1_7 : decode b_A_isLatin1 7 = .ok (.getfield 22, 3) := by decide +kernel
theorem d_A_isLatin1_10 : decode b_A_isLatin1 10 = .ok (.ifCond .ne 7, 3) := by decide +kernel
theorem d_A_isLatin1_13 : decode b_A_isLatin1 13 = .ok (.iconst 1, 1) := by decide +kernel
theorem d_A_isLatin1_14 : decode b_A_isLatin1 14 = .ok (.goto 4, 3) := by decide +kernel
theorem d_A_isLatin1_17 : decode b_A_isLatin1 17 = .ok (.iconst 0, 1) := by decide +kernel
theorem d_A_isLatin1_18 : decode b_A_isLatin1 18 = .ok (.ireturn, 1) := by decide +kernel

abbrev b_C_canEncode0 : ByteArray := prog_21_method_3_code
def y_C_canEncode0 : MethodName := ⟨"java/lang/StringLatin1", "canEncode", "(C)Z"⟩
theorem d_C_canEncode0_0 : decode b_C_canEncode0 0 = .ok (.iload_n 0, 1) := by decide +kernel
theorem d_C_canEncode0_1 : decode b_C_canEncode0 1 = .ok (.sipush 255, 3) := by decide +kernel
theorem d_C_canEncode0_4 : decode b_C_canEncode0 4 = .ok (.if_icmp .gt 7, 3) := by decide +kernel
theorem d_C_canEncode0_7 : decode b_C_canEncode0 7 = .ok (.iconst 1, 1) := by decide +kernel
theorem d_C_canEncode0_8 : decode b_C_canEncode0 8 = .ok (.goto 4, 3) := by decide +kernel
theorem d_C_canEncode0_11 : decode b_C_canEncode0 11 = .ok (.iconst 0, 1) := by decide +kernel
theorem d_C_canEncode0_12 : decode b_C_canEncode0 12 = .ok (.ireturn, 1) := by decide +kernel

abbrev b_Y_copyOf0 : ByteArray := prog_25_method_121_code
def y_Y_copyOf0 : MethodName := ⟨"java/util/Arrays", "copyOf", "([BI)[B"⟩
theorem d_Y_copyOf0_0 : decode b_Y_copyOf0 0 = .ok (.iload_n 1, 1) := by decide +kernel
theorem d_Y_copyOf0_1 : decode b_Y_copyOf0 1 = .ok (.aload_n 0, 1) := by decide +kernel
theorem d_Y_copyOf0_2 : decode b_Y_copyOf0 2 = .ok (.arraylength, 1) := by decide +kernel
theorem d_Y_copyOf0_3 : decode b_Y_copyOf0 3 = .ok (.if_icmp .ne 11, 3) := by decide +kernel
theorem d_Y_copyOf0_6 : decode b_Y_copyOf0 6 = .ok (.aload_n 0, 1) := by decide +kernel
theorem d_Y_copyOf0_7 : decode b_Y_copyOf0 7 = .ok (.invokevirtual 310, 3) := by decide +kernel
theorem d_Y_copyOf0_10 : decode b_Y_copyOf0 10 = .ok (.checkcast 311, 3) := by decide +kernel
theorem d_Y_copyOf0_13 : decode b_Y_copyOf0 13 = .ok (.areturn, 1) := by decide +kernel
theorem d_Y_copyOf0_14 : decode b_Y_copyOf0 14 = .ok (.iload_n 1, 1) := by decide +kernel
theorem d_Y_copyOf0_15 : decode b_Y_copyOf0 15 = .ok (.newarray .byte, 2) := by decide +kernel
theorem d_Y_copyOf0_17 : decode b_Y_copyOf0 17 = .ok (.astore_n 2, 1) := by decide +kernel
theorem d_Y_copyOf0_18 : decode b_Y_copyOf0 18 = .ok (.aload_n 0, 1) := by decide +kernel
theorem d_Y_copyOf0_19 : decode b_Y_copyOf0 19 = .ok (.iconst 0, 1) := by decide +kernel
theorem d_Y_copyOf0_20 : decode b_Y_copyOf0 20 = .ok (.aload_n 2, 1) := by decide +kernel
theorem d_Y_copyOf0_21 : decode b_Y_copyOf0 21 = .ok (.iconst 0, 1) := by decide +kernel
theorem d_Y_copyOf0_22 : decode b_Y_copyOf0 22 = .ok (.aload_n 0, 1) := by decide +kernel
theorem d_Y_copyOf0_23 : decode b_Y_copyOf0 23 = .ok (.arraylength, 1) := by decide +kernel
theorem d_Y_copyOf0_24 : decode b_Y_copyOf0 24 = .ok (.iload_n 1, 1) := by decide +kernel
theorem d_Y_copyOf0_25 : decode b_Y_copyOf0 25 = .ok (.invokestatic 304, 3) := by decide +kernel
theorem d_Y_copyOf0_28 : decode b_Y_copyOf0 28 = .ok (.invokestatic 150, 3) := by decide +kernel
theorem d_Y_copyOf0_31 : decode b_Y_copyOf0 31 = .ok (.aload_n 2, 1) := by decide +kernel
theorem d_Y_copyOf0_32 : decode b_Y_copyOf0 32 = .ok (.areturn, 1) := by decide +kernel

abbrev b_B_length : ByteArray := prog_20_method_93_code
def y_B_length : MethodName := ⟨"java/lang/StringBuilder", "length", "()I"⟩
theorem d_B_length_0 : decode b_B_length 0 = .ok (.aload_n 0, 1) := by decide +kernel
theorem d_B_length_1 : decode b_B_length 1 = .ok (.invokespecial 343, 3) := by decide +kernel
theorem d_B_length_4 : decode b_B_length 4 = .ok (.ireturn, 1) := by decide +kernel

abbrev b_A_length : ByteArray := prog_10_method_6_code
def y_A_length : MethodName := ⟨"java/lang/AbstractStringBuilder", "length", "()I"⟩
theorem d_A_length_0 : decode b_A_length 0 = .ok (.aload_n 0, 1) := by decide +kernel
theorem d_A_length_1 : decode b_A_length 1 = .ok (.getfield 79, 3) := by decide +kernel
theorem d_A_length_4 : decode b_A_length 4 = .ok (.ireturn, 1) := by decide +kernel

abbrev b_B_setLength : ByteArray := prog_20_method_89_code
def y_B_setLength : MethodName := ⟨"java/lang/StringBuilder", "setLength", "(I)V"⟩
theorem d_B_setLength_0 : decode b_B_setLength 0 = .ok (.aload_n 0, 1) := by decide +kernel
theorem d_B_setLength_1 : decode b_B_setLength 1 = .ok (.iload_n 1, 1) := by decide +kernel
theorem d_B_setLength_2 : decode b_B_setLength 2 = .ok (.invokespecial 333, 3) := by decide +kernel
theorem d_B_setLength_5 : decode b_B_setLength 5 = .ok (.return_, 1) := by decide +kernel

abbrev b_A_setLength : ByteArray := prog_10_method_13_code
def y_A_setLength : MethodName := ⟨"java/lang/AbstractStringBuilder", "setLength", "(I)V"⟩
theorem d_A_setLength_0 : decode b_A_setLength 0 = .ok (.iload_n 1, 1) := by decide +kernel
theorem d_A_setLength_1 : decode b_A_setLength 1 = .ok (.ifCond .ge 12, 3) := by decide +kernel
theorem d_A_setLength_4 : decode b_A_setLength 4 = .ok (.new 129, 3) := by decide +kernel
theorem d_A_setLength_7 : decode b_A_setLength 7 = .ok (.dup, 1) := by decide +kernel
theorem d_A_setLength_8 : decode b_A_setLength 8 = .ok (.iload_n 1, 1) := by decide +kernel
theorem d_A_setLength_9 : decode b_A_setLength 9 = .ok (.invokespecial 131, 3) := by decide +kernel
theorem d_A_setLength_12 : decode b_A_setLength 12 = .ok (.athrow, 1) := by decide +kernel
theorem d_A_setLength_13 : decode b_A_setLength 13 = .ok (.aload_n 0, 1) := by decide +kernel
theorem d_A_setLength_14 : decode b_A_setLength 14 = .ok (.iload_n 1, 1) := by decide +kernel
theorem d_A_setLength_15 : decode b_A_setLength 15 = .ok (.invokevirtual 100, 3) := by decide +kernel
theorem d_A_setLength_18 : decode b_A_setLength 18 = .ok (.aload_n 0, 1) := by decide +kernel
theorem d_A_setLength_19 : decode b_A_setLength 19 = .ok (.getfield 79, 3) := by decide +kernel
theorem d_A_setLength_22 : decode b_A_setLength 22 = .ok (.iload_n 1, 1) := by decide +kernel
theorem d_A_setLength_23 : decode b_A_setLength 23 = .ok (.if_icmp .ge 40, 3) := by decide +kernel
theorem d_A_setLength_26 : decode b_A_setLength 26 = .ok (.aload_n 0, 1) := by decide +kernel
theorem d_A_setLength_27 : decode b_A_setLength 27 = .ok (.invokevirtual 83, 3) := by decide +kernel
theorem d_A_setLength_30 : decode b_A_setLength 30 = .ok (.ifCond .eq 18, 3) := by decide +kernel
theorem d_A_setLength_33 : decode b_A_setLength 33 = .ok (.aload_n 0, 1) := by decide +kernel
theorem d_A_setLength_34 : decode b_A_setLength 34 = .ok (.getfield 15, 3) := by decide +kernel
theorem d_A_setLength_37 : decode b_A_setLength 37 = .ok (.aload_n 0, 1) := by decide +kernel
theorem d_A_setLength_38 : decode b_A_setLength 38 = .ok (.getfield 79, 3) := by decide +kernel
theorem d_A_setLength_41 : decode b_A_setLength 41 = .ok (.iload_n 1, 1) := by decide +kernel
theorem d_A_setLength_42 : decode b_A_setLength 42 = .ok (.invokestatic 133, 3) := by decide +kernel
theorem d_A_setLength_45 : decode b_A_setLength 45 = .ok (.goto 31, 3) := by decide +kernel
theorem d_A_setLength_48 : decode b_A_setLength 48 = .ok (.aload_n 0, 1) := by decide +kernel
theorem d_A_setLength_49 : decode b_A_setLength 49 = .ok (.getfield 15, 3) := by decide +kernel
theorem d_A_setLength_52 : decode b_A_setLength 52 = .ok (.aload_n 0, 1) := by decide +kernel
theorem d_A_setLength_53 : decode b_A_setLength 53 = .ok (.getfield 79, 3) := by decide +kernel
theorem d_A_setLength_56 : decode b_A_setLength 56 = .ok (.iload_n 1, 1) := by decide +kernel
theorem d_A_setLength_57 : decode b_A_setLength 57 = .ok (.invokestatic 137, 3) := by decide +kernel
theorem d_A_setLength_60 : decode b_A_setLength 60 = .ok (.goto 16, 3) := by decide +kernel
theorem d_A_setLength_63 : decode b_A_setLength 63 = .ok (.aload_n 0, 1) := by decide +kernel
theorem d_A_setLength_64 : decode b_A_setLength 64 = .ok (.getfield 79, 3) := by decide +kernel
theorem d_A_setLength_67 : decode b_A_setLength 67 = .ok (.iload_n 1, 1) := by decide +kernel
theorem d_A_setLength_68 : decode b_A_setLength 68 = .ok (.if_icmp .le 8, 3) := by decide +kernel
theorem d_A_setLength_71 : decode b_A_setLength 71 = .ok (.aload_n 0, 1) := by decide +kernel
theorem d_A_setLength_72 : decode b_A_setLength 72 = .ok (.iconst 1, 1) := by decide +kernel
theorem d_A_setLength_73 : decode b_A_setLength 73 = .ok (.putfield 73, 3) := by decide +kernel
theorem d_A_setLength_76 : decode b_A_setLength 76 = .ok (.aload_n 0, 1) := by decide +kernel
theorem d_A_setLength_77 : decode b_A_setLength 77 = .ok (.iload_n 1, 1) := by decide +kernel
theorem d_A_setLength_78 : decode b_A_setLength 78 = .ok (.putfield 79, 3) := by decide +kernel
theorem d_A_setLength_81 : decode b_A_setLength 81 = .ok (.return_, 1) := by decide +kernel

abbrev b_B_toString : ByteArray := prog_20_method_42_code
def y_B_toString : MethodName := ⟨"java/lang/StringBuilder", "toString", "()Ljava/lang/String;"⟩
theorem d_B_toString_0 : decode b_B_toString 0 = .ok (.new 18, 3) := by decide +kernel
theorem d_B_toString_3 : decode b_B_toString 3 = .ok (.dup, 1) := by decide +kernel
theorem d_B_toString_4 : decode b_B_toString 4 = .ok (.aload_n 0, 1) := by decide +kernel
theorem d_B_toString_5 : decode b_B_toString 5 = .ok (.invokespecial 137, 3) := by decide +kernel
theorem d_B_toString_8 : decode b_B_toString 8 = .ok (.areturn, 1) := by decide +kernel

abbrev b_S_init4 : ByteArray := prog_19_method_53_code
def y_S_init4 : MethodName := ⟨"java/lang/String", "<init>", "(Ljava/lang/StringBuilder;)V"⟩
theorem d_S_init4_0 : decode b_S_init4 0 = .ok (.aload_n 0, 1) := by decide +kernel
theorem d_S_init4_1 : decode b_S_init4 1 = .ok (.aload_n 1, 1) := by decide +kernel
theorem d_S_init4_2 : decode b_S_init4 2 = .ok (.aconst_null, 1) := by decide +kernel
theorem d_S_init4_3 : decode b_S_init4 3 = .ok (.invokespecial 489, 3) := by decide +kernel
theorem d_S_init4_6 : decode b_S_init4 6 = .ok (.return_, 1) := by decide +kernel

abbrev b_S_init1 : ByteArray := prog_19_method_150_code
def y_S_init1 : MethodName := ⟨"java/lang/String", "<init>", "(Ljava/lang/AbstractStringBuilder;Ljava/lang/Void;)V"⟩
theorem d_S_init1_0 : decode b_S_init1 0 = .ok (.aload_n 0, 1) := by decide +kernel
theorem d_S_init1_1 : decode b_S_init1 1 = .ok (.invokespecial 1, 3) := by decide +kernel
theorem d_S_init1_4 : decode b_S_init1 4 = .ok (.aload_n 1, 1) := by decide +kernel
theorem d_S_init1_5 : decode b_S_init1 5 = .ok (.invokevirtual 552, 3) := by decide +kernel
theorem d_S_init1_8 : decode b_S_init1 8 = .ok (.astore_n 3, 1) := by decide +kernel
theorem d_S_init1_9 : decode b_S_init1 9 = .ok (.aload_n 1, 1) := by decide +kernel
theorem d_S_init1_10 : decode b_S_init1 10 = .ok (.invokevirtual 549, 3) := by decide +kernel
theorem d_S_init1_13 : decode b_S_init1 13 = .ok (.istore 4, 2) := by decide +kernel
theorem d_S_init1_15 : decode b_S_init1 15 = .ok (.aload_n 1, 1) := by decide +kernel
theorem d_S_init1_16 : decode b_S_init1 16 = .ok (.invokevirtual 1047, 3) := by decide +kernel
theorem d_S_init1_19 : decode b_S_init1 19 = .ok (.ifCond .eq 22, 3) := by decide +kernel
theorem d_S_init1_22 : decode b_S_init1 22 = .ok (.aload_n 0, 1) := by decide +kernel
theorem d_S_init1_23 : decode b_S_init1 23 = .ok (.iconst 0, 1) := by decide +kernel
theorem d_S_init1_24 : decode b_S_init1 24 = .ok (.putfield 15, 3) := by decide +kernel
theorem d_S_init1_27 : decode b_S_init1 27 = .ok (.aload_n 0, 1) := by decide +kernel
theorem d_S_init1_28 : decode b_S_init1 28 = .ok (.aload_n 3, 1) := by decide +kernel
theorem d_S_init1_29 : decode b_S_init1 29 = .ok (.iconst 0, 1) := by decide +kernel
theorem d_S_init1_30 : decode b_S_init1 30 = .ok (.iload 4, 2) := by decide +kernel
theorem d_S_init1_32 : decode b_S_init1 32 = .ok (.invokestatic 54, 3) := by decide +kernel
theorem d_S_init1_35 : decode b_S_init1 35 = .ok (.putfield 9, 3) := by decide +kernel
theorem d_S_init1_38 : decode b_S_init1 38 = .ok (.goto 59, 3) := by decide +kernel
theorem d_S_init1_41 : decode b_S_init1 41 = .ok (.getstatic 38, 3) := by decide +kernel
theorem d_S_init1_44 : decode b_S_init1 44 = .ok (.ifCond .eq 35, 3) := by decide +kernel
theorem d_S_init1_47 : decode b_S_init1 47 = .ok (.aload_n 1, 1) := by decide +kernel
theorem d_S_init1_48 : decode b_S_init1 48 = .ok (.getfield 1048, 3) := by decide +kernel
theorem d_S_init1_51 : decode b_S_init1 51 = .ok (.ifCond .eq 28, 3) := by decide +kernel
theorem d_S_init1_54 : decode b_S_init1 54 = .ok (.aload_n 0, 1) := by decide +kernel
theorem d_S_init1_55 : decode b_S_init1 55 = .ok (.aload_n 3, 1) := by decide +kernel
theorem d_S_init1_56 : decode b_S_init1 56 = .ok (.iconst 0, 1) := by decide +kernel
theorem d_S_init1_57 : decode b_S_init1 57 = .ok (.iload 4, 2) := by decide +kernel
theorem d_S_init1_59 : decode b_S_init1 59 = .ok (.invokestatic 1051, 3) := by decide +kernel
theorem d_S_init1_62 : decode b_S_init1 62 = .ok (.putfield 9, 3) := by decide +kernel
theorem d_S_init1_65 : decode b_S_init1 65 = .ok (.aload_n 0, 1) := by decide +kernel
theorem d_S_init1_66 : decode b_S_init1 66 = .ok (.aload_n 0, 1) := by decide +kernel
theorem d_S_init1_67 : decode b_S_init1 67 = .ok (.getfield 9, 3) := by decide +kernel
theorem d_S_init1_70 : decode b_S_init1 70 = .ok (.iload 4, 2) := by decide +kernel
theorem d_S_init1_72 : decode b_S_init1 72 = .ok (.invokestatic 47, 3) := by decide +kernel
theorem d_S_init1_75 : decode b_S_init1 75 = .ok (.putfield 15, 3) := by decide +kernel
theorem d_S_init1_78 : decode b_S_init1 78 = .ok (.return_, 1) := by decide +kernel
theorem d_S_init1_79 : decode b_S_init1 79 = .ok (.aload_n 0, 1) := by decide +kernel
theorem d_S_init1_80 : decode b_S_init1 80 = .ok (.iconst 1, 1) := by decide +kernel
theorem d_S_init1_81 : decode b_S_init1 81 = .ok (.putfield 15, 3) := by decide +kernel
theorem d_S_init1_84 : decode b_S_init1 84 = .ok (.aload_n 0, 1) := by decide +kernel
theorem d_S_init1_85 : decode b_S_init1 85 = .ok (.aload_n 3, 1) := by decide +kernel
theorem d_S_init1_86 : decode b_S_init1 86 = .ok (.iconst 0, 1) := by decide +kernel
theorem d_S_init1_87 : decode b_S_init1 87 = .ok (.iload 4, 2) := by decide +kernel
theorem d_S_init1_89 : decode b_S_init1 89 = .ok (.iconst 1, 1) := by decide +kernel
theorem d_S_init1_90 : decode b_S_init1 90 = .ok (.ishl, 1) := by decide +kernel
theorem d_S_init1_91 : decode b_S_init1 91 = .ok (.invokestatic 54, 3) := by decide +kernel
theorem d_S_init1_94 : decode b_S_init1 94 = .ok (.putfield 9, 3) := by decide +kernel
theorem d_S_init1_97 : decode b_S_init1 97 = .ok (.return_, 1) := by decide +kernel

abbrev b_A_getValue : ByteArray := prog_10_method_64_code
def y_A_getValue : MethodName := ⟨"java/lang/AbstractStringBuilder", "getValue", "()[B"⟩
theorem d_A_getValue_0 : decode b_A_getValue 0 = .ok (.aload_n 0, 1) := by decide +kernel
theorem d_A_getValue_1 : decode b_A_getValue 1 = .ok (.getfield 15, 3) := by decide +kernel
theorem d_A_getValue_4 : decode b_A_getValue 4 = .ok (.areturn, 1) := by decide +kernel

abbrev b_Y_copyOfRange0 : ByteArray := prog_25_method_132_code
def y_Y_copyOfRange0 : MethodName := ⟨"java/util/Arrays", "copyOfRange", "([BII)[B"⟩
theorem d_Y_copyOfRange0_0 : decode b_Y_copyOfRange0 0 = .ok (.iload_n 1, 1) := by decide +kernel
theorem d_Y_copyOfRange0_1 : decode b_Y_copyOfRange0 1 = .ok (.ifCond .ne 9, 3) := by decide +kernel
theorem d_Y_copyOfRange0_4 : decode b_Y_copyOfRange0 4 = .ok (.iload_n 2, 1) := by decide +kernel
theorem d_Y_copyOfRange0_5 : decode b_Y_copyOfRange0 5 = .ok (.aload_n 0, 1) := by decide +kernel
theorem d_Y_copyOfRange0_6 : decode b_Y_copyOfRange0 6 = .ok (.arraylength, 1) := by decide +kernel
theorem d_Y_copyOfRange0_7 : decode b_Y_copyOfRange0 7 = .ok (.if_icmp .eq 10, 3) := by decide +kernel
theorem d_Y_copyOfRange0_10 : decode b_Y_copyOfRange0 10 = .ok (.aload_n 0, 1) := by decide +kernel
theorem d_Y_copyOfRange0_11 : decode b_Y_copyOfRange0 11 = .ok (.iload_n 1, 1) := by decide +kernel
theorem d_Y_copyOfRange0_12 : decode b_Y_copyOfRange0 12 = .ok (.iload_n 2, 1) := by decide +kernel
theorem d_Y_copyOfRange0_13 : decode b_Y_copyOfRange0 13 = .ok (.invokestatic 339, 3) := by decide +kernel
theorem d_Y_copyOfRange0_16 : decode b_Y_copyOfRange0 16 = .ok (.areturn, 1) := by decide +kernel
theorem d_Y_copyOfRange0_17 : decode b_Y_copyOfRange0 17 = .ok (.aload_n 0, 1) := by decide +kernel
theorem d_Y_copyOfRange0_18 : decode b_Y_copyOfRange0 18 = .ok (.invokevirtual 310, 3) := by decide +kernel
theorem d_Y_copyOfRange0_21 : decode b_Y_copyOfRange0 21 = .ok (.checkcast 311, 3) := by decide +kernel
theorem d_Y_copyOfRange0_24 : decode b_Y_copyOfRange0 24 = .ok (.areturn, 1) := by decide +kernel

abbrev b_Y_copyOfRangeByte : ByteArray := prog_25_method_133_code
def y_Y_copyOfRangeByte : MethodName := ⟨"java/util/Arrays", "copyOfRangeByte", "([BII)[B"⟩
theorem d_Y_copyOfRangeByte_0 : decode b_Y_copyOfRangeByte 0 = .ok (.iload_n 1, 1) := by decide +kernel
theorem d_Y_copyOfRangeByte_1 : decode b_Y_copyOfRangeByte 1 = .ok (.iload_n 2, 1) := by decide +kernel
theorem d_Y_copyOfRangeByte_2 : decode b_Y_copyOfRangeByte 2 = .ok (.invokestatic 343, 3) := by decide +kernel
theorem d_Y_copyOfRangeByte_5 : decode b_Y_copyOfRangeByte 5 = .ok (.iload_n 2, 1) := by decide +kernel
theorem d_Y_copyOfRangeByte_6 : decode b_Y_copyOfRangeByte 6 = .ok (.iload_n 1, 1) := by decide +kernel
theorem d_Y_copyOfRangeByte_7 : decode b_Y_copyOfRangeByte 7 = .ok (.isub, 1) := by decide +kernel
theorem d_Y_copyOfRangeByte_8 : decode b_Y_copyOfRangeByte 8 = .ok (.istore_n 3, 1) := by decide +kernel
theorem d_Y_copyOfRangeByte_9 : decode b_Y_copyOfRangeByte 9 = .ok (.iload_n 3, 1) := by decide +kernel
theorem d_Y_copyOfRangeByte_10 : decode b_Y_copyOfRangeByte 10 = .ok (.newarray .byte, 2) := by decide +kernel
theorem d_Y_copyOfRangeByte_12 : decode b_Y_copyOfRangeByte 12 = .ok (.astore 4, 2) := by decide +kernel
theorem d_Y_copyOfRangeByte_14 : decode b_Y_copyOfRangeByte 14 = .ok (.aload_n 0, 1) := by decide +kernel
theorem d_Y_copyOfRangeByte_15 : decode b_Y_copyOfRangeByte 15 = .ok (.iload_n 1, 1) := by decide +kernel
theorem d_Y_copyOfRangeByte_16 : decode b_Y_copyOfRangeByte 16 = .ok (.aload 4, 2) := by decide +kernel
theorem d_Y_copyOfRangeByte_18 : decode b_Y_copyOfRangeByte 18 = .ok (.iconst 0, 1) := by decide +kernel
theorem d_Y_copyOfRangeByte_19 : decode b_Y_copyOfRangeByte 19 = .ok (.aload_n 0, 1) := by decide +kernel
theorem d_Y_copyOfRangeByte_20 : decode b_Y_copyOfRangeByte 20 = .ok (.arraylength, 1) := by decide +kernel
theorem d_Y_copyOfRangeByte_21 : decode b_Y_copyOfRangeByte 21 = .ok (.iload_n 1, 1) := by decide +kernel
theorem d_Y_copyOfRangeByte_22 : decode b_Y_copyOfRangeByte 22 = .ok (.isub, 1) := by decide +kernel
theorem d_Y_copyOfRangeByte_23 : decode b_Y_copyOfRangeByte 23 = .ok (.iload_n 3, 1) := by decide +kernel
theorem d_Y_copyOfRangeByte_24 : decode b_Y_copyOfRangeByte 24 = .ok (.invokestatic 304, 3) := by decide +kernel
theorem d_Y_copyOfRangeByte_27 : decode b_Y_copyOfRangeByte 27 = .ok (.invokestatic 150, 3) := by decide +kernel
theorem d_Y_copyOfRangeByte_30 : decode b_Y_copyOfRangeByte 30 = .ok (.aload 4, 2) := by decide +kernel
theorem d_Y_copyOfRangeByte_32 : decode b_Y_copyOfRangeByte 32 = .ok (.areturn, 1) := by decide +kernel

abbrev b_Y_checkLength : ByteArray := prog_25_method_131_code
def y_Y_checkLength : MethodName := ⟨"java/util/Arrays", "checkLength", "(II)V"⟩
theorem d_Y_checkLength_0 : decode b_Y_checkLength 0 = .ok (.iload_n 1, 1) := by decide +kernel
theorem d_Y_checkLength_1 : decode b_Y_checkLength 1 = .ok (.iload_n 0, 1) := by decide +kernel
theorem d_Y_checkLength_2 : decode b_Y_checkLength 2 = .ok (.if_icmp .ge 35, 3) := by decide +kernel
theorem d_Y_checkLength_5 : decode b_Y_checkLength 5 = .ok (.new 43, 3) := by decide +kernel
theorem d_Y_checkLength_8 : decode b_Y_checkLength 8 = .ok (.dup, 1) := by decide +kernel
theorem d_Y_checkLength_9 : decode b_Y_checkLength 9 = .ok (.new 45, 3) := by decide +kernel
theorem d_Y_checkLength_12 : decode b_Y_checkLength 12 = .ok (.dup, 1) := by decide +kernel
theorem d_Y_checkLength_13 : decode b_Y_checkLength 13 = .ok (.invokespecial 47, 3) := by decide +kernel
theorem d_Y_checkLength_16 : decode b_Y_checkLength 16 = .ok (.iload_n 0, 1) := by decide +kernel
theorem d_Y_checkLength_17 : decode b_Y_checkLength 17 = .ok (.invokevirtual 54, 3) := by decide +kernel
theorem d_Y_checkLength_20 : decode b_Y_checkLength 20 = .ok (.ldc_w 337, 3) := by decide +kernel
theorem d_Y_checkLength_23 : decode b_Y_checkLength 23 = .ok (.invokevirtual 50, 3) := by decide +kernel
theorem d_Y_checkLength_26 : decode b_Y_checkLength 26 = .ok (.iload_n 1, 1) := by decide +kernel
theorem d_Y_checkLength_27 : decode b_Y_checkLength 27 = .ok (.invokevirtual 54, 3) := by decide +kernel
theorem d_Y_checkLength_30 : decode b_Y_checkLength 30 = .ok (.invokevirtual 61, 3) := by decide +kernel
theorem d_Y_checkLength_33 : decode b_Y_checkLength 33 = .ok (.invokespecial 65, 3) := by decide +kernel
theorem d_Y_checkLength_36 : decode b_Y_checkLength 36 = .ok (.athrow, 1) := by decide +kernel
theorem d_Y_checkLength_37 : decode b_Y_checkLength 37 = .ok (.return_, 1) := by decide +kernel

abbrev b_S_substring1 : ByteArray := prog_19_method_92_code
def y_S_substring1 : MethodName := ⟨"java/lang/String", "substring", "(II)Ljava/lang/String;"⟩
theorem d_S_substring1_0 : decode b_S_substring1 0 = .ok (.aload_n 0, 1) := by decide +kernel
theorem d_S_substring1_1 : decode b_S_substring1 1 = .ok (.invokevirtual 505, 3) := by decide +kernel
theorem d_S_substring1_4 : decode b_S_substring1 4 = .ok (.istore_n 3, 1) := by decide +kernel
theorem d_S_substring1_5 : decode b_S_substring1 5 = .ok (.iload_n 1, 1) := by decide +kernel
theorem d_S_substring1_6 : decode b_S_substring1 6 = .ok (.iload_n 2, 1) := by decide +kernel
theorem d_S_substring1_7 : decode b_S_substring1 7 = .ok (.iload_n 3, 1) := by decide +kernel
theorem d_S_substring1_8 : decode b_S_substring1 8 = .ok (.invokestatic 521, 3) := by decide +kernel
theorem d_S_substring1_11 : decode b_S_substring1 11 = .ok (.iload_n 1, 1) := by decide +kernel
theorem d_S_substring1_12 : decode b_S_substring1 12 = .ok (.ifCond .ne 10, 3) := by decide +kernel
theorem d_S_substring1_15 : decode b_S_substring1 15 = .ok (.iload_n 2, 1) := by decide +kernel
theorem d_S_substring1_16 : decode b_S_substring1 16 = .ok (.iload_n 3, 1) := by decide +kernel
theorem d_S_substring1_17 : decode b_S_substring1 17 = .ok (.if_icmp .ne 5, 3) := by decide +kernel
theorem d_S_substring1_20 : decode b_S_substring1 20 = .ok (.aload_n 0, 1) := by decide +kernel
theorem d_S_substring1_21 : decode b_S_substring1 21 = .ok (.areturn, 1) := by decide +kernel
theorem d_S_substring1_22 : decode b_S_substring1 22 = .ok (.iload_n 2, 1) := by decide +kernel
theorem d_S_substring1_23 : decode b_S_substring1 23 = .ok (.iload_n 1, 1) := by decide +kernel
theorem d_S_substring1_24 : decode b_S_substring1 24 = .ok (.isub, 1) := by decide +kernel
theorem d_S_substring1_25 : decode b_S_substring1 25 = .ok (.istore 4, 2) := by decide +kernel
theorem d_S_substring1_27 : decode b_S_substring1 27 = .ok (.aload_n 0, 1) := by decide +kernel
theorem d_S_substring1_28 : decode b_S_substring1 28 = .ok (.invokevirtual 492, 3) := by decide +kernel
theorem d_S_substring1_31 : decode b_S_substring1 31 = .ok (.ifCond .eq 16, 3) := by decide +kernel
theorem d_S_substring1_34 : decode b_S_substring1 34 = .ok (.aload_n 0, 1) := by decide +kernel
theorem d_S_substring1_35 : decode b_S_substring1 35 = .ok (.getfield 9, 3) := by decide +kernel
theorem d_S_substring1_38 : decode b_S_substring1 38 = .ok (.iload_n 1, 1) := by decide +kernel
theorem d_S_substring1_39 : decode b_S_substring1 39 = .ok (.iload 4, 2) := by decide +kernel
theorem d_S_substring1_41 : decode b_S_substring1 41 = .ok (.invokestatic 685, 3) := by decide +kernel
theorem d_S_substring1_44 : decode b_S_substring1 44 = .ok (.goto 13, 3) := by decide +kernel
theorem d_S_substring1_47 : decode b_S_substring1 47 = .ok (.aload_n 0, 1) := by decide +kernel
theorem d_S_substring1_48 : decode b_S_substring1 48 = .ok (.getfield 9, 3) := by decide +kernel
theorem d_S_substring1_51 : decode b_S_substring1 51 = .ok (.iload_n 1, 1) := by decide +kernel
theorem d_S_substring1_52 : decode b_S_substring1 52 = .ok (.iload 4, 2) := by decide +kernel
theorem d_S_substring1_54 : decode b_S_substring1 54 = .ok (.invokestatic 689, 3) := by decide +kernel
theorem d_S_substring1_57 : decode b_S_substring1 57 = .ok (.areturn, 1) := by decide +kernel

abbrev b_S_checkBoundsBeginEnd : ByteArray := prog_19_method_158_code
def y_S_checkBoundsBeginEnd : MethodName := ⟨"java/lang/String", "checkBoundsBeginEnd", "(III)V"⟩
theorem d_S_checkBoundsBeginEnd_0 : decode b_S_checkBoundsBeginEnd 0 = .ok (.iload_n 0, 1) := by decide +kernel
theorem d_S_checkBoundsBeginEnd_1 : decode b_S_checkBoundsBeginEnd 1 = .ok (.iload_n 1, 1) := by decide +kernel
theorem d_S_checkBoundsBeginEnd_2 : decode b_S_checkBoundsBeginEnd 2 = .ok (.iload_n 2, 1) := by decide +kernel
theorem d_S_checkBoundsBeginEnd_3 : decode b_S_checkBoundsBeginEnd 3 = .ok (.getstatic 1053, 3) := by decide +kernel
theorem d_S_checkBoundsBeginEnd_6 : decode b_S_checkBoundsBeginEnd 6 = .ok (.invokestatic 1062, 3) := by decide +kernel
theorem d_S_checkBoundsBeginEnd_9 : decode b_S_checkBoundsBeginEnd 9 = .ok (.pop, 1) := by decide +kernel
theorem d_S_checkBoundsBeginEnd_10 : decode b_S_checkBoundsBeginEnd 10 = .ok (.return_, 1) := by decide +kernel

abbrev b_P_checkFromToIndex0 : ByteArray := prog_27_method_12_code
def y_P_checkFromToIndex0 : MethodName := ⟨"jdk/internal/util/Preconditions", "checkFromToIndex", "(IIILjava/util/function/BiFunction;)I"⟩
theorem d_P_checkFromToIndex0_0 : decode b_P_checkFromToIndex0 0 = .ok (.iload_n 0, 1) := by decide +kernel
theorem d_P_checkFromToIndex0_1 : decode b_P_checkFromToIndex0 1 = .ok (.ifCond .lt 13, 3) := by decide +kernel
theorem d_P_checkFromToIndex0_4 : decode b_P_checkFromToIndex0 4 = .ok (.iload_n 0, 1) := by decide +kernel
theorem d_P_checkFromToIndex0_5 : decode b_P_checkFromToIndex0 5 = .ok (.iload_n 1, 1) := by decide +kernel
theorem d_P_checkFromToIndex0_6 : decode b_P_checkFromToIndex0 6 = .ok (.if_icmp .gt 8, 3) := by decide +kernel
theorem d_P_checkFromToIndex0_9 : decode b_P_checkFromToIndex0 9 = .ok (.iload_n 1, 1) := by decide +kernel
theorem d_P_checkFromToIndex0_10 : decode b_P_checkFromToIndex0 10 = .ok (.iload_n 2, 1) := by decide +kernel
theorem d_P_checkFromToIndex0_11 : decode b_P_checkFromToIndex0 11 = .ok (.if_icmp .le 11, 3) := by decide +kernel
theorem d_P_checkFromToIndex0_14 : decode b_P_checkFromToIndex0 14 = .ok (.aload_n 3, 1) := by decide +kernel
theorem d_P_checkFromToIndex0_15 : decode b_P_checkFromToIndex0 15 = .ok (.iload_n 0, 1) := by decide +kernel
theorem d_P_checkFromToIndex0_16 : decode b_P_checkFromToIndex0 16 = .ok (.iload_n 1, 1) := by decide +kernel
theorem d_P_checkFromToIndex0_17 : decode b_P_checkFromToIndex0 17 = .ok (.iload_n 2, 1) := by decide +kernel
theorem d_P_checkFromToIndex0_18 : decode b_P_checkFromToIndex0 18 = .ok (.invokestatic 99, 3) := by decide +kernel
theorem d_P_checkFromToIndex0_21 : decode b_P_checkFromToIndex0 21 = .ok (.athrow, 1) := by decide +kernel
theorem d_P_checkFromToIndex0_22 : decode b_P_checkFromToIndex0 22 = .ok (.iload_n 0, 1) := by decide +kernel
theorem d_P_checkFromToIndex0_23 : decode b_P_checkFromToIndex0 23 = .ok (.ireturn, 1) := by decide +kernel

abbrev b_C_newString : ByteArray := prog_21_method_47_code
def y_C_newString : MethodName := ⟨"java/lang/StringLatin1", "newString", "([BII)Ljava/lang/String;"⟩
theorem d_C_newString_0 : decode b_C_newString 0 = .ok (.iload_n 2, 1) := by decide +kernel
theorem d_C_newString_1 : decode b_C_newString 1 = .ok (.ifCond .ne 6, 3) := by decide +kernel
theorem d_C_newString_4 : decode b_C_newString 4 = .ok (.ldc 151, 2) := by decide +kernel
theorem d_C_newString_6 : decode b_C_newString 6 = .ok (.areturn, 1) := by decide +kernel
theorem d_C_newString_7 : decode b_C_newString 7 = .ok (.new 1, 3) := by decide +kernel
theorem d_C_newString_10 : decode b_C_newString 10 = .ok (.dup, 1) := by decide +kernel
theorem d_C_newString_11 : decode b_C_newString 11 = .ok (.aload_n 0, 1) := by decide +kernel
theorem d_C_newString_12 : decode b_C_newString 12 = .ok (.iload_n 1, 1) := by decide +kernel
theorem d_C_newString_13 : decode b_C_newString 13 = .ok (.iload_n 1, 1) := by decide +kernel
theorem d_C_newString_14 : decode b_C_newString 14 = .ok (.iload_n 2, 1) := by decide +kernel
theorem d_C_newString_15 : decode b_C_newString 15 = .ok (.iadd, 1) := by decide +kernel
theorem d_C_newString_16 : decode b_C_newString 16 = .ok (.invokestatic 232, 3) := by decide +kernel
theorem d_C_newString_19 : decode b_C_newString 19 = .ok (.iconst 0, 1) := by decide +kernel
theorem d_C_newString_20 : decode b_C_newString 20 = .ok (.invokespecial 112, 3) := by decide +kernel
theorem d_C_newString_23 : decode b_C_newString 23 = .ok (.areturn, 1) := by decide +kernel

abbrev b_S_init7 : ByteArray := prog_19_method_151_code
def y_S_init7 : MethodName := ⟨"java/lang/String", "<init>", "([BB)V"⟩
theorem d_S_init7_0 : decode b_S_init7 0 = .ok (.aload_n 0, 1) := by decide +kernel
theorem d_S_init7_1 : decode b_S_init7 1 = .ok (.invokespecial 1, 3) := by decide +kernel
theorem d_S_init7_4 : decode b_S_init7 4 = .ok (.aload_n 0, 1) := by decide +kernel
theorem d_S_init7_5 : decode b_S_init7 5 = .ok (.aload_n 1, 1) := by decide +kernel
theorem d_S_init7_6 : decode b_S_init7 6 = .ok (.putfield 9, 3) := by decide +kernel
theorem d_S_init7_9 : decode b_S_init7 9 = .ok (.aload_n 0, 1) := by decide +kernel
theorem d_S_init7_10 : decode b_S_init7 10 = .ok (.iload_n 2, 1) := by decide +kernel
theorem d_S_init7_11 : decode b_S_init7 11 = .ok (.putfield 15, 3) := by decide +kernel
theorem d_S_init7_14 : decode b_S_init7 14 = .ok (.return_, 1) := by decide +kernel

abbrev b_S_indexOf0 : ByteArray := prog_19_method_79_code
def y_S_indexOf0 : MethodName := ⟨"java/lang/String", "indexOf", "(I)I"⟩
theorem d_S_indexOf0_0 : decode b_S_indexOf0 0 = .ok (.aload_n 0, 1) := by decide +kernel
theorem d_S_indexOf0_1 : decode b_S_indexOf0 1 = .ok (.iload_n 1, 1) := by decide +kernel
theorem d_S_indexOf0_2 : decode b_S_indexOf0 2 = .ok (.iconst 0, 1) := by decide +kernel
theorem d_S_indexOf0_3 : decode b_S_indexOf0 3 = .ok (.invokevirtual 633, 3) := by decide +kernel
theorem d_S_indexOf0_6 : decode b_S_indexOf0 6 = .ok (.ireturn, 1) := by decide +kernel

abbrev b_S_indexOf1 : ByteArray := prog_19_method_80_code
def y_S_indexOf1 : MethodName := ⟨"java/lang/String", "indexOf", "(II)I"⟩
theorem d_S_indexOf1_0 : decode b_S_indexOf1 0 = .ok (.aload_n 0, 1) := by decide +kernel
theorem d_S_indexOf1_1 : decode b_S_indexOf1 1 = .ok (.invokevirtual 492, 3) := by decide +kernel
theorem d_S_indexOf1_4 : decode b_S_indexOf1 4 = .ok (.ifCond .eq 19, 3) := by decide +kernel
theorem d_S_indexOf1_7 : decode b_S_indexOf1 7 = .ok (.aload_n 0, 1) := by decide +kernel
theorem d_S_indexOf1_8 : decode b_S_indexOf1 8 = .ok (.getfield 9, 3) := by decide +kernel
theorem d_S_indexOf1_11 : decode b_S_indexOf1 11 = .ok (.iload_n 1, 1) := by decide +kernel
theorem d_S_indexOf1_12 : decode b_S_indexOf1 12 = .ok (.iload_n 2, 1) := by decide +kernel
theorem d_S_indexOf1_13 : decode b_S_indexOf1 13 = .ok (.aload_n 0, 1) := by decide +kernel
theorem d_S_indexOf1_14 : decode b_S_indexOf1 14 = .ok (.invokevirtual 505, 3) := by decide +kernel
theorem d_S_indexOf1_17 : decode b_S_indexOf1 17 = .ok (.invokestatic 637, 3) := by decide +kernel
theorem d_S_indexOf1_20 : decode b_S_indexOf1 20 = .ok (.goto 16, 3) := by decide +kernel
theorem d_S_indexOf1_23 : decode b_S_indexOf1 23 = .ok (.aload_n 0, 1) := by decide +kernel
theorem d_S_indexOf1_24 : decode b_S_indexOf1 24 = .ok (.getfield 9, 3) := by decide +kernel
theorem d_S_indexOf1_27 : decode b_S_indexOf1 27 = .ok (.iload_n 1, 1) := by decide +kernel
theorem d_S_indexOf1_28 : decode b_S_indexOf1 28 = .ok (.iload_n 2, 1) := by decide +kernel
theorem d_S_indexOf1_29 : decode b_S_indexOf1 29 = .ok (.aload_n 0, 1) := by decide +kernel
theorem d_S_indexOf1_30 : decode b_S_indexOf1 30 = .ok (.invokevirtual 505, 3) := by decide +kernel
theorem d_S_indexOf1_33 : decode b_S_indexOf1 33 = .ok (.invokestatic 640, 3) := by decide +kernel
theorem d_S_indexOf1_36 : decode b_S_indexOf1 36 = .ok (.ireturn, 1) := by decide +kernel

abbrev b_C_indexOf0 : ByteArray := prog_21_method_22_code
def y_C_indexOf0 : MethodName := ⟨"java/lang/StringLatin1", "indexOf", "([BIII)I"⟩
theorem d_C_indexOf0_0 : decode b_C_indexOf0 0 = .ok (.iload_n 1, 1) := by decide +kernel
theorem d_C_indexOf0_1 : decode b_C_indexOf0 1 = .ok (.invokestatic 88, 3) := by decide +kernel
theorem d_C_indexOf0_4 : decode b_C_indexOf0 4 = .ok (.ifCond .ne 5, 3) := by decide +kernel
theorem d_C_indexOf0_7 : decode b_C_indexOf0 7 = .ok (.iconst (-1), 1) := by decide +kernel
theorem d_C_indexOf0_8 : decode b_C_indexOf0 8 = .ok (.ireturn, 1) := by decide +kernel
theorem d_C_indexOf0_9 : decode b_C_indexOf0 9 = .ok (.iload_n 2, 1) := by decide +kernel
theorem d_C_indexOf0_10 : decode b_C_indexOf0 10 = .ok (.iconst 0, 1) := by decide +kernel
theorem d_C_indexOf0_11 : decode b_C_indexOf0 11 = .ok (.invokestatic 92, 3) := by decide +kernel
theorem d_C_indexOf0_14 : decode b_C_indexOf0 14 = .ok (.istore_n 2, 1) := by decide +kernel
theorem d_C_indexOf0_15 : decode b_C_indexOf0 15 = .ok (.iload_n 3, 1) := by decide +kernel
theorem d_C_indexOf0_16 : decode b_C_indexOf0 16 = .ok (.aload_n 0, 1) := by decide +kernel
theorem d_C_indexOf0_17 : decode b_C_indexOf0 17 = .ok (.arraylength, 1) := by decide +kernel
theorem d_C_indexOf0_18 : decode b_C_indexOf0 18 = .ok (.invokestatic 38, 3) := by decide +kernel
theorem d_C_indexOf0_21 : decode b_C_indexOf0 21 = .ok (.istore_n 3, 1) := by decide +kernel
theorem d_C_indexOf0_22 : decode b_C_indexOf0 22 = .ok (.iload_n 2, 1) := by decide +kernel
theorem d_C_indexOf0_23 : decode b_C_indexOf0 23 = .ok (.iload_n 3, 1) := by decide +kernel
theorem d_C_indexOf0_24 : decode b_C_indexOf0 24 = .ok (.if_icmp .lt 5, 3) := by decide +kernel
theorem d_C_indexOf0_27 : decode b_C_indexOf0 27 = .ok (.iconst (-1), 1) := by decide +kernel
theorem d_C_indexOf0_28 : decode b_C_indexOf0 28 = .ok (.ireturn, 1) := by decide +kernel
theorem d_C_indexOf0_29 : decode b_C_indexOf0 29 = .ok (.aload_n 0, 1) := by decide +kernel
theorem d_C_indexOf0_30 : decode b_C_indexOf0 30 = .ok (.iload_n 1, 1) := by decide +kernel
theorem d_C_indexOf0_31 : decode b_C_indexOf0 31 = .ok (.iload_n 2, 1) := by decide +kernel
theorem d_C_indexOf0_32 : decode b_C_indexOf0 32 = .ok (.iload_n 3, 1) := by decide +kernel
theorem d_C_indexOf0_33 : decode b_C_indexOf0 33 = .ok (.invokestatic 95, 3) := by decide +kernel
theorem d_C_indexOf0_36 : decode b_C_indexOf0 36 = .ok (.ireturn, 1) := by decide +kernel

abbrev b_C_indexOfChar : ByteArray := prog_21_method_23_code
def y_C_indexOfChar : MethodName := ⟨"java/lang/StringLatin1", "indexOfChar", "([BIII)I"⟩
theorem d_C_indexOfChar_0 : decode b_C_indexOfChar 0 = .ok (.iload_n 1, 1) := by decide +kernel
theorem d_C_indexOfChar_1 : decode b_C_indexOfChar 1 = .ok (.i2b, 1) := by decide +kernel
theorem d_C_indexOfChar_2 : decode b_C_indexOfChar 2 = .ok (.istore 4, 2) := by decide +kernel
theorem d_C_indexOfChar_4 : decode b_C_indexOfChar 4 = .ok (.iload_n 2, 1) := by decide +kernel
theorem d_C_indexOfChar_5 : decode b_C_indexOfChar 5 = .ok (.istore 5, 2) := by decide +kernel
theorem d_C_indexOfChar_7 : decode b_C_indexOfChar 7 = .ok (.iload 5, 2) := by decide +kernel
theorem d_C_indexOfChar_9 : decode b_C_indexOfChar 9 = .ok (.iload_n 3, 1) := by decide +kernel
theorem d_C_indexOfChar_10 : decode b_C_indexOfChar 10 = .ok (.if_icmp .ge 21, 3) := by decide +kernel
theorem d_C_indexOfChar_13 : decode b_C_indexOfChar 13 = .ok (.aload_n 0, 1) := by decide +kernel
theorem d_C_indexOfChar_14 : decode b_C_indexOfChar 14 = .ok (.iload 5, 2) := by decide +kernel
theorem d_C_indexOfChar_16 : decode b_C_indexOfChar 16 = .ok (.baload, 1) := by decide +kernel
theorem d_C_indexOfChar_17 : decode b_C_indexOfChar 17 = .ok (.iload 4, 2) := by decide +kernel
theorem d_C_indexOfChar_19 : decode b_C_indexOfChar 19 = .ok (.if_icmp .ne 6, 3) := by decide +kernel
theorem d_C_indexOfChar_22 : decode b_C_indexOfChar 22 = .ok (.iload 5, 2) := by decide +kernel
theorem d_C_indexOfChar_24 : decode b_C_indexOfChar 24 = .ok (.ireturn, 1) := by decide +kernel
theorem d_C_indexOfChar_25 : decode b_C_indexOfChar 25 = .ok (.iinc 5 1, 3) := by decide +kernel
theorem d_C_indexOfChar_28 : decode b_C_indexOfChar 28 = .ok (.goto (-21), 3) := by decide +kernel
theorem d_C_indexOfChar_31 : decode b_C_indexOfChar 31 = .ok (.iconst (-1), 1) := by decide +kernel
theorem d_C_indexOfChar_32 : decode b_C_indexOfChar 32 = .ok (.ireturn, 1) := by decide +kernel

abbrev b_C_canEncode1 : ByteArray := prog_21_method_4_code
def y_C_canEncode1 : MethodName := ⟨"java/lang/StringLatin1", "canEncode", "(I)Z"⟩
theorem d_C_canEncode1_0 : decode b_C_canEncode1 0 = .ok (.iload_n 0, 1) := by decide +kernel
theorem d_C_canEncode1_1 : decode b_C_canEncode1 1 = .ok (.ifCond .lt 14, 3) := by decide +kernel
theorem d_C_canEncode1_4 : decode b_C_canEncode1 4 = .ok (.iload_n 0, 1) := by decide +kernel
theorem d_C_canEncode1_5 : decode b_C_canEncode1 5 = .ok (.sipush 255, 3) := by decide +kernel
theorem d_C_canEncode1_8 : decode b_C_canEncode1 8 = .ok (.if_icmp .gt 7, 3) := by decide +kernel
theorem d_C_canEncode1_11 : decode b_C_canEncode1 11 = .ok (.iconst 1, 1) := by decide +kernel
theorem d_C_canEncode1_12 : decode b_C_canEncode1 12 = .ok (.goto 4, 3) := by decide +kernel
theorem d_C_canEncode1_15 : decode b_C_canEncode1 15 = .ok (.iconst 0, 1) := by decide +kernel
theorem d_C_canEncode1_16 : decode b_C_canEncode1 16 = .ok (.ireturn, 1) := by decide +kernel

