abbrev b_L_init : ByteArray := prog_2_method_1_code
def y_L_init : MethodName := ⟨"RegistryLog$Ledger", "<init>", "()V"⟩
theorem d_L_init_0 : decode b_L_init 0 = .ok (.aload_n 0, 1) := by decide +kernel
theorem d_L_init_1 : decode b_L_init 1 = .ok (.invokespecial 3, 3) := by decide +kernel
theorem d_L_init_4 : decode b_L_init 4 = .ok (.new 9, 3) := by decide +kernel
theorem d_L_init_7 : decode b_L_init 7 = .ok (.dup, 1) := by decide +kernel
theorem d_L_init_8 : decode b_L_init 8 = .ok (.ldc 11, 2) := by decide +kernel
theorem d_L_init_10 : decode b_L_init 10 = .ok (.invokespecial 13, 3) := by decide +kernel
theorem d_L_init_13 : decode b_L_init 13 = .ok (.astore_n 1, 1) := by decide +kernel
theorem d_L_init_14 : decode b_L_init 14 = .ok (.aload_n 0, 1) := by decide +kernel
theorem d_L_init_15 : decode b_L_init 15 = .ok (.new 16, 3) := by decide +kernel
theorem d_L_init_18 : decode b_L_init 18 = .ok (.dup, 1) := by decide +kernel
theorem d_L_init_19 : decode b_L_init 19 = .ok (.iconst (-1), 1) := by decide +kernel
theorem d_L_init_20 : decode b_L_init 20 = .ok (.iconst (-1), 1) := by decide +kernel
theorem d_L_init_21 : decode b_L_init 21 = .ok (.aload_n 1, 1) := by decide +kernel
theorem d_L_init_22 : decode b_L_init 22 = .ok (.aload_n 1, 1) := by decide +kernel
theorem d_L_init_23 : decode b_L_init 23 = .ok (.iconst (-1), 1) := by decide +kernel
theorem d_L_init_24 : decode b_L_init 24 = .ok (.iconst (-1), 1) := by decide +kernel
theorem d_L_init_25 : decode b_L_init 25 = .ok (.iconst (-1), 1) := by decide +kernel
theorem d_L_init_26 : decode b_L_init 26 = .ok (.invokespecial 18, 3) := by decide +kernel
theorem d_L_init_29 : decode b_L_init 29 = .ok (.putfield 21, 3) := by decide +kernel
theorem d_L_init_32 : decode b_L_init 32 = .ok (.aload_n 0, 1) := by decide +kernel
theorem d_L_init_33 : decode b_L_init 33 = .ok (.bipush 120, 2) := by decide +kernel
theorem d_L_init_35 : decode b_L_init 35 = .ok (.anewarray 16, 3) := by decide +kernel
theorem d_L_init_38 : decode b_L_init 38 = .ok (.putfield 27, 3) := by decide +kernel
theorem d_L_init_41 : decode b_L_init 41 = .ok (.iconst 0, 1) := by decide +kernel
theorem d_L_init_42 : decode b_L_init 42 = .ok (.istore_n 2, 1) := by decide +kernel
theorem d_L_init_43 : decode b_L_init 43 = .ok (.iload_n 2, 1) := by decide +kernel
theorem d_L_init_44 : decode b_L_init 44 = .ok (.bipush 120, 2) := by decide +kernel
theorem d_L_init_46 : decode b_L_init 46 = .ok (.if_icmp .ge 19, 3) := by decide +kernel
theorem d_L_init_49 : decode b_L_init 49 = .ok (.aload_n 0, 1) := by decide +kernel
theorem d_L_init_50 : decode b_L_init 50 = .ok (.getfield 27, 3) := by decide +kernel
theorem d_L_init_53 : decode b_L_init 53 = .ok (.iload_n 2, 1) := by decide +kernel
theorem d_L_init_54 : decode b_L_init 54 = .ok (.aload_n 0, 1) := by decide +kernel
theorem d_L_init_55 : decode b_L_init 55 = .ok (.getfield 21, 3) := by decide +kernel
theorem d_L_init_58 : decode b_L_init 58 = .ok (.aastore, 1) := by decide +kernel
theorem d_L_init_59 : decode b_L_init 59 = .ok (.iinc 2 1, 3) := by decide +kernel
theorem d_L_init_62 : decode b_L_init 62 = .ok (.goto (-19), 3) := by decide +kernel
theorem d_L_init_65 : decode b_L_init 65 = .ok (.aload_n 0, 1) := by decide +kernel
theorem d_L_init_66 : decode b_L_init 66 = .ok (.iconst 0, 1) := by decide +kernel
theorem d_L_init_67 : decode b_L_init 67 = .ok (.putfield 31, 3) := by decide +kernel
theorem d_L_init_70 : decode b_L_init 70 = .ok (.return_, 1) := by decide +kernel

abbrev b_L_size : ByteArray := prog_2_method_2_code
def y_L_size : MethodName := ⟨"RegistryLog$Ledger", "size", "()I"⟩
theorem d_L_size_0 : decode b_L_size 0 = .ok (.aload_n 0, 1) := by decide +kernel
theorem d_L_size_1 : decode b_L_size 1 = .ok (.getfield 31, 3) := by decide +kernel
theorem d_L_size_4 : decode b_L_size 4 = .ok (.ireturn, 1) := by decide +kernel

abbrev b_L_at : ByteArray := prog_2_method_3_code
def y_L_at : MethodName := ⟨"RegistryLog$Ledger", "at", "(I)LRegistryLog$Row;"⟩
theorem d_L_at_0 : decode b_L_at 0 = .ok (.iload_n 1, 1) := by decide +kernel
theorem d_L_at_1 : decode b_L_at 1 = .ok (.ifCond .lt 20, 3) := by decide +kernel
theorem d_L_at_4 : decode b_L_at 4 = .ok (.iload_n 1, 1) := by decide +kernel
theorem d_L_at_5 : decode b_L_at 5 = .ok (.aload_n 0, 1) := by decide +kernel
theorem d_L_at_6 : decode b_L_at 6 = .ok (.getfield 31, 3) := by decide +kernel
theorem d_L_at_9 : decode b_L_at 9 = .ok (.if_icmp .ge 12, 3) := by decide +kernel
theorem d_L_at_12 : decode b_L_at 12 = .ok (.aload_n 0, 1) := by decide +kernel
theorem d_L_at_13 : decode b_L_at 13 = .ok (.getfield 27, 3) := by decide +kernel
theorem d_L_at_16 : decode b_L_at 16 = .ok (.iload_n 1, 1) := by decide +kernel
theorem d_L_at_17 : decode b_L_at 17 = .ok (.aaload, 1) := by decide +kernel
theorem d_L_at_18 : decode b_L_at 18 = .ok (.goto 7, 3) := by decide +kernel
theorem d_L_at_21 : decode b_L_at 21 = .ok (.aload_n 0, 1) := by decide +kernel
theorem d_L_at_22 : decode b_L_at 22 = .ok (.getfield 21, 3) := by decide +kernel
theorem d_L_at_25 : decode b_L_at 25 = .ok (.areturn, 1) := by decide +kernel

abbrev b_L_append : ByteArray := prog_2_method_4_code
def y_L_append : MethodName := ⟨"RegistryLog$Ledger", "append", "(LRegistryLog$Row;)V"⟩
theorem d_L_append_0 : decode b_L_append 0 = .ok (.aload_n 0, 1) := by decide +kernel
theorem d_L_append_1 : decode b_L_append 1 = .ok (.getfield 31, 3) := by decide +kernel
theorem d_L_append_4 : decode b_L_append 4 = .ok (.bipush 120, 2) := by decide +kernel
theorem d_L_append_6 : decode b_L_append 6 = .ok (.if_icmp .ge 23, 3) := by decide +kernel
theorem d_L_append_9 : decode b_L_append 9 = .ok (.aload_n 0, 1) := by decide +kernel
theorem d_L_append_10 : decode b_L_append 10 = .ok (.getfield 27, 3) := by decide +kernel
theorem d_L_append_13 : decode b_L_append 13 = .ok (.aload_n 0, 1) := by decide +kernel
theorem d_L_append_14 : decode b_L_append 14 = .ok (.getfield 31, 3) := by decide +kernel
theorem d_L_append_17 : decode b_L_append 17 = .ok (.aload_n 1, 1) := by decide +kernel
theorem d_L_append_18 : decode b_L_append 18 = .ok (.aastore, 1) := by decide +kernel
theorem d_L_append_19 : decode b_L_append 19 = .ok (.aload_n 0, 1) := by decide +kernel
theorem d_L_append_20 : decode b_L_append 20 = .ok (.dup, 1) := by decide +kernel
theorem d_L_append_21 : decode b_L_append 21 = .ok (.getfield 31, 3) := by decide +kernel
theorem d_L_append_24 : decode b_L_append 24 = .ok (.iconst 1, 1) := by decide +kernel
theorem d_L_append_25 : decode b_L_append 25 = .ok (.iadd, 1) := by decide +kernel
theorem d_L_append_26 : decode b_L_append 26 = .ok (.putfield 31, 3) := by decide +kernel
theorem d_L_append_29 : decode b_L_append 29 = .ok (.return_, 1) := by decide +kernel

abbrev b_L_replace : ByteArray := prog_2_method_5_code
def y_L_replace : MethodName := ⟨"RegistryLog$Ledger", "replace", "(ILRegistryLog$Row;)V"⟩
theorem d_L_replace_0 : decode b_L_replace 0 = .ok (.iload_n 1, 1) := by decide +kernel
theorem d_L_replace_1 : decode b_L_replace 1 = .ok (.ifCond .lt 18, 3) := by decide +kernel
theorem d_L_replace_4 : decode b_L_replace 4 = .ok (.iload_n 1, 1) := by decide +kernel
theorem d_L_replace_5 : decode b_L_replace 5 = .ok (.aload_n 0, 1) := by decide +kernel
theorem d_L_replace_6 : decode b_L_replace 6 = .ok (.getfield 31, 3) := by decide +kernel
theorem d_L_replace_9 : decode b_L_replace 9 = .ok (.if_icmp .ge 10, 3) := by decide +kernel
theorem d_L_replace_12 : decode b_L_replace 12 = .ok (.aload_n 0, 1) := by decide +kernel
theorem d_L_replace_13 : decode b_L_replace 13 = .ok (.getfield 27, 3) := by decide +kernel
theorem d_L_replace_16 : decode b_L_replace 16 = .ok (.iload_n 1, 1) := by decide +kernel
theorem d_L_replace_17 : decode b_L_replace 17 = .ok (.aload_n 2, 1) := by decide +kernel
theorem d_L_replace_18 : decode b_L_replace 18 = .ok (.aastore, 1) := by decide +kernel
theorem d_L_replace_19 : decode b_L_replace 19 = .ok (.return_, 1) := by decide +kernel

abbrev b_L_originOf : ByteArray := prog_2_method_6_code
def y_L_originOf : MethodName := ⟨"RegistryLog$Ledger", "originOf", "(LRegistryLog$Name;)I"⟩
theorem d_L_originOf_0 : decode b_L_originOf 0 = .ok (.iconst (-1), 1) := by decide +kernel
theorem d_L_originOf_1 : decode b_L_originOf 1 = .ok (.istore_n 2, 1) := by decide +kernel
theorem d_L_originOf_2 : decode b_L_originOf 2 = .ok (.iconst 0, 1) := by decide +kernel
theorem d_L_originOf_3 : decode b_L_originOf 3 = .ok (.istore_n 3, 1) := by decide +kernel
theorem d_L_originOf_4 : decode b_L_originOf 4 = .ok (.iload_n 3, 1) := by decide +kernel
theorem d_L_originOf_5 : decode b_L_originOf 5 = .ok (.aload_n 0, 1) := by decide +kernel
theorem d_L_originOf_6 : decode b_L_originOf 6 = .ok (.getfield 31, 3) := by decide +kernel
theorem d_L_originOf_9 : decode b_L_originOf 9 = .ok (.if_icmp .ge 57, 3) := by decide +kernel
theorem d_L_originOf_12 : decode b_L_originOf 12 = .ok (.aload_n 0, 1) := by decide +kernel
theorem d_L_originOf_13 : decode b_L_originOf 13 = .ok (.iload_n 3, 1) := by decide +kernel
theorem d_L_originOf_14 : decode b_L_originOf 14 = .ok (.invokevirtual 35, 3) := by decide +kernel
theorem d_L_originOf_17 : decode b_L_originOf 17 = .ok (.astore 4, 2) := by decide +kernel
theorem d_L_originOf_19 : decode b_L_originOf 19 = .ok (.aload 4, 2) := by decide +kernel
theorem d_L_originOf_21 : decode b_L_originOf 21 = .ok (.getfield 39, 3) := by decide +kernel
theorem d_L_originOf_24 : decode b_L_originOf 24 = .ok (.iconst 3, 1) := by decide +kernel
theorem d_L_originOf_25 : decode b_L_originOf 25 = .ok (.if_icmp .ne 17, 3) := by decide +kernel
theorem d_L_originOf_28 : decode b_L_originOf 28 = .ok (.aload 4, 2) := by decide +kernel
theorem d_L_originOf_30 : decode b_L_originOf 30 = .ok (.getfield 42, 3) := by decide +kernel
theorem d_L_originOf_33 : decode b_L_originOf 33 = .ok (.aload_n 1, 1) := by decide +kernel
theorem d_L_originOf_34 : decode b_L_originOf 34 = .ok (.invokevirtual 46, 3) := by decide +kernel
theorem d_L_originOf_37 : decode b_L_originOf 37 = .ok (.ifCond .eq 5, 3) := by decide +kernel
theorem d_L_originOf_40 : decode b_L_originOf 40 = .ok (.iconst (-1), 1) := by decide +kernel
theorem d_L_originOf_41 : decode b_L_originOf 41 = .ok (.ireturn, 1) := by decide +kernel
theorem d_L_originOf_42 : decode b_L_originOf 42 = .ok (.aload 4, 2) := by decide +kernel
theorem d_L_originOf_44 : decode b_L_originOf 44 = .ok (.getfield 50, 3) := by decide +kernel
theorem d_L_originOf_47 : decode b_L_originOf 47 = .ok (.aload_n 1, 1) := by decide +kernel
theorem d_L_originOf_48 : decode b_L_originOf 48 = .ok (.invokevirtual 46, 3) := by decide +kernel
theorem d_L_originOf_51 : decode b_L_originOf 51 = .ok (.ifCond .eq 9, 3) := by decide +kernel
theorem d_L_originOf_54 : decode b_L_originOf 54 = .ok (.aload 4, 2) := by decide +kernel
theorem d_L_originOf_56 : decode b_L_originOf 56 = .ok (.getfield 53, 3) := by decide +kernel
theorem d_L_originOf_59 : decode b_L_originOf 59 = .ok (.istore_n 2, 1) := by decide +kernel
theorem d_L_originOf_60 : decode b_L_originOf 60 = .ok (.iinc 3 1, 3) := by decide +kernel
theorem d_L_originOf_63 : decode b_L_originOf 63 = .ok (.goto (-59), 3) := by decide +kernel
theorem d_L_originOf_66 : decode b_L_originOf 66 = .ok (.iload_n 2, 1) := by decide +kernel
theorem d_L_originOf_67 : decode b_L_originOf 67 = .ok (.ireturn, 1) := by decide +kernel

abbrev b_L_isFree : ByteArray := prog_2_method_7_code
def y_L_isFree : MethodName := ⟨"RegistryLog$Ledger", "isFree", "(LRegistryLog$Name;I)Z"⟩
theorem d_L_isFree_0 : decode b_L_isFree 0 = .ok (.iconst 0, 1) := by decide +kernel
theorem d_L_isFree_1 : decode b_L_isFree 1 = .ok (.istore_n 3, 1) := by decide +kernel
theorem d_L_isFree_2 : decode b_L_isFree 2 = .ok (.iload_n 3, 1) := by decide +kernel
theorem d_L_isFree_3 : decode b_L_isFree 3 = .ok (.aload_n 0, 1) := by decide +kernel
theorem d_L_isFree_4 : decode b_L_isFree 4 = .ok (.getfield 31, 3) := by decide +kernel
theorem d_L_isFree_7 : decode b_L_isFree 7 = .ok (.if_icmp .ge 66, 3) := by decide +kernel
theorem d_L_isFree_10 : decode b_L_isFree 10 = .ok (.aload_n 0, 1) := by decide +kernel
theorem d_L_isFree_11 : decode b_L_isFree 11 = .ok (.iload_n 3, 1) := by decide +kernel
theorem d_L_isFree_12 : decode b_L_isFree 12 = .ok (.invokevirtual 35, 3) := by decide +kernel
theorem d_L_isFree_15 : decode b_L_isFree 15 = .ok (.astore 4, 2) := by decide +kernel
theorem d_L_isFree_17 : decode b_L_isFree 17 = .ok (.aload 4, 2) := by decide +kernel
theorem d_L_isFree_19 : decode b_L_isFree 19 = .ok (.getfield 50, 3) := by decide +kernel
theorem d_L_isFree_22 : decode b_L_isFree 22 = .ok (.aload_n 1, 1) := by decide +kernel
theorem d_L_isFree_23 : decode b_L_isFree 23 = .ok (.invokevirtual 46, 3) := by decide +kernel
theorem d_L_isFree_26 : decode b_L_isFree 26 = .ok (.ifCond .eq 5, 3) := by decide +kernel
theorem d_L_isFree_29 : decode b_L_isFree 29 = .ok (.iconst 0, 1) := by decide +kernel
theorem d_L_isFree_30 : decode b_L_isFree 30 = .ok (.ireturn, 1) := by decide +kernel
theorem d_L_isFree_31 : decode b_L_isFree 31 = .ok (.aload 4, 2) := by decide +kernel
theorem d_L_isFree_33 : decode b_L_isFree 33 = .ok (.getfield 53, 3) := by decide +kernel
theorem d_L_isFree_36 : decode b_L_isFree 36 = .ok (.iload_n 2, 1) := by decide +kernel
theorem d_L_isFree_37 : decode b_L_isFree 37 = .ok (.if_icmp .eq 30, 3) := by decide +kernel
theorem d_L_isFree_40 : decode b_L_isFree 40 = .ok (.aload 4, 2) := by decide +kernel
theorem d_L_isFree_42 : decode b_L_isFree 42 = .ok (.getfield 50, 3) := by decide +kernel
theorem d_L_isFree_45 : decode b_L_isFree 45 = .ok (.aload_n 1, 1) := by decide +kernel
theorem d_L_isFree_46 : decode b_L_isFree 46 = .ok (.invokevirtual 56, 3) := by decide +kernel
theorem d_L_isFree_49 : decode b_L_isFree 49 = .ok (.ifCond .eq 18, 3) := by decide +kernel
theorem d_L_isFree_52 : decode b_L_isFree 52 = .ok (.aload_n 0, 1) := by decide +kernel
theorem d_L_isFree_53 : decode b_L_isFree 53 = .ok (.aload 4, 2) := by decide +kernel
theorem d_L_isFree_55 : decode b_L_isFree 55 = .ok (.getfield 50, 3) := by decide +kernel
theorem d_L_isFree_58 : decode b_L_isFree 58 = .ok (.invokevirtual 59, 3) := by decide +kernel
theorem d_L_isFree_61 : decode b_L_isFree 61 = .ok (.iconst (-1), 1) := by decide +kernel
theorem d_L_isFree_62 : decode b_L_isFree 62 = .ok (.if_icmp .eq 5, 3) := by decide +kernel
theorem d_L_isFree_65 : decode b_L_isFree 65 = .ok (.iconst 0, 1) := by decide +kernel
theorem d_L_isFree_66 : decode b_L_isFree 66 = .ok (.ireturn, 1) := by decide +kernel
theorem d_L_isFree_67 : decode b_L_isFree 67 = .ok (.iinc 3 1, 3) := by decide +kernel
theorem d_L_isFree_70 : decode b_L_isFree 70 = .ok (.goto (-68), 3) := by decide +kernel
theorem d_L_isFree_73 : decode b_L_isFree 73 = .ok (.iconst 1, 1) := by decide +kernel
theorem d_L_isFree_74 : decode b_L_isFree 74 = .ok (.ireturn, 1) := by decide +kernel

abbrev b_L_founderOf : ByteArray := prog_2_method_8_code
def y_L_founderOf : MethodName := ⟨"RegistryLog$Ledger", "founderOf", "(I)I"⟩
theorem d_L_founderOf_0 : decode b_L_founderOf 0 = .ok (.aload_n 0, 1) := by decide +kernel
theorem d_L_founderOf_1 : decode b_L_founderOf 1 = .ok (.iload_n 1, 1) := by decide +kernel
theorem d_L_founderOf_2 : decode b_L_founderOf 2 = .ok (.invokevirtual 35, 3) := by decide +kernel
theorem d_L_founderOf_5 : decode b_L_founderOf 5 = .ok (.getfield 63, 3) := by decide +kernel
theorem d_L_founderOf_8 : decode b_L_founderOf 8 = .ok (.ireturn, 1) := by decide +kernel

abbrev b_L_hasRight : ByteArray := prog_2_method_9_code
def y_L_hasRight : MethodName := ⟨"RegistryLog$Ledger", "hasRight", "(II)Z"⟩
theorem d_L_hasRight_0 : decode b_L_hasRight 0 = .ok (.iload_n 1, 1) := by decide +kernel
theorem d_L_hasRight_1 : decode b_L_hasRight 1 = .ok (.iconst (-1), 1) := by decide +kernel
theorem d_L_hasRight_2 : decode b_L_hasRight 2 = .ok (.if_icmp .eq 16, 3) := by decide +kernel
theorem d_L_hasRight_5 : decode b_L_hasRight 5 = .ok (.aload_n 0, 1) := by decide +kernel
theorem d_L_hasRight_6 : decode b_L_hasRight 6 = .ok (.iload_n 1, 1) := by decide +kernel
theorem d_L_hasRight_7 : decode b_L_hasRight 7 = .ok (.invokevirtual 66, 3) := by decide +kernel
theorem d_L_hasRight_10 : decode b_L_hasRight 10 = .ok (.iload_n 2, 1) := by decide +kernel
theorem d_L_hasRight_11 : decode b_L_hasRight 11 = .ok (.if_icmp .ne 7, 3) := by decide +kernel
theorem d_L_hasRight_14 : decode b_L_hasRight 14 = .ok (.iconst 1, 1) := by decide +kernel
theorem d_L_hasRight_15 : decode b_L_hasRight 15 = .ok (.goto 4, 3) := by decide +kernel
theorem d_L_hasRight_18 : decode b_L_hasRight 18 = .ok (.iconst 0, 1) := by decide +kernel
theorem d_L_hasRight_19 : decode b_L_hasRight 19 = .ok (.istore_n 3, 1) := by decide +kernel
theorem d_L_hasRight_20 : decode b_L_hasRight 20 = .ok (.iconst 0, 1) := by decide +kernel
theorem d_L_hasRight_21 : decode b_L_hasRight 21 = .ok (.istore 4, 2) := by decide +kernel
theorem d_L_hasRight_23 : decode b_L_hasRight 23 = .ok (.iload 4, 2) := by decide +kernel
theorem d_L_hasRight_25 : decode b_L_hasRight 25 = .ok (.aload_n 0, 1) := by decide +kernel
theorem d_L_hasRight_26 : decode b_L_hasRight 26 = .ok (.getfield 31, 3) := by decide +kernel
theorem d_L_hasRight_29 : decode b_L_hasRight 29 = .ok (.if_icmp .ge 59, 3) := by decide +kernel
theorem d_L_hasRight_32 : decode b_L_hasRight 32 = .ok (.aload_n 0, 1) := by decide +kernel
theorem d_L_hasRight_33 : decode b_L_hasRight 33 = .ok (.iload 4, 2) := by decide +kernel
theorem d_L_hasRight_35 : decode b_L_hasRight 35 = .ok (.invokevirtual 35, 3) := by decide +kernel
theorem d_L_hasRight_38 : decode b_L_hasRight 38 = .ok (.astore 5, 2) := by decide +kernel
theorem d_L_hasRight_40 : decode b_L_hasRight 40 = .ok (.aload 5, 2) := by decide +kernel
theorem d_L_hasRight_42 : decode b_L_hasRight 42 = .ok (.getfield 39, 3) := by decide +kernel
theorem d_L_hasRight_45 : decode b_L_hasRight 45 = .ok (.iconst 2, 1) := by decide +kernel
theorem d_L_hasRight_46 : decode b_L_hasRight 46 = .ok (.if_icmp .ne 36, 3) := by decide +kernel
theorem d_L_hasRight_49 : decode b_L_hasRight 49 = .ok (.aload 5, 2) := by decide +kernel
theorem d_L_hasRight_51 : decode b_L_hasRight 51 = .ok (.getfield 53, 3) := by decide +kernel
theorem d_L_hasRight_54 : decode b_L_hasRight 54 = .ok (.iload_n 1, 1) := by decide +kernel
theorem d_L_hasRight_55 : decode b_L_hasRight 55 = .ok (.if_icmp .ne 27, 3) := by decide +kernel
theorem d_L_hasRight_58 : decode b_L_hasRight 58 = .ok (.aload 5, 2) := by decide +kernel
theorem d_L_hasRight_60 : decode b_L_hasRight 60 = .ok (.getfield 70, 3) := by decide +kernel
theorem d_L_hasRight_63 : decode b_L_hasRight 63 = .ok (.iload_n 2, 1) := by decide +kernel
theorem d_L_hasRight_64 : decode b_L_hasRight 64 = .ok (.if_icmp .ne 18, 3) := by decide +kernel
theorem d_L_hasRight_67 : decode b_L_hasRight 67 = .ok (.aload 5, 2) := by decide +kernel
theorem d_L_hasRight_69 : decode b_L_hasRight 69 = .ok (.getfield 73, 3) := by decide +kernel
theorem d_L_hasRight_72 : decode b_L_hasRight 72 = .ok (.iconst 1, 1) := by decide +kernel
theorem d_L_hasRight_73 : decode b_L_hasRight 73 = .ok (.if_icmp .ne 7, 3) := by decide +kernel
theorem d_L_hasRight_76 : decode b_L_hasRight 76 = .ok (.iconst 1, 1) := by decide +kernel
theorem d_L_hasRight_77 : decode b_L_hasRight 77 = .ok (.goto 4, 3) := by decide +kernel
theorem d_L_hasRight_80 : decode b_L_hasRight 80 = .ok (.iconst 0, 1) := by decide +kernel
theorem d_L_hasRight_81 : decode b_L_hasRight 81 = .ok (.istore_n 3, 1) := by decide +kernel
theorem d_L_hasRight_82 : decode b_L_hasRight 82 = .ok (.iinc 4 1, 3) := by decide +kernel
theorem d_L_hasRight_85 : decode b_L_hasRight 85 = .ok (.goto (-62), 3) := by decide +kernel
theorem d_L_hasRight_88 : decode b_L_hasRight 88 = .ok (.iload_n 3, 1) := by decide +kernel
theorem d_L_hasRight_89 : decode b_L_hasRight 89 = .ok (.ireturn, 1) := by decide +kernel

abbrev b_L_publishOf : ByteArray := prog_2_method_10_code
def y_L_publishOf : MethodName := ⟨"RegistryLog$Ledger", "publishOf", "(II)I"⟩
theorem d_L_publishOf_0 : decode b_L_publishOf 0 = .ok (.iconst 0, 1) := by decide +kernel
theorem d_L_publishOf_1 : decode b_L_publishOf 1 = .ok (.istore_n 3, 1) := by decide +kernel
theorem d_L_publishOf_2 : decode b_L_publishOf 2 = .ok (.iload_n 3, 1) := by decide +kernel
theorem d_L_publishOf_3 : decode b_L_publishOf 3 = .ok (.aload_n 0, 1) := by decide +kernel
theorem d_L_publishOf_4 : decode b_L_publishOf 4 = .ok (.getfield 31, 3) := by decide +kernel
theorem d_L_publishOf_7 : decode b_L_publishOf 7 = .ok (.if_icmp .ge 44, 3) := by decide +kernel
theorem d_L_publishOf_10 : decode b_L_publishOf 10 = .ok (.aload_n 0, 1) := by decide +kernel
theorem d_L_publishOf_11 : decode b_L_publishOf 11 = .ok (.iload_n 3, 1) := by decide +kernel
theorem d_L_publishOf_12 : decode b_L_publishOf 12 = .ok (.invokevirtual 35, 3) := by decide +kernel
theorem d_L_publishOf_15 : decode b_L_publishOf 15 = .ok (.astore 4, 2) := by decide +kernel
theorem d_L_publishOf_17 : decode b_L_publishOf 17 = .ok (.aload 4, 2) := by decide +kernel
theorem d_L_publishOf_19 : decode b_L_publishOf 19 = .ok (.getfield 39, 3) := by decide +kernel
theorem d_L_publishOf_22 : decode b_L_publishOf 22 = .ok (.ifCond .ne 23, 3) := by decide +kernel
theorem d_L_publishOf_25 : decode b_L_publishOf 25 = .ok (.aload 4, 2) := by decide +kernel
theorem d_L_publishOf_27 : decode b_L_publishOf 27 = .ok (.getfield 53, 3) := by decide +kernel
theorem d_L_publishOf_30 : decode b_L_publishOf 30 = .ok (.iload_n 1, 1) := by decide +kernel
theorem d_L_publishOf_31 : decode b_L_publishOf 31 = .ok (.if_icmp .ne 14, 3) := by decide +kernel
theorem d_L_publishOf_34 : decode b_L_publishOf 34 = .ok (.aload 4, 2) := by decide +kernel
theorem d_L_publishOf_36 : decode b_L_publishOf 36 = .ok (.getfield 70, 3) := by decide +kernel
theorem d_L_publishOf_39 : decode b_L_publishOf 39 = .ok (.iload_n 2, 1) := by decide +kernel
theorem d_L_publishOf_40 : decode b_L_publishOf 40 = .ok (.if_icmp .ne 5, 3) := by decide +kernel
theorem d_L_publishOf_43 : decode b_L_publishOf 43 = .ok (.iload_n 3, 1) := by decide +kernel
theorem d_L_publishOf_44 : decode b_L_publishOf 44 = .ok (.ireturn, 1) := by decide +kernel
theorem d_L_publishOf_45 : decode b_L_publishOf 45 = .ok (.iinc 3 1, 3) := by decide +kernel
theorem d_L_publishOf_48 : decode b_L_publishOf 48 = .ok (.goto (-46), 3) := by decide +kernel
theorem d_L_publishOf_51 : decode b_L_publishOf 51 = .ok (.iconst (-1), 1) := by decide +kernel
theorem d_L_publishOf_52 : decode b_L_publishOf 52 = .ok (.ireturn, 1) := by decide +kernel

abbrev b_L_isYanked : ByteArray := prog_2_method_11_code
def y_L_isYanked : MethodName := ⟨"RegistryLog$Ledger", "isYanked", "(II)Z"⟩
theorem d_L_isYanked_0 : decode b_L_isYanked 0 = .ok (.iconst 0, 1) := by decide +kernel
theorem d_L_isYanked_1 : decode b_L_isYanked 1 = .ok (.istore_n 3, 1) := by decide +kernel
theorem d_L_isYanked_2 : decode b_L_isYanked 2 = .ok (.iconst 0, 1) := by decide +kernel
theorem d_L_isYanked_3 : decode b_L_isYanked 3 = .ok (.istore 4, 2) := by decide +kernel
theorem d_L_isYanked_5 : decode b_L_isYanked 5 = .ok (.iload 4, 2) := by decide +kernel
theorem d_L_isYanked_7 : decode b_L_isYanked 7 = .ok (.aload_n 0, 1) := by decide +kernel
theorem d_L_isYanked_8 : decode b_L_isYanked 8 = .ok (.getfield 31, 3) := by decide +kernel
theorem d_L_isYanked_11 : decode b_L_isYanked 11 = .ok (.if_icmp .ge 59, 3) := by decide +kernel
theorem d_L_isYanked_14 : decode b_L_isYanked 14 = .ok (.aload_n 0, 1) := by decide +kernel
theorem d_L_isYanked_15 : decode b_L_isYanked 15 = .ok (.iload 4, 2) := by decide +kernel
theorem d_L_isYanked_17 : decode b_L_isYanked 17 = .ok (.invokevirtual 35, 3) := by decide +kernel
theorem d_L_isYanked_20 : decode b_L_isYanked 20 = .ok (.astore 5, 2) := by decide +kernel
theorem d_L_isYanked_22 : decode b_L_isYanked 22 = .ok (.aload 5, 2) := by decide +kernel
theorem d_L_isYanked_24 : decode b_L_isYanked 24 = .ok (.getfield 39, 3) := by decide +kernel
theorem d_L_isYanked_27 : decode b_L_isYanked 27 = .ok (.iconst 1, 1) := by decide +kernel
theorem d_L_isYanked_28 : decode b_L_isYanked 28 = .ok (.if_icmp .ne 36, 3) := by decide +kernel
theorem d_L_isYanked_31 : decode b_L_isYanked 31 = .ok (.aload 5, 2) := by decide +kernel
theorem d_L_isYanked_33 : decode b_L_isYanked 33 = .ok (.getfield 53, 3) := by decide +kernel
theorem d_L_isYanked_36 : decode b_L_isYanked 36 = .ok (.iload_n 1, 1) := by decide +kernel
theorem d_L_isYanked_37 : decode b_L_isYanked 37 = .ok (.if_icmp .ne 27, 3) := by decide +kernel
theorem d_L_isYanked_40 : decode b_L_isYanked 40 = .ok (.aload 5, 2) := by decide +kernel
theorem d_L_isYanked_42 : decode b_L_isYanked 42 = .ok (.getfield 70, 3) := by decide +kernel
theorem d_L_isYanked_45 : decode b_L_isYanked 45 = .ok (.iload_n 2, 1) := by decide +kernel
theorem d_L_isYanked_46 : decode b_L_isYanked 46 = .ok (.if_icmp .ne 18, 3) := by decide +kernel
theorem d_L_isYanked_49 : decode b_L_isYanked 49 = .ok (.aload 5, 2) := by decide +kernel
theorem d_L_isYanked_51 : decode b_L_isYanked 51 = .ok (.getfield 73, 3) := by decide +kernel
theorem d_L_isYanked_54 : decode b_L_isYanked 54 = .ok (.iconst 1, 1) := by decide +kernel
theorem d_L_isYanked_55 : decode b_L_isYanked 55 = .ok (.if_icmp .ne 7, 3) := by decide +kernel
theorem d_L_isYanked_58 : decode b_L_isYanked 58 = .ok (.iconst 1, 1) := by decide +kernel
theorem d_L_isYanked_59 : decode b_L_isYanked 59 = .ok (.goto 4, 3) := by decide +kernel
theorem d_L_isYanked_62 : decode b_L_isYanked 62 = .ok (.iconst 0, 1) := by decide +kernel
theorem d_L_isYanked_63 : decode b_L_isYanked 63 = .ok (.istore_n 3, 1) := by decide +kernel
theorem d_L_isYanked_64 : decode b_L_isYanked 64 = .ok (.iinc 4 1, 3) := by decide +kernel
theorem d_L_isYanked_67 : decode b_L_isYanked 67 = .ok (.goto (-62), 3) := by decide +kernel
theorem d_L_isYanked_70 : decode b_L_isYanked 70 = .ok (.iload_n 3, 1) := by decide +kernel
theorem d_L_isYanked_71 : decode b_L_isYanked 71 = .ok (.ireturn, 1) := by decide +kernel

abbrev b_N_init : ByteArray := prog_3_method_1_code
def y_N_init : MethodName := ⟨"RegistryLog$Name", "<init>", "(Ljava/lang/String;)V"⟩
theorem d_N_init_0 : decode b_N_init 0 = .ok (.aload_n 0, 1) := by decide +kernel
theorem d_N_init_1 : decode b_N_init 1 = .ok (.invokespecial 3, 3) := by decide +kernel
theorem d_N_init_4 : decode b_N_init 4 = .ok (.aload_n 0, 1) := by decide +kernel
theorem d_N_init_5 : decode b_N_init 5 = .ok (.aload_n 1, 1) := by decide +kernel
theorem d_N_init_6 : decode b_N_init 6 = .ok (.putfield 9, 3) := by decide +kernel
theorem d_N_init_9 : decode b_N_init 9 = .ok (.aload_n 0, 1) := by decide +kernel
theorem d_N_init_10 : decode b_N_init 10 = .ok (.aload_n 1, 1) := by decide +kernel
theorem d_N_init_11 : decode b_N_init 11 = .ok (.invokestatic 15, 3) := by decide +kernel
theorem d_N_init_14 : decode b_N_init 14 = .ok (.putfield 19, 3) := by decide +kernel
theorem d_N_init_17 : decode b_N_init 17 = .ok (.return_, 1) := by decide +kernel

abbrev b_N_isName : ByteArray := prog_3_method_2_code
def y_N_isName : MethodName := ⟨"RegistryLog$Name", "isName", "()Z"⟩
theorem d_N_isName_0 : decode b_N_isName 0 = .ok (.aload_n 0, 1) := by decide +kernel
theorem d_N_isName_1 : decode b_N_isName 1 = .ok (.getfield 9, 3) := by decide +kernel
theorem d_N_isName_4 : decode b_N_isName 4 = .ok (.invokevirtual 22, 3) := by decide +kernel
theorem d_N_isName_7 : decode b_N_isName 7 = .ok (.istore_n 1, 1) := by decide +kernel
theorem d_N_isName_8 : decode b_N_isName 8 = .ok (.iload_n 1, 1) := by decide +kernel
theorem d_N_isName_9 : decode b_N_isName 9 = .ok (.iconst 1, 1) := by decide +kernel
theorem d_N_isName_10 : decode b_N_isName 10 = .ok (.if_icmp .lt 9, 3) := by decide +kernel
theorem d_N_isName_13 : decode b_N_isName 13 = .ok (.iload_n 1, 1) := by decide +kernel
theorem d_N_isName_14 : decode b_N_isName 14 = .ok (.bipush 10, 2) := by decide +kernel
theorem d_N_isName_16 : decode b_N_isName 16 = .ok (.if_icmp .le 5, 3) := by decide +kernel
theorem d_N_isName_19 : decode b_N_isName 19 = .ok (.iconst 0, 1) := by decide +kernel
theorem d_N_isName_20 : decode b_N_isName 20 = .ok (.ireturn, 1) := by decide +kernel
theorem d_N_isName_21 : decode b_N_isName 21 = .ok (.iconst 0, 1) := by decide +kernel
theorem d_N_isName_22 : decode b_N_isName 22 = .ok (.istore_n 2, 1) := by decide +kernel
theorem d_N_isName_23 : decode b_N_isName 23 = .ok (.iconst 0, 1) := by decide +kernel
theorem d_N_isName_24 : decode b_N_isName 24 = .ok (.istore_n 3, 1) := by decide +kernel
theorem d_N_isName_25 : decode b_N_isName 25 = .ok (.iload_n 3, 1) := by decide +kernel
theorem d_N_isName_26 : decode b_N_isName 26 = .ok (.iload_n 1, 1) := by decide +kernel
theorem d_N_isName_27 : decode b_N_isName 27 = .ok (.if_icmp .ge 61, 3) := by decide +kernel
theorem d_N_isName_30 : decode b_N_isName 30 = .ok (.aload_n 0, 1) := by decide +kernel
theorem d_N_isName_31 : decode b_N_isName 31 = .ok (.getfield 9, 3) := by decide +kernel
theorem d_N_isName_34 : decode b_N_isName 34 = .ok (.iload_n 3, 1) := by decide +kernel
theorem d_N_isName_35 : decode b_N_isName 35 = .ok (.invokevirtual 28, 3) := by decide +kernel
theorem d_N_isName_38 : decode b_N_isName 38 = .ok (.istore 4, 2) := by decide +kernel
theorem d_N_isName_40 : decode b_N_isName 40 = .ok (.iload 4, 2) := by decide +kernel
theorem d_N_isName_42 : decode b_N_isName 42 = .ok (.bipush 97, 2) := by decide +kernel
theorem d_N_isName_44 : decode b_N_isName 44 = .ok (.if_icmp .lt 14, 3) := by decide +kernel
theorem d_N_isName_47 : decode b_N_isName 47 = .ok (.iload 4, 2) := by decide +kernel
theorem d_N_isName_49 : decode b_N_isName 49 = .ok (.bipush 122, 2) := by decide +kernel
theorem d_N_isName_51 : decode b_N_isName 51 = .ok (.if_icmp .gt 7, 3) := by decide +kernel
theorem d_N_isName_54 : decode b_N_isName 54 = .ok (.iconst 1, 1) := by decide +kernel
theorem d_N_isName_55 : decode b_N_isName 55 = .ok (.goto 4, 3) := by decide +kernel
theorem d_N_isName_58 : decode b_N_isName 58 = .ok (.iconst 0, 1) := by decide +kernel
theorem d_N_isName_59 : decode b_N_isName 59 = .ok (.istore 5, 2) := by decide +kernel
theorem d_N_isName_61 : decode b_N_isName 61 = .ok (.iload 5, 2) := by decide +kernel
theorem d_N_isName_63 : decode b_N_isName 63 = .ok (.ifCond .ne 16, 3) := by decide +kernel
theorem d_N_isName_66 : decode b_N_isName 66 = .ok (.iload 4, 2) := by decide +kernel
theorem d_N_isName_68 : decode b_N_isName 68 = .ok (.bipush 45, 2) := by decide +kernel
theorem d_N_isName_70 : decode b_N_isName 70 = .ok (.if_icmp .ne 7, 3) := by decide +kernel
theorem d_N_isName_73 : decode b_N_isName 73 = .ok (.iload_n 2, 1) := by decide +kernel
theorem d_N_isName_74 : decode b_N_isName 74 = .ok (.ifCond .ne 5, 3) := by decide +kernel
theorem d_N_isName_77 : decode b_N_isName 77 = .ok (.iconst 0, 1) := by decide +kernel
theorem d_N_isName_78 : decode b_N_isName 78 = .ok (.ireturn, 1) := by decide +kernel
theorem d_N_isName_79 : decode b_N_isName 79 = .ok (.iload 5, 2) := by decide +kernel
theorem d_N_isName_81 : decode b_N_isName 81 = .ok (.istore_n 2, 1) := by decide +kernel
theorem d_N_isName_82 : decode b_N_isName 82 = .ok (.iinc 3 1, 3) := by decide +kernel
theorem d_N_isName_85 : decode b_N_isName 85 = .ok (.goto (-60), 3) := by decide +kernel
theorem d_N_isName_88 : decode b_N_isName 88 = .ok (.iload_n 2, 1) := by decide +kernel
theorem d_N_isName_89 : decode b_N_isName 89 = .ok (.ireturn, 1) := by decide +kernel

abbrev b_N_isSame : ByteArray := prog_3_method_3_code
def y_N_isSame : MethodName := ⟨"RegistryLog$Name", "isSame", "(LRegistryLog$Name;)Z"⟩
theorem d_N_isSame_0 : decode b_N_isSame 0 = .ok (.aload_n 0, 1) := by decide +kernel
theorem d_N_isSame_1 : decode b_N_isSame 1 = .ok (.getfield 9, 3) := by decide +kernel
theorem d_N_isSame_4 : decode b_N_isSame 4 = .ok (.aload_n 1, 1) := by decide +kernel
theorem d_N_isSame_5 : decode b_N_isSame 5 = .ok (.getfield 9, 3) := by decide +kernel
theorem d_N_isSame_8 : decode b_N_isSame 8 = .ok (.invokevirtual 32, 3) := by decide +kernel
theorem d_N_isSame_11 : decode b_N_isSame 11 = .ok (.ireturn, 1) := by decide +kernel

abbrev b_N_isNear : ByteArray := prog_3_method_4_code
def y_N_isNear : MethodName := ⟨"RegistryLog$Name", "isNear", "(LRegistryLog$Name;)Z"⟩
theorem d_N_isNear_0 : decode b_N_isNear 0 = .ok (.aload_n 0, 1) := by decide +kernel
theorem d_N_isNear_1 : decode b_N_isNear 1 = .ok (.getfield 19, 3) := by decide +kernel
theorem d_N_isNear_4 : decode b_N_isNear 4 = .ok (.invokevirtual 22, 3) := by decide +kernel
theorem d_N_isNear_7 : decode b_N_isNear 7 = .ok (.istore_n 2, 1) := by decide +kernel
theorem d_N_isNear_8 : decode b_N_isNear 8 = .ok (.aload_n 1, 1) := by decide +kernel
theorem d_N_isNear_9 : decode b_N_isNear 9 = .ok (.getfield 19, 3) := by decide +kernel
theorem d_N_isNear_12 : decode b_N_isNear 12 = .ok (.invokevirtual 22, 3) := by decide +kernel
theorem d_N_isNear_15 : decode b_N_isNear 15 = .ok (.istore_n 3, 1) := by decide +kernel
theorem d_N_isNear_16 : decode b_N_isNear 16 = .ok (.iload_n 2, 1) := by decide +kernel
theorem d_N_isNear_17 : decode b_N_isNear 17 = .ok (.iload_n 3, 1) := by decide +kernel
theorem d_N_isNear_18 : decode b_N_isNear 18 = .ok (.isub, 1) := by decide +kernel
theorem d_N_isNear_19 : decode b_N_isNear 19 = .ok (.invokestatic 36, 3) := by decide +kernel
theorem d_N_isNear_22 : decode b_N_isNear 22 = .ok (.iconst 1, 1) := by decide +kernel
theorem d_N_isNear_23 : decode b_N_isNear 23 = .ok (.if_icmp .le 5, 3) := by decide +kernel
theorem d_N_isNear_26 : decode b_N_isNear 26 = .ok (.iconst 0, 1) := by decide +kernel
theorem d_N_isNear_27 : decode b_N_isNear 27 = .ok (.ireturn, 1) := by decide +kernel
theorem d_N_isNear_28 : decode b_N_isNear 28 = .ok (.aload_n 0, 1) := by decide +kernel
theorem d_N_isNear_29 : decode b_N_isNear 29 = .ok (.getfield 19, 3) := by decide +kernel
theorem d_N_isNear_32 : decode b_N_isNear 32 = .ok (.aload_n 1, 1) := by decide +kernel
theorem d_N_isNear_33 : decode b_N_isNear 33 = .ok (.getfield 19, 3) := by decide +kernel
theorem d_N_isNear_36 : decode b_N_isNear 36 = .ok (.invokestatic 42, 3) := by decide +kernel
theorem d_N_isNear_39 : decode b_N_isNear 39 = .ok (.aload_n 0, 1) := by decide +kernel
theorem d_N_isNear_40 : decode b_N_isNear 40 = .ok (.getfield 19, 3) := by decide +kernel
theorem d_N_isNear_43 : decode b_N_isNear 43 = .ok (.aload_n 1, 1) := by decide +kernel
theorem d_N_isNear_44 : decode b_N_isNear 44 = .ok (.getfield 19, 3) := by decide +kernel
theorem d_N_isNear_47 : decode b_N_isNear 47 = .ok (.invokestatic 46, 3) := by decide +kernel
theorem d_N_isNear_50 : decode b_N_isNear 50 = .ok (.iadd, 1) := by decide +kernel
theorem d_N_isNear_51 : decode b_N_isNear 51 = .ok (.iload_n 2, 1) := by decide +kernel
theorem d_N_isNear_52 : decode b_N_isNear 52 = .ok (.iload_n 3, 1) := by decide +kernel
theorem d_N_isNear_53 : decode b_N_isNear 53 = .ok (.invokestatic 49, 3) := by decide +kernel
theorem d_N_isNear_56 : decode b_N_isNear 56 = .ok (.iconst 1, 1) := by decide +kernel
theorem d_N_isNear_57 : decode b_N_isNear 57 = .ok (.isub, 1) := by decide +kernel
theorem d_N_isNear_58 : decode b_N_isNear 58 = .ok (.if_icmp .lt 7, 3) := by decide +kernel
theorem d_N_isNear_61 : decode b_N_isNear 61 = .ok (.iconst 1, 1) := by decide +kernel
theorem d_N_isNear_62 : decode b_N_isNear 62 = .ok (.goto 4, 3) := by decide +kernel
theorem d_N_isNear_65 : decode b_N_isNear 65 = .ok (.iconst 0, 1) := by decide +kernel
theorem d_N_isNear_66 : decode b_N_isNear 66 = .ok (.ireturn, 1) := by decide +kernel

abbrev b_N_fold : ByteArray := prog_3_method_5_code
def y_N_fold : MethodName := ⟨"RegistryLog$Name", "fold", "(Ljava/lang/String;)Ljava/lang/String;"⟩
theorem d_N_fold_0 : decode b_N_fold 0 = .ok (.new 53, 3) := by decide +kernel
theorem d_N_fold_3 : decode b_N_fold 3 = .ok (.dup, 1) := by decide +kernel
theorem d_N_fold_4 : decode b_N_fold 4 = .ok (.invokespecial 55, 3) := by decide +kernel
theorem d_N_fold_7 : decode b_N_fold 7 = .ok (.astore_n 1, 1) := by decide +kernel
theorem d_N_fold_8 : decode b_N_fold 8 = .ok (.iconst 0, 1) := by decide +kernel
theorem d_N_fold_9 : decode b_N_fold 9 = .ok (.istore_n 2, 1) := by decide +kernel
theorem d_N_fold_10 : decode b_N_fold 10 = .ok (.iload_n 2, 1) := by decide +kernel
theorem d_N_fold_11 : decode b_N_fold 11 = .ok (.aload_n 0, 1) := by decide +kernel
theorem d_N_fold_12 : decode b_N_fold 12 = .ok (.invokevirtual 22, 3) := by decide +kernel
theorem d_N_fold_15 : decode b_N_fold 15 = .ok (.if_icmp .ge 27, 3) := by decide +kernel
theorem d_N_fold_18 : decode b_N_fold 18 = .ok (.aload_n 0, 1) := by decide +kernel
theorem d_N_fold_19 : decode b_N_fold 19 = .ok (.iload_n 2, 1) := by decide +kernel
theorem d_N_fold_20 : decode b_N_fold 20 = .ok (.invokevirtual 28, 3) := by decide +kernel
theorem d_N_fold_23 : decode b_N_fold 23 = .ok (.istore_n 3, 1) := by decide +kernel
theorem d_N_fold_24 : decode b_N_fold 24 = .ok (.iload_n 3, 1) := by decide +kernel
theorem d_N_fold_25 : decode b_N_fold 25 = .ok (.bipush 45, 2) := by decide +kernel
theorem d_N_fold_27 : decode b_N_fold 27 = .ok (.if_icmp .eq 9, 3) := by decide +kernel
theorem d_N_fold_30 : decode b_N_fold 30 = .ok (.aload_n 1, 1) := by decide +kernel
theorem d_N_fold_31 : decode b_N_fold 31 = .ok (.iload_n 3, 1) := by decide +kernel
theorem d_N_fold_32 : decode b_N_fold 32 = .ok (.invokevirtual 56, 3) := by decide +kernel
theorem d_N_fold_35 : decode b_N_fold 35 = .ok (.pop, 1) := by decide +kernel
theorem d_N_fold_36 : decode b_N_fold 36 = .ok (.iinc 2 1, 3) := by decide +kernel
theorem d_N_fold_39 : decode b_N_fold 39 = .ok (.goto (-29), 3) := by decide +kernel
theorem d_N_fold_42 : decode b_N_fold 42 = .ok (.aload_n 1, 1) := by decide +kernel
theorem d_N_fold_43 : decode b_N_fold 43 = .ok (.invokevirtual 60, 3) := by decide +kernel
theorem d_N_fold_46 : decode b_N_fold 46 = .ok (.areturn, 1) := by decide +kernel

abbrev b_N_commonBeginning : ByteArray := prog_3_method_6_code
def y_N_commonBeginning : MethodName := ⟨"RegistryLog$Name", "commonBeginning", "(Ljava/lang/String;Ljava/lang/String;)I"⟩
theorem d_N_commonBeginning_0 : decode b_N_commonBeginning 0 = .ok (.aload_n 0, 1) := by decide +kernel
theorem d_N_commonBeginning_1 : decode b_N_commonBeginning 1 = .ok (.invokevirtual 22, 3) := by decide +kernel
theorem d_N_commonBeginning_4 : decode b_N_commonBeginning 4 = .ok (.aload_n 1, 1) := by decide +kernel
theorem d_N_commonBeginning_5 : decode b_N_commonBeginning 5 = .ok (.invokevirtual 22, 3) := by decide +kernel
theorem d_N_commonBeginning_8 : decode b_N_commonBeginning 8 = .ok (.invokestatic 64, 3) := by decide +kernel
theorem d_N_commonBeginning_11 : decode b_N_commonBeginning 11 = .ok (.istore_n 2, 1) := by decide +kernel
theorem d_N_commonBeginning_12 : decode b_N_commonBeginning 12 = .ok (.iconst 0, 1) := by decide +kernel
theorem d_N_commonBeginning_13 : decode b_N_commonBeginning 13 = .ok (.istore_n 3, 1) := by decide +kernel
theorem d_N_commonBeginning_14 : decode b_N_commonBeginning 14 = .ok (.iload_n 3, 1) := by decide +kernel
theorem d_N_commonBeginning_15 : decode b_N_commonBeginning 15 = .ok (.iload_n 2, 1) := by decide +kernel
theorem d_N_commonBeginning_16 : decode b_N_commonBeginning 16 = .ok (.if_icmp .ge 24, 3) := by decide +kernel
theorem d_N_commonBeginning_19 : decode b_N_commonBeginning 19 = .ok (.aload_n 0, 1) := by decide +kernel
theorem d_N_commonBeginning_20 : decode b_N_commonBeginning 20 = .ok (.iload_n 3, 1) := by decide +kernel
theorem d_N_commonBeginning_21 : decode b_N_commonBeginning 21 = .ok (.invokevirtual 28, 3) := by decide +kernel
theorem d_N_commonBeginning_24 : decode b_N_commonBeginning 24 = .ok (.aload_n 1, 1) := by decide +kernel
theorem d_N_commonBeginning_25 : decode b_N_commonBeginning 25 = .ok (.iload_n 3, 1) := by decide +kernel
theorem d_N_commonBeginning_26 : decode b_N_commonBeginning 26 = .ok (.invokevirtual 28, 3) := by decide +kernel
theorem d_N_commonBeginning_29 : decode b_N_commonBeginning 29 = .ok (.if_icmp .eq 5, 3) := by decide +kernel
theorem d_N_commonBeginning_32 : decode b_N_commonBeginning 32 = .ok (.iload_n 3, 1) := by decide +kernel
theorem d_N_commonBeginning_33 : decode b_N_commonBeginning 33 = .ok (.ireturn, 1) := by decide +kernel
theorem d_N_commonBeginning_34 : decode b_N_commonBeginning 34 = .ok (.iinc 3 1, 3) := by decide +kernel
theorem d_N_commonBeginning_37 : decode b_N_commonBeginning 37 = .ok (.goto (-23), 3) := by decide +kernel
theorem d_N_commonBeginning_40 : decode b_N_commonBeginning 40 = .ok (.iload_n 2, 1) := by decide +kernel
theorem d_N_commonBeginning_41 : decode b_N_commonBeginning 41 = .ok (.ireturn, 1) := by decide +kernel

abbrev b_N_commonEnd : ByteArray := prog_3_method_7_code
def y_N_commonEnd : MethodName := ⟨"RegistryLog$Name", "commonEnd", "(Ljava/lang/String;Ljava/lang/String;)I"⟩
theorem d_N_commonEnd_0 : decode b_N_commonEnd 0 = .ok (.aload_n 0, 1) := by decide +kernel
theorem d_N_commonEnd_1 : decode b_N_commonEnd 1 = .ok (.invokevirtual 22, 3) := by decide +kernel
theorem d_N_commonEnd_4 : decode b_N_commonEnd 4 = .ok (.aload_n 1, 1) := by decide +kernel
theorem d_N_commonEnd_5 : decode b_N_commonEnd 5 = .ok (.invokevirtual 22, 3) := by decide +kernel
theorem d_N_commonEnd_8 : decode b_N_commonEnd 8 = .ok (.invokestatic 64, 3) := by decide +kernel
theorem d_N_commonEnd_11 : decode b_N_commonEnd 11 = .ok (.istore_n 2, 1) := by decide +kernel
theorem d_N_commonEnd_12 : decode b_N_commonEnd 12 = .ok (.iconst 0, 1) := by decide +kernel
theorem d_N_commonEnd_13 : decode b_N_commonEnd 13 = .ok (.istore_n 3, 1) := by decide +kernel
theorem d_N_commonEnd_14 : decode b_N_commonEnd 14 = .ok (.iload_n 3, 1) := by decide +kernel
theorem d_N_commonEnd_15 : decode b_N_commonEnd 15 = .ok (.iload_n 2, 1) := by decide +kernel
theorem d_N_commonEnd_16 : decode b_N_commonEnd 16 = .ok (.if_icmp .ge 38, 3) := by decide +kernel
theorem d_N_commonEnd_19 : decode b_N_commonEnd 19 = .ok (.aload_n 0, 1) := by decide +kernel
theorem d_N_commonEnd_20 : decode b_N_commonEnd 20 = .ok (.aload_n 0, 1) := by decide +kernel
theorem d_N_commonEnd_21 : decode b_N_commonEnd 21 = .ok (.invokevirtual 22, 3) := by decide +kernel
theorem d_N_commonEnd_24 : decode b_N_commonEnd 24 = .ok (.iconst 1, 1) := by decide +kernel
theorem d_N_commonEnd_25 : decode b_N_commonEnd 25 = .ok (.isub, 1) := by decide +kernel
theorem d_N_commonEnd_26 : decode b_N_commonEnd 26 = .ok (.iload_n 3, 1) := by decide +kernel
theorem d_N_commonEnd_27 : decode b_N_commonEnd 27 = .ok (.isub, 1) := by decide +kernel
theorem d_N_commonEnd_28 : decode b_N_commonEnd 28 = .ok (.invokevirtual 28, 3) := by decide +kernel
theorem d_N_commonEnd_31 : decode b_N_commonEnd 31 = .ok (.aload_n 1, 1) := by decide +kernel
theorem d_N_commonEnd_32 : decode b_N_commonEnd 32 = .ok (.aload_n 1, 1) := by decide +kernel
theorem d_N_commonEnd_33 : decode b_N_commonEnd 33 = .ok (.invokevirtual 22, 3) := by decide +kernel
theorem d_N_commonEnd_36 : decode b_N_commonEnd 36 = .ok (.iconst 1, 1) := by decide +kernel
theorem d_N_commonEnd_37 : decode b_N_commonEnd 37 = .ok (.isub, 1) := by decide +kernel
theorem d_N_commonEnd_38 : decode b_N_commonEnd 38 = .ok (.iload_n 3, 1) := by decide +kernel
theorem d_N_commonEnd_39 : decode b_N_commonEnd 39 = .ok (.isub, 1) := by decide +kernel
theorem d_N_commonEnd_40 : decode b_N_commonEnd 40 = .ok (.invokevirtual 28, 3) := by decide +kernel
theorem d_N_commonEnd_43 : decode b_N_commonEnd 43 = .ok (.if_icmp .eq 5, 3) := by decide +kernel
theorem d_N_commonEnd_46 : decode b_N_commonEnd 46 = .ok (.iload_n 3, 1) := by decide +kernel
theorem d_N_commonEnd_47 : decode b_N_commonEnd 47 = .ok (.ireturn, 1) := by decide +kernel
theorem d_N_commonEnd_48 : decode b_N_commonEnd 48 = .ok (.iinc 3 1, 3) := by decide +kernel
theorem d_N_commonEnd_51 : decode b_N_commonEnd 51 = .ok (.goto (-37), 3) := by decide +kernel
theorem d_N_commonEnd_54 : decode b_N_commonEnd 54 = .ok (.iload_n 2, 1) := by decide +kernel
theorem d_N_commonEnd_55 : decode b_N_commonEnd 55 = .ok (.ireturn, 1) := by decide +kernel

abbrev b_U_init : ByteArray := prog_4_method_1_code
def y_U_init : MethodName := ⟨"RegistryLog$Numbers", "<init>", "()V"⟩
theorem d_U_init_0 : decode b_U_init 0 = .ok (.aload_n 0, 1) := by decide +kernel
theorem d_U_init_1 : decode b_U_init 1 = .ok (.invokespecial 3, 3) := by decide +kernel
theorem d_U_init_4 : decode b_U_init 4 = .ok (.aload_n 0, 1) := by decide +kernel
theorem d_U_init_5 : decode b_U_init 5 = .ok (.bipush 16, 2) := by decide +kernel
theorem d_U_init_7 : decode b_U_init 7 = .ok (.newarray .long, 2) := by decide +kernel
theorem d_U_init_9 : decode b_U_init 9 = .ok (.putfield 9, 3) := by decide +kernel
theorem d_U_init_12 : decode b_U_init 12 = .ok (.aload_n 0, 1) := by decide +kernel
theorem d_U_init_13 : decode b_U_init 13 = .ok (.iconst 0, 1) := by decide +kernel
theorem d_U_init_14 : decode b_U_init 14 = .ok (.putfield 15, 3) := by decide +kernel
theorem d_U_init_17 : decode b_U_init 17 = .ok (.aload_n 0, 1) := by decide +kernel
theorem d_U_init_18 : decode b_U_init 18 = .ok (.iconst 0, 1) := by decide +kernel
theorem d_U_init_19 : decode b_U_init 19 = .ok (.putfield 19, 3) := by decide +kernel
theorem d_U_init_22 : decode b_U_init 22 = .ok (.return_, 1) := by decide +kernel

abbrev b_U_clear : ByteArray := prog_4_method_2_code
def y_U_clear : MethodName := ⟨"RegistryLog$Numbers", "clear", "()V"⟩
theorem d_U_clear_0 : decode b_U_clear 0 = .ok (.aload_n 0, 1) := by decide +kernel
theorem d_U_clear_1 : decode b_U_clear 1 = .ok (.iconst 0, 1) := by decide +kernel
theorem d_U_clear_2 : decode b_U_clear 2 = .ok (.putfield 15, 3) := by decide +kernel
theorem d_U_clear_5 : decode b_U_clear 5 = .ok (.aload_n 0, 1) := by decide +kernel
theorem d_U_clear_6 : decode b_U_clear 6 = .ok (.iconst 0, 1) := by decide +kernel
theorem d_U_clear_7 : decode b_U_clear 7 = .ok (.putfield 19, 3) := by decide +kernel
theorem d_U_clear_10 : decode b_U_clear 10 = .ok (.return_, 1) := by decide +kernel

abbrev b_U_size : ByteArray := prog_4_method_3_code
def y_U_size : MethodName := ⟨"RegistryLog$Numbers", "size", "()I"⟩
theorem d_U_size_0 : decode b_U_size 0 = .ok (.aload_n 0, 1) := by decide +kernel
theorem d_U_size_1 : decode b_U_size 1 = .ok (.getfield 15, 3) := by decide +kernel
theorem d_U_size_4 : decode b_U_size 4 = .ok (.ireturn, 1) := by decide +kernel

abbrev b_U_add : ByteArray := prog_4_method_4_code
def y_U_add : MethodName := ⟨"RegistryLog$Numbers", "add", "(J)Z"⟩
theorem d_U_add_0 : decode b_U_add 0 = .ok (.aload_n 0, 1) := by decide +kernel
theorem d_U_add_1 : decode b_U_add 1 = .ok (.getfield 15, 3) := by decide +kernel
theorem d_U_add_4 : decode b_U_add 4 = .ok (.bipush 16, 2) := by decide +kernel
theorem d_U_add_6 : decode b_U_add 6 = .ok (.if_icmp .lt 5, 3) := by decide +kernel
theorem d_U_add_9 : decode b_U_add 9 = .ok (.iconst 0, 1) := by decide +kernel
theorem d_U_add_10 : decode b_U_add 10 = .ok (.ireturn, 1) := by decide +kernel
theorem d_U_add_11 : decode b_U_add 11 = .ok (.aload_n 0, 1) := by decide +kernel
theorem d_U_add_12 : decode b_U_add 12 = .ok (.getfield 9, 3) := by decide +kernel
theorem d_U_add_15 : decode b_U_add 15 = .ok (.aload_n 0, 1) := by decide +kernel
theorem d_U_add_16 : decode b_U_add 16 = .ok (.getfield 15, 3) := by decide +kernel
theorem d_U_add_19 : decode b_U_add 19 = .ok (.lload_n 1, 1) := by decide +kernel
theorem d_U_add_20 : decode b_U_add 20 = .ok (.lastore, 1) := by decide +kernel
theorem d_U_add_21 : decode b_U_add 21 = .ok (.aload_n 0, 1) := by decide +kernel
theorem d_U_add_22 : decode b_U_add 22 = .ok (.dup, 1) := by decide +kernel
theorem d_U_add_23 : decode b_U_add 23 = .ok (.getfield 15, 3) := by decide +kernel
theorem d_U_add_26 : decode b_U_add 26 = .ok (.iconst 1, 1) := by decide +kernel
theorem d_U_add_27 : decode b_U_add 27 = .ok (.iadd, 1) := by decide +kernel
theorem d_U_add_28 : decode b_U_add 28 = .ok (.putfield 15, 3) := by decide +kernel
theorem d_U_add_31 : decode b_U_add 31 = .ok (.iconst 1, 1) := by decide +kernel
theorem d_U_add_32 : decode b_U_add 32 = .ok (.ireturn, 1) := by decide +kernel

abbrev b_U_get : ByteArray := prog_4_method_5_code
def y_U_get : MethodName := ⟨"RegistryLog$Numbers", "get", "(I)J"⟩
theorem d_U_get_0 : decode b_U_get 0 = .ok (.iload_n 1, 1) := by decide +kernel
theorem d_U_get_1 : decode b_U_get 1 = .ok (.ifCond .lt 20, 3) := by decide +kernel
theorem d_U_get_4 : decode b_U_get 4 = .ok (.iload_n 1, 1) := by decide +kernel
theorem d_U_get_5 : decode b_U_get 5 = .ok (.aload_n 0, 1) := by decide +kernel
theorem d_U_get_6 : decode b_U_get 6 = .ok (.getfield 15, 3) := by decide +kernel
theorem d_U_get_9 : decode b_U_get 9 = .ok (.if_icmp .ge 12, 3) := by decide +kernel
theorem d_U_get_12 : decode b_U_get 12 = .ok (.aload_n 0, 1) := by decide +kernel
theorem d_U_get_13 : decode b_U_get 13 = .ok (.getfield 9, 3) := by decide +kernel
theorem d_U_get_16 : decode b_U_get 16 = .ok (.iload_n 1, 1) := by decide +kernel
theorem d_U_get_17 : decode b_U_get 17 = .ok (.laload, 1) := by decide +kernel
theorem d_U_get_18 : decode b_U_get 18 = .ok (.goto 4, 3) := by decide +kernel
theorem d_U_get_21 : decode b_U_get 21 = .ok (.lconst 0, 1) := by decide +kernel
theorem d_U_get_22 : decode b_U_get 22 = .ok (.lreturn, 1) := by decide +kernel

abbrev b_U_next : ByteArray := prog_4_method_6_code
def y_U_next : MethodName := ⟨"RegistryLog$Numbers", "next", "()J"⟩
theorem d_U_next_0 : decode b_U_next 0 = .ok (.aload_n 0, 1) := by decide +kernel
theorem d_U_next_1 : decode b_U_next 1 = .ok (.aload_n 0, 1) := by decide +kernel
theorem d_U_next_2 : decode b_U_next 2 = .ok (.getfield 19, 3) := by decide +kernel
theorem d_U_next_5 : decode b_U_next 5 = .ok (.invokevirtual 22, 3) := by decide +kernel
theorem d_U_next_8 : decode b_U_next 8 = .ok (.lstore_n 1, 1) := by decide +kernel
theorem d_U_next_9 : decode b_U_next 9 = .ok (.aload_n 0, 1) := by decide +kernel
theorem d_U_next_10 : decode b_U_next 10 = .ok (.dup, 1) := by decide +kernel
theorem d_U_next_11 : decode b_U_next 11 = .ok (.getfield 19, 3) := by decide +kernel
theorem d_U_next_14 : decode b_U_next 14 = .ok (.iconst 1, 1) := by decide +kernel
theorem d_U_next_15 : decode b_U_next 15 = .ok (.iadd, 1) := by decide +kernel
theorem d_U_next_16 : decode b_U_next 16 = .ok (.putfield 19, 3) := by decide +kernel
theorem d_U_next_19 : decode b_U_next 19 = .ok (.lload_n 1, 1) := by decide +kernel
theorem d_U_next_20 : decode b_U_next 20 = .ok (.lreturn, 1) := by decide +kernel

abbrev b_U_isReadToTheEnd : ByteArray := prog_4_method_7_code
def y_U_isReadToTheEnd : MethodName := ⟨"RegistryLog$Numbers", "isReadToTheEnd", "()Z"⟩
theorem d_U_isReadToTheEnd_0 : decode b_U_isReadToTheEnd 0 = .ok (.aload_n 0, 1) := by decide +kernel
theorem d_U_isReadToTheEnd_1 : decode b_U_isReadToTheEnd 1 = .ok (.getfield 19, 3) := by decide +kernel
theorem d_U_isReadToTheEnd_4 : decode b_U_isReadToTheEnd 4 = .ok (.aload_n 0, 1) := by decide +kernel
theorem d_U_isReadToTheEnd_5 : decode b_U_isReadToTheEnd 5 = .ok (.getfield 15, 3) := by decide +kernel
theorem d_U_isReadToTheEnd_8 : decode b_U_isReadToTheEnd 8 = .ok (.if_icmp .ne 7, 3) := by decide +kernel
theorem d_U_isReadToTheEnd_11 : decode b_U_isReadToTheEnd 11 = .ok (.iconst 1, 1) := by decide +kernel
theorem d_U_isReadToTheEnd_12 : decode b_U_isReadToTheEnd 12 = .ok (.goto 4, 3) := by decide +kernel
theorem d_U_isReadToTheEnd_15 : decode b_U_isReadToTheEnd 15 = .ok (.iconst 0, 1) := by decide +kernel
theorem d_U_isReadToTheEnd_16 : decode b_U_isReadToTheEnd 16 = .ok (.ireturn, 1) := by decide +kernel

abbrev b_R_init : ByteArray := prog_5_method_1_code
def y_R_init : MethodName := ⟨"RegistryLog$Row", "<init>", "(IILRegistryLog$Name;LRegistryLog$Name;III)V"⟩
theorem d_R_init_0 : decode b_R_init 0 = .ok (.aload_n 0, 1) := by decide +kernel
theorem d_R_init_1 : decode b_R_init 1 = .ok (.invokespecial 3, 3) := by decide +kernel
theorem d_R_init_4 : decode b_R_init 4 = .ok (.aload_n 0, 1) := by decide +kernel
theorem d_R_init_5 : decode b_R_init 5 = .ok (.iload_n 1, 1) := by decide +kernel
theorem d_R_init_6 : decode b_R_init 6 = .ok (.putfield 9, 3) := by decide +kernel
theorem d_R_init_9 : decode b_R_init 9 = .ok (.aload_n 0, 1) := by decide +kernel
theorem d_R_init_10 : decode b_R_init 10 = .ok (.iload_n 2, 1) := by decide +kernel
theorem d_R_init_11 : decode b_R_init 11 = .ok (.putfield 15, 3) := by decide +kernel
theorem d_R_init_14 : decode b_R_init 14 = .ok (.aload_n 0, 1) := by decide +kernel
theorem d_R_init_15 : decode b_R_init 15 = .ok (.aload_n 3, 1) := by decide +kernel
theorem d_R_init_16 : decode b_R_init 16 = .ok (.putfield 18, 3) := by decide +kernel
theorem d_R_init_19 : decode b_R_init 19 = .ok (.aload_n 0, 1) := by decide +kernel
theorem d_R_init_20 : decode b_R_init 20 = .ok (.aload 4, 2) := by decide +kernel
theorem d_R_init_22 : decode b_R_init 22 = .ok (.putfield 22, 3) := by decide +kernel
theorem d_R_init_25 : decode b_R_init 25 = .ok (.aload_n 0, 1) := by decide +kernel
theorem d_R_init_26 : decode b_R_init 26 = .ok (.iload 5, 2) := by decide +kernel
theorem d_R_init_28 : decode b_R_init 28 = .ok (.putfield 25, 3) := by decide +kernel
theorem d_R_init_31 : decode b_R_init 31 = .ok (.aload_n 0, 1) := by decide +kernel
theorem d_R_init_32 : decode b_R_init 32 = .ok (.iload 6, 2) := by decide +kernel
theorem d_R_init_34 : decode b_R_init 34 = .ok (.putfield 28, 3) := by decide +kernel
theorem d_R_init_37 : decode b_R_init 37 = .ok (.aload_n 0, 1) := by decide +kernel
theorem d_R_init_38 : decode b_R_init 38 = .ok (.iload 7, 2) := by decide +kernel
theorem d_R_init_40 : decode b_R_init 40 = .ok (.putfield 31, 3) := by decide +kernel
theorem d_R_init_43 : decode b_R_init 43 = .ok (.lconst 0, 1) := by decide +kernel
theorem d_R_init_44 : decode b_R_init 44 = .ok (.iload_n 1, 1) := by decide +kernel
theorem d_R_init_45 : decode b_R_init 45 = .ok (.i2l, 1) := by decide +kernel
theorem d_R_init_46 : decode b_R_init 46 = .ok (.invokestatic 34, 3) := by decide +kernel
theorem d_R_init_49 : decode b_R_init 49 = .ok (.iload_n 2, 1) := by decide +kernel
theorem d_R_init_50 : decode b_R_init 50 = .ok (.i2l, 1) := by decide +kernel
theorem d_R_init_51 : decode b_R_init 51 = .ok (.invokestatic 34, 3) := by decide +kernel
theorem d_R_init_54 : decode b_R_init 54 = .ok (.lstore 8, 2) := by decide +kernel
theorem d_R_init_56 : decode b_R_init 56 = .ok (.lload 8, 2) := by decide +kernel
theorem d_R_init_58 : decode b_R_init 58 = .ok (.aload_n 3, 1) := by decide +kernel
theorem d_R_init_59 : decode b_R_init 59 = .ok (.getfield 40, 3) := by decide +kernel
theorem d_R_init_62 : decode b_R_init 62 = .ok (.invokestatic 46, 3) := by decide +kernel
theorem d_R_init_65 : decode b_R_init 65 = .ok (.ldc2_w 50, 3) := by decide +kernel
theorem d_R_init_68 : decode b_R_init 68 = .ok (.invokestatic 34, 3) := by decide +kernel
theorem d_R_init_71 : decode b_R_init 71 = .ok (.lstore 8, 2) := by decide +kernel
theorem d_R_init_73 : decode b_R_init 73 = .ok (.iload_n 1, 1) := by decide +kernel
theorem d_R_init_74 : decode b_R_init 74 = .ok (.iconst 3, 1) := by decide +kernel
theorem d_R_init_75 : decode b_R_init 75 = .ok (.if_icmp .ne 18, 3) := by decide +kernel
theorem d_R_init_78 : decode b_R_init 78 = .ok (.lload 8, 2) := by decide +kernel
theorem d_R_init_80 : decode b_R_init 80 = .ok (.aload 4, 2) := by decide +kernel
theorem d_R_init_82 : decode b_R_init 82 = .ok (.getfield 40, 3) := by decide +kernel
theorem d_R_init_85 : decode b_R_init 85 = .ok (.invokestatic 46, 3) := by decide +kernel
theorem d_R_init_88 : decode b_R_init 88 = .ok (.lstore 8, 2) := by decide +kernel
theorem d_R_init_90 : decode b_R_init 90 = .ok (.goto 19, 3) := by decide +kernel
theorem d_R_init_93 : decode b_R_init 93 = .ok (.lload 8, 2) := by decide +kernel
theorem d_R_init_95 : decode b_R_init 95 = .ok (.iload 5, 2) := by decide +kernel
theorem d_R_init_97 : decode b_R_init 97 = .ok (.i2l, 1) := by decide +kernel
theorem d_R_init_98 : decode b_R_init 98 = .ok (.invokestatic 34, 3) := by decide +kernel
theorem d_R_init_101 : decode b_R_init 101 = .ok (.iload 6, 2) := by decide +kernel
theorem d_R_init_103 : decode b_R_init 103 = .ok (.i2l, 1) := by decide +kernel
theorem d_R_init_104 : decode b_R_init 104 = .ok (.invokestatic 34, 3) := by decide +kernel
theorem d_R_init_107 : decode b_R_init 107 = .ok (.lstore 8, 2) := by decide +kernel
theorem d_R_init_109 : decode b_R_init 109 = .ok (.aload_n 0, 1) := by decide +kernel
theorem d_R_init_110 : decode b_R_init 110 = .ok (.iload_n 1, 1) := by decide +kernel
theorem d_R_init_111 : decode b_R_init 111 = .ok (.iconst (-1), 1) := by decide +kernel
theorem d_R_init_112 : decode b_R_init 112 = .ok (.if_icmp .ne 7, 3) := by decide +kernel
theorem d_R_init_115 : decode b_R_init 115 = .ok (.lconst 0, 1) := by decide +kernel
theorem d_R_init_116 : decode b_R_init 116 = .ok (.goto 5, 3) := by decide +kernel
theorem d_R_init_119 : decode b_R_init 119 = .ok (.lload 8, 2) := by decide +kernel
theorem d_R_init_121 : decode b_R_init 121 = .ok (.putfield 52, 3) := by decide +kernel
theorem d_R_init_124 : decode b_R_init 124 = .ok (.return_, 1) := by decide +kernel

abbrev b_R_withSum : ByteArray := prog_5_method_2_code
def y_R_withSum : MethodName := ⟨"RegistryLog$Row", "withSum", "(I)LRegistryLog$Row;"⟩
theorem d_R_withSum_0 : decode b_R_withSum 0 = .ok (.new 10, 3) := by decide +kernel
theorem d_R_withSum_3 : decode b_R_withSum 3 = .ok (.dup, 1) := by decide +kernel
theorem d_R_withSum_4 : decode b_R_withSum 4 = .ok (.aload_n 0, 1) := by decide +kernel
theorem d_R_withSum_5 : decode b_R_withSum 5 = .ok (.getfield 9, 3) := by decide +kernel
theorem d_R_withSum_8 : decode b_R_withSum 8 = .ok (.aload_n 0, 1) := by decide +kernel
theorem d_R_withSum_9 : decode b_R_withSum 9 = .ok (.getfield 15, 3) := by decide +kernel
theorem d_R_withSum_12 : decode b_R_withSum 12 = .ok (.aload_n 0, 1) := by decide +kernel
theorem d_R_withSum_13 : decode b_R_withSum 13 = .ok (.getfield 18, 3) := by decide +kernel
theorem d_R_withSum_16 : decode b_R_withSum 16 = .ok (.aload_n 0, 1) := by decide +kernel
theorem d_R_withSum_17 : decode b_R_withSum 17 = .ok (.getfield 22, 3) := by decide +kernel
theorem d_R_withSum_20 : decode b_R_withSum 20 = .ok (.aload_n 0, 1) := by decide +kernel
theorem d_R_withSum_21 : decode b_R_withSum 21 = .ok (.getfield 25, 3) := by decide +kernel
theorem d_R_withSum_24 : decode b_R_withSum 24 = .ok (.iload_n 1, 1) := by decide +kernel
theorem d_R_withSum_25 : decode b_R_withSum 25 = .ok (.aload_n 0, 1) := by decide +kernel
theorem d_R_withSum_26 : decode b_R_withSum 26 = .ok (.getfield 31, 3) := by decide +kernel
theorem d_R_withSum_29 : decode b_R_withSum 29 = .ok (.invokespecial 56, 3) := by decide +kernel
theorem d_R_withSum_32 : decode b_R_withSum 32 = .ok (.areturn, 1) := by decide +kernel

abbrev b_T_mix : ByteArray := prog_6_method_2_code
def y_T_mix : MethodName := ⟨"RegistryLog$Tree", "mix", "(JJ)J"⟩
theorem d_T_mix_0 : decode b_T_mix 0 = .ok (.lload_n 0, 1) := by decide +kernel
theorem d_T_mix_1 : decode b_T_mix 1 = .ok (.lload_n 2, 1) := by decide +kernel
theorem d_T_mix_2 : decode b_T_mix 2 = .ok (.lxor, 1) := by decide +kernel
theorem d_T_mix_3 : decode b_T_mix 3 = .ok (.ldc2_w 9, 3) := by decide +kernel
theorem d_T_mix_6 : decode b_T_mix 6 = .ok (.lmul, 1) := by decide +kernel
theorem d_T_mix_7 : decode b_T_mix 7 = .ok (.lstore 4, 2) := by decide +kernel
theorem d_T_mix_9 : decode b_T_mix 9 = .ok (.lload 4, 2) := by decide +kernel
theorem d_T_mix_11 : decode b_T_mix 11 = .ok (.lload 4, 2) := by decide +kernel
theorem d_T_mix_13 : decode b_T_mix 13 = .ok (.bipush 29, 2) := by decide +kernel
theorem d_T_mix_15 : decode b_T_mix 15 = .ok (.lushr, 1) := by decide +kernel
theorem d_T_mix_16 : decode b_T_mix 16 = .ok (.lxor, 1) := by decide +kernel
theorem d_T_mix_17 : decode b_T_mix 17 = .ok (.lreturn, 1) := by decide +kernel

abbrev b_T_mixText : ByteArray := prog_6_method_3_code
def y_T_mixText : MethodName := ⟨"RegistryLog$Tree", "mixText", "(JLjava/lang/String;)J"⟩
theorem d_T_mixText_0 : decode b_T_mixText 0 = .ok (.lload_n 0, 1) := by decide +kernel
theorem d_T_mixText_1 : decode b_T_mixText 1 = .ok (.lstore_n 3, 1) := by decide +kernel
theorem d_T_mixText_2 : decode b_T_mixText 2 = .ok (.iconst 0, 1) := by decide +kernel
theorem d_T_mixText_3 : decode b_T_mixText 3 = .ok (.istore 5, 2) := by decide +kernel
theorem d_T_mixText_5 : decode b_T_mixText 5 = .ok (.iload 5, 2) := by decide +kernel
theorem d_T_mixText_7 : decode b_T_mixText 7 = .ok (.aload_n 2, 1) := by decide +kernel
theorem d_T_mixText_8 : decode b_T_mixText 8 = .ok (.invokevirtual 11, 3) := by decide +kernel
theorem d_T_mixText_11 : decode b_T_mixText 11 = .ok (.if_icmp .ge 21, 3) := by decide +kernel
theorem d_T_mixText_14 : decode b_T_mixText 14 = .ok (.lload_n 3, 1) := by decide +kernel
theorem d_T_mixText_15 : decode b_T_mixText 15 = .ok (.aload_n 2, 1) := by decide +kernel
theorem d_T_mixText_16 : decode b_T_mixText 16 = .ok (.iload 5, 2) := by decide +kernel
theorem d_T_mixText_18 : decode b_T_mixText 18 = .ok (.invokevirtual 17, 3) := by decide +kernel
theorem d_T_mixText_21 : decode b_T_mixText 21 = .ok (.i2l, 1) := by decide +kernel
theorem d_T_mixText_22 : decode b_T_mixText 22 = .ok (.invokestatic 21, 3) := by decide +kernel
theorem d_T_mixText_25 : decode b_T_mixText 25 = .ok (.lstore_n 3, 1) := by decide +kernel
theorem d_T_mixText_26 : decode b_T_mixText 26 = .ok (.iinc 5 1, 3) := by decide +kernel
theorem d_T_mixText_29 : decode b_T_mixText 29 = .ok (.goto (-24), 3) := by decide +kernel
theorem d_T_mixText_32 : decode b_T_mixText 32 = .ok (.lload_n 3, 1) := by decide +kernel
theorem d_T_mixText_33 : decode b_T_mixText 33 = .ok (.lreturn, 1) := by decide +kernel

abbrev b_T_join : ByteArray := prog_6_method_4_code
def y_T_join : MethodName := ⟨"RegistryLog$Tree", "join", "(JJ)J"⟩
theorem d_T_join_0 : decode b_T_join 0 = .ok (.lconst 1, 1) := by decide +kernel
theorem d_T_join_1 : decode b_T_join 1 = .ok (.lload_n 0, 1) := by decide +kernel
theorem d_T_join_2 : decode b_T_join 2 = .ok (.invokestatic 21, 3) := by decide +kernel
theorem d_T_join_5 : decode b_T_join 5 = .ok (.lload_n 2, 1) := by decide +kernel
theorem d_T_join_6 : decode b_T_join 6 = .ok (.invokestatic 21, 3) := by decide +kernel
theorem d_T_join_9 : decode b_T_join 9 = .ok (.lreturn, 1) := by decide +kernel

abbrev b_T_firstPart : ByteArray := prog_6_method_5_code
def y_T_firstPart : MethodName := ⟨"RegistryLog$Tree", "firstPart", "(I)I"⟩
theorem d_T_firstPart_0 : decode b_T_firstPart 0 = .ok (.iconst 1, 1) := by decide +kernel
theorem d_T_firstPart_1 : decode b_T_firstPart 1 = .ok (.istore_n 1, 1) := by decide +kernel
theorem d_T_firstPart_2 : decode b_T_firstPart 2 = .ok (.iconst 2, 1) := by decide +kernel
theorem d_T_firstPart_3 : decode b_T_firstPart 3 = .ok (.istore_n 2, 1) := by decide +kernel
theorem d_T_firstPart_4 : decode b_T_firstPart 4 = .ok (.iload_n 2, 1) := by decide +kernel
theorem d_T_firstPart_5 : decode b_T_firstPart 5 = .ok (.iload_n 0, 1) := by decide +kernel
theorem d_T_firstPart_6 : decode b_T_firstPart 6 = .ok (.if_icmp .ge 18, 3) := by decide +kernel
theorem d_T_firstPart_9 : decode b_T_firstPart 9 = .ok (.iload_n 2, 1) := by decide +kernel
theorem d_T_firstPart_10 : decode b_T_firstPart 10 = .ok (.bipush 120, 2) := by decide +kernel
theorem d_T_firstPart_12 : decode b_T_firstPart 12 = .ok (.if_icmp .ge 12, 3) := by decide +kernel
theorem d_T_firstPart_15 : decode b_T_firstPart 15 = .ok (.iload_n 2, 1) := by decide +kernel
theorem d_T_firstPart_16 : decode b_T_firstPart 16 = .ok (.istore_n 1, 1) := by decide +kernel
theorem d_T_firstPart_17 : decode b_T_firstPart 17 = .ok (.iload_n 2, 1) := by decide +kernel
theorem d_T_firstPart_18 : decode b_T_firstPart 18 = .ok (.iconst 2, 1) := by decide +kernel
theorem d_T_firstPart_19 : decode b_T_firstPart 19 = .ok (.imul, 1) := by decide +kernel
theorem d_T_firstPart_20 : decode b_T_firstPart 20 = .ok (.istore_n 2, 1) := by decide +kernel
theorem d_T_firstPart_21 : decode b_T_firstPart 21 = .ok (.goto (-17), 3) := by decide +kernel
theorem d_T_firstPart_24 : decode b_T_firstPart 24 = .ok (.iload_n 1, 1) := by decide +kernel
theorem d_T_firstPart_25 : decode b_T_firstPart 25 = .ok (.ireturn, 1) := by decide +kernel

abbrev b_T_headOf : ByteArray := prog_6_method_6_code
def y_T_headOf : MethodName := ⟨"RegistryLog$Tree", "headOf", "(LRegistryLog$Ledger;II)J"⟩
theorem d_T_headOf_0 : decode b_T_headOf 0 = .ok (.iload_n 2, 1) := by decide +kernel
theorem d_T_headOf_1 : decode b_T_headOf 1 = .ok (.iconst 1, 1) := by decide +kernel
theorem d_T_headOf_2 : decode b_T_headOf 2 = .ok (.if_icmp .lt 9, 3) := by decide +kernel
theorem d_T_headOf_5 : decode b_T_headOf 5 = .ok (.iload_n 2, 1) := by decide +kernel
theorem d_T_headOf_6 : decode b_T_headOf 6 = .ok (.bipush 120, 2) := by decide +kernel
theorem d_T_headOf_8 : decode b_T_headOf 8 = .ok (.if_icmp .le 5, 3) := by decide +kernel
theorem d_T_headOf_11 : decode b_T_headOf 11 = .ok (.lconst 0, 1) := by decide +kernel
theorem d_T_headOf_12 : decode b_T_headOf 12 = .ok (.lreturn, 1) := by decide +kernel
theorem d_T_headOf_13 : decode b_T_headOf 13 = .ok (.iload_n 2, 1) := by decide +kernel
theorem d_T_headOf_14 : decode b_T_headOf 14 = .ok (.iconst 1, 1) := by decide +kernel
theorem d_T_headOf_15 : decode b_T_headOf 15 = .ok (.if_icmp .ne 12, 3) := by decide +kernel
theorem d_T_headOf_18 : decode b_T_headOf 18 = .ok (.aload_n 0, 1) := by decide +kernel
theorem d_T_headOf_19 : decode b_T_headOf 19 = .ok (.iload_n 1, 1) := by decide +kernel
theorem d_T_headOf_20 : decode b_T_headOf 20 = .ok (.invokevirtual 27, 3) := by decide +kernel
theorem d_T_headOf_23 : decode b_T_headOf 23 = .ok (.getfield 33, 3) := by decide +kernel
theorem d_T_headOf_26 : decode b_T_headOf 26 = .ok (.lreturn, 1) := by decide +kernel
theorem d_T_headOf_27 : decode b_T_headOf 27 = .ok (.iload_n 2, 1) := by decide +kernel
theorem d_T_headOf_28 : decode b_T_headOf 28 = .ok (.invokestatic 39, 3) := by decide +kernel
theorem d_T_headOf_31 : decode b_T_headOf 31 = .ok (.istore_n 3, 1) := by decide +kernel
theorem d_T_headOf_32 : decode b_T_headOf 32 = .ok (.aload_n 0, 1) := by decide +kernel
theorem d_T_headOf_33 : decode b_T_headOf 33 = .ok (.iload_n 1, 1) := by decide +kernel
theorem d_T_headOf_34 : decode b_T_headOf 34 = .ok (.iload_n 3, 1) := by decide +kernel
theorem d_T_headOf_35 : decode b_T_headOf 35 = .ok (.invokestatic 43, 3) := by decide +kernel
theorem d_T_headOf_38 : decode b_T_headOf 38 = .ok (.aload_n 0, 1) := by decide +kernel
theorem d_T_headOf_39 : decode b_T_headOf 39 = .ok (.iload_n 1, 1) := by decide +kernel
theorem d_T_headOf_40 : decode b_T_headOf 40 = .ok (.iload_n 3, 1) := by decide +kernel
theorem d_T_headOf_41 : decode b_T_headOf 41 = .ok (.iadd, 1) := by decide +kernel
theorem d_T_headOf_42 : decode b_T_headOf 42 = .ok (.iload_n 2, 1) := by decide +kernel
theorem d_T_headOf_43 : decode b_T_headOf 43 = .ok (.iload_n 3, 1) := by decide +kernel
theorem d_T_headOf_44 : decode b_T_headOf 44 = .ok (.isub, 1) := by decide +kernel
theorem d_T_headOf_45 : decode b_T_headOf 45 = .ok (.invokestatic 43, 3) := by decide +kernel
theorem d_T_headOf_48 : decode b_T_headOf 48 = .ok (.invokestatic 47, 3) := by decide +kernel
theorem d_T_headOf_51 : decode b_T_headOf 51 = .ok (.lreturn, 1) := by decide +kernel

abbrev b_T_proveInside : ByteArray := prog_6_method_7_code
def y_T_proveInside : MethodName := ⟨"RegistryLog$Tree", "proveInside", "(LRegistryLog$Ledger;IIILRegistryLog$Numbers;)V"⟩
theorem d_T_proveInside_0 : decode b_T_proveInside 0 = .ok (.iload_n 2, 1) := by decide +kernel
theorem d_T_proveInside_1 : decode b_T_proveInside 1 = .ok (.iconst 1, 1) := by decide +kernel
theorem d_T_proveInside_2 : decode b_T_proveInside 2 = .ok (.if_icmp .le 9, 3) := by decide +kernel
theorem d_T_proveInside_5 : decode b_T_proveInside 5 = .ok (.iload_n 2, 1) := by decide +kernel
theorem d_T_proveInside_6 : decode b_T_proveInside 6 = .ok (.bipush 120, 2) := by decide +kernel
theorem d_T_proveInside_8 : decode b_T_proveInside 8 = .ok (.if_icmp .le 4, 3) := by decide +kernel
theorem d_T_proveInside_11 : decode b_T_proveInside 11 = .ok (.return_, 1) := by decide +kernel
theorem d_T_proveInside_12 : decode b_T_proveInside 12 = .ok (.iload_n 2, 1) := by decide +kernel
theorem d_T_proveInside_13 : decode b_T_proveInside 13 = .ok (.invokestatic 39, 3) := by decide +kernel
theorem d_T_proveInside_16 : decode b_T_proveInside 16 = .ok (.istore 5, 2) := by decide +kernel
theorem d_T_proveInside_18 : decode b_T_proveInside 18 = .ok (.iload_n 3, 1) := by decide +kernel
theorem d_T_proveInside_19 : decode b_T_proveInside 19 = .ok (.iload 5, 2) := by decide +kernel
theorem d_T_proveInside_21 : decode b_T_proveInside 21 = .ok (.if_icmp .ge 34, 3) := by decide +kernel
theorem d_T_proveInside_24 : decode b_T_proveInside 24 = .ok (.aload_n 0, 1) := by decide +kernel
theorem d_T_proveInside_25 : decode b_T_proveInside 25 = .ok (.iload_n 1, 1) := by decide +kernel
theorem d_T_proveInside_26 : decode b_T_proveInside 26 = .ok (.iload 5, 2) := by decide +kernel
theorem d_T_proveInside_28 : decode b_T_proveInside 28 = .ok (.iload_n 3, 1) := by decide +kernel
theorem d_T_proveInside_29 : decode b_T_proveInside 29 = .ok (.aload 4, 2) := by decide +kernel
theorem d_T_proveInside_31 : decode b_T_proveInside 31 = .ok (.invokestatic 50, 3) := by decide +kernel
theorem d_T_proveInside_34 : decode b_T_proveInside 34 = .ok (.aload 4, 2) := by decide +kernel
theorem d_T_proveInside_36 : decode b_T_proveInside 36 = .ok (.aload_n 0, 1) := by decide +kernel
theorem d_T_proveInside_37 : decode b_T_proveInside 37 = .ok (.iload_n 1, 1) := by decide +kernel
theorem d_T_proveInside_38 : decode b_T_proveInside 38 = .ok (.iload 5, 2) := by decide +kernel
theorem d_T_proveInside_40 : decode b_T_proveInside 40 = .ok (.iadd, 1) := by decide +kernel
theorem d_T_proveInside_41 : decode b_T_proveInside 41 = .ok (.iload_n 2, 1) := by decide +kernel
theorem d_T_proveInside_42 : decode b_T_proveInside 42 = .ok (.iload 5, 2) := by decide +kernel
theorem d_T_proveInside_44 : decode b_T_proveInside 44 = .ok (.isub, 1) := by decide +kernel
theorem d_T_proveInside_45 : decode b_T_proveInside 45 = .ok (.invokestatic 43, 3) := by decide +kernel
theorem d_T_proveInside_48 : decode b_T_proveInside 48 = .ok (.invokevirtual 54, 3) := by decide +kernel
theorem d_T_proveInside_51 : decode b_T_proveInside 51 = .ok (.pop, 1) := by decide +kernel
theorem d_T_proveInside_52 : decode b_T_proveInside 52 = .ok (.goto 34, 3) := by decide +kernel
theorem d_T_proveInside_55 : decode b_T_proveInside 55 = .ok (.aload_n 0, 1) := by decide +kernel
theorem d_T_proveInside_56 : decode b_T_proveInside 56 = .ok (.iload_n 1, 1) := by decide +kernel
theorem d_T_proveInside_57 : decode b_T_proveInside 57 = .ok (.iload 5, 2) := by decide +kernel
theorem d_T_proveInside_59 : decode b_T_proveInside 59 = .ok (.iadd, 1) := by decide +kernel
theorem d_T_proveInside_60 : decode b_T_proveInside 60 = .ok (.iload_n 2, 1) := by decide +kernel
theorem d_T_proveInside_61 : decode b_T_proveInside 61 = .ok (.iload 5, 2) := by decide +kernel
theorem d_T_proveInside_63 : decode b_T_proveInside 63 = .ok (.isub, 1) := by decide +kernel
theorem d_T_proveInside_64 : decode b_T_proveInside 64 = .ok (.iload_n 3, 1) := by decide +kernel
theorem d_T_proveInside_65 : decode b_T_proveInside 65 = .ok (.iload 5, 2) := by decide +kernel
theorem d_T_proveInside_67 : decode b_T_proveInside 67 = .ok (.isub, 1) := by decide +kernel
theorem d_T_proveInside_68 : decode b_T_proveInside 68 = .ok (.aload 4, 2) := by decide +kernel
theorem d_T_proveInside_70 : decode b_T_proveInside 70 = .ok (.invokestatic 50, 3) := by decide +kernel
theorem d_T_proveInside_73 : decode b_T_proveInside 73 = .ok (.aload 4, 2) := by decide +kernel
theorem d_T_proveInside_75 : decode b_T_proveInside 75 = .ok (.aload_n 0, 1) := by decide +kernel
theorem d_T_proveInside_76 : decode b_T_proveInside 76 = .ok (.iload_n 1, 1) := by decide +kernel
theorem d_T_proveInside_77 : decode b_T_proveInside 77 = .ok (.iload 5, 2) := by decide +kernel
theorem d_T_proveInside_79 : decode b_T_proveInside 79 = .ok (.invokestatic 43, 3) := by decide +kernel
theorem d_T_proveInside_82 : decode b_T_proveInside 82 = .ok (.invokevirtual 54, 3) := by decide +kernel
theorem d_T_proveInside_85 : decode b_T_proveInside 85 = .ok (.pop, 1) := by decide +kernel
theorem d_T_proveInside_86 : decode b_T_proveInside 86 = .ok (.return_, 1) := by decide +kernel

abbrev b_T_proveGrowth : ByteArray := prog_6_method_8_code
def y_T_proveGrowth : MethodName := ⟨"RegistryLog$Tree", "proveGrowth", "(LRegistryLog$Ledger;IIIZLRegistryLog$Numbers;)V"⟩
theorem d_T_proveGrowth_0 : decode b_T_proveGrowth 0 = .ok (.iload_n 3, 1) := by decide +kernel
theorem d_T_proveGrowth_1 : decode b_T_proveGrowth 1 = .ok (.iload_n 2, 1) := by decide +kernel
theorem d_T_proveGrowth_2 : decode b_T_proveGrowth 2 = .ok (.if_icmp .ge 9, 3) := by decide +kernel
theorem d_T_proveGrowth_5 : decode b_T_proveGrowth 5 = .ok (.iload_n 2, 1) := by decide +kernel
theorem d_T_proveGrowth_6 : decode b_T_proveGrowth 6 = .ok (.bipush 120, 2) := by decide +kernel
theorem d_T_proveGrowth_8 : decode b_T_proveGrowth 8 = .ok (.if_icmp .le 21, 3) := by decide +kernel
theorem d_T_proveGrowth_11 : decode b_T_proveGrowth 11 = .ok (.iload 4, 2) := by decide +kernel
theorem d_T_proveGrowth_13 : decode b_T_proveGrowth 13 = .ok (.ifCond .ne 15, 3) := by decide +kernel
theorem d_T_proveGrowth_16 : decode b_T_proveGrowth 16 = .ok (.aload 5, 2) := by decide +kernel
theorem d_T_proveGrowth_18 : decode b_T_proveGrowth 18 = .ok (.aload_n 0, 1) := by decide +kernel
theorem d_T_proveGrowth_19 : decode b_T_proveGrowth 19 = .ok (.iload_n 1, 1) := by decide +kernel
theorem d_T_proveGrowth_20 : decode b_T_proveGrowth 20 = .ok (.iload_n 2, 1) := by decide +kernel
theorem d_T_proveGrowth_21 : decode b_T_proveGrowth 21 = .ok (.invokestatic 43, 3) := by decide +kernel
theorem d_T_proveGrowth_24 : decode b_T_proveGrowth 24 = .ok (.invokevirtual 54, 3) := by decide +kernel
theorem d_T_proveGrowth_27 : decode b_T_proveGrowth 27 = .ok (.pop, 1) := by decide +kernel
theorem d_T_proveGrowth_28 : decode b_T_proveGrowth 28 = .ok (.return_, 1) := by decide +kernel
theorem d_T_proveGrowth_29 : decode b_T_proveGrowth 29 = .ok (.iload_n 2, 1) := by decide +kernel
theorem d_T_proveGrowth_30 : decode b_T_proveGrowth 30 = .ok (.invokestatic 39, 3) := by decide +kernel
theorem d_T_proveGrowth_33 : decode b_T_proveGrowth 33 = .ok (.istore 6, 2) := by decide +kernel
theorem d_T_proveGrowth_35 : decode b_T_proveGrowth 35 = .ok (.iload_n 3, 1) := by decide +kernel
theorem d_T_proveGrowth_36 : decode b_T_proveGrowth 36 = .ok (.iload 6, 2) := by decide +kernel
theorem d_T_proveGrowth_38 : decode b_T_proveGrowth 38 = .ok (.if_icmp .gt 36, 3) := by decide +kernel
theorem d_T_proveGrowth_41 : decode b_T_proveGrowth 41 = .ok (.aload_n 0, 1) := by decide +kernel
theorem d_T_proveGrowth_42 : decode b_T_proveGrowth 42 = .ok (.iload_n 1, 1) := by decide +kernel
theorem d_T_proveGrowth_43 : decode b_T_proveGrowth 43 = .ok (.iload 6, 2) := by decide +kernel
theorem d_T_proveGrowth_45 : decode b_T_proveGrowth 45 = .ok (.iload_n 3, 1) := by decide +kernel
theorem d_T_proveGrowth_46 : decode b_T_proveGrowth 46 = .ok (.iload 4, 2) := by decide +kernel
theorem d_T_proveGrowth_48 : decode b_T_proveGrowth 48 = .ok (.aload 5, 2) := by decide +kernel
theorem d_T_proveGrowth_50 : decode b_T_proveGrowth 50 = .ok (.invokestatic 60, 3) := by decide +kernel
theorem d_T_proveGrowth_53 : decode b_T_proveGrowth 53 = .ok (.aload 5, 2) := by decide +kernel
theorem d_T_proveGrowth_55 : decode b_T_proveGrowth 55 = .ok (.aload_n 0, 1) := by decide +kernel
theorem d_T_proveGrowth_56 : decode b_T_proveGrowth 56 = .ok (.iload_n 1, 1) := by decide +kernel
theorem d_T_proveGrowth_57 : decode b_T_proveGrowth 57 = .ok (.iload 6, 2) := by decide +kernel
theorem d_T_proveGrowth_59 : decode b_T_proveGrowth 59 = .ok (.iadd, 1) := by decide +kernel
theorem d_T_proveGrowth_60 : decode b_T_proveGrowth 60 = .ok (.iload_n 2, 1) := by decide +kernel
theorem d_T_proveGrowth_61 : decode b_T_proveGrowth 61 = .ok (.iload 6, 2) := by decide +kernel
theorem d_T_proveGrowth_63 : decode b_T_proveGrowth 63 = .ok (.isub, 1) := by decide +kernel
theorem d_T_proveGrowth_64 : decode b_T_proveGrowth 64 = .ok (.invokestatic 43, 3) := by decide +kernel
theorem d_T_proveGrowth_67 : decode b_T_proveGrowth 67 = .ok (.invokevirtual 54, 3) := by decide +kernel
theorem d_T_proveGrowth_70 : decode b_T_proveGrowth 70 = .ok (.pop, 1) := by decide +kernel
theorem d_T_proveGrowth_71 : decode b_T_proveGrowth 71 = .ok (.goto 35, 3) := by decide +kernel
theorem d_T_proveGrowth_74 : decode b_T_proveGrowth 74 = .ok (.aload_n 0, 1) := by decide +kernel
theorem d_T_proveGrowth_75 : decode b_T_proveGrowth 75 = .ok (.iload_n 1, 1) := by decide +kernel
theorem d_T_proveGrowth_76 : decode b_T_proveGrowth 76 = .ok (.iload 6, 2) := by decide +kernel
theorem d_T_proveGrowth_78 : decode b_T_proveGrowth 78 = .ok (.iadd, 1) := by decide +kernel
theorem d_T_proveGrowth_79 : decode b_T_proveGrowth 79 = .ok (.iload_n 2, 1) := by decide +kernel
theorem d_T_proveGrowth_80 : decode b_T_proveGrowth 80 = .ok (.iload 6, 2) := by decide +kernel
theorem d_T_proveGrowth_82 : decode b_T_proveGrowth 82 = .ok (.isub, 1) := by decide +kernel
theorem d_T_proveGrowth_83 : decode b_T_proveGrowth 83 = .ok (.iload_n 3, 1) := by decide +kernel
theorem d_T_proveGrowth_84 : decode b_T_proveGrowth 84 = .ok (.iload 6, 2) := by decide +kernel
theorem d_T_proveGrowth_86 : decode b_T_proveGrowth 86 = .ok (.isub, 1) := by decide +kernel
theorem d_T_proveGrowth_87 : decode b_T_proveGrowth 87 = .ok (.iconst 0, 1) := by decide +kernel
theorem d_T_proveGrowth_88 : decode b_T_proveGrowth 88 = .ok (.aload 5, 2) := by decide +kernel
theorem d_T_proveGrowth_90 : decode b_T_proveGrowth 90 = .ok (.invokestatic 60, 3) := by decide +kernel
theorem d_T_proveGrowth_93 : decode b_T_proveGrowth 93 = .ok (.aload 5, 2) := by decide +kernel
theorem d_T_proveGrowth_95 : decode b_T_proveGrowth 95 = .ok (.aload_n 0, 1) := by decide +kernel
theorem d_T_proveGrowth_96 : decode b_T_proveGrowth 96 = .ok (.iload_n 1, 1) := by decide +kernel
theorem d_T_proveGrowth_97 : decode b_T_proveGrowth 97 = .ok (.iload 6, 2) := by decide +kernel
theorem d_T_proveGrowth_99 : decode b_T_proveGrowth 99 = .ok (.invokestatic 43, 3) := by decide +kernel
theorem d_T_proveGrowth_102 : decode b_T_proveGrowth 102 = .ok (.invokevirtual 54, 3) := by decide +kernel
theorem d_T_proveGrowth_105 : decode b_T_proveGrowth 105 = .ok (.pop, 1) := by decide +kernel
theorem d_T_proveGrowth_106 : decode b_T_proveGrowth 106 = .ok (.return_, 1) := by decide +kernel

abbrev b_T_headFromInside : ByteArray := prog_6_method_9_code
def y_T_headFromInside : MethodName := ⟨"RegistryLog$Tree", "headFromInside", "(IIJLRegistryLog$Numbers;)J"⟩
theorem d_T_headFromInside_0 : decode b_T_headFromInside 0 = .ok (.iload_n 1, 1) := by decide +kernel
theorem d_T_headFromInside_1 : decode b_T_headFromInside 1 = .ok (.iconst 1, 1) := by decide +kernel
theorem d_T_headFromInside_2 : decode b_T_headFromInside 2 = .ok (.if_icmp .le 9, 3) := by decide +kernel
theorem d_T_headFromInside_5 : decode b_T_headFromInside 5 = .ok (.iload_n 1, 1) := by decide +kernel
theorem d_T_headFromInside_6 : decode b_T_headFromInside 6 = .ok (.bipush 120, 2) := by decide +kernel
theorem d_T_headFromInside_8 : decode b_T_headFromInside 8 = .ok (.if_icmp .le 5, 3) := by decide +kernel
theorem d_T_headFromInside_11 : decode b_T_headFromInside 11 = .ok (.lload_n 2, 1) := by decide +kernel
theorem d_T_headFromInside_12 : decode b_T_headFromInside 12 = .ok (.lreturn, 1) := by decide +kernel
theorem d_T_headFromInside_13 : decode b_T_headFromInside 13 = .ok (.iload_n 1, 1) := by decide +kernel
theorem d_T_headFromInside_14 : decode b_T_headFromInside 14 = .ok (.invokestatic 39, 3) := by decide +kernel
theorem d_T_headFromInside_17 : decode b_T_headFromInside 17 = .ok (.istore 5, 2) := by decide +kernel
theorem d_T_headFromInside_19 : decode b_T_headFromInside 19 = .ok (.iload_n 0, 1) := by decide +kernel
theorem d_T_headFromInside_20 : decode b_T_headFromInside 20 = .ok (.iload 5, 2) := by decide +kernel
theorem d_T_headFromInside_22 : decode b_T_headFromInside 22 = .ok (.if_icmp .ge 25, 3) := by decide +kernel
theorem d_T_headFromInside_25 : decode b_T_headFromInside 25 = .ok (.iload_n 0, 1) := by decide +kernel
theorem d_T_headFromInside_26 : decode b_T_headFromInside 26 = .ok (.iload 5, 2) := by decide +kernel
theorem d_T_headFromInside_28 : decode b_T_headFromInside 28 = .ok (.lload_n 2, 1) := by decide +kernel
theorem d_T_headFromInside_29 : decode b_T_headFromInside 29 = .ok (.aload 4, 2) := by decide +kernel
theorem d_T_headFromInside_31 : decode b_T_headFromInside 31 = .ok (.invokestatic 64, 3) := by decide +kernel
theorem d_T_headFromInside_34 : decode b_T_headFromInside 34 = .ok (.lstore 6, 2) := by decide +kernel
theorem d_T_headFromInside_36 : decode b_T_headFromInside 36 = .ok (.lload 6, 2) := by decide +kernel
theorem d_T_headFromInside_38 : decode b_T_headFromInside 38 = .ok (.aload 4, 2) := by decide +kernel
theorem d_T_headFromInside_40 : decode b_T_headFromInside 40 = .ok (.invokevirtual 68, 3) := by decide +kernel
theorem d_T_headFromInside_43 : decode b_T_headFromInside 43 = .ok (.invokestatic 47, 3) := by decide +kernel
theorem d_T_headFromInside_46 : decode b_T_headFromInside 46 = .ok (.lreturn, 1) := by decide +kernel
theorem d_T_headFromInside_47 : decode b_T_headFromInside 47 = .ok (.iload_n 0, 1) := by decide +kernel
theorem d_T_headFromInside_48 : decode b_T_headFromInside 48 = .ok (.iload 5, 2) := by decide +kernel
theorem d_T_headFromInside_50 : decode b_T_headFromInside 50 = .ok (.isub, 1) := by decide +kernel
theorem d_T_headFromInside_51 : decode b_T_headFromInside 51 = .ok (.iload_n 1, 1) := by decide +kernel
theorem d_T_headFromInside_52 : decode b_T_headFromInside 52 = .ok (.iload 5, 2) := by decide +kernel
theorem d_T_headFromInside_54 : decode b_T_headFromInside 54 = .ok (.isub, 1) := by decide +kernel
theorem d_T_headFromInside_55 : decode b_T_headFromInside 55 = .ok (.lload_n 2, 1) := by decide +kernel
theorem d_T_headFromInside_56 : decode b_T_headFromInside 56 = .ok (.aload 4, 2) := by decide +kernel
theorem d_T_headFromInside_58 : decode b_T_headFromInside 58 = .ok (.invokestatic 64, 3) := by decide +kernel
theorem d_T_headFromInside_61 : decode b_T_headFromInside 61 = .ok (.lstore 6, 2) := by decide +kernel
theorem d_T_headFromInside_63 : decode b_T_headFromInside 63 = .ok (.aload 4, 2) := by decide +kernel
theorem d_T_headFromInside_65 : decode b_T_headFromInside 65 = .ok (.invokevirtual 68, 3) := by decide +kernel
theorem d_T_headFromInside_68 : decode b_T_headFromInside 68 = .ok (.lload 6, 2) := by decide +kernel
theorem d_T_headFromInside_70 : decode b_T_headFromInside 70 = .ok (.invokestatic 47, 3) := by decide +kernel
theorem d_T_headFromInside_73 : decode b_T_headFromInside 73 = .ok (.lreturn, 1) := by decide +kernel

abbrev b_T_headsFromGrowth : ByteArray := prog_6_method_10_code
def y_T_headsFromGrowth : MethodName := ⟨"RegistryLog$Tree", "headsFromGrowth", "(IIZJLRegistryLog$Numbers;)LRegistryLog$TwoHeads;"⟩
theorem d_T_headsFromGrowth_0 : decode b_T_headsFromGrowth 0 = .ok (.iload_n 0, 1) := by decide +kernel
theorem d_T_headsFromGrowth_1 : decode b_T_headsFromGrowth 1 = .ok (.iload_n 1, 1) := by decide +kernel
theorem d_T_headsFromGrowth_2 : decode b_T_headsFromGrowth 2 = .ok (.if_icmp .ge 9, 3) := by decide +kernel
theorem d_T_headsFromGrowth_5 : decode b_T_headsFromGrowth 5 = .ok (.iload_n 1, 1) := by decide +kernel
theorem d_T_headsFromGrowth_6 : decode b_T_headsFromGrowth 6 = .ok (.bipush 120, 2) := by decide +kernel
theorem d_T_headsFromGrowth_8 : decode b_T_headsFromGrowth 8 = .ok (.if_icmp .le 30, 3) := by decide +kernel
theorem d_T_headsFromGrowth_11 : decode b_T_headsFromGrowth 11 = .ok (.iload_n 2, 1) := by decide +kernel
theorem d_T_headsFromGrowth_12 : decode b_T_headsFromGrowth 12 = .ok (.ifCond .eq 7, 3) := by decide +kernel
theorem d_T_headsFromGrowth_15 : decode b_T_headsFromGrowth 15 = .ok (.lload_n 3, 1) := by decide +kernel
theorem d_T_headsFromGrowth_16 : decode b_T_headsFromGrowth 16 = .ok (.goto 8, 3) := by decide +kernel
theorem d_T_headsFromGrowth_19 : decode b_T_headsFromGrowth 19 = .ok (.aload 5, 2) := by decide +kernel
theorem d_T_headsFromGrowth_21 : decode b_T_headsFromGrowth 21 = .ok (.invokevirtual 68, 3) := by decide +kernel
theorem d_T_headsFromGrowth_24 : decode b_T_headsFromGrowth 24 = .ok (.lstore 6, 2) := by decide +kernel
theorem d_T_headsFromGrowth_26 : decode b_T_headsFromGrowth 26 = .ok (.new 72, 3) := by decide +kernel
theorem d_T_headsFromGrowth_29 : decode b_T_headsFromGrowth 29 = .ok (.dup, 1) := by decide +kernel
theorem d_T_headsFromGrowth_30 : decode b_T_headsFromGrowth 30 = .ok (.lload 6, 2) := by decide +kernel
theorem d_T_headsFromGrowth_32 : decode b_T_headsFromGrowth 32 = .ok (.lload 6, 2) := by decide +kernel
theorem d_T_headsFromGrowth_34 : decode b_T_headsFromGrowth 34 = .ok (.invokespecial 74, 3) := by decide +kernel
theorem d_T_headsFromGrowth_37 : decode b_T_headsFromGrowth 37 = .ok (.areturn, 1) := by decide +kernel
theorem d_T_headsFromGrowth_38 : decode b_T_headsFromGrowth 38 = .ok (.iload_n 1, 1) := by decide +kernel
theorem d_T_headsFromGrowth_39 : decode b_T_headsFromGrowth 39 = .ok (.invokestatic 39, 3) := by decide +kernel
theorem d_T_headsFromGrowth_42 : decode b_T_headsFromGrowth 42 = .ok (.istore 6, 2) := by decide +kernel
theorem d_T_headsFromGrowth_44 : decode b_T_headsFromGrowth 44 = .ok (.iload_n 0, 1) := by decide +kernel
theorem d_T_headsFromGrowth_45 : decode b_T_headsFromGrowth 45 = .ok (.iload 6, 2) := by decide +kernel
theorem d_T_headsFromGrowth_47 : decode b_T_headsFromGrowth 47 = .ok (.if_icmp .gt 41, 3) := by decide +kernel
theorem d_T_headsFromGrowth_50 : decode b_T_headsFromGrowth 50 = .ok (.iload_n 0, 1) := by decide +kernel
theorem d_T_headsFromGrowth_51 : decode b_T_headsFromGrowth 51 = .ok (.iload 6, 2) := by decide +kernel
theorem d_T_headsFromGrowth_53 : decode b_T_headsFromGrowth 53 = .ok (.iload_n 2, 1) := by decide +kernel
theorem d_T_headsFromGrowth_54 : decode b_T_headsFromGrowth 54 = .ok (.lload_n 3, 1) := by decide +kernel
theorem d_T_headsFromGrowth_55 : decode b_T_headsFromGrowth 55 = .ok (.aload 5, 2) := by decide +kernel
theorem d_T_headsFromGrowth_57 : decode b_T_headsFromGrowth 57 = .ok (.invokestatic 77, 3) := by decide +kernel
theorem d_T_headsFromGrowth_60 : decode b_T_headsFromGrowth 60 = .ok (.astore 7, 2) := by decide +kernel
theorem d_T_headsFromGrowth_62 : decode b_T_headsFromGrowth 62 = .ok (.new 72, 3) := by decide +kernel
theorem d_T_headsFromGrowth_65 : decode b_T_headsFromGrowth 65 = .ok (.dup, 1) := by decide +kernel
theorem d_T_headsFromGrowth_66 : decode b_T_headsFromGrowth 66 = .ok (.aload 7, 2) := by decide +kernel
theorem d_T_headsFromGrowth_68 : decode b_T_headsFromGrowth 68 = .ok (.getfield 81, 3) := by decide +kernel
theorem d_T_headsFromGrowth_71 : decode b_T_headsFromGrowth 71 = .ok (.aload 7, 2) := by decide +kernel
theorem d_T_headsFromGrowth_73 : decode b_T_headsFromGrowth 73 = .ok (.getfield 84, 3) := by decide +kernel
theorem d_T_headsFromGrowth_76 : decode b_T_headsFromGrowth 76 = .ok (.aload 5, 2) := by decide +kernel
theorem d_T_headsFromGrowth_78 : decode b_T_headsFromGrowth 78 = .ok (.invokevirtual 68, 3) := by decide +kernel
theorem d_T_headsFromGrowth_81 : decode b_T_headsFromGrowth 81 = .ok (.invokestatic 47, 3) := by decide +kernel
theorem d_T_headsFromGrowth_84 : decode b_T_headsFromGrowth 84 = .ok (.invokespecial 74, 3) := by decide +kernel
theorem d_T_headsFromGrowth_87 : decode b_T_headsFromGrowth 87 = .ok (.areturn, 1) := by decide +kernel
theorem d_T_headsFromGrowth_88 : decode b_T_headsFromGrowth 88 = .ok (.iload_n 0, 1) := by decide +kernel
theorem d_T_headsFromGrowth_89 : decode b_T_headsFromGrowth 89 = .ok (.iload 6, 2) := by decide +kernel
theorem d_T_headsFromGrowth_91 : decode b_T_headsFromGrowth 91 = .ok (.isub, 1) := by decide +kernel
theorem d_T_headsFromGrowth_92 : decode b_T_headsFromGrowth 92 = .ok (.iload_n 1, 1) := by decide +kernel
theorem d_T_headsFromGrowth_93 : decode b_T_headsFromGrowth 93 = .ok (.iload 6, 2) := by decide +kernel
theorem d_T_headsFromGrowth_95 : decode b_T_headsFromGrowth 95 = .ok (.isub, 1) := by decide +kernel
theorem d_T_headsFromGrowth_96 : decode b_T_headsFromGrowth 96 = .ok (.iconst 0, 1) := by decide +kernel
theorem d_T_headsFromGrowth_97 : decode b_T_headsFromGrowth 97 = .ok (.lload_n 3, 1) := by decide +kernel
theorem d_T_headsFromGrowth_98 : decode b_T_headsFromGrowth 98 = .ok (.aload 5, 2) := by decide +kernel
theorem d_T_headsFromGrowth_100 : decode b_T_headsFromGrowth 100 = .ok (.invokestatic 77, 3) := by decide +kernel
theorem d_T_headsFromGrowth_103 : decode b_T_headsFromGrowth 103 = .ok (.astore 7, 2) := by decide +kernel
theorem d_T_headsFromGrowth_105 : decode b_T_headsFromGrowth 105 = .ok (.aload 5, 2) := by decide +kernel
theorem d_T_headsFromGrowth_107 : decode b_T_headsFromGrowth 107 = .ok (.invokevirtual 68, 3) := by decide +kernel
theorem d_T_headsFromGrowth_110 : decode b_T_headsFromGrowth 110 = .ok (.lstore 8, 2) := by decide +kernel
theorem d_T_headsFromGrowth_112 : decode b_T_headsFromGrowth 112 = .ok (.new 72, 3) := by decide +kernel
theorem d_T_headsFromGrowth_115 : decode b_T_headsFromGrowth 115 = .ok (.dup, 1) := by decide +kernel
theorem d_T_headsFromGrowth_116 : decode b_T_headsFromGrowth 116 = .ok (.lload 8, 2) := by decide +kernel
theorem d_T_headsFromGrowth_118 : decode b_T_headsFromGrowth 118 = .ok (.aload 7, 2) := by decide +kernel
theorem d_T_headsFromGrowth_120 : decode b_T_headsFromGrowth 120 = .ok (.getfield 81, 3) := by decide +kernel
theorem d_T_headsFromGrowth_123 : decode b_T_headsFromGrowth 123 = .ok (.invokestatic 47, 3) := by decide +kernel
theorem d_T_headsFromGrowth_126 : decode b_T_headsFromGrowth 126 = .ok (.lload 8, 2) := by decide +kernel
theorem d_T_headsFromGrowth_128 : decode b_T_headsFromGrowth 128 = .ok (.aload 7, 2) := by decide +kernel
theorem d_T_headsFromGrowth_130 : decode b_T_headsFromGrowth 130 = .ok (.getfield 84, 3) := by decide +kernel
theorem d_T_headsFromGrowth_133 : decode b_T_headsFromGrowth 133 = .ok (.invokestatic 47, 3) := by decide +kernel
theorem d_T_headsFromGrowth_136 : decode b_T_headsFromGrowth 136 = .ok (.invokespecial 74, 3) := by decide +kernel
theorem d_T_headsFromGrowth_139 : decode b_T_headsFromGrowth 139 = .ok (.areturn, 1) := by decide +kernel

abbrev b_H_init : ByteArray := prog_7_method_1_code
def y_H_init : MethodName := ⟨"RegistryLog$TwoHeads", "<init>", "(JJ)V"⟩
theorem d_H_init_0 : decode b_H_init 0 = .ok (.aload_n 0, 1) := by decide +kernel
theorem d_H_init_1 : decode b_H_init 1 = .ok (.invokespecial 1, 3) := by decide +kernel
theorem d_H_init_4 : decode b_H_init 4 = .ok (.aload_n 0, 1) := by decide +kernel
theorem d_H_init_5 : decode b_H_init 5 = .ok (.lload_n 1, 1) := by decide +kernel
theorem d_H_init_6 : decode b_H_init 6 = .ok (.putfield 7, 3) := by decide +kernel
theorem d_H_init_9 : decode b_H_init 9 = .ok (.aload_n 0, 1) := by decide +kernel
theorem d_H_init_10 : decode b_H_init 10 = .ok (.lload_n 3, 1) := by decide +kernel
theorem d_H_init_11 : decode b_H_init 11 = .ok (.putfield 13, 3) := by decide +kernel
theorem d_H_init_14 : decode b_H_init 14 = .ok (.return_, 1) := by decide +kernel
