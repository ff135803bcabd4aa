abbrev b_X_init : ByteArray := prog_1_method_1_code
def y_X_init : MethodName := ⟨"RegistryLog", "<init>", "()V"⟩
theorem d_X_init_0 : decode b_X_init 0 = .ok (.aload_n 0, 1) := by decide +kernel
theorem d_X_init_1 : decode b_X_init 1 = .ok (.invokespecial 1, 3) := by decide +kernel
theorem d_X_init_4 : decode b_X_init 4 = .ok (.aload_n 0, 1) := by decide +kernel
theorem d_X_init_5 : decode b_X_init 5 = .ok (.new 7, 3) := by decide +kernel
theorem d_X_init_8 : decode b_X_init 8 = .ok (.dup, 1) := by decide +kernel
theorem d_X_init_9 : decode b_X_init 9 = .ok (.invokespecial 9, 3) := by decide +kernel
theorem d_X_init_12 : decode b_X_init 12 = .ok (.putfield 10, 3) := by decide +kernel
theorem d_X_init_15 : decode b_X_init 15 = .ok (.aload_n 0, 1) := by decide +kernel
theorem d_X_init_16 : decode b_X_init 16 = .ok (.new 16, 3) := by decide +kernel
theorem d_X_init_19 : decode b_X_init 19 = .ok (.dup, 1) := by decide +kernel
theorem d_X_init_20 : decode b_X_init 20 = .ok (.invokespecial 18, 3) := by decide +kernel
theorem d_X_init_23 : decode b_X_init 23 = .ok (.putfield 19, 3) := by decide +kernel
theorem d_X_init_26 : decode b_X_init 26 = .ok (.aload_n 0, 1) := by decide +kernel
theorem d_X_init_27 : decode b_X_init 27 = .ok (.iconst 4, 1) := by decide +kernel
theorem d_X_init_28 : decode b_X_init 28 = .ok (.anewarray 16, 3) := by decide +kernel
theorem d_X_init_31 : decode b_X_init 31 = .ok (.putfield 23, 3) := by decide +kernel
theorem d_X_init_34 : decode b_X_init 34 = .ok (.iconst 0, 1) := by decide +kernel
theorem d_X_init_35 : decode b_X_init 35 = .ok (.istore_n 1, 1) := by decide +kernel
theorem d_X_init_36 : decode b_X_init 36 = .ok (.iload_n 1, 1) := by decide +kernel
theorem d_X_init_37 : decode b_X_init 37 = .ok (.iconst 4, 1) := by decide +kernel
theorem d_X_init_38 : decode b_X_init 38 = .ok (.if_icmp .ge 22, 3) := by decide +kernel
theorem d_X_init_41 : decode b_X_init 41 = .ok (.aload_n 0, 1) := by decide +kernel
theorem d_X_init_42 : decode b_X_init 42 = .ok (.getfield 23, 3) := by decide +kernel
theorem d_X_init_45 : decode b_X_init 45 = .ok (.iload_n 1, 1) := by decide +kernel
theorem d_X_init_46 : decode b_X_init 46 = .ok (.new 16, 3) := by decide +kernel
theorem d_X_init_49 : decode b_X_init 49 = .ok (.dup, 1) := by decide +kernel
theorem d_X_init_50 : decode b_X_init 50 = .ok (.invokespecial 18, 3) := by decide +kernel
theorem d_X_init_53 : decode b_X_init 53 = .ok (.aastore, 1) := by decide +kernel
theorem d_X_init_54 : decode b_X_init 54 = .ok (.iinc 1 1, 3) := by decide +kernel
theorem d_X_init_57 : decode b_X_init 57 = .ok (.goto (-21), 3) := by decide +kernel
theorem d_X_init_60 : decode b_X_init 60 = .ok (.aload_n 0, 1) := by decide +kernel
theorem d_X_init_61 : decode b_X_init 61 = .ok (.new 16, 3) := by decide +kernel
theorem d_X_init_64 : decode b_X_init 64 = .ok (.dup, 1) := by decide +kernel
theorem d_X_init_65 : decode b_X_init 65 = .ok (.invokespecial 18, 3) := by decide +kernel
theorem d_X_init_68 : decode b_X_init 68 = .ok (.putfield 27, 3) := by decide +kernel
theorem d_X_init_71 : decode b_X_init 71 = .ok (.aload_n 0, 1) := by decide +kernel
theorem d_X_init_72 : decode b_X_init 72 = .ok (.new 30, 3) := by decide +kernel
theorem d_X_init_75 : decode b_X_init 75 = .ok (.dup, 1) := by decide +kernel
theorem d_X_init_76 : decode b_X_init 76 = .ok (.invokespecial 32, 3) := by decide +kernel
theorem d_X_init_79 : decode b_X_init 79 = .ok (.putfield 33, 3) := by decide +kernel
theorem d_X_init_82 : decode b_X_init 82 = .ok (.aload_n 0, 1) := by decide +kernel
theorem d_X_init_83 : decode b_X_init 83 = .ok (.new 30, 3) := by decide +kernel
theorem d_X_init_86 : decode b_X_init 86 = .ok (.dup, 1) := by decide +kernel
theorem d_X_init_87 : decode b_X_init 87 = .ok (.invokespecial 32, 3) := by decide +kernel
theorem d_X_init_90 : decode b_X_init 90 = .ok (.putfield 37, 3) := by decide +kernel
theorem d_X_init_93 : decode b_X_init 93 = .ok (.return_, 1) := by decide +kernel

abbrev b_X_type : ByteArray := prog_1_method_2_code
def y_X_type : MethodName := ⟨"RegistryLog", "type", "(C)Z"⟩
theorem d_X_type_0 : decode b_X_type 0 = .ok (.iload_n 1, 1) := by decide +kernel
theorem d_X_type_1 : decode b_X_type 1 = .ok (.bipush 32, 2) := by decide +kernel
theorem d_X_type_3 : decode b_X_type 3 = .ok (.if_icmp .lt 21, 3) := by decide +kernel
theorem d_X_type_6 : decode b_X_type 6 = .ok (.iload_n 1, 1) := by decide +kernel
theorem d_X_type_7 : decode b_X_type 7 = .ok (.bipush 126, 2) := by decide +kernel
theorem d_X_type_9 : decode b_X_type 9 = .ok (.if_icmp .gt 15, 3) := by decide +kernel
theorem d_X_type_12 : decode b_X_type 12 = .ok (.aload_n 0, 1) := by decide +kernel
theorem d_X_type_13 : decode b_X_type 13 = .ok (.getfield 10, 3) := by decide +kernel
theorem d_X_type_16 : decode b_X_type 16 = .ok (.invokevirtual 40, 3) := by decide +kernel
theorem d_X_type_19 : decode b_X_type 19 = .ok (.bipush 24, 2) := by decide +kernel
theorem d_X_type_21 : decode b_X_type 21 = .ok (.if_icmp .lt 5, 3) := by decide +kernel
theorem d_X_type_24 : decode b_X_type 24 = .ok (.iconst 0, 1) := by decide +kernel
theorem d_X_type_25 : decode b_X_type 25 = .ok (.ireturn, 1) := by decide +kernel
theorem d_X_type_26 : decode b_X_type 26 = .ok (.aload_n 0, 1) := by decide +kernel
theorem d_X_type_27 : decode b_X_type 27 = .ok (.getfield 10, 3) := by decide +kernel
theorem d_X_type_30 : decode b_X_type 30 = .ok (.iload_n 1, 1) := by decide +kernel
theorem d_X_type_31 : decode b_X_type 31 = .ok (.invokevirtual 44, 3) := by decide +kernel
theorem d_X_type_34 : decode b_X_type 34 = .ok (.pop, 1) := by decide +kernel
theorem d_X_type_35 : decode b_X_type 35 = .ok (.iconst 1, 1) := by decide +kernel
theorem d_X_type_36 : decode b_X_type 36 = .ok (.ireturn, 1) := by decide +kernel

abbrev b_X_publish : ByteArray := prog_1_method_3_code
def y_X_publish : MethodName := ⟨"RegistryLog", "publish", "(III)I"⟩
theorem d_X_publish_0 : decode b_X_publish 0 = .ok (.aload_n 0, 1) := by decide +kernel
theorem d_X_publish_1 : decode b_X_publish 1 = .ok (.invokevirtual 48, 3) := by decide +kernel
theorem d_X_publish_4 : decode b_X_publish 4 = .ok (.astore 4, 2) := by decide +kernel
theorem d_X_publish_6 : decode b_X_publish 6 = .ok (.aload 4, 2) := by decide +kernel
theorem d_X_publish_8 : decode b_X_publish 8 = .ok (.invokevirtual 52, 3) := by decide +kernel
theorem d_X_publish_11 : decode b_X_publish 11 = .ok (.ifCond .eq 21, 3) := by decide +kernel
theorem d_X_publish_14 : decode b_X_publish 14 = .ok (.iload_n 1, 1) := by decide +kernel
theorem d_X_publish_15 : decode b_X_publish 15 = .ok (.invokestatic 58, 3) := by decide +kernel
theorem d_X_publish_18 : decode b_X_publish 18 = .ok (.ifCond .eq 14, 3) := by decide +kernel
theorem d_X_publish_21 : decode b_X_publish 21 = .ok (.iload_n 2, 1) := by decide +kernel
theorem d_X_publish_22 : decode b_X_publish 22 = .ok (.invokestatic 62, 3) := by decide +kernel
theorem d_X_publish_25 : decode b_X_publish 25 = .ok (.ifCond .eq 7, 3) := by decide +kernel
theorem d_X_publish_28 : decode b_X_publish 28 = .ok (.iconst 1, 1) := by decide +kernel
theorem d_X_publish_29 : decode b_X_publish 29 = .ok (.goto 4, 3) := by decide +kernel
theorem d_X_publish_32 : decode b_X_publish 32 = .ok (.iconst 0, 1) := by decide +kernel
theorem d_X_publish_33 : decode b_X_publish 33 = .ok (.invokestatic 65, 3) := by decide +kernel
theorem d_X_publish_36 : decode b_X_publish 36 = .ok (.aload_n 0, 1) := by decide +kernel
theorem d_X_publish_37 : decode b_X_publish 37 = .ok (.getfield 19, 3) := by decide +kernel
theorem d_X_publish_40 : decode b_X_publish 40 = .ok (.aload 4, 2) := by decide +kernel
theorem d_X_publish_42 : decode b_X_publish 42 = .ok (.invokevirtual 69, 3) := by decide +kernel
theorem d_X_publish_45 : decode b_X_publish 45 = .ok (.istore 5, 2) := by decide +kernel
theorem d_X_publish_47 : decode b_X_publish 47 = .ok (.iload 5, 2) := by decide +kernel
theorem d_X_publish_49 : decode b_X_publish 49 = .ok (.iconst (-1), 1) := by decide +kernel
theorem d_X_publish_50 : decode b_X_publish 50 = .ok (.if_icmp .ne 28, 3) := by decide +kernel
theorem d_X_publish_53 : decode b_X_publish 53 = .ok (.aload_n 0, 1) := by decide +kernel
theorem d_X_publish_54 : decode b_X_publish 54 = .ok (.getfield 19, 3) := by decide +kernel
theorem d_X_publish_57 : decode b_X_publish 57 = .ok (.aload 4, 2) := by decide +kernel
theorem d_X_publish_59 : decode b_X_publish 59 = .ok (.iconst (-1), 1) := by decide +kernel
theorem d_X_publish_60 : decode b_X_publish 60 = .ok (.invokevirtual 73, 3) := by decide +kernel
theorem d_X_publish_63 : decode b_X_publish 63 = .ok (.invokestatic 77, 3) := by decide +kernel
theorem d_X_publish_66 : decode b_X_publish 66 = .ok (.aload_n 0, 1) := by decide +kernel
theorem d_X_publish_67 : decode b_X_publish 67 = .ok (.getfield 19, 3) := by decide +kernel
theorem d_X_publish_70 : decode b_X_publish 70 = .ok (.invokevirtual 80, 3) := by decide +kernel
theorem d_X_publish_73 : decode b_X_publish 73 = .ok (.istore 5, 2) := by decide +kernel
theorem d_X_publish_75 : decode b_X_publish 75 = .ok (.goto 38, 3) := by decide +kernel
theorem d_X_publish_78 : decode b_X_publish 78 = .ok (.aload_n 0, 1) := by decide +kernel
theorem d_X_publish_79 : decode b_X_publish 79 = .ok (.getfield 19, 3) := by decide +kernel
theorem d_X_publish_82 : decode b_X_publish 82 = .ok (.iload 5, 2) := by decide +kernel
theorem d_X_publish_84 : decode b_X_publish 84 = .ok (.iload_n 1, 1) := by decide +kernel
theorem d_X_publish_85 : decode b_X_publish 85 = .ok (.invokevirtual 83, 3) := by decide +kernel
theorem d_X_publish_88 : decode b_X_publish 88 = .ok (.ifCond .eq 21, 3) := by decide +kernel
theorem d_X_publish_91 : decode b_X_publish 91 = .ok (.aload_n 0, 1) := by decide +kernel
theorem d_X_publish_92 : decode b_X_publish 92 = .ok (.getfield 19, 3) := by decide +kernel
theorem d_X_publish_95 : decode b_X_publish 95 = .ok (.iload 5, 2) := by decide +kernel
theorem d_X_publish_97 : decode b_X_publish 97 = .ok (.iload_n 2, 1) := by decide +kernel
theorem d_X_publish_98 : decode b_X_publish 98 = .ok (.invokevirtual 87, 3) := by decide +kernel
theorem d_X_publish_101 : decode b_X_publish 101 = .ok (.iconst (-1), 1) := by decide +kernel
theorem d_X_publish_102 : decode b_X_publish 102 = .ok (.if_icmp .ne 7, 3) := by decide +kernel
theorem d_X_publish_105 : decode b_X_publish 105 = .ok (.iconst 1, 1) := by decide +kernel
theorem d_X_publish_106 : decode b_X_publish 106 = .ok (.goto 4, 3) := by decide +kernel
theorem d_X_publish_109 : decode b_X_publish 109 = .ok (.iconst 0, 1) := by decide +kernel
theorem d_X_publish_110 : decode b_X_publish 110 = .ok (.invokestatic 77, 3) := by decide +kernel
theorem d_X_publish_113 : decode b_X_publish 113 = .ok (.aload_n 0, 1) := by decide +kernel
theorem d_X_publish_114 : decode b_X_publish 114 = .ok (.new 91, 3) := by decide +kernel
theorem d_X_publish_117 : decode b_X_publish 117 = .ok (.dup, 1) := by decide +kernel
theorem d_X_publish_118 : decode b_X_publish 118 = .ok (.iconst 0, 1) := by decide +kernel
theorem d_X_publish_119 : decode b_X_publish 119 = .ok (.iload_n 1, 1) := by decide +kernel
theorem d_X_publish_120 : decode b_X_publish 120 = .ok (.aload 4, 2) := by decide +kernel
theorem d_X_publish_122 : decode b_X_publish 122 = .ok (.aload 4, 2) := by decide +kernel
theorem d_X_publish_124 : decode b_X_publish 124 = .ok (.iload_n 2, 1) := by decide +kernel
theorem d_X_publish_125 : decode b_X_publish 125 = .ok (.iload_n 3, 1) := by decide +kernel
theorem d_X_publish_126 : decode b_X_publish 126 = .ok (.iload 5, 2) := by decide +kernel
theorem d_X_publish_128 : decode b_X_publish 128 = .ok (.invokespecial 93, 3) := by decide +kernel
theorem d_X_publish_131 : decode b_X_publish 131 = .ok (.invokevirtual 96, 3) := by decide +kernel
theorem d_X_publish_134 : decode b_X_publish 134 = .ok (.ireturn, 1) := by decide +kernel

abbrev b_X_yank : ByteArray := prog_1_method_4_code
def y_X_yank : MethodName := ⟨"RegistryLog", "yank", "(IIZ)I"⟩
theorem d_X_yank_0 : decode b_X_yank 0 = .ok (.aload_n 0, 1) := by decide +kernel
theorem d_X_yank_1 : decode b_X_yank 1 = .ok (.invokevirtual 48, 3) := by decide +kernel
theorem d_X_yank_4 : decode b_X_yank 4 = .ok (.astore 4, 2) := by decide +kernel
theorem d_X_yank_6 : decode b_X_yank 6 = .ok (.aload 4, 2) := by decide +kernel
theorem d_X_yank_8 : decode b_X_yank 8 = .ok (.invokevirtual 52, 3) := by decide +kernel
theorem d_X_yank_11 : decode b_X_yank 11 = .ok (.ifCond .eq 21, 3) := by decide +kernel
theorem d_X_yank_14 : decode b_X_yank 14 = .ok (.iload_n 1, 1) := by decide +kernel
theorem d_X_yank_15 : decode b_X_yank 15 = .ok (.invokestatic 58, 3) := by decide +kernel
theorem d_X_yank_18 : decode b_X_yank 18 = .ok (.ifCond .eq 14, 3) := by decide +kernel
theorem d_X_yank_21 : decode b_X_yank 21 = .ok (.iload_n 2, 1) := by decide +kernel
theorem d_X_yank_22 : decode b_X_yank 22 = .ok (.invokestatic 62, 3) := by decide +kernel
theorem d_X_yank_25 : decode b_X_yank 25 = .ok (.ifCond .eq 7, 3) := by decide +kernel
theorem d_X_yank_28 : decode b_X_yank 28 = .ok (.iconst 1, 1) := by decide +kernel
theorem d_X_yank_29 : decode b_X_yank 29 = .ok (.goto 4, 3) := by decide +kernel
theorem d_X_yank_32 : decode b_X_yank 32 = .ok (.iconst 0, 1) := by decide +kernel
theorem d_X_yank_33 : decode b_X_yank 33 = .ok (.invokestatic 65, 3) := by decide +kernel
theorem d_X_yank_36 : decode b_X_yank 36 = .ok (.aload_n 0, 1) := by decide +kernel
theorem d_X_yank_37 : decode b_X_yank 37 = .ok (.getfield 19, 3) := by decide +kernel
theorem d_X_yank_40 : decode b_X_yank 40 = .ok (.aload 4, 2) := by decide +kernel
theorem d_X_yank_42 : decode b_X_yank 42 = .ok (.invokevirtual 69, 3) := by decide +kernel
theorem d_X_yank_45 : decode b_X_yank 45 = .ok (.istore 5, 2) := by decide +kernel
theorem d_X_yank_47 : decode b_X_yank 47 = .ok (.aload_n 0, 1) := by decide +kernel
theorem d_X_yank_48 : decode b_X_yank 48 = .ok (.getfield 19, 3) := by decide +kernel
theorem d_X_yank_51 : decode b_X_yank 51 = .ok (.iload 5, 2) := by decide +kernel
theorem d_X_yank_53 : decode b_X_yank 53 = .ok (.iload_n 1, 1) := by decide +kernel
theorem d_X_yank_54 : decode b_X_yank 54 = .ok (.invokevirtual 83, 3) := by decide +kernel
theorem d_X_yank_57 : decode b_X_yank 57 = .ok (.ifCond .eq 35, 3) := by decide +kernel
theorem d_X_yank_60 : decode b_X_yank 60 = .ok (.aload_n 0, 1) := by decide +kernel
theorem d_X_yank_61 : decode b_X_yank 61 = .ok (.getfield 19, 3) := by decide +kernel
theorem d_X_yank_64 : decode b_X_yank 64 = .ok (.iload 5, 2) := by decide +kernel
theorem d_X_yank_66 : decode b_X_yank 66 = .ok (.iload_n 2, 1) := by decide +kernel
theorem d_X_yank_67 : decode b_X_yank 67 = .ok (.invokevirtual 87, 3) := by decide +kernel
theorem d_X_yank_70 : decode b_X_yank 70 = .ok (.iconst (-1), 1) := by decide +kernel
theorem d_X_yank_71 : decode b_X_yank 71 = .ok (.if_icmp .eq 21, 3) := by decide +kernel
theorem d_X_yank_74 : decode b_X_yank 74 = .ok (.aload_n 0, 1) := by decide +kernel
theorem d_X_yank_75 : decode b_X_yank 75 = .ok (.getfield 19, 3) := by decide +kernel
theorem d_X_yank_78 : decode b_X_yank 78 = .ok (.iload 5, 2) := by decide +kernel
theorem d_X_yank_80 : decode b_X_yank 80 = .ok (.iload_n 2, 1) := by decide +kernel
theorem d_X_yank_81 : decode b_X_yank 81 = .ok (.invokevirtual 100, 3) := by decide +kernel
theorem d_X_yank_84 : decode b_X_yank 84 = .ok (.iload_n 3, 1) := by decide +kernel
theorem d_X_yank_85 : decode b_X_yank 85 = .ok (.if_icmp .eq 7, 3) := by decide +kernel
theorem d_X_yank_88 : decode b_X_yank 88 = .ok (.iconst 1, 1) := by decide +kernel
theorem d_X_yank_89 : decode b_X_yank 89 = .ok (.goto 4, 3) := by decide +kernel
theorem d_X_yank_92 : decode b_X_yank 92 = .ok (.iconst 0, 1) := by decide +kernel
theorem d_X_yank_93 : decode b_X_yank 93 = .ok (.invokestatic 77, 3) := by decide +kernel
theorem d_X_yank_96 : decode b_X_yank 96 = .ok (.aload_n 0, 1) := by decide +kernel
theorem d_X_yank_97 : decode b_X_yank 97 = .ok (.new 91, 3) := by decide +kernel
theorem d_X_yank_100 : decode b_X_yank 100 = .ok (.dup, 1) := by decide +kernel
theorem d_X_yank_101 : decode b_X_yank 101 = .ok (.iconst 1, 1) := by decide +kernel
theorem d_X_yank_102 : decode b_X_yank 102 = .ok (.iload_n 1, 1) := by decide +kernel
theorem d_X_yank_103 : decode b_X_yank 103 = .ok (.aload 4, 2) := by decide +kernel
theorem d_X_yank_105 : decode b_X_yank 105 = .ok (.aload 4, 2) := by decide +kernel
theorem d_X_yank_107 : decode b_X_yank 107 = .ok (.iload_n 2, 1) := by decide +kernel
theorem d_X_yank_108 : decode b_X_yank 108 = .ok (.iload_n 3, 1) := by decide +kernel
theorem d_X_yank_109 : decode b_X_yank 109 = .ok (.invokestatic 103, 3) := by decide +kernel
theorem d_X_yank_112 : decode b_X_yank 112 = .ok (.iload 5, 2) := by decide +kernel
theorem d_X_yank_114 : decode b_X_yank 114 = .ok (.invokespecial 93, 3) := by decide +kernel
theorem d_X_yank_117 : decode b_X_yank 117 = .ok (.invokevirtual 96, 3) := by decide +kernel
theorem d_X_yank_120 : decode b_X_yank 120 = .ok (.ireturn, 1) := by decide +kernel

abbrev b_X_grant : ByteArray := prog_1_method_5_code
def y_X_grant : MethodName := ⟨"RegistryLog", "grant", "(IIZ)I"⟩
theorem d_X_grant_0 : decode b_X_grant 0 = .ok (.aload_n 0, 1) := by decide +kernel
theorem d_X_grant_1 : decode b_X_grant 1 = .ok (.invokevirtual 48, 3) := by decide +kernel
theorem d_X_grant_4 : decode b_X_grant 4 = .ok (.astore 4, 2) := by decide +kernel
theorem d_X_grant_6 : decode b_X_grant 6 = .ok (.aload 4, 2) := by decide +kernel
theorem d_X_grant_8 : decode b_X_grant 8 = .ok (.invokevirtual 52, 3) := by decide +kernel
theorem d_X_grant_11 : decode b_X_grant 11 = .ok (.ifCond .eq 21, 3) := by decide +kernel
theorem d_X_grant_14 : decode b_X_grant 14 = .ok (.iload_n 1, 1) := by decide +kernel
theorem d_X_grant_15 : decode b_X_grant 15 = .ok (.invokestatic 58, 3) := by decide +kernel
theorem d_X_grant_18 : decode b_X_grant 18 = .ok (.ifCond .eq 14, 3) := by decide +kernel
theorem d_X_grant_21 : decode b_X_grant 21 = .ok (.iload_n 2, 1) := by decide +kernel
theorem d_X_grant_22 : decode b_X_grant 22 = .ok (.invokestatic 58, 3) := by decide +kernel
theorem d_X_grant_25 : decode b_X_grant 25 = .ok (.ifCond .eq 7, 3) := by decide +kernel
theorem d_X_grant_28 : decode b_X_grant 28 = .ok (.iconst 1, 1) := by decide +kernel
theorem d_X_grant_29 : decode b_X_grant 29 = .ok (.goto 4, 3) := by decide +kernel
theorem d_X_grant_32 : decode b_X_grant 32 = .ok (.iconst 0, 1) := by decide +kernel
theorem d_X_grant_33 : decode b_X_grant 33 = .ok (.invokestatic 65, 3) := by decide +kernel
theorem d_X_grant_36 : decode b_X_grant 36 = .ok (.aload_n 0, 1) := by decide +kernel
theorem d_X_grant_37 : decode b_X_grant 37 = .ok (.getfield 19, 3) := by decide +kernel
theorem d_X_grant_40 : decode b_X_grant 40 = .ok (.aload 4, 2) := by decide +kernel
theorem d_X_grant_42 : decode b_X_grant 42 = .ok (.invokevirtual 69, 3) := by decide +kernel
theorem d_X_grant_45 : decode b_X_grant 45 = .ok (.istore 5, 2) := by decide +kernel
theorem d_X_grant_47 : decode b_X_grant 47 = .ok (.aload_n 0, 1) := by decide +kernel
theorem d_X_grant_48 : decode b_X_grant 48 = .ok (.getfield 19, 3) := by decide +kernel
theorem d_X_grant_51 : decode b_X_grant 51 = .ok (.iload 5, 2) := by decide +kernel
theorem d_X_grant_53 : decode b_X_grant 53 = .ok (.invokevirtual 107, 3) := by decide +kernel
theorem d_X_grant_56 : decode b_X_grant 56 = .ok (.istore 6, 2) := by decide +kernel
theorem d_X_grant_58 : decode b_X_grant 58 = .ok (.iload_n 1, 1) := by decide +kernel
theorem d_X_grant_59 : decode b_X_grant 59 = .ok (.iload 6, 2) := by decide +kernel
theorem d_X_grant_61 : decode b_X_grant 61 = .ok (.if_icmp .ne 27, 3) := by decide +kernel
theorem d_X_grant_64 : decode b_X_grant 64 = .ok (.iload_n 2, 1) := by decide +kernel
theorem d_X_grant_65 : decode b_X_grant 65 = .ok (.iload 6, 2) := by decide +kernel
theorem d_X_grant_67 : decode b_X_grant 67 = .ok (.if_icmp .eq 21, 3) := by decide +kernel
theorem d_X_grant_70 : decode b_X_grant 70 = .ok (.aload_n 0, 1) := by decide +kernel
theorem d_X_grant_71 : decode b_X_grant 71 = .ok (.getfield 19, 3) := by decide +kernel
theorem d_X_grant_74 : decode b_X_grant 74 = .ok (.iload 5, 2) := by decide +kernel
theorem d_X_grant_76 : decode b_X_grant 76 = .ok (.iload_n 2, 1) := by decide +kernel
theorem d_X_grant_77 : decode b_X_grant 77 = .ok (.invokevirtual 83, 3) := by decide +kernel
theorem d_X_grant_80 : decode b_X_grant 80 = .ok (.iload_n 3, 1) := by decide +kernel
theorem d_X_grant_81 : decode b_X_grant 81 = .ok (.if_icmp .eq 7, 3) := by decide +kernel
theorem d_X_grant_84 : decode b_X_grant 84 = .ok (.iconst 1, 1) := by decide +kernel
theorem d_X_grant_85 : decode b_X_grant 85 = .ok (.goto 4, 3) := by decide +kernel
theorem d_X_grant_88 : decode b_X_grant 88 = .ok (.iconst 0, 1) := by decide +kernel
theorem d_X_grant_89 : decode b_X_grant 89 = .ok (.invokestatic 77, 3) := by decide +kernel
theorem d_X_grant_92 : decode b_X_grant 92 = .ok (.aload_n 0, 1) := by decide +kernel
theorem d_X_grant_93 : decode b_X_grant 93 = .ok (.new 91, 3) := by decide +kernel
theorem d_X_grant_96 : decode b_X_grant 96 = .ok (.dup, 1) := by decide +kernel
theorem d_X_grant_97 : decode b_X_grant 97 = .ok (.iconst 2, 1) := by decide +kernel
theorem d_X_grant_98 : decode b_X_grant 98 = .ok (.iload_n 1, 1) := by decide +kernel
theorem d_X_grant_99 : decode b_X_grant 99 = .ok (.aload 4, 2) := by decide +kernel
theorem d_X_grant_101 : decode b_X_grant 101 = .ok (.aload 4, 2) := by decide +kernel
theorem d_X_grant_103 : decode b_X_grant 103 = .ok (.iload_n 2, 1) := by decide +kernel
theorem d_X_grant_104 : decode b_X_grant 104 = .ok (.iload_n 3, 1) := by decide +kernel
theorem d_X_grant_105 : decode b_X_grant 105 = .ok (.invokestatic 103, 3) := by decide +kernel
theorem d_X_grant_108 : decode b_X_grant 108 = .ok (.iload 5, 2) := by decide +kernel
theorem d_X_grant_110 : decode b_X_grant 110 = .ok (.invokespecial 93, 3) := by decide +kernel
theorem d_X_grant_113 : decode b_X_grant 113 = .ok (.invokevirtual 96, 3) := by decide +kernel
theorem d_X_grant_116 : decode b_X_grant 116 = .ok (.ireturn, 1) := by decide +kernel

abbrev b_X_move : ByteArray := prog_1_method_6_code
def y_X_move : MethodName := ⟨"RegistryLog", "move", "(I)I"⟩
theorem d_X_move_0 : decode b_X_move 0 = .ok (.aload_n 0, 1) := by decide +kernel
theorem d_X_move_1 : decode b_X_move 1 = .ok (.invokevirtual 111, 3) := by decide +kernel
theorem d_X_move_4 : decode b_X_move 4 = .ok (.astore_n 2, 1) := by decide +kernel
theorem d_X_move_5 : decode b_X_move 5 = .ok (.aload_n 2, 1) := by decide +kernel
theorem d_X_move_6 : decode b_X_move 6 = .ok (.bipush 62, 2) := by decide +kernel
theorem d_X_move_8 : decode b_X_move 8 = .ok (.invokevirtual 115, 3) := by decide +kernel
theorem d_X_move_11 : decode b_X_move 11 = .ok (.istore_n 3, 1) := by decide +kernel
theorem d_X_move_12 : decode b_X_move 12 = .ok (.iload_n 3, 1) := by decide +kernel
theorem d_X_move_13 : decode b_X_move 13 = .ok (.ifCond .lt 10, 3) := by decide +kernel
theorem d_X_move_16 : decode b_X_move 16 = .ok (.iload_n 1, 1) := by decide +kernel
theorem d_X_move_17 : decode b_X_move 17 = .ok (.invokestatic 58, 3) := by decide +kernel
theorem d_X_move_20 : decode b_X_move 20 = .ok (.ifCond .ne 13, 3) := by decide +kernel
theorem d_X_move_23 : decode b_X_move 23 = .ok (.new 120, 3) := by decide +kernel
theorem d_X_move_26 : decode b_X_move 26 = .ok (.dup, 1) := by decide +kernel
theorem d_X_move_27 : decode b_X_move 27 = .ok (.ldc 122, 2) := by decide +kernel
theorem d_X_move_29 : decode b_X_move 29 = .ok (.invokespecial 124, 3) := by decide +kernel
theorem d_X_move_32 : decode b_X_move 32 = .ok (.athrow, 1) := by decide +kernel
theorem d_X_move_33 : decode b_X_move 33 = .ok (.new 53, 3) := by decide +kernel
theorem d_X_move_36 : decode b_X_move 36 = .ok (.dup, 1) := by decide +kernel
theorem d_X_move_37 : decode b_X_move 37 = .ok (.aload_n 2, 1) := by decide +kernel
theorem d_X_move_38 : decode b_X_move 38 = .ok (.iconst 0, 1) := by decide +kernel
theorem d_X_move_39 : decode b_X_move 39 = .ok (.iload_n 3, 1) := by decide +kernel
theorem d_X_move_40 : decode b_X_move 40 = .ok (.invokevirtual 127, 3) := by decide +kernel
theorem d_X_move_43 : decode b_X_move 43 = .ok (.invokespecial 131, 3) := by decide +kernel
theorem d_X_move_46 : decode b_X_move 46 = .ok (.astore 4, 2) := by decide +kernel
theorem d_X_move_48 : decode b_X_move 48 = .ok (.new 53, 3) := by decide +kernel
theorem d_X_move_51 : decode b_X_move 51 = .ok (.dup, 1) := by decide +kernel
theorem d_X_move_52 : decode b_X_move 52 = .ok (.aload_n 2, 1) := by decide +kernel
theorem d_X_move_53 : decode b_X_move 53 = .ok (.iload_n 3, 1) := by decide +kernel
theorem d_X_move_54 : decode b_X_move 54 = .ok (.iconst 1, 1) := by decide +kernel
theorem d_X_move_55 : decode b_X_move 55 = .ok (.iadd, 1) := by decide +kernel
theorem d_X_move_56 : decode b_X_move 56 = .ok (.aload_n 2, 1) := by decide +kernel
theorem d_X_move_57 : decode b_X_move 57 = .ok (.invokevirtual 132, 3) := by decide +kernel
theorem d_X_move_60 : decode b_X_move 60 = .ok (.invokevirtual 127, 3) := by decide +kernel
theorem d_X_move_63 : decode b_X_move 63 = .ok (.invokespecial 131, 3) := by decide +kernel
theorem d_X_move_66 : decode b_X_move 66 = .ok (.astore 5, 2) := by decide +kernel
theorem d_X_move_68 : decode b_X_move 68 = .ok (.aload 4, 2) := by decide +kernel
theorem d_X_move_70 : decode b_X_move 70 = .ok (.invokevirtual 52, 3) := by decide +kernel
theorem d_X_move_73 : decode b_X_move 73 = .ok (.ifCond .eq 15, 3) := by decide +kernel
theorem d_X_move_76 : decode b_X_move 76 = .ok (.aload 5, 2) := by decide +kernel
theorem d_X_move_78 : decode b_X_move 78 = .ok (.invokevirtual 52, 3) := by decide +kernel
theorem d_X_move_81 : decode b_X_move 81 = .ok (.ifCond .eq 7, 3) := by decide +kernel
theorem d_X_move_84 : decode b_X_move 84 = .ok (.iconst 1, 1) := by decide +kernel
theorem d_X_move_85 : decode b_X_move 85 = .ok (.goto 4, 3) := by decide +kernel
theorem d_X_move_88 : decode b_X_move 88 = .ok (.iconst 0, 1) := by decide +kernel
theorem d_X_move_89 : decode b_X_move 89 = .ok (.invokestatic 65, 3) := by decide +kernel
theorem d_X_move_92 : decode b_X_move 92 = .ok (.aload_n 0, 1) := by decide +kernel
theorem d_X_move_93 : decode b_X_move 93 = .ok (.getfield 19, 3) := by decide +kernel
theorem d_X_move_96 : decode b_X_move 96 = .ok (.aload 4, 2) := by decide +kernel
theorem d_X_move_98 : decode b_X_move 98 = .ok (.invokevirtual 69, 3) := by decide +kernel
theorem d_X_move_101 : decode b_X_move 101 = .ok (.istore 6, 2) := by decide +kernel
theorem d_X_move_103 : decode b_X_move 103 = .ok (.iload_n 1, 1) := by decide +kernel
theorem d_X_move_104 : decode b_X_move 104 = .ok (.aload_n 0, 1) := by decide +kernel
theorem d_X_move_105 : decode b_X_move 105 = .ok (.getfield 19, 3) := by decide +kernel
theorem d_X_move_108 : decode b_X_move 108 = .ok (.iload 6, 2) := by decide +kernel
theorem d_X_move_110 : decode b_X_move 110 = .ok (.invokevirtual 107, 3) := by decide +kernel
theorem d_X_move_113 : decode b_X_move 113 = .ok (.if_icmp .ne 21, 3) := by decide +kernel
theorem d_X_move_116 : decode b_X_move 116 = .ok (.aload_n 0, 1) := by decide +kernel
theorem d_X_move_117 : decode b_X_move 117 = .ok (.getfield 19, 3) := by decide +kernel
theorem d_X_move_120 : decode b_X_move 120 = .ok (.aload 5, 2) := by decide +kernel
theorem d_X_move_122 : decode b_X_move 122 = .ok (.iload 6, 2) := by decide +kernel
theorem d_X_move_124 : decode b_X_move 124 = .ok (.invokevirtual 73, 3) := by decide +kernel
theorem d_X_move_127 : decode b_X_move 127 = .ok (.ifCond .eq 7, 3) := by decide +kernel
theorem d_X_move_130 : decode b_X_move 130 = .ok (.iconst 1, 1) := by decide +kernel
theorem d_X_move_131 : decode b_X_move 131 = .ok (.goto 4, 3) := by decide +kernel
theorem d_X_move_134 : decode b_X_move 134 = .ok (.iconst 0, 1) := by decide +kernel
theorem d_X_move_135 : decode b_X_move 135 = .ok (.invokestatic 77, 3) := by decide +kernel
theorem d_X_move_138 : decode b_X_move 138 = .ok (.aload_n 0, 1) := by decide +kernel
theorem d_X_move_139 : decode b_X_move 139 = .ok (.new 91, 3) := by decide +kernel
theorem d_X_move_142 : decode b_X_move 142 = .ok (.dup, 1) := by decide +kernel
theorem d_X_move_143 : decode b_X_move 143 = .ok (.iconst 3, 1) := by decide +kernel
theorem d_X_move_144 : decode b_X_move 144 = .ok (.iload_n 1, 1) := by decide +kernel
theorem d_X_move_145 : decode b_X_move 145 = .ok (.aload 4, 2) := by decide +kernel
theorem d_X_move_147 : decode b_X_move 147 = .ok (.aload 5, 2) := by decide +kernel
theorem d_X_move_149 : decode b_X_move 149 = .ok (.iconst (-1), 1) := by decide +kernel
theorem d_X_move_150 : decode b_X_move 150 = .ok (.iconst 0, 1) := by decide +kernel
theorem d_X_move_151 : decode b_X_move 151 = .ok (.iload 6, 2) := by decide +kernel
theorem d_X_move_153 : decode b_X_move 153 = .ok (.invokespecial 93, 3) := by decide +kernel
theorem d_X_move_156 : decode b_X_move 156 = .ok (.invokevirtual 96, 3) := by decide +kernel
theorem d_X_move_159 : decode b_X_move 159 = .ok (.ireturn, 1) := by decide +kernel

abbrev b_X_rows : ByteArray := prog_1_method_7_code
def y_X_rows : MethodName := ⟨"RegistryLog", "rows", "()I"⟩
theorem d_X_rows_0 : decode b_X_rows 0 = .ok (.aload_n 0, 1) := by decide +kernel
theorem d_X_rows_1 : decode b_X_rows 1 = .ok (.getfield 19, 3) := by decide +kernel
theorem d_X_rows_4 : decode b_X_rows 4 = .ok (.invokevirtual 80, 3) := by decide +kernel
theorem d_X_rows_7 : decode b_X_rows 7 = .ok (.ireturn, 1) := by decide +kernel

abbrev b_X_row : ByteArray := prog_1_method_8_code
def y_X_row : MethodName := ⟨"RegistryLog", "row", "(II)I"⟩
theorem d_X_row_0 : decode b_X_row 0 = .ok (.aload_n 0, 1) := by decide +kernel
theorem d_X_row_1 : decode b_X_row 1 = .ok (.getfield 19, 3) := by decide +kernel
theorem d_X_row_4 : decode b_X_row 4 = .ok (.iload_n 1, 1) := by decide +kernel
theorem d_X_row_5 : decode b_X_row 5 = .ok (.invokevirtual 133, 3) := by decide +kernel
theorem d_X_row_8 : decode b_X_row 8 = .ok (.astore_n 3, 1) := by decide +kernel
theorem d_X_row_9 : decode b_X_row 9 = .ok (.iload_n 2, 1) := by decide +kernel
theorem d_X_row_10 : decode b_X_row 10 = .ok (.tableswitch 50 0 3 #[30, 35, 40, 45], 30) := by decide +kernel
theorem d_X_row_40 : decode b_X_row 40 = .ok (.aload_n 3, 1) := by decide +kernel
theorem d_X_row_41 : decode b_X_row 41 = .ok (.getfield 137, 3) := by decide +kernel
theorem d_X_row_44 : decode b_X_row 44 = .ok (.ireturn, 1) := by decide +kernel
theorem d_X_row_45 : decode b_X_row 45 = .ok (.aload_n 3, 1) := by decide +kernel
theorem d_X_row_46 : decode b_X_row 46 = .ok (.getfield 141, 3) := by decide +kernel
theorem d_X_row_49 : decode b_X_row 49 = .ok (.ireturn, 1) := by decide +kernel
theorem d_X_row_50 : decode b_X_row 50 = .ok (.aload_n 3, 1) := by decide +kernel
theorem d_X_row_51 : decode b_X_row 51 = .ok (.getfield 144, 3) := by decide +kernel
theorem d_X_row_54 : decode b_X_row 54 = .ok (.ireturn, 1) := by decide +kernel
theorem d_X_row_55 : decode b_X_row 55 = .ok (.aload_n 3, 1) := by decide +kernel
theorem d_X_row_56 : decode b_X_row 56 = .ok (.getfield 147, 3) := by decide +kernel
theorem d_X_row_59 : decode b_X_row 59 = .ok (.ireturn, 1) := by decide +kernel
theorem d_X_row_60 : decode b_X_row 60 = .ok (.iconst (-1), 1) := by decide +kernel
theorem d_X_row_61 : decode b_X_row 61 = .ok (.ireturn, 1) := by decide +kernel

abbrev b_X_digest : ByteArray := prog_1_method_9_code
def y_X_digest : MethodName := ⟨"RegistryLog", "digest", "(I)J"⟩
theorem d_X_digest_0 : decode b_X_digest 0 = .ok (.aload_n 0, 1) := by decide +kernel
theorem d_X_digest_1 : decode b_X_digest 1 = .ok (.getfield 19, 3) := by decide +kernel
theorem d_X_digest_4 : decode b_X_digest 4 = .ok (.iload_n 1, 1) := by decide +kernel
theorem d_X_digest_5 : decode b_X_digest 5 = .ok (.invokevirtual 133, 3) := by decide +kernel
theorem d_X_digest_8 : decode b_X_digest 8 = .ok (.getfield 150, 3) := by decide +kernel
theorem d_X_digest_11 : decode b_X_digest 11 = .ok (.lreturn, 1) := by decide +kernel

abbrev b_X_head : ByteArray := prog_1_method_10_code
def y_X_head : MethodName := ⟨"RegistryLog", "head", "(I)J"⟩
theorem d_X_head_0 : decode b_X_head 0 = .ok (.iload_n 1, 1) := by decide +kernel
theorem d_X_head_1 : decode b_X_head 1 = .ok (.aload_n 0, 1) := by decide +kernel
theorem d_X_head_2 : decode b_X_head 2 = .ok (.getfield 19, 3) := by decide +kernel
theorem d_X_head_5 : decode b_X_head 5 = .ok (.invokevirtual 80, 3) := by decide +kernel
theorem d_X_head_8 : decode b_X_head 8 = .ok (.if_icmp .le 7, 3) := by decide +kernel
theorem d_X_head_11 : decode b_X_head 11 = .ok (.lconst 0, 1) := by decide +kernel
theorem d_X_head_12 : decode b_X_head 12 = .ok (.goto 12, 3) := by decide +kernel
theorem d_X_head_15 : decode b_X_head 15 = .ok (.aload_n 0, 1) := by decide +kernel
theorem d_X_head_16 : decode b_X_head 16 = .ok (.getfield 19, 3) := by decide +kernel
theorem d_X_head_19 : decode b_X_head 19 = .ok (.iconst 0, 1) := by decide +kernel
theorem d_X_head_20 : decode b_X_head 20 = .ok (.iload_n 1, 1) := by decide +kernel
theorem d_X_head_21 : decode b_X_head 21 = .ok (.invokestatic 154, 3) := by decide +kernel
theorem d_X_head_24 : decode b_X_head 24 = .ok (.lreturn, 1) := by decide +kernel

abbrev b_X_inside : ByteArray := prog_1_method_11_code
def y_X_inside : MethodName := ⟨"RegistryLog", "inside", "(II)I"⟩
theorem d_X_inside_0 : decode b_X_inside 0 = .ok (.aload_n 0, 1) := by decide +kernel
theorem d_X_inside_1 : decode b_X_inside 1 = .ok (.getfield 33, 3) := by decide +kernel
theorem d_X_inside_4 : decode b_X_inside 4 = .ok (.invokevirtual 160, 3) := by decide +kernel
theorem d_X_inside_7 : decode b_X_inside 7 = .ok (.iload_n 2, 1) := by decide +kernel
theorem d_X_inside_8 : decode b_X_inside 8 = .ok (.aload_n 0, 1) := by decide +kernel
theorem d_X_inside_9 : decode b_X_inside 9 = .ok (.getfield 19, 3) := by decide +kernel
theorem d_X_inside_12 : decode b_X_inside 12 = .ok (.invokevirtual 80, 3) := by decide +kernel
theorem d_X_inside_15 : decode b_X_inside 15 = .ok (.if_icmp .gt 12, 3) := by decide +kernel
theorem d_X_inside_18 : decode b_X_inside 18 = .ok (.iload_n 1, 1) := by decide +kernel
theorem d_X_inside_19 : decode b_X_inside 19 = .ok (.ifCond .lt 8, 3) := by decide +kernel
theorem d_X_inside_22 : decode b_X_inside 22 = .ok (.iload_n 1, 1) := by decide +kernel
theorem d_X_inside_23 : decode b_X_inside 23 = .ok (.iload_n 2, 1) := by decide +kernel
theorem d_X_inside_24 : decode b_X_inside 24 = .ok (.if_icmp .lt 5, 3) := by decide +kernel
theorem d_X_inside_27 : decode b_X_inside 27 = .ok (.iconst (-1), 1) := by decide +kernel
theorem d_X_inside_28 : decode b_X_inside 28 = .ok (.ireturn, 1) := by decide +kernel
theorem d_X_inside_29 : decode b_X_inside 29 = .ok (.aload_n 0, 1) := by decide +kernel
theorem d_X_inside_30 : decode b_X_inside 30 = .ok (.getfield 19, 3) := by decide +kernel
theorem d_X_inside_33 : decode b_X_inside 33 = .ok (.iconst 0, 1) := by decide +kernel
theorem d_X_inside_34 : decode b_X_inside 34 = .ok (.iload_n 2, 1) := by decide +kernel
theorem d_X_inside_35 : decode b_X_inside 35 = .ok (.iload_n 1, 1) := by decide +kernel
theorem d_X_inside_36 : decode b_X_inside 36 = .ok (.aload_n 0, 1) := by decide +kernel
theorem d_X_inside_37 : decode b_X_inside 37 = .ok (.getfield 33, 3) := by decide +kernel
theorem d_X_inside_40 : decode b_X_inside 40 = .ok (.invokestatic 163, 3) := by decide +kernel
theorem d_X_inside_43 : decode b_X_inside 43 = .ok (.aload_n 0, 1) := by decide +kernel
theorem d_X_inside_44 : decode b_X_inside 44 = .ok (.getfield 33, 3) := by decide +kernel
theorem d_X_inside_47 : decode b_X_inside 47 = .ok (.invokevirtual 167, 3) := by decide +kernel
theorem d_X_inside_50 : decode b_X_inside 50 = .ok (.ireturn, 1) := by decide +kernel

abbrev b_X_growth : ByteArray := prog_1_method_12_code
def y_X_growth : MethodName := ⟨"RegistryLog", "growth", "(II)I"⟩
theorem d_X_growth_0 : decode b_X_growth 0 = .ok (.aload_n 0, 1) := by decide +kernel
theorem d_X_growth_1 : decode b_X_growth 1 = .ok (.getfield 33, 3) := by decide +kernel
theorem d_X_growth_4 : decode b_X_growth 4 = .ok (.invokevirtual 160, 3) := by decide +kernel
theorem d_X_growth_7 : decode b_X_growth 7 = .ok (.iload_n 2, 1) := by decide +kernel
theorem d_X_growth_8 : decode b_X_growth 8 = .ok (.aload_n 0, 1) := by decide +kernel
theorem d_X_growth_9 : decode b_X_growth 9 = .ok (.getfield 19, 3) := by decide +kernel
theorem d_X_growth_12 : decode b_X_growth 12 = .ok (.invokevirtual 80, 3) := by decide +kernel
theorem d_X_growth_15 : decode b_X_growth 15 = .ok (.if_icmp .gt 13, 3) := by decide +kernel
theorem d_X_growth_18 : decode b_X_growth 18 = .ok (.iload_n 1, 1) := by decide +kernel
theorem d_X_growth_19 : decode b_X_growth 19 = .ok (.iconst 1, 1) := by decide +kernel
theorem d_X_growth_20 : decode b_X_growth 20 = .ok (.if_icmp .lt 8, 3) := by decide +kernel
theorem d_X_growth_23 : decode b_X_growth 23 = .ok (.iload_n 1, 1) := by decide +kernel
theorem d_X_growth_24 : decode b_X_growth 24 = .ok (.iload_n 2, 1) := by decide +kernel
theorem d_X_growth_25 : decode b_X_growth 25 = .ok (.if_icmp .le 5, 3) := by decide +kernel
theorem d_X_growth_28 : decode b_X_growth 28 = .ok (.iconst (-1), 1) := by decide +kernel
theorem d_X_growth_29 : decode b_X_growth 29 = .ok (.ireturn, 1) := by decide +kernel
theorem d_X_growth_30 : decode b_X_growth 30 = .ok (.aload_n 0, 1) := by decide +kernel
theorem d_X_growth_31 : decode b_X_growth 31 = .ok (.getfield 19, 3) := by decide +kernel
theorem d_X_growth_34 : decode b_X_growth 34 = .ok (.iconst 0, 1) := by decide +kernel
theorem d_X_growth_35 : decode b_X_growth 35 = .ok (.iload_n 2, 1) := by decide +kernel
theorem d_X_growth_36 : decode b_X_growth 36 = .ok (.iload_n 1, 1) := by decide +kernel
theorem d_X_growth_37 : decode b_X_growth 37 = .ok (.iconst 1, 1) := by decide +kernel
theorem d_X_growth_38 : decode b_X_growth 38 = .ok (.aload_n 0, 1) := by decide +kernel
theorem d_X_growth_39 : decode b_X_growth 39 = .ok (.getfield 33, 3) := by decide +kernel
theorem d_X_growth_42 : decode b_X_growth 42 = .ok (.invokestatic 168, 3) := by decide +kernel
theorem d_X_growth_45 : decode b_X_growth 45 = .ok (.aload_n 0, 1) := by decide +kernel
theorem d_X_growth_46 : decode b_X_growth 46 = .ok (.getfield 33, 3) := by decide +kernel
theorem d_X_growth_49 : decode b_X_growth 49 = .ok (.invokevirtual 167, 3) := by decide +kernel
theorem d_X_growth_52 : decode b_X_growth 52 = .ok (.ireturn, 1) := by decide +kernel

abbrev b_X_proof : ByteArray := prog_1_method_13_code
def y_X_proof : MethodName := ⟨"RegistryLog", "proof", "(I)J"⟩
theorem d_X_proof_0 : decode b_X_proof 0 = .ok (.aload_n 0, 1) := by decide +kernel
theorem d_X_proof_1 : decode b_X_proof 1 = .ok (.getfield 33, 3) := by decide +kernel
theorem d_X_proof_4 : decode b_X_proof 4 = .ok (.iload_n 1, 1) := by decide +kernel
theorem d_X_proof_5 : decode b_X_proof 5 = .ok (.invokevirtual 172, 3) := by decide +kernel
theorem d_X_proof_8 : decode b_X_proof 8 = .ok (.lreturn, 1) := by decide +kernel

abbrev b_X_take : ByteArray := prog_1_method_14_code
def y_X_take : MethodName := ⟨"RegistryLog", "take", "(J)Z"⟩
theorem d_X_take_0 : decode b_X_take 0 = .ok (.aload_n 0, 1) := by decide +kernel
theorem d_X_take_1 : decode b_X_take 1 = .ok (.getfield 37, 3) := by decide +kernel
theorem d_X_take_4 : decode b_X_take 4 = .ok (.lload_n 1, 1) := by decide +kernel
theorem d_X_take_5 : decode b_X_take 5 = .ok (.invokevirtual 176, 3) := by decide +kernel
theorem d_X_take_8 : decode b_X_take 8 = .ok (.ireturn, 1) := by decide +kernel

abbrev b_X_isInside : ByteArray := prog_1_method_15_code
def y_X_isInside : MethodName := ⟨"RegistryLog", "isInside", "(IIJJ)Z"⟩
theorem d_X_isInside_0 : decode b_X_isInside 0 = .ok (.iconst 0, 1) := by decide +kernel
theorem d_X_isInside_1 : decode b_X_isInside 1 = .ok (.istore 7, 2) := by decide +kernel
theorem d_X_isInside_3 : decode b_X_isInside 3 = .ok (.iload_n 2, 1) := by decide +kernel
theorem d_X_isInside_4 : decode b_X_isInside 4 = .ok (.bipush 120, 2) := by decide +kernel
theorem d_X_isInside_6 : decode b_X_isInside 6 = .ok (.if_icmp .gt 49, 3) := by decide +kernel
theorem d_X_isInside_9 : decode b_X_isInside 9 = .ok (.iload_n 1, 1) := by decide +kernel
theorem d_X_isInside_10 : decode b_X_isInside 10 = .ok (.ifCond .lt 45, 3) := by decide +kernel
theorem d_X_isInside_13 : decode b_X_isInside 13 = .ok (.iload_n 1, 1) := by decide +kernel
theorem d_X_isInside_14 : decode b_X_isInside 14 = .ok (.iload_n 2, 1) := by decide +kernel
theorem d_X_isInside_15 : decode b_X_isInside 15 = .ok (.if_icmp .ge 40, 3) := by decide +kernel
theorem d_X_isInside_18 : decode b_X_isInside 18 = .ok (.iload_n 1, 1) := by decide +kernel
theorem d_X_isInside_19 : decode b_X_isInside 19 = .ok (.iload_n 2, 1) := by decide +kernel
theorem d_X_isInside_20 : decode b_X_isInside 20 = .ok (.lload_n 3, 1) := by decide +kernel
theorem d_X_isInside_21 : decode b_X_isInside 21 = .ok (.aload_n 0, 1) := by decide +kernel
theorem d_X_isInside_22 : decode b_X_isInside 22 = .ok (.getfield 37, 3) := by decide +kernel
theorem d_X_isInside_25 : decode b_X_isInside 25 = .ok (.invokestatic 180, 3) := by decide +kernel
theorem d_X_isInside_28 : decode b_X_isInside 28 = .ok (.lstore 8, 2) := by decide +kernel
theorem d_X_isInside_30 : decode b_X_isInside 30 = .ok (.lload 8, 2) := by decide +kernel
theorem d_X_isInside_32 : decode b_X_isInside 32 = .ok (.lload 5, 2) := by decide +kernel
theorem d_X_isInside_34 : decode b_X_isInside 34 = .ok (.lcmp, 1) := by decide +kernel
theorem d_X_isInside_35 : decode b_X_isInside 35 = .ok (.ifCond .ne 17, 3) := by decide +kernel
theorem d_X_isInside_38 : decode b_X_isInside 38 = .ok (.aload_n 0, 1) := by decide +kernel
theorem d_X_isInside_39 : decode b_X_isInside 39 = .ok (.getfield 37, 3) := by decide +kernel
theorem d_X_isInside_42 : decode b_X_isInside 42 = .ok (.invokevirtual 184, 3) := by decide +kernel
theorem d_X_isInside_45 : decode b_X_isInside 45 = .ok (.ifCond .eq 7, 3) := by decide +kernel
theorem d_X_isInside_48 : decode b_X_isInside 48 = .ok (.iconst 1, 1) := by decide +kernel
theorem d_X_isInside_49 : decode b_X_isInside 49 = .ok (.goto 4, 3) := by decide +kernel
theorem d_X_isInside_52 : decode b_X_isInside 52 = .ok (.iconst 0, 1) := by decide +kernel
theorem d_X_isInside_53 : decode b_X_isInside 53 = .ok (.istore 7, 2) := by decide +kernel
theorem d_X_isInside_55 : decode b_X_isInside 55 = .ok (.aload_n 0, 1) := by decide +kernel
theorem d_X_isInside_56 : decode b_X_isInside 56 = .ok (.getfield 37, 3) := by decide +kernel
theorem d_X_isInside_59 : decode b_X_isInside 59 = .ok (.invokevirtual 160, 3) := by decide +kernel
theorem d_X_isInside_62 : decode b_X_isInside 62 = .ok (.iload 7, 2) := by decide +kernel
theorem d_X_isInside_64 : decode b_X_isInside 64 = .ok (.ireturn, 1) := by decide +kernel

abbrev b_X_isGrowth : ByteArray := prog_1_method_16_code
def y_X_isGrowth : MethodName := ⟨"RegistryLog", "isGrowth", "(IIJJ)Z"⟩
theorem d_X_isGrowth_0 : decode b_X_isGrowth 0 = .ok (.iconst 0, 1) := by decide +kernel
theorem d_X_isGrowth_1 : decode b_X_isGrowth 1 = .ok (.istore 7, 2) := by decide +kernel
theorem d_X_isGrowth_3 : decode b_X_isGrowth 3 = .ok (.iload_n 2, 1) := by decide +kernel
theorem d_X_isGrowth_4 : decode b_X_isGrowth 4 = .ok (.bipush 120, 2) := by decide +kernel
theorem d_X_isGrowth_6 : decode b_X_isGrowth 6 = .ok (.if_icmp .gt 64, 3) := by decide +kernel
theorem d_X_isGrowth_9 : decode b_X_isGrowth 9 = .ok (.iload_n 1, 1) := by decide +kernel
theorem d_X_isGrowth_10 : decode b_X_isGrowth 10 = .ok (.iconst 1, 1) := by decide +kernel
theorem d_X_isGrowth_11 : decode b_X_isGrowth 11 = .ok (.if_icmp .lt 59, 3) := by decide +kernel
theorem d_X_isGrowth_14 : decode b_X_isGrowth 14 = .ok (.iload_n 1, 1) := by decide +kernel
theorem d_X_isGrowth_15 : decode b_X_isGrowth 15 = .ok (.iload_n 2, 1) := by decide +kernel
theorem d_X_isGrowth_16 : decode b_X_isGrowth 16 = .ok (.if_icmp .gt 54, 3) := by decide +kernel
theorem d_X_isGrowth_19 : decode b_X_isGrowth 19 = .ok (.iload_n 1, 1) := by decide +kernel
theorem d_X_isGrowth_20 : decode b_X_isGrowth 20 = .ok (.iload_n 2, 1) := by decide +kernel
theorem d_X_isGrowth_21 : decode b_X_isGrowth 21 = .ok (.iconst 1, 1) := by decide +kernel
theorem d_X_isGrowth_22 : decode b_X_isGrowth 22 = .ok (.lload_n 3, 1) := by decide +kernel
theorem d_X_isGrowth_23 : decode b_X_isGrowth 23 = .ok (.aload_n 0, 1) := by decide +kernel
theorem d_X_isGrowth_24 : decode b_X_isGrowth 24 = .ok (.getfield 37, 3) := by decide +kernel
theorem d_X_isGrowth_27 : decode b_X_isGrowth 27 = .ok (.invokestatic 187, 3) := by decide +kernel
theorem d_X_isGrowth_30 : decode b_X_isGrowth 30 = .ok (.astore 8, 2) := by decide +kernel
theorem d_X_isGrowth_32 : decode b_X_isGrowth 32 = .ok (.aload 8, 2) := by decide +kernel
theorem d_X_isGrowth_34 : decode b_X_isGrowth 34 = .ok (.getfield 191, 3) := by decide +kernel
theorem d_X_isGrowth_37 : decode b_X_isGrowth 37 = .ok (.lload_n 3, 1) := by decide +kernel
theorem d_X_isGrowth_38 : decode b_X_isGrowth 38 = .ok (.lcmp, 1) := by decide +kernel
theorem d_X_isGrowth_39 : decode b_X_isGrowth 39 = .ok (.ifCond .ne 28, 3) := by decide +kernel
theorem d_X_isGrowth_42 : decode b_X_isGrowth 42 = .ok (.aload 8, 2) := by decide +kernel
theorem d_X_isGrowth_44 : decode b_X_isGrowth 44 = .ok (.getfield 196, 3) := by decide +kernel
theorem d_X_isGrowth_47 : decode b_X_isGrowth 47 = .ok (.lload 5, 2) := by decide +kernel
theorem d_X_isGrowth_49 : decode b_X_isGrowth 49 = .ok (.lcmp, 1) := by decide +kernel
theorem d_X_isGrowth_50 : decode b_X_isGrowth 50 = .ok (.ifCond .ne 17, 3) := by decide +kernel
theorem d_X_isGrowth_53 : decode b_X_isGrowth 53 = .ok (.aload_n 0, 1) := by decide +kernel
theorem d_X_isGrowth_54 : decode b_X_isGrowth 54 = .ok (.getfield 37, 3) := by decide +kernel
theorem d_X_isGrowth_57 : decode b_X_isGrowth 57 = .ok (.invokevirtual 184, 3) := by decide +kernel
theorem d_X_isGrowth_60 : decode b_X_isGrowth 60 = .ok (.ifCond .eq 7, 3) := by decide +kernel
theorem d_X_isGrowth_63 : decode b_X_isGrowth 63 = .ok (.iconst 1, 1) := by decide +kernel
theorem d_X_isGrowth_64 : decode b_X_isGrowth 64 = .ok (.goto 4, 3) := by decide +kernel
theorem d_X_isGrowth_67 : decode b_X_isGrowth 67 = .ok (.iconst 0, 1) := by decide +kernel
theorem d_X_isGrowth_68 : decode b_X_isGrowth 68 = .ok (.istore 7, 2) := by decide +kernel
theorem d_X_isGrowth_70 : decode b_X_isGrowth 70 = .ok (.aload_n 0, 1) := by decide +kernel
theorem d_X_isGrowth_71 : decode b_X_isGrowth 71 = .ok (.getfield 37, 3) := by decide +kernel
theorem d_X_isGrowth_74 : decode b_X_isGrowth 74 = .ok (.invokevirtual 160, 3) := by decide +kernel
theorem d_X_isGrowth_77 : decode b_X_isGrowth 77 = .ok (.iload 7, 2) := by decide +kernel
theorem d_X_isGrowth_79 : decode b_X_isGrowth 79 = .ok (.ireturn, 1) := by decide +kernel

abbrev b_X_follow : ByteArray := prog_1_method_17_code
def y_X_follow : MethodName := ⟨"RegistryLog", "follow", "(II)I"⟩
theorem d_X_follow_0 : decode b_X_follow 0 = .ok (.iload_n 1, 1) := by decide +kernel
theorem d_X_follow_1 : decode b_X_follow 1 = .ok (.invokestatic 199, 3) := by decide +kernel
theorem d_X_follow_4 : decode b_X_follow 4 = .ok (.ifCond .eq 7, 3) := by decide +kernel
theorem d_X_follow_7 : decode b_X_follow 7 = .ok (.iload_n 2, 1) := by decide +kernel
theorem d_X_follow_8 : decode b_X_follow 8 = .ok (.ifCond .ge 5, 3) := by decide +kernel
theorem d_X_follow_11 : decode b_X_follow 11 = .ok (.iconst (-1), 1) := by decide +kernel
theorem d_X_follow_12 : decode b_X_follow 12 = .ok (.ireturn, 1) := by decide +kernel
theorem d_X_follow_13 : decode b_X_follow 13 = .ok (.aload_n 0, 1) := by decide +kernel
theorem d_X_follow_14 : decode b_X_follow 14 = .ok (.iload_n 1, 1) := by decide +kernel
theorem d_X_follow_15 : decode b_X_follow 15 = .ok (.invokevirtual 202, 3) := by decide +kernel
theorem d_X_follow_18 : decode b_X_follow 18 = .ok (.astore_n 3, 1) := by decide +kernel
theorem d_X_follow_19 : decode b_X_follow 19 = .ok (.aload_n 3, 1) := by decide +kernel
theorem d_X_follow_20 : decode b_X_follow 20 = .ok (.invokevirtual 80, 3) := by decide +kernel
theorem d_X_follow_23 : decode b_X_follow 23 = .ok (.istore 4, 2) := by decide +kernel
theorem d_X_follow_25 : decode b_X_follow 25 = .ok (.iload_n 2, 1) := by decide +kernel
theorem d_X_follow_26 : decode b_X_follow 26 = .ok (.aload_n 0, 1) := by decide +kernel
theorem d_X_follow_27 : decode b_X_follow 27 = .ok (.getfield 19, 3) := by decide +kernel
theorem d_X_follow_30 : decode b_X_follow 30 = .ok (.invokevirtual 80, 3) := by decide +kernel
theorem d_X_follow_33 : decode b_X_follow 33 = .ok (.iload 4, 2) := by decide +kernel
theorem d_X_follow_35 : decode b_X_follow 35 = .ok (.isub, 1) := by decide +kernel
theorem d_X_follow_36 : decode b_X_follow 36 = .ok (.invokestatic 206, 3) := by decide +kernel
theorem d_X_follow_39 : decode b_X_follow 39 = .ok (.istore 5, 2) := by decide +kernel
theorem d_X_follow_41 : decode b_X_follow 41 = .ok (.iconst 0, 1) := by decide +kernel
theorem d_X_follow_42 : decode b_X_follow 42 = .ok (.istore 6, 2) := by decide +kernel
theorem d_X_follow_44 : decode b_X_follow 44 = .ok (.iload 6, 2) := by decide +kernel
theorem d_X_follow_46 : decode b_X_follow 46 = .ok (.iload 5, 2) := by decide +kernel
theorem d_X_follow_48 : decode b_X_follow 48 = .ok (.if_icmp .ge 25, 3) := by decide +kernel
theorem d_X_follow_51 : decode b_X_follow 51 = .ok (.aload_n 3, 1) := by decide +kernel
theorem d_X_follow_52 : decode b_X_follow 52 = .ok (.aload_n 0, 1) := by decide +kernel
theorem d_X_follow_53 : decode b_X_follow 53 = .ok (.getfield 19, 3) := by decide +kernel
theorem d_X_follow_56 : decode b_X_follow 56 = .ok (.iload 4, 2) := by decide +kernel
theorem d_X_follow_58 : decode b_X_follow 58 = .ok (.iload 6, 2) := by decide +kernel
theorem d_X_follow_60 : decode b_X_follow 60 = .ok (.iadd, 1) := by decide +kernel
theorem d_X_follow_61 : decode b_X_follow 61 = .ok (.invokevirtual 133, 3) := by decide +kernel
theorem d_X_follow_64 : decode b_X_follow 64 = .ok (.invokevirtual 211, 3) := by decide +kernel
theorem d_X_follow_67 : decode b_X_follow 67 = .ok (.iinc 6 1, 3) := by decide +kernel
theorem d_X_follow_70 : decode b_X_follow 70 = .ok (.goto (-26), 3) := by decide +kernel
theorem d_X_follow_73 : decode b_X_follow 73 = .ok (.iload 5, 2) := by decide +kernel
theorem d_X_follow_75 : decode b_X_follow 75 = .ok (.ireturn, 1) := by decide +kernel

abbrev b_X_spoil : ByteArray := prog_1_method_18_code
def y_X_spoil : MethodName := ⟨"RegistryLog", "spoil", "(III)Z"⟩
theorem d_X_spoil_0 : decode b_X_spoil 0 = .ok (.aload_n 0, 1) := by decide +kernel
theorem d_X_spoil_1 : decode b_X_spoil 1 = .ok (.iload_n 1, 1) := by decide +kernel
theorem d_X_spoil_2 : decode b_X_spoil 2 = .ok (.invokevirtual 202, 3) := by decide +kernel
theorem d_X_spoil_5 : decode b_X_spoil 5 = .ok (.astore 4, 2) := by decide +kernel
theorem d_X_spoil_7 : decode b_X_spoil 7 = .ok (.aload 4, 2) := by decide +kernel
theorem d_X_spoil_9 : decode b_X_spoil 9 = .ok (.iload_n 2, 1) := by decide +kernel
theorem d_X_spoil_10 : decode b_X_spoil 10 = .ok (.invokevirtual 133, 3) := by decide +kernel
theorem d_X_spoil_13 : decode b_X_spoil 13 = .ok (.astore 5, 2) := by decide +kernel
theorem d_X_spoil_15 : decode b_X_spoil 15 = .ok (.aload 5, 2) := by decide +kernel
theorem d_X_spoil_17 : decode b_X_spoil 17 = .ok (.getfield 137, 3) := by decide +kernel
theorem d_X_spoil_20 : decode b_X_spoil 20 = .ok (.ifCond .eq 5, 3) := by decide +kernel
theorem d_X_spoil_23 : decode b_X_spoil 23 = .ok (.iconst 0, 1) := by decide +kernel
theorem d_X_spoil_24 : decode b_X_spoil 24 = .ok (.ireturn, 1) := by decide +kernel
theorem d_X_spoil_25 : decode b_X_spoil 25 = .ok (.aload 4, 2) := by decide +kernel
theorem d_X_spoil_27 : decode b_X_spoil 27 = .ok (.iload_n 2, 1) := by decide +kernel
theorem d_X_spoil_28 : decode b_X_spoil 28 = .ok (.aload 5, 2) := by decide +kernel
theorem d_X_spoil_30 : decode b_X_spoil 30 = .ok (.iload_n 3, 1) := by decide +kernel
theorem d_X_spoil_31 : decode b_X_spoil 31 = .ok (.invokevirtual 214, 3) := by decide +kernel
theorem d_X_spoil_34 : decode b_X_spoil 34 = .ok (.invokevirtual 217, 3) := by decide +kernel
theorem d_X_spoil_37 : decode b_X_spoil 37 = .ok (.iconst 1, 1) := by decide +kernel
theorem d_X_spoil_38 : decode b_X_spoil 38 = .ok (.ireturn, 1) := by decide +kernel

abbrev b_X_mirrored : ByteArray := prog_1_method_19_code
def y_X_mirrored : MethodName := ⟨"RegistryLog", "mirrored", "(I)J"⟩
theorem d_X_mirrored_0 : decode b_X_mirrored 0 = .ok (.aload_n 0, 1) := by decide +kernel
theorem d_X_mirrored_1 : decode b_X_mirrored 1 = .ok (.iload_n 1, 1) := by decide +kernel
theorem d_X_mirrored_2 : decode b_X_mirrored 2 = .ok (.invokevirtual 202, 3) := by decide +kernel
theorem d_X_mirrored_5 : decode b_X_mirrored 5 = .ok (.astore_n 2, 1) := by decide +kernel
theorem d_X_mirrored_6 : decode b_X_mirrored 6 = .ok (.aload_n 2, 1) := by decide +kernel
theorem d_X_mirrored_7 : decode b_X_mirrored 7 = .ok (.iconst 0, 1) := by decide +kernel
theorem d_X_mirrored_8 : decode b_X_mirrored 8 = .ok (.aload_n 2, 1) := by decide +kernel
theorem d_X_mirrored_9 : decode b_X_mirrored 9 = .ok (.invokevirtual 80, 3) := by decide +kernel
theorem d_X_mirrored_12 : decode b_X_mirrored 12 = .ok (.invokestatic 154, 3) := by decide +kernel
theorem d_X_mirrored_15 : decode b_X_mirrored 15 = .ok (.lreturn, 1) := by decide +kernel

abbrev b_X_apart : ByteArray := prog_1_method_20_code
def y_X_apart : MethodName := ⟨"RegistryLog", "apart", "(I)I"⟩
theorem d_X_apart_0 : decode b_X_apart 0 = .ok (.aload_n 0, 1) := by decide +kernel
theorem d_X_apart_1 : decode b_X_apart 1 = .ok (.iload_n 1, 1) := by decide +kernel
theorem d_X_apart_2 : decode b_X_apart 2 = .ok (.invokevirtual 202, 3) := by decide +kernel
theorem d_X_apart_5 : decode b_X_apart 5 = .ok (.astore_n 2, 1) := by decide +kernel
theorem d_X_apart_6 : decode b_X_apart 6 = .ok (.iconst 0, 1) := by decide +kernel
theorem d_X_apart_7 : decode b_X_apart 7 = .ok (.istore_n 3, 1) := by decide +kernel
theorem d_X_apart_8 : decode b_X_apart 8 = .ok (.iload_n 3, 1) := by decide +kernel
theorem d_X_apart_9 : decode b_X_apart 9 = .ok (.aload_n 2, 1) := by decide +kernel
theorem d_X_apart_10 : decode b_X_apart 10 = .ok (.invokevirtual 80, 3) := by decide +kernel
theorem d_X_apart_13 : decode b_X_apart 13 = .ok (.if_icmp .ge 36, 3) := by decide +kernel
theorem d_X_apart_16 : decode b_X_apart 16 = .ok (.aload_n 2, 1) := by decide +kernel
theorem d_X_apart_17 : decode b_X_apart 17 = .ok (.iload_n 3, 1) := by decide +kernel
theorem d_X_apart_18 : decode b_X_apart 18 = .ok (.invokevirtual 133, 3) := by decide +kernel
theorem d_X_apart_21 : decode b_X_apart 21 = .ok (.getfield 150, 3) := by decide +kernel
theorem d_X_apart_24 : decode b_X_apart 24 = .ok (.aload_n 0, 1) := by decide +kernel
theorem d_X_apart_25 : decode b_X_apart 25 = .ok (.getfield 19, 3) := by decide +kernel
theorem d_X_apart_28 : decode b_X_apart 28 = .ok (.iload_n 3, 1) := by decide +kernel
theorem d_X_apart_29 : decode b_X_apart 29 = .ok (.invokevirtual 133, 3) := by decide +kernel
theorem d_X_apart_32 : decode b_X_apart 32 = .ok (.getfield 150, 3) := by decide +kernel
theorem d_X_apart_35 : decode b_X_apart 35 = .ok (.lcmp, 1) := by decide +kernel
theorem d_X_apart_36 : decode b_X_apart 36 = .ok (.ifCond .eq 7, 3) := by decide +kernel
theorem d_X_apart_39 : decode b_X_apart 39 = .ok (.iload_n 3, 1) := by decide +kernel
theorem d_X_apart_40 : decode b_X_apart 40 = .ok (.iconst 1, 1) := by decide +kernel
theorem d_X_apart_41 : decode b_X_apart 41 = .ok (.iadd, 1) := by decide +kernel
theorem d_X_apart_42 : decode b_X_apart 42 = .ok (.ireturn, 1) := by decide +kernel
theorem d_X_apart_43 : decode b_X_apart 43 = .ok (.iinc 3 1, 3) := by decide +kernel
theorem d_X_apart_46 : decode b_X_apart 46 = .ok (.goto (-38), 3) := by decide +kernel
theorem d_X_apart_49 : decode b_X_apart 49 = .ok (.iconst (-1), 1) := by decide +kernel
theorem d_X_apart_50 : decode b_X_apart 50 = .ok (.ireturn, 1) := by decide +kernel

abbrev b_X_founder : ByteArray := prog_1_method_21_code
def y_X_founder : MethodName := ⟨"RegistryLog", "founder", "(I)I"⟩
theorem d_X_founder_0 : decode b_X_founder 0 = .ok (.aload_n 0, 1) := by decide +kernel
theorem d_X_founder_1 : decode b_X_founder 1 = .ok (.iload_n 1, 1) := by decide +kernel
theorem d_X_founder_2 : decode b_X_founder 2 = .ok (.invokevirtual 221, 3) := by decide +kernel
theorem d_X_founder_5 : decode b_X_founder 5 = .ok (.astore_n 2, 1) := by decide +kernel
theorem d_X_founder_6 : decode b_X_founder 6 = .ok (.aload_n 2, 1) := by decide +kernel
theorem d_X_founder_7 : decode b_X_founder 7 = .ok (.aload_n 2, 1) := by decide +kernel
theorem d_X_founder_8 : decode b_X_founder 8 = .ok (.aload_n 0, 1) := by decide +kernel
theorem d_X_founder_9 : decode b_X_founder 9 = .ok (.invokevirtual 48, 3) := by decide +kernel
theorem d_X_founder_12 : decode b_X_founder 12 = .ok (.invokevirtual 69, 3) := by decide +kernel
theorem d_X_founder_15 : decode b_X_founder 15 = .ok (.invokevirtual 107, 3) := by decide +kernel
theorem d_X_founder_18 : decode b_X_founder 18 = .ok (.ireturn, 1) := by decide +kernel

abbrev b_X_has : ByteArray := prog_1_method_22_code
def y_X_has : MethodName := ⟨"RegistryLog", "has", "(II)Z"⟩
theorem d_X_has_0 : decode b_X_has 0 = .ok (.aload_n 0, 1) := by decide +kernel
theorem d_X_has_1 : decode b_X_has 1 = .ok (.iload_n 1, 1) := by decide +kernel
theorem d_X_has_2 : decode b_X_has 2 = .ok (.invokevirtual 221, 3) := by decide +kernel
theorem d_X_has_5 : decode b_X_has 5 = .ok (.astore_n 3, 1) := by decide +kernel
theorem d_X_has_6 : decode b_X_has 6 = .ok (.aload_n 3, 1) := by decide +kernel
theorem d_X_has_7 : decode b_X_has 7 = .ok (.aload_n 0, 1) := by decide +kernel
theorem d_X_has_8 : decode b_X_has 8 = .ok (.invokevirtual 48, 3) := by decide +kernel
theorem d_X_has_11 : decode b_X_has 11 = .ok (.invokevirtual 69, 3) := by decide +kernel
theorem d_X_has_14 : decode b_X_has 14 = .ok (.istore 4, 2) := by decide +kernel
theorem d_X_has_16 : decode b_X_has 16 = .ok (.iload_n 2, 1) := by decide +kernel
theorem d_X_has_17 : decode b_X_has 17 = .ok (.invokestatic 58, 3) := by decide +kernel
theorem d_X_has_20 : decode b_X_has 20 = .ok (.ifCond .eq 17, 3) := by decide +kernel
theorem d_X_has_23 : decode b_X_has 23 = .ok (.aload_n 3, 1) := by decide +kernel
theorem d_X_has_24 : decode b_X_has 24 = .ok (.iload 4, 2) := by decide +kernel
theorem d_X_has_26 : decode b_X_has 26 = .ok (.iload_n 2, 1) := by decide +kernel
theorem d_X_has_27 : decode b_X_has 27 = .ok (.invokevirtual 83, 3) := by decide +kernel
theorem d_X_has_30 : decode b_X_has 30 = .ok (.ifCond .eq 7, 3) := by decide +kernel
theorem d_X_has_33 : decode b_X_has 33 = .ok (.iconst 1, 1) := by decide +kernel
theorem d_X_has_34 : decode b_X_has 34 = .ok (.goto 4, 3) := by decide +kernel
theorem d_X_has_37 : decode b_X_has 37 = .ok (.iconst 0, 1) := by decide +kernel
theorem d_X_has_38 : decode b_X_has 38 = .ok (.ireturn, 1) := by decide +kernel

abbrev b_X_version : ByteArray := prog_1_method_23_code
def y_X_version : MethodName := ⟨"RegistryLog", "version", "(II)I"⟩
theorem d_X_version_0 : decode b_X_version 0 = .ok (.aload_n 0, 1) := by decide +kernel
theorem d_X_version_1 : decode b_X_version 1 = .ok (.iload_n 1, 1) := by decide +kernel
theorem d_X_version_2 : decode b_X_version 2 = .ok (.invokevirtual 221, 3) := by decide +kernel
theorem d_X_version_5 : decode b_X_version 5 = .ok (.astore_n 3, 1) := by decide +kernel
theorem d_X_version_6 : decode b_X_version 6 = .ok (.aload_n 3, 1) := by decide +kernel
theorem d_X_version_7 : decode b_X_version 7 = .ok (.aload_n 0, 1) := by decide +kernel
theorem d_X_version_8 : decode b_X_version 8 = .ok (.invokevirtual 48, 3) := by decide +kernel
theorem d_X_version_11 : decode b_X_version 11 = .ok (.invokevirtual 69, 3) := by decide +kernel
theorem d_X_version_14 : decode b_X_version 14 = .ok (.istore 4, 2) := by decide +kernel
theorem d_X_version_16 : decode b_X_version 16 = .ok (.aload_n 3, 1) := by decide +kernel
theorem d_X_version_17 : decode b_X_version 17 = .ok (.iload 4, 2) := by decide +kernel
theorem d_X_version_19 : decode b_X_version 19 = .ok (.iload_n 2, 1) := by decide +kernel
theorem d_X_version_20 : decode b_X_version 20 = .ok (.invokevirtual 87, 3) := by decide +kernel
theorem d_X_version_23 : decode b_X_version 23 = .ok (.iconst (-1), 1) := by decide +kernel
theorem d_X_version_24 : decode b_X_version 24 = .ok (.if_icmp .ne 5, 3) := by decide +kernel
theorem d_X_version_27 : decode b_X_version 27 = .ok (.iconst 0, 1) := by decide +kernel
theorem d_X_version_28 : decode b_X_version 28 = .ok (.ireturn, 1) := by decide +kernel
theorem d_X_version_29 : decode b_X_version 29 = .ok (.aload_n 3, 1) := by decide +kernel
theorem d_X_version_30 : decode b_X_version 30 = .ok (.iload 4, 2) := by decide +kernel
theorem d_X_version_32 : decode b_X_version 32 = .ok (.iload_n 2, 1) := by decide +kernel
theorem d_X_version_33 : decode b_X_version 33 = .ok (.invokevirtual 100, 3) := by decide +kernel
theorem d_X_version_36 : decode b_X_version 36 = .ok (.ifCond .eq 7, 3) := by decide +kernel
theorem d_X_version_39 : decode b_X_version 39 = .ok (.iconst 2, 1) := by decide +kernel
theorem d_X_version_40 : decode b_X_version 40 = .ok (.goto 4, 3) := by decide +kernel
theorem d_X_version_43 : decode b_X_version 43 = .ok (.iconst 1, 1) := by decide +kernel
theorem d_X_version_44 : decode b_X_version 44 = .ok (.ireturn, 1) := by decide +kernel

abbrev b_X_sum : ByteArray := prog_1_method_24_code
def y_X_sum : MethodName := ⟨"RegistryLog", "sum", "(II)I"⟩
theorem d_X_sum_0 : decode b_X_sum 0 = .ok (.aload_n 0, 1) := by decide +kernel
theorem d_X_sum_1 : decode b_X_sum 1 = .ok (.iload_n 1, 1) := by decide +kernel
theorem d_X_sum_2 : decode b_X_sum 2 = .ok (.invokevirtual 221, 3) := by decide +kernel
theorem d_X_sum_5 : decode b_X_sum 5 = .ok (.astore_n 3, 1) := by decide +kernel
theorem d_X_sum_6 : decode b_X_sum 6 = .ok (.aload_n 3, 1) := by decide +kernel
theorem d_X_sum_7 : decode b_X_sum 7 = .ok (.aload_n 3, 1) := by decide +kernel
theorem d_X_sum_8 : decode b_X_sum 8 = .ok (.aload_n 0, 1) := by decide +kernel
theorem d_X_sum_9 : decode b_X_sum 9 = .ok (.invokevirtual 48, 3) := by decide +kernel
theorem d_X_sum_12 : decode b_X_sum 12 = .ok (.invokevirtual 69, 3) := by decide +kernel
theorem d_X_sum_15 : decode b_X_sum 15 = .ok (.iload_n 2, 1) := by decide +kernel
theorem d_X_sum_16 : decode b_X_sum 16 = .ok (.invokevirtual 87, 3) := by decide +kernel
theorem d_X_sum_19 : decode b_X_sum 19 = .ok (.istore 4, 2) := by decide +kernel
theorem d_X_sum_21 : decode b_X_sum 21 = .ok (.iload 4, 2) := by decide +kernel
theorem d_X_sum_23 : decode b_X_sum 23 = .ok (.iconst (-1), 1) := by decide +kernel
theorem d_X_sum_24 : decode b_X_sum 24 = .ok (.if_icmp .ne 7, 3) := by decide +kernel
theorem d_X_sum_27 : decode b_X_sum 27 = .ok (.iconst 0, 1) := by decide +kernel
theorem d_X_sum_28 : decode b_X_sum 28 = .ok (.goto 12, 3) := by decide +kernel
theorem d_X_sum_31 : decode b_X_sum 31 = .ok (.aload_n 3, 1) := by decide +kernel
theorem d_X_sum_32 : decode b_X_sum 32 = .ok (.iload 4, 2) := by decide +kernel
theorem d_X_sum_34 : decode b_X_sum 34 = .ok (.invokevirtual 133, 3) := by decide +kernel
theorem d_X_sum_37 : decode b_X_sum 37 = .ok (.getfield 147, 3) := by decide +kernel
theorem d_X_sum_40 : decode b_X_sum 40 = .ok (.ireturn, 1) := by decide +kernel

abbrev b_X_takeText : ByteArray := prog_1_method_25_code
def y_X_takeText : MethodName := ⟨"RegistryLog", "takeText", "()Ljava/lang/String;"⟩
theorem d_X_takeText_0 : decode b_X_takeText 0 = .ok (.aload_n 0, 1) := by decide +kernel
theorem d_X_takeText_1 : decode b_X_takeText 1 = .ok (.getfield 10, 3) := by decide +kernel
theorem d_X_takeText_4 : decode b_X_takeText 4 = .ok (.invokevirtual 224, 3) := by decide +kernel
theorem d_X_takeText_7 : decode b_X_takeText 7 = .ok (.astore_n 1, 1) := by decide +kernel
theorem d_X_takeText_8 : decode b_X_takeText 8 = .ok (.aload_n 0, 1) := by decide +kernel
theorem d_X_takeText_9 : decode b_X_takeText 9 = .ok (.getfield 10, 3) := by decide +kernel
theorem d_X_takeText_12 : decode b_X_takeText 12 = .ok (.iconst 0, 1) := by decide +kernel
theorem d_X_takeText_13 : decode b_X_takeText 13 = .ok (.invokevirtual 227, 3) := by decide +kernel
theorem d_X_takeText_16 : decode b_X_takeText 16 = .ok (.aload_n 1, 1) := by decide +kernel
theorem d_X_takeText_17 : decode b_X_takeText 17 = .ok (.areturn, 1) := by decide +kernel

abbrev b_X_takeName : ByteArray := prog_1_method_26_code
def y_X_takeName : MethodName := ⟨"RegistryLog", "takeName", "()LRegistryLog$Name;"⟩
theorem d_X_takeName_0 : decode b_X_takeName 0 = .ok (.new 53, 3) := by decide +kernel
theorem d_X_takeName_3 : decode b_X_takeName 3 = .ok (.dup, 1) := by decide +kernel
theorem d_X_takeName_4 : decode b_X_takeName 4 = .ok (.aload_n 0, 1) := by decide +kernel
theorem d_X_takeName_5 : decode b_X_takeName 5 = .ok (.invokevirtual 111, 3) := by decide +kernel
theorem d_X_takeName_8 : decode b_X_takeName 8 = .ok (.invokespecial 131, 3) := by decide +kernel
theorem d_X_takeName_11 : decode b_X_takeName 11 = .ok (.areturn, 1) := by decide +kernel

abbrev b_X_write : ByteArray := prog_1_method_27_code
def y_X_write : MethodName := ⟨"RegistryLog", "write", "(LRegistryLog$Row;)I"⟩
theorem d_X_write_0 : decode b_X_write 0 = .ok (.aload_n 0, 1) := by decide +kernel
theorem d_X_write_1 : decode b_X_write 1 = .ok (.getfield 19, 3) := by decide +kernel
theorem d_X_write_4 : decode b_X_write 4 = .ok (.invokevirtual 80, 3) := by decide +kernel
theorem d_X_write_7 : decode b_X_write 7 = .ok (.istore_n 2, 1) := by decide +kernel
theorem d_X_write_8 : decode b_X_write 8 = .ok (.iload_n 2, 1) := by decide +kernel
theorem d_X_write_9 : decode b_X_write 9 = .ok (.bipush 120, 2) := by decide +kernel
theorem d_X_write_11 : decode b_X_write 11 = .ok (.if_icmp .ge 7, 3) := by decide +kernel
theorem d_X_write_14 : decode b_X_write 14 = .ok (.iconst 1, 1) := by decide +kernel
theorem d_X_write_15 : decode b_X_write 15 = .ok (.goto 4, 3) := by decide +kernel
theorem d_X_write_18 : decode b_X_write 18 = .ok (.iconst 0, 1) := by decide +kernel
theorem d_X_write_19 : decode b_X_write 19 = .ok (.invokestatic 77, 3) := by decide +kernel
theorem d_X_write_22 : decode b_X_write 22 = .ok (.aload_n 0, 1) := by decide +kernel
theorem d_X_write_23 : decode b_X_write 23 = .ok (.getfield 19, 3) := by decide +kernel
theorem d_X_write_26 : decode b_X_write 26 = .ok (.aload_n 1, 1) := by decide +kernel
theorem d_X_write_27 : decode b_X_write 27 = .ok (.invokevirtual 211, 3) := by decide +kernel
theorem d_X_write_30 : decode b_X_write 30 = .ok (.iload_n 2, 1) := by decide +kernel
theorem d_X_write_31 : decode b_X_write 31 = .ok (.ireturn, 1) := by decide +kernel

abbrev b_X_mirrorOf : ByteArray := prog_1_method_28_code
def y_X_mirrorOf : MethodName := ⟨"RegistryLog", "mirrorOf", "(I)LRegistryLog$Ledger;"⟩
theorem d_X_mirrorOf_0 : decode b_X_mirrorOf 0 = .ok (.iload_n 1, 1) := by decide +kernel
theorem d_X_mirrorOf_1 : decode b_X_mirrorOf 1 = .ok (.invokestatic 199, 3) := by decide +kernel
theorem d_X_mirrorOf_4 : decode b_X_mirrorOf 4 = .ok (.ifCond .eq 12, 3) := by decide +kernel
theorem d_X_mirrorOf_7 : decode b_X_mirrorOf 7 = .ok (.aload_n 0, 1) := by decide +kernel
theorem d_X_mirrorOf_8 : decode b_X_mirrorOf 8 = .ok (.getfield 23, 3) := by decide +kernel
theorem d_X_mirrorOf_11 : decode b_X_mirrorOf 11 = .ok (.iload_n 1, 1) := by decide +kernel
theorem d_X_mirrorOf_12 : decode b_X_mirrorOf 12 = .ok (.aaload, 1) := by decide +kernel
theorem d_X_mirrorOf_13 : decode b_X_mirrorOf 13 = .ok (.goto 7, 3) := by decide +kernel
theorem d_X_mirrorOf_16 : decode b_X_mirrorOf 16 = .ok (.aload_n 0, 1) := by decide +kernel
theorem d_X_mirrorOf_17 : decode b_X_mirrorOf 17 = .ok (.getfield 27, 3) := by decide +kernel
theorem d_X_mirrorOf_20 : decode b_X_mirrorOf 20 = .ok (.areturn, 1) := by decide +kernel

abbrev b_X_ledgerOf : ByteArray := prog_1_method_29_code
def y_X_ledgerOf : MethodName := ⟨"RegistryLog", "ledgerOf", "(I)LRegistryLog$Ledger;"⟩
theorem d_X_ledgerOf_0 : decode b_X_ledgerOf 0 = .ok (.iload_n 1, 1) := by decide +kernel
theorem d_X_ledgerOf_1 : decode b_X_ledgerOf 1 = .ok (.iconst (-1), 1) := by decide +kernel
theorem d_X_ledgerOf_2 : decode b_X_ledgerOf 2 = .ok (.if_icmp .ne 10, 3) := by decide +kernel
theorem d_X_ledgerOf_5 : decode b_X_ledgerOf 5 = .ok (.aload_n 0, 1) := by decide +kernel
theorem d_X_ledgerOf_6 : decode b_X_ledgerOf 6 = .ok (.getfield 19, 3) := by decide +kernel
theorem d_X_ledgerOf_9 : decode b_X_ledgerOf 9 = .ok (.goto 8, 3) := by decide +kernel
theorem d_X_ledgerOf_12 : decode b_X_ledgerOf 12 = .ok (.aload_n 0, 1) := by decide +kernel
theorem d_X_ledgerOf_13 : decode b_X_ledgerOf 13 = .ok (.iload_n 1, 1) := by decide +kernel
theorem d_X_ledgerOf_14 : decode b_X_ledgerOf 14 = .ok (.invokevirtual 202, 3) := by decide +kernel
theorem d_X_ledgerOf_17 : decode b_X_ledgerOf 17 = .ok (.areturn, 1) := by decide +kernel

abbrev b_X_demandArguments : ByteArray := prog_1_method_30_code
def y_X_demandArguments : MethodName := ⟨"RegistryLog", "demandArguments", "(Z)V"⟩
theorem d_X_demandArguments_0 : decode b_X_demandArguments 0 = .ok (.iload_n 0, 1) := by decide +kernel
theorem d_X_demandArguments_1 : decode b_X_demandArguments 1 = .ok (.ifCond .ne 13, 3) := by decide +kernel
theorem d_X_demandArguments_4 : decode b_X_demandArguments 4 = .ok (.new 120, 3) := by decide +kernel
theorem d_X_demandArguments_7 : decode b_X_demandArguments 7 = .ok (.dup, 1) := by decide +kernel
theorem d_X_demandArguments_8 : decode b_X_demandArguments 8 = .ok (.ldc 231, 2) := by decide +kernel
theorem d_X_demandArguments_10 : decode b_X_demandArguments 10 = .ok (.invokespecial 124, 3) := by decide +kernel
theorem d_X_demandArguments_13 : decode b_X_demandArguments 13 = .ok (.athrow, 1) := by decide +kernel
theorem d_X_demandArguments_14 : decode b_X_demandArguments 14 = .ok (.return_, 1) := by decide +kernel

abbrev b_X_demandState : ByteArray := prog_1_method_31_code
def y_X_demandState : MethodName := ⟨"RegistryLog", "demandState", "(Z)V"⟩
theorem d_X_demandState_0 : decode b_X_demandState 0 = .ok (.iload_n 0, 1) := by decide +kernel
theorem d_X_demandState_1 : decode b_X_demandState 1 = .ok (.ifCond .ne 13, 3) := by decide +kernel
theorem d_X_demandState_4 : decode b_X_demandState 4 = .ok (.new 233, 3) := by decide +kernel
theorem d_X_demandState_7 : decode b_X_demandState 7 = .ok (.dup, 1) := by decide +kernel
theorem d_X_demandState_8 : decode b_X_demandState 8 = .ok (.ldc 235, 2) := by decide +kernel
theorem d_X_demandState_10 : decode b_X_demandState 10 = .ok (.invokespecial 237, 3) := by decide +kernel
theorem d_X_demandState_13 : decode b_X_demandState 13 = .ok (.athrow, 1) := by decide +kernel
theorem d_X_demandState_14 : decode b_X_demandState 14 = .ok (.return_, 1) := by decide +kernel

abbrev b_X_isPerson : ByteArray := prog_1_method_32_code
def y_X_isPerson : MethodName := ⟨"RegistryLog", "isPerson", "(I)Z"⟩
theorem d_X_isPerson_0 : decode b_X_isPerson 0 = .ok (.iload_n 0, 1) := by decide +kernel
theorem d_X_isPerson_1 : decode b_X_isPerson 1 = .ok (.ifCond .lt 13, 3) := by decide +kernel
theorem d_X_isPerson_4 : decode b_X_isPerson 4 = .ok (.iload_n 0, 1) := by decide +kernel
theorem d_X_isPerson_5 : decode b_X_isPerson 5 = .ok (.bipush 8, 2) := by decide +kernel
theorem d_X_isPerson_7 : decode b_X_isPerson 7 = .ok (.if_icmp .ge 7, 3) := by decide +kernel
theorem d_X_isPerson_10 : decode b_X_isPerson 10 = .ok (.iconst 1, 1) := by decide +kernel
theorem d_X_isPerson_11 : decode b_X_isPerson 11 = .ok (.goto 4, 3) := by decide +kernel
theorem d_X_isPerson_14 : decode b_X_isPerson 14 = .ok (.iconst 0, 1) := by decide +kernel
theorem d_X_isPerson_15 : decode b_X_isPerson 15 = .ok (.ireturn, 1) := by decide +kernel

abbrev b_X_isVersion : ByteArray := prog_1_method_33_code
def y_X_isVersion : MethodName := ⟨"RegistryLog", "isVersion", "(I)Z"⟩
theorem d_X_isVersion_0 : decode b_X_isVersion 0 = .ok (.iload_n 0, 1) := by decide +kernel
theorem d_X_isVersion_1 : decode b_X_isVersion 1 = .ok (.ifCond .lt 14, 3) := by decide +kernel
theorem d_X_isVersion_4 : decode b_X_isVersion 4 = .ok (.iload_n 0, 1) := by decide +kernel
theorem d_X_isVersion_5 : decode b_X_isVersion 5 = .ok (.sipush 1000, 3) := by decide +kernel
theorem d_X_isVersion_8 : decode b_X_isVersion 8 = .ok (.if_icmp .ge 7, 3) := by decide +kernel
theorem d_X_isVersion_11 : decode b_X_isVersion 11 = .ok (.iconst 1, 1) := by decide +kernel
theorem d_X_isVersion_12 : decode b_X_isVersion 12 = .ok (.goto 4, 3) := by decide +kernel
theorem d_X_isVersion_15 : decode b_X_isVersion 15 = .ok (.iconst 0, 1) := by decide +kernel
theorem d_X_isVersion_16 : decode b_X_isVersion 16 = .ok (.ireturn, 1) := by decide +kernel

abbrev b_X_isMirror : ByteArray := prog_1_method_34_code
def y_X_isMirror : MethodName := ⟨"RegistryLog", "isMirror", "(I)Z"⟩
theorem d_X_isMirror_0 : decode b_X_isMirror 0 = .ok (.iload_n 0, 1) := by decide +kernel
theorem d_X_isMirror_1 : decode b_X_isMirror 1 = .ok (.ifCond .lt 12, 3) := by decide +kernel
theorem d_X_isMirror_4 : decode b_X_isMirror 4 = .ok (.iload_n 0, 1) := by decide +kernel
theorem d_X_isMirror_5 : decode b_X_isMirror 5 = .ok (.iconst 4, 1) := by decide +kernel
theorem d_X_isMirror_6 : decode b_X_isMirror 6 = .ok (.if_icmp .ge 7, 3) := by decide +kernel
theorem d_X_isMirror_9 : decode b_X_isMirror 9 = .ok (.iconst 1, 1) := by decide +kernel
theorem d_X_isMirror_10 : decode b_X_isMirror 10 = .ok (.goto 4, 3) := by decide +kernel
theorem d_X_isMirror_13 : decode b_X_isMirror 13 = .ok (.iconst 0, 1) := by decide +kernel
theorem d_X_isMirror_14 : decode b_X_isMirror 14 = .ok (.ireturn, 1) := by decide +kernel

abbrev b_X_asNumber : ByteArray := prog_1_method_35_code
def y_X_asNumber : MethodName := ⟨"RegistryLog", "asNumber", "(Z)I"⟩
theorem d_X_asNumber_0 : decode b_X_asNumber 0 = .ok (.iload_n 0, 1) := by decide +kernel
theorem d_X_asNumber_1 : decode b_X_asNumber 1 = .ok (.ifCond .eq 7, 3) := by decide +kernel
theorem d_X_asNumber_4 : decode b_X_asNumber 4 = .ok (.iconst 1, 1) := by decide +kernel
theorem d_X_asNumber_5 : decode b_X_asNumber 5 = .ok (.goto 4, 3) := by decide +kernel
theorem d_X_asNumber_8 : decode b_X_asNumber 8 = .ok (.iconst 0, 1) := by decide +kernel
theorem d_X_asNumber_9 : decode b_X_asNumber 9 = .ok (.ireturn, 1) := by decide +kernel
