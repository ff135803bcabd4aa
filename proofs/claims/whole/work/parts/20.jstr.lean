abbrev b_S_coder : ByteArray := prog_19_method_152_code
def y_S_coder : MethodName := ⟨"java/lang/String", "coder", "()B"⟩
theorem d_S_coder_0 : decode b_S_coder 0 = .ok (.getstatic 38, 3) := by decide +kernel
theorem d_S_coder_3 : decode b_S_coder 3 = .ok (.ifCond .eq 10, 3) := by decide +kernel
theorem d_S_coder_6 : decode b_S_coder 6 = .ok (.aload_n 0, 1) := by decide +kernel
theorem d_S_coder_7 : decode b_S_coder 7 = .ok (.getfield 15, 3) := by decide +kernel
theorem d_S_coder_10 : decode b_S_coder 10 = .ok (.goto 4, 3) := by decide +kernel
theorem d_S_coder_13 : decode b_S_coder 13 = .ok (.iconst 1, 1) := by decide +kernel
theorem d_S_coder_14 : decode b_S_coder 14 = .ok (.ireturn, 1) := by decide +kernel

abbrev b_S_isLatin1 : ByteArray := prog_19_method_154_code
def y_S_isLatin1 : MethodName := ⟨"java/lang/String", "isLatin1", "()Z"⟩
theorem d_S_isLatin1_0 : decode b_S_isLatin1 0 = .ok (.getstatic 38, 3) := by decide +kernel
theorem d_S_isLatin1_3 : decode b_S_isLatin1 3 = .ok (.ifCond .eq 14, 3) := by decide +kernel
theorem d_S_isLatin1_6 : decode b_S_isLatin1 6 = .ok (.aload_n 0, 1) := by decide +kernel
theorem d_S_isLatin1_7 : decode b_S_isLatin1 7 = .ok (.getfield 15, 3) := by decide +kernel
theorem d_S_isLatin1_10 : decode b_S_isLatin1 10 = .ok (.ifCond .ne 7, 3) := by decide +kernel
theorem d_S_isLatin1_13 : decode b_S_isLatin1 13 = .ok (.iconst 1, 1) := by decide +kernel
theorem d_S_isLatin1_14 : decode b_S_isLatin1 14 = .ok (.goto 4, 3) := by decide +kernel
theorem d_S_isLatin1_17 : decode b_S_isLatin1 17 = .ok (.iconst 0, 1) := by decide +kernel
theorem d_S_isLatin1_18 : decode b_S_isLatin1 18 = .ok (.ireturn, 1) := by decide +kernel

abbrev b_S_length : ByteArray := prog_19_method_54_code
def y_S_length : MethodName := ⟨"java/lang/String", "length", "()I"⟩
theorem d_S_length_0 : decode b_S_length 0 = .ok (.aload_n 0, 1) := by decide +kernel
theorem d_S_length_1 : decode b_S_length 1 = .ok (.getfield 9, 3) := by decide +kernel
theorem d_S_length_4 : decode b_S_length 4 = .ok (.arraylength, 1) := by decide +kernel
theorem d_S_length_5 : decode b_S_length 5 = .ok (.aload_n 0, 1) := by decide +kernel
theorem d_S_length_6 : decode b_S_length 6 = .ok (.invokevirtual 335, 3) := by decide +kernel
theorem d_S_length_9 : decode b_S_length 9 = .ok (.ishr, 1) := by decide +kernel
theorem d_S_length_10 : decode b_S_length 10 = .ok (.ireturn, 1) := by decide +kernel

abbrev b_S_charAt : ByteArray := prog_19_method_56_code
def y_S_charAt : MethodName := ⟨"java/lang/String", "charAt", "(I)C"⟩
theorem d_S_charAt_0 : decode b_S_charAt 0 = .ok (.aload_n 0, 1) := by decide +kernel
theorem d_S_charAt_1 : decode b_S_charAt 1 = .ok (.invokevirtual 492, 3) := by decide +kernel
theorem d_S_charAt_4 : decode b_S_charAt 4 = .ok (.ifCond .eq 12, 3) := by decide +kernel
theorem d_S_charAt_7 : decode b_S_charAt 7 = .ok (.aload_n 0, 1) := by decide +kernel
theorem d_S_charAt_8 : decode b_S_charAt 8 = .ok (.getfield 9, 3) := by decide +kernel
theorem d_S_charAt_11 : decode b_S_charAt 11 = .ok (.iload_n 1, 1) := by decide +kernel
theorem d_S_charAt_12 : decode b_S_charAt 12 = .ok (.invokestatic 495, 3) := by decide +kernel
theorem d_S_charAt_15 : decode b_S_charAt 15 = .ok (.ireturn, 1) := by decide +kernel
theorem d_S_charAt_16 : decode b_S_charAt 16 = .ok (.aload_n 0, 1) := by decide +kernel
theorem d_S_charAt_17 : decode b_S_charAt 17 = .ok (.getfield 9, 3) := by decide +kernel
theorem d_S_charAt_20 : decode b_S_charAt 20 = .ok (.iload_n 1, 1) := by decide +kernel
theorem d_S_charAt_21 : decode b_S_charAt 21 = .ok (.invokestatic 498, 3) := by decide +kernel
theorem d_S_charAt_24 : decode b_S_charAt 24 = .ok (.ireturn, 1) := by decide +kernel

abbrev b_C_charAt : ByteArray := prog_21_method_2_code
def y_C_charAt : MethodName := ⟨"java/lang/StringLatin1", "charAt", "([BI)C"⟩
theorem d_C_charAt_0 : decode b_C_charAt 0 = .ok (.iload_n 1, 1) := by decide +kernel
theorem d_C_charAt_1 : decode b_C_charAt 1 = .ok (.aload_n 0, 1) := by decide +kernel
theorem d_C_charAt_2 : decode b_C_charAt 2 = .ok (.arraylength, 1) := by decide +kernel
theorem d_C_charAt_3 : decode b_C_charAt 3 = .ok (.invokestatic 9, 3) := by decide +kernel
theorem d_C_charAt_6 : decode b_C_charAt 6 = .ok (.aload_n 0, 1) := by decide +kernel
theorem d_C_charAt_7 : decode b_C_charAt 7 = .ok (.iload_n 1, 1) := by decide +kernel
theorem d_C_charAt_8 : decode b_C_charAt 8 = .ok (.baload, 1) := by decide +kernel
theorem d_C_charAt_9 : decode b_C_charAt 9 = .ok (.sipush 255, 3) := by decide +kernel
theorem d_C_charAt_12 : decode b_C_charAt 12 = .ok (.iand, 1) := by decide +kernel
theorem d_C_charAt_13 : decode b_C_charAt 13 = .ok (.i2c, 1) := by decide +kernel
theorem d_C_charAt_14 : decode b_C_charAt 14 = .ok (.ireturn, 1) := by decide +kernel

abbrev b_C_equals : ByteArray := prog_21_method_13_code
def y_C_equals : MethodName := ⟨"java/lang/StringLatin1", "equals", "([B[B)Z"⟩
theorem d_C_equals_0 : decode b_C_equals 0 = .ok (.aload_n 0, 1) := by decide +kernel
theorem d_C_equals_1 : decode b_C_equals 1 = .ok (.arraylength, 1) := by decide +kernel
theorem d_C_equals_2 : decode b_C_equals 2 = .ok (.aload_n 1, 1) := by decide +kernel
theorem d_C_equals_3 : decode b_C_equals 3 = .ok (.arraylength, 1) := by decide +kernel
theorem d_C_equals_4 : decode b_C_equals 4 = .ok (.if_icmp .ne 30, 3) := by decide +kernel
theorem d_C_equals_7 : decode b_C_equals 7 = .ok (.iconst 0, 1) := by decide +kernel
theorem d_C_equals_8 : decode b_C_equals 8 = .ok (.istore_n 2, 1) := by decide +kernel
theorem d_C_equals_9 : decode b_C_equals 9 = .ok (.iload_n 2, 1) := by decide +kernel
theorem d_C_equals_10 : decode b_C_equals 10 = .ok (.aload_n 0, 1) := by decide +kernel
theorem d_C_equals_11 : decode b_C_equals 11 = .ok (.arraylength, 1) := by decide +kernel
theorem d_C_equals_12 : decode b_C_equals 12 = .ok (.if_icmp .ge 20, 3) := by decide +kernel
theorem d_C_equals_15 : decode b_C_equals 15 = .ok (.aload_n 0, 1) := by decide +kernel
theorem d_C_equals_16 : decode b_C_equals 16 = .ok (.iload_n 2, 1) := by decide +kernel
theorem d_C_equals_17 : decode b_C_equals 17 = .ok (.baload, 1) := by decide +kernel
theorem d_C_equals_18 : decode b_C_equals 18 = .ok (.aload_n 1, 1) := by decide +kernel
theorem d_C_equals_19 : decode b_C_equals 19 = .ok (.iload_n 2, 1) := by decide +kernel
theorem d_C_equals_20 : decode b_C_equals 20 = .ok (.baload, 1) := by decide +kernel
theorem d_C_equals_21 : decode b_C_equals 21 = .ok (.if_icmp .eq 5, 3) := by decide +kernel
theorem d_C_equals_24 : decode b_C_equals 24 = .ok (.iconst 0, 1) := by decide +kernel
theorem d_C_equals_25 : decode b_C_equals 25 = .ok (.ireturn, 1) := by decide +kernel
theorem d_C_equals_26 : decode b_C_equals 26 = .ok (.iinc 2 1, 3) := by decide +kernel
theorem d_C_equals_29 : decode b_C_equals 29 = .ok (.goto (-20), 3) := by decide +kernel
theorem d_C_equals_32 : decode b_C_equals 32 = .ok (.iconst 1, 1) := by decide +kernel
theorem d_C_equals_33 : decode b_C_equals 33 = .ok (.ireturn, 1) := by decide +kernel
theorem d_C_equals_34 : decode b_C_equals 34 = .ok (.iconst 0, 1) := by decide +kernel
theorem d_C_equals_35 : decode b_C_equals 35 = .ok (.ireturn, 1) := by decide +kernel

abbrev b_S_equals : ByteArray := prog_19_method_66_code
def y_S_equals : MethodName := ⟨"java/lang/String", "equals", "(Ljava/lang/Object;)Z"⟩
theorem d_S_equals_0 : decode b_S_equals 0 = .ok (.aload_n 0, 1) := by decide +kernel
theorem d_S_equals_1 : decode b_S_equals 1 = .ok (.aload_n 1, 1) := by decide +kernel
theorem d_S_equals_2 : decode b_S_equals 2 = .ok (.if_acmp .ne 5, 3) := by decide +kernel
theorem d_S_equals_5 : decode b_S_equals 5 = .ok (.iconst 1, 1) := by decide +kernel
theorem d_S_equals_6 : decode b_S_equals 6 = .ok (.ireturn, 1) := by decide +kernel
theorem d_S_equals_7 : decode b_S_equals 7 = .ok (.aload_n 1, 1) := by decide +kernel
theorem d_S_equals_8 : decode b_S_equals 8 = .ok (.instanceof 10, 3) := by decide +kernel
theorem d_S_equals_11 : decode b_S_equals 11 = .ok (.ifCond .eq 43, 3) := by decide +kernel
theorem d_S_equals_14 : decode b_S_equals 14 = .ok (.aload_n 1, 1) := by decide +kernel
theorem d_S_equals_15 : decode b_S_equals 15 = .ok (.checkcast 10, 3) := by decide +kernel
theorem d_S_equals_18 : decode b_S_equals 18 = .ok (.astore_n 2, 1) := by decide +kernel
theorem d_S_equals_19 : decode b_S_equals 19 = .ok (.getstatic 38, 3) := by decide +kernel
theorem d_S_equals_22 : decode b_S_equals 22 = .ok (.ifCond .eq 14, 3) := by decide +kernel
theorem d_S_equals_25 : decode b_S_equals 25 = .ok (.aload_n 0, 1) := by decide +kernel
theorem d_S_equals_26 : decode b_S_equals 26 = .ok (.getfield 15, 3) := by decide +kernel
theorem d_S_equals_29 : decode b_S_equals 29 = .ok (.aload_n 2, 1) := by decide +kernel
theorem d_S_equals_30 : decode b_S_equals 30 = .ok (.getfield 15, 3) := by decide +kernel
theorem d_S_equals_33 : decode b_S_equals 33 = .ok (.if_icmp .ne 21, 3) := by decide +kernel
theorem d_S_equals_36 : decode b_S_equals 36 = .ok (.aload_n 0, 1) := by decide +kernel
theorem d_S_equals_37 : decode b_S_equals 37 = .ok (.getfield 9, 3) := by decide +kernel
theorem d_S_equals_40 : decode b_S_equals 40 = .ok (.aload_n 2, 1) := by decide +kernel
theorem d_S_equals_41 : decode b_S_equals 41 = .ok (.getfield 9, 3) := by decide +kernel
theorem d_S_equals_44 : decode b_S_equals 44 = .ok (.invokestatic 541, 3) := by decide +kernel
theorem d_S_equals_47 : decode b_S_equals 47 = .ok (.ifCond .eq 7, 3) := by decide +kernel
theorem d_S_equals_50 : decode b_S_equals 50 = .ok (.iconst 1, 1) := by decide +kernel
theorem d_S_equals_51 : decode b_S_equals 51 = .ok (.goto 4, 3) := by decide +kernel
theorem d_S_equals_54 : decode b_S_equals 54 = .ok (.iconst 0, 1) := by decide +kernel
theorem d_S_equals_55 : decode b_S_equals 55 = .ok (.ireturn, 1) := by decide +kernel

set_option maxHeartbeats 4000000 in
set_option maxRecDepth 100000 in
/-- String.coder() -/
theorem c_S_coder (l : Launch) (g : gG) (H : Heap) (a v : Nat) (f0 : sO g H a v) : Met l y_S_coder (wC y_S_coder b_S_coder 1 (some .byte)) (rmk 0 0 0 0) (pC g H [.ref a]) (qP H (fun v => v = some (.int 0))) 0 0 no_ := by
  refine mB (by decide) (Nat.le_of_ble_eq_true rfl) ?_
  intro p e s m below meth c ls C0 hH hZ hnm hl
  have C0 : cF g p s m _ meth c b_S_coder 1 "java/lang/String" (some .byte) := C0
  obtain ⟨hx, hb, hml, hown, hts, hr, hlk, hK⟩ := id C0
  subst hH
  have hl : lv_has ls 1 [(0, .ref a)] := hl
  refine va_gets hx hb hZ.1 va_S.rf hown (hts (.fieldLink "java/lang/String" 38 "java/lang/String" "COMPACT_STRINGS" "Z") (in_1 (List.mem_of_getElem? (i := 93) rfl) rfl)) (fun _ h9 => h9) d_S_coder_0 ?_
  refine lv_if_eq (tgt := 13) hx hb d_S_coder_3 (by decide) (fun c3 => ?_) (fun c3 => ?_)
  · skip
    first | exact absurd c3 (by decide) | exact absurd (by decide) c3
  · skip
    refine lv_aload_n hx hb d_S_coder_6 rfl (lv_at hl 0 rfl) ?_
    refine s_get hx hb hts hown hK f0 1 (by decide) (hts (.fieldLink "java/lang/String" 15 "java/lang/String" "coder" "B") (in_2 (List.mem_of_getElem? (i := 147) rfl) rfl)) d_S_coder_7 ?_
    refine W.eq (g2 := F0 m 10 ls [.int 0]) rfl ?_
    refine lv_goto (tgt := 14) hx hb d_S_coder_10 (by decide) ?_
    exact W.zret hx hb hr rfl (fun t9 ht hW => ⟨_, rfl, rfl, ht⟩) (fun q h => by cases h) d_S_coder_14 hlk
set_option maxHeartbeats 4000000 in
set_option maxRecDepth 100000 in
/-- String.isLatin1() -/
theorem c_S_isLatin1 (l : Launch) (g : gG) (H : Heap) (a v : Nat) (f0 : sO g H a v) : Met l y_S_isLatin1 (wC y_S_isLatin1 b_S_isLatin1 1 (some .boolean)) (rmk 0 0 0 0) (pC g H [.ref a]) (qP H (fun v => v = some (.int 1))) 0 0 no_ := by
  refine mB (by decide) (Nat.le_of_ble_eq_true rfl) ?_
  intro p e s m below meth c ls C0 hH hZ hnm hl
  have C0 : cF g p s m _ meth c b_S_isLatin1 1 "java/lang/String" (some .boolean) := C0
  obtain ⟨hx, hb, hml, hown, hts, hr, hlk, hK⟩ := id C0
  subst hH
  have hl : lv_has ls 1 [(0, .ref a)] := hl
  refine va_gets hx hb hZ.1 va_S.rf hown (hts (.fieldLink "java/lang/String" 38 "java/lang/String" "COMPACT_STRINGS" "Z") (in_1 (List.mem_of_getElem? (i := 93) rfl) rfl)) (fun _ h9 => h9) d_S_isLatin1_0 ?_
  refine lv_if_eq (tgt := 17) hx hb d_S_isLatin1_3 (by decide) (fun c3 => ?_) (fun c3 => ?_)
  · skip
    first | exact absurd c3 (by decide) | exact absurd (by decide) c3
  · skip
    refine lv_aload_n hx hb d_S_isLatin1_6 rfl (lv_at hl 0 rfl) ?_
    refine s_get hx hb hts hown hK f0 1 (by decide) (hts (.fieldLink "java/lang/String" 15 "java/lang/String" "coder" "B") (in_2 (List.mem_of_getElem? (i := 147) rfl) rfl)) d_S_isLatin1_7 ?_
    refine W.eq (g2 := F0 m 10 ls [.int 0]) rfl ?_
    refine lv_if_ne (tgt := 17) hx hb d_S_isLatin1_10 (by decide) (fun c10 => ?_) (fun c10 => ?_)
    · skip
      first | exact absurd c10 (by decide) | exact absurd (by decide) c10
    · skip
      refine lv_iconst (v := 1) hx hb d_S_isLatin1_13 (by decide) ?_
      refine lv_goto (tgt := 18) hx hb d_S_isLatin1_14 (by decide) ?_
      exact W.zret hx hb hr rfl (fun t9 ht hW => ⟨_, rfl, rfl, ht⟩) (fun q h => by cases h) d_S_isLatin1_18 hlk
theorem k_S_length_6 : kV "java/lang/String" 335 "java/lang/String" y_S_coder b_S_coder 1 (some .byte) 0 := ⟨(in_1 (List.mem_of_getElem? (i := 89) rfl) rfl), (in_1 (List.mem_of_getElem? (i := 90) rfl) rfl), (in_1 (List.mem_of_getElem? (i := 91) rfl) rfl), (in_1 (List.mem_of_getElem? (i := 4) rfl) rfl), (in_1 (List.mem_of_getElem? (i := 92) rfl) rfl), ⟨by decide, by decide, by decide +kernel⟩⟩
set_option maxHeartbeats 4000000 in
set_option maxRecDepth 100000 in
/-- String.length() -/
theorem c_S_length (l : Launch) (g : gG) (H : Heap) (a v n : Nat) (f : Nat → Int32) (f0 : sO g H a v) (f1 : bA g H v n f) : Met l y_S_length (wC y_S_length b_S_length 1 (some .int)) (rmk 1 0 0 20) (pC g H [.ref a]) (qP H (fun v => v = some (.int (nI n)))) 0 0 no_ := by
  refine mB (by decide) (Nat.le_of_ble_eq_true rfl) ?_
  intro p e s m below meth c ls C0 hH hZ hnm hl
  have C0 : cF g p s m _ meth c b_S_length 1 "java/lang/String" (some .int) := C0
  obtain ⟨hx, hb, hml, hown, hts, hr, hlk, hK⟩ := id C0
  subst hH
  have hl : lv_has ls 1 [(0, .ref a)] := hl
  refine lv_aload_n hx hb d_S_length_0 rfl (lv_at hl 0 rfl) ?_
  refine s_get hx hb hts hown hK f0 0 (by decide) (hts (.fieldLink "java/lang/String" 9 "java/lang/String" "value" "[B") (in_2 (List.mem_of_getElem? (i := 146) rfl) rfl)) d_S_length_1 ?_
  refine W.eq (g2 := F0 m 4 ls [.ref v]) rfl ?_
  refine b_len hx hb hK f1 d_S_length_4 ?_
  refine lv_aload_n hx hb d_S_length_5 rfl (lv_at hl 0 rfl) ?_
  refine aP (rV (As := []) (rest := [.int (nI n)]) C0 (c_S_coder l g s.heap a v f0) hZ k_S_length_6 rfl rfl ⟨Nat.le_of_ble_eq_true rfl, Nat.le_of_ble_eq_true rfl⟩ (s_recv hK f0) rfl hl.1 rfl (Nat.le_of_ble_eq_true rfl) d_S_length_6 ⟨Nat.zero_le _, Nat.zero_le _⟩) ?_
  intro v hv; subst hv
  refine W.eq (g2 := F0 m 9 ls [.int 0, .int (nI n)]) rfl ?_
  refine lv_ishr hx hb d_S_length_9 ?_
  exact W.iret hx hb hr (fun t9 ht hW => ⟨_, rfl, by rw [sb_shr0], ht⟩) (fun q h => by cases h) d_S_length_10 hlk

abbrev b_P_checkIndex0 : ByteArray := prog_27_method_11_code
def y_P_checkIndex0 : MethodName := ⟨"jdk/internal/util/Preconditions", "checkIndex", "(IILjava/util/function/BiFunction;)I"⟩
theorem d_P_checkIndex0_0 : decode b_P_checkIndex0 0 = .ok (.iload_n 0, 1) := by decide +kernel
theorem d_P_checkIndex0_1 : decode b_P_checkIndex0 1 = .ok (.ifCond .lt 8, 3) := by decide +kernel
theorem d_P_checkIndex0_4 : decode b_P_checkIndex0 4 = .ok (.iload_n 0, 1) := by decide +kernel
theorem d_P_checkIndex0_5 : decode b_P_checkIndex0 5 = .ok (.iload_n 1, 1) := by decide +kernel
theorem d_P_checkIndex0_6 : decode b_P_checkIndex0 6 = .ok (.if_icmp .lt 10, 3) := by decide +kernel
theorem d_P_checkIndex0_9 : decode b_P_checkIndex0 9 = .ok (.aload_n 2, 1) := by decide +kernel
theorem d_P_checkIndex0_10 : decode b_P_checkIndex0 10 = .ok (.iload_n 0, 1) := by decide +kernel
theorem d_P_checkIndex0_11 : decode b_P_checkIndex0 11 = .ok (.iload_n 1, 1) := by decide +kernel
theorem d_P_checkIndex0_12 : decode b_P_checkIndex0 12 = .ok (.invokestatic 95, 3) := by decide +kernel
theorem d_P_checkIndex0_15 : decode b_P_checkIndex0 15 = .ok (.athrow, 1) := by decide +kernel
theorem d_P_checkIndex0_16 : decode b_P_checkIndex0 16 = .ok (.iload_n 0, 1) := by decide +kernel
theorem d_P_checkIndex0_17 : decode b_P_checkIndex0 17 = .ok (.ireturn, 1) := by decide +kernel

abbrev b_S_checkIndex : ByteArray := prog_19_method_155_code
def y_S_checkIndex : MethodName := ⟨"java/lang/String", "checkIndex", "(II)V"⟩
theorem d_S_checkIndex_0 : decode b_S_checkIndex 0 = .ok (.iload_n 0, 1) := by decide +kernel
theorem d_S_checkIndex_1 : decode b_S_checkIndex 1 = .ok (.iload_n 1, 1) := by decide +kernel
theorem d_S_checkIndex_2 : decode b_S_checkIndex 2 = .ok (.getstatic 1053, 3) := by decide +kernel
theorem d_S_checkIndex_5 : decode b_S_checkIndex 5 = .ok (.invokestatic 1059, 3) := by decide +kernel
theorem d_S_checkIndex_8 : decode b_S_checkIndex 8 = .ok (.pop, 1) := by decide +kernel
theorem d_S_checkIndex_9 : decode b_S_checkIndex 9 = .ok (.return_, 1) := by decide +kernel

theorem k_S_checkIndex_5 : kS "java/lang/String" 1059 y_P_checkIndex0 b_P_checkIndex0 3 (some .int) 3 := ⟨(in_1 (List.mem_of_getElem? (i := 110) rfl) rfl), (in_1 (List.mem_of_getElem? (i := 111) rfl) rfl), (in_1 (List.mem_of_getElem? (i := 9) rfl) rfl), (in_1 (List.mem_of_getElem? (i := 112) rfl) rfl), ⟨by decide, by decide, by decide +kernel⟩⟩
set_option maxHeartbeats 4000000 in
set_option maxRecDepth 100000 in
/-- Preconditions.checkIndex, in range -/
theorem c_P_checkIndex0 (l : Launch) (g : gG) (H : Heap) (i : Int32) (n : Nat) (r : Option Nat) (hi : vp_in i n) (hn : n < 2 ^ 31) : Met l y_P_checkIndex0 (wC y_P_checkIndex0 b_P_checkIndex0 3 (some .int)) (rmk 0 0 0 0) (pC g H [.int i, .int (nI n), va_rf r]) (qP H (fun v => v = some (.int i))) 0 0 no_ := by
  refine mB (by decide) (by cases r <;> exact Nat.le_of_ble_eq_true rfl) ?_
  intro p e s m below meth c ls C0 hH hZ hnm hl
  have C0 : cF g p s m _ meth c b_P_checkIndex0 3 "jdk/internal/util/Preconditions" (some .int) := C0
  obtain ⟨hx, hb, hml, hown, hts, hr, hlk, hK⟩ := id C0
  subst hH
  have hl : lv_has ls 3 [(0, .int i), (1, .int (nI n)), (2, va_rf r)] := hl
  have hl := hl
  refine lv_iload_n hx hb d_P_checkIndex0_0 rfl (lv_at hl 0 rfl) ?_
  refine lv_if_lt (tgt := 9) hx hb d_P_checkIndex0_1 (by decide) (fun c1 => ?_) (fun c1 => ?_)
  · skip
    exact absurd c1 (fun z => hi (Or.inl z))
  · skip
    refine lv_iload_n hx hb d_P_checkIndex0_4 rfl (lv_at hl 0 rfl) ?_
    refine lv_iload_n hx hb d_P_checkIndex0_5 rfl (lv_at hl 1 rfl) ?_
    refine lv_icmp_lt (tgt := 16) hx hb d_P_checkIndex0_6 (by decide) (fun c6 => ?_) (fun c6 => ?_)
    · skip
      refine lv_iload_n hx hb d_P_checkIndex0_16 rfl (lv_at hl 0 rfl) ?_
      exact W.iret hx hb hr (fun t9 ht hW => ⟨_, rfl, rfl, ht⟩) (fun q h => by cases h) d_P_checkIndex0_17 hlk
    · skip
      exact absurd (show i < nI n from by obtain ⟨j, hj, e⟩ := vp_in_of hi hn; rw [e]; exact nI_lt hj hn) c6
set_option maxHeartbeats 4000000 in
set_option maxRecDepth 100000 in
/-- String.checkIndex, in range -/
theorem c_S_checkIndex (l : Launch) (g : gG) (H : Heap) (i : Int32) (n : Nat) (hi : vp_in i n) (hn : n < 2 ^ 31) : Met l y_S_checkIndex (wC y_S_checkIndex b_S_checkIndex 2 none) (rmk 1 0 0 22) (pC g H [.int i, .int (nI n)]) (qP H (fun v => v = none)) 0 0 no_ := by
  refine mB (by decide) (Nat.le_of_ble_eq_true rfl) ?_
  intro p e s m below meth c ls C0 hH hZ hnm hl
  have C0 : cF g p s m _ meth c b_S_checkIndex 2 "java/lang/String" none := C0
  obtain ⟨hx, hb, hml, hown, hts, hr, hlk, hK⟩ := id C0
  subst hH
  have hl : lv_has ls 2 [(0, .int i), (1, .int (nI n))] := hl
  refine lv_iload_n hx hb d_S_checkIndex_0 rfl (lv_at hl 0 rfl) ?_
  refine lv_iload_n hx hb d_S_checkIndex_1 rfl (lv_at hl 1 rfl) ?_
  obtain ⟨r0, hr0⟩ := hZ.2.1
  refine va_gets hx hb hr0 va_S.rf hown (hts (.fieldLink "java/lang/String" 1053 "jdk/internal/util/Preconditions" "SIOOBE_FORMATTER" "Ljava/util/function/BiFunction;") (in_1 (List.mem_of_getElem? (i := 108) rfl) rfl)) (fun _ h9 => h9) d_S_checkIndex_2 ?_
  refine aP (rS (As := [.int i, .int (nI n), va_rf r0]) (rest := []) C0 (c_P_checkIndex0 l g s.heap i n r0 hi hn) hZ k_S_checkIndex_5 rfl rfl ⟨Nat.le_of_ble_eq_true rfl, Nat.le_of_ble_eq_true rfl⟩ rfl hl.1 rfl (Nat.le_of_ble_eq_true rfl) d_S_checkIndex_5 ⟨Nat.zero_le _, Nat.zero_le _⟩) ?_
  intro v hv; subst hv
  refine W.eq (g2 := F0 m 8 ls [.int i]) rfl ?_
  refine lv_pop hx hb d_S_checkIndex_8 rfl ?_
  exact W.vret hx hb hr (fun t9 ht hW => ⟨_, rfl, rfl, ht⟩) (fun q h => by cases h) d_S_checkIndex_9 hlk
theorem k_C_charAt_3 : kS "java/lang/StringLatin1" 9 y_S_checkIndex b_S_checkIndex 2 none 2 := ⟨(in_1 (List.mem_of_getElem? (i := 105) rfl) rfl), (in_1 (List.mem_of_getElem? (i := 106) rfl) rfl), (in_1 (List.mem_of_getElem? (i := 4) rfl) rfl), (in_1 (List.mem_of_getElem? (i := 107) rfl) rfl), ⟨by decide, by decide, by decide +kernel⟩⟩
set_option maxHeartbeats 4000000 in
set_option maxRecDepth 100000 in
/-- StringLatin1.charAt -/
theorem c_C_charAt (l : Launch) (g : gG) (H : Heap) (v n : Nat) (f : Nat → Int32) (i : Int32) (f1 : bA g H v n f) (hi : vp_in i n) (hn : n < 2 ^ 31) (hc : (((f i.toNatClampNeg) &&& 255).toUInt32 % 65536).toInt32 = f i.toNatClampNeg) (hw : narrow .char (.int (f i.toNatClampNeg)) = .int (f i.toNatClampNeg)) : Met l y_C_charAt (wC y_C_charAt b_C_charAt 2 (some .char)) (rmk 2 0 0 43) (pC g H [.ref v, .int i]) (qP H (fun v => v = some (.int (f i.toNatClampNeg)))) 0 0 no_ := by
  refine mB (by decide) (Nat.le_of_ble_eq_true rfl) ?_
  intro p e s m below meth c ls C0 hH hZ hnm hl
  have C0 : cF g p s m _ meth c b_C_charAt 2 "java/lang/StringLatin1" (some .char) := C0
  obtain ⟨hx, hb, hml, hown, hts, hr, hlk, hK⟩ := id C0
  subst hH
  have hl : lv_has ls 2 [(0, .ref v), (1, .int i)] := hl
  refine lv_iload_n hx hb d_C_charAt_0 rfl (lv_at hl 1 rfl) ?_
  refine lv_aload_n hx hb d_C_charAt_1 rfl (lv_at hl 0 rfl) ?_
  refine b_len hx hb hK f1 d_C_charAt_2 ?_
  refine aP (rS (As := [.int i, .int (nI n)]) (rest := []) C0 (c_S_checkIndex l g s.heap i n hi hn) hZ k_C_charAt_3 rfl rfl ⟨Nat.le_of_ble_eq_true rfl, Nat.le_of_ble_eq_true rfl⟩ rfl hl.1 rfl (Nat.le_of_ble_eq_true rfl) d_C_charAt_3 ⟨Nat.zero_le _, Nat.zero_le _⟩) ?_
  intro v hv; subst hv
  refine W.eq (g2 := F0 m 6 ls []) rfl ?_
  refine lv_aload_n hx hb d_C_charAt_6 rfl (lv_at hl 0 rfl) ?_
  refine lv_iload_n hx hb d_C_charAt_7 rfl (lv_at hl 1 rfl) ?_
  refine b_ld hx hb hK f1 hi d_C_charAt_8 ?_
  refine lv_sipush (v := 255) hx hb d_C_charAt_9 (by decide) ?_
  refine lv_iand hx hb d_C_charAt_12 ?_
  refine lv_i2c hx hb d_C_charAt_13 hc ?_
  exact W.zret hx hb hr hw (fun t9 ht hW => ⟨_, rfl, rfl, ht⟩) (fun q h => by cases h) d_C_charAt_14 hlk
theorem k_S_charAt_1 : kV "java/lang/String" 492 "java/lang/String" y_S_isLatin1 b_S_isLatin1 1 (some .boolean) 0 := ⟨(in_1 (List.mem_of_getElem? (i := 98) rfl) rfl), (in_1 (List.mem_of_getElem? (i := 99) rfl) rfl), (in_1 (List.mem_of_getElem? (i := 100) rfl) rfl), (in_1 (List.mem_of_getElem? (i := 4) rfl) rfl), (in_1 (List.mem_of_getElem? (i := 101) rfl) rfl), ⟨by decide, by decide, by decide +kernel⟩⟩
theorem k_S_charAt_12 : kS "java/lang/String" 495 y_C_charAt b_C_charAt 2 (some .char) 2 := ⟨(in_1 (List.mem_of_getElem? (i := 102) rfl) rfl), (in_1 (List.mem_of_getElem? (i := 103) rfl) rfl), (in_1 (List.mem_of_getElem? (i := 8) rfl) rfl), (in_1 (List.mem_of_getElem? (i := 104) rfl) rfl), ⟨by decide, by decide, by decide +kernel⟩⟩
set_option maxHeartbeats 4000000 in
set_option maxRecDepth 100000 in
/-- String.charAt -/
theorem c_S_charAt (l : Launch) (g : gG) (H : Heap) (a v n : Nat) (f : Nat → Int32) (i : Int32) (f0 : sO g H a v) (f1 : bA g H v n f) (hi : vp_in i n) (hn : n < 2 ^ 31) (hc : (((f i.toNatClampNeg) &&& 255).toUInt32 % 65536).toInt32 = f i.toNatClampNeg) (hw : narrow .char (.int (f i.toNatClampNeg)) = .int (f i.toNatClampNeg)) : Met l y_S_charAt (wC y_S_charAt b_S_charAt 2 (some .char)) (rmk 3 0 0 64) (pC g H [.ref a, .int i]) (qP H (fun v => v = some (.int (f i.toNatClampNeg)))) 0 0 no_ := by
  refine mB (by decide) (Nat.le_of_ble_eq_true rfl) ?_
  intro p e s m below meth c ls C0 hH hZ hnm hl
  have C0 : cF g p s m _ meth c b_S_charAt 2 "java/lang/String" (some .char) := C0
  obtain ⟨hx, hb, hml, hown, hts, hr, hlk, hK⟩ := id C0
  subst hH
  have hl : lv_has ls 2 [(0, .ref a), (1, .int i)] := hl
  refine lv_aload_n hx hb d_S_charAt_0 rfl (lv_at hl 0 rfl) ?_
  refine aP (rV (As := []) (rest := []) C0 (c_S_isLatin1 l g s.heap a v f0) hZ k_S_charAt_1 rfl rfl ⟨Nat.le_of_ble_eq_true rfl, Nat.le_of_ble_eq_true rfl⟩ (s_recv hK f0) rfl hl.1 rfl (Nat.le_of_ble_eq_true rfl) d_S_charAt_1 ⟨Nat.zero_le _, Nat.zero_le _⟩) ?_
  intro v hv; subst hv
  refine W.eq (g2 := F0 m 4 ls [.int 1]) rfl ?_
  refine lv_if_eq (tgt := 16) hx hb d_S_charAt_4 (by decide) (fun c4 => ?_) (fun c4 => ?_)
  · skip
    first | exact absurd c4 (by decide) | exact absurd (by decide) c4
  · skip
    refine lv_aload_n hx hb d_S_charAt_7 rfl (lv_at hl 0 rfl) ?_
    refine s_get hx hb hts hown hK f0 0 (by decide) (hts (.fieldLink "java/lang/String" 9 "java/lang/String" "value" "[B") (in_2 (List.mem_of_getElem? (i := 146) rfl) rfl)) d_S_charAt_8 ?_
    refine W.eq (g2 := F0 m 11 ls [.ref v]) rfl ?_
    refine lv_iload_n hx hb d_S_charAt_11 rfl (lv_at hl 1 rfl) ?_
    refine aP (rS (As := [.ref v, .int i]) (rest := []) C0 (c_C_charAt l g s.heap v n f i f1 hi hn hc hw) hZ k_S_charAt_12 rfl rfl ⟨Nat.le_of_ble_eq_true rfl, Nat.le_of_ble_eq_true rfl⟩ rfl hl.1 rfl (Nat.le_of_ble_eq_true rfl) d_S_charAt_12 ⟨Nat.zero_le _, Nat.zero_le _⟩) ?_
    intro v hv; subst hv
    refine W.eq (g2 := F0 m 15 ls [.int (f i.toNatClampNeg)]) rfl ?_
    exact W.zret hx hb hr hw (fun t9 ht hW => ⟨_, rfl, rfl, ht⟩) (fun q h => by cases h) d_S_charAt_15 hlk
