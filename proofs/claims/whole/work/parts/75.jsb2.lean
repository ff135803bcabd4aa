set_option maxHeartbeats 4000000 in
set_option maxRecDepth 100000 in
/-- AbstractStringBuilder.isLatin1() -/
theorem c_A_isLatin1 (l : Launch) (g : gG) (H : Heap) (b v n : Nat) (mb : Int32) (f0 : ob g H b 7 [.ref v, .int 0, .int mb, .int (nI n)]) : Met l y_A_isLatin1 (wC y_A_isLatin1 b_A_isLatin1 1 (some .boolean)) (rmk 0 0 0 0) (pC g H [.ref b]) (qP H (fun v => v = some (.int 1))) 0 0 no_ := by
  refine mB (by decide) (Nat.le_of_ble_eq_true rfl) ?_
  intro p e s m below meth c ls C0 hH hZ hnm hl
  have C0 : cF g p s m _ meth c b_A_isLatin1 1 "java/lang/AbstractStringBuilder" (some .boolean) := C0
  obtain ⟨hx, hb, hml, hown, hts, hr, hlk, hK⟩ := id C0
  subst hH
  have hl : lv_has ls 1 [(0, .ref b)] := hl
  have hS : va_S (fW s.heap no_) s.heap s.heap [] := hS_rf
  refine va_gets hx hb hZ.1 va_S.rf hown (hts (.fieldLink "java/lang/AbstractStringBuilder" 18 "java/lang/String" "COMPACT_STRINGS" "Z") (in_1 (List.mem_of_getElem? (i := 43) rfl) rfl)) (fun _ h9 => h9) d_A_isLatin1_0 ?_
  refine lv_if_eq (tgt := 17) hx hb d_A_isLatin1_3 (by decide) (fun c3 => ?_) (fun c3 => ?_)
  · skip
    first | exact absurd c3 (by decide) | exact absurd (by decide) c3
  · skip
    refine lv_aload_n hx hb d_A_isLatin1_6 rfl (lv_at hl 0 rfl) ?_
    refine va_get (D := g.1) (ci := 7) (C := R_B) (T := F_B) (N := 4) hx hb hts i_B hown hK.1 f0 0 rfl rfl 1 (by decide) (hts (.fieldLink "java/lang/AbstractStringBuilder" 22 "java/lang/AbstractStringBuilder" "coder" "B") (in_1 (List.mem_of_getElem? (i := 53) rfl) rfl)) (fun _ h9 => h9) rfl d_A_isLatin1_7 ?_
    refine lv_if_ne (tgt := 17) hx hb d_A_isLatin1_10 (by decide) (fun c10 => ?_) (fun c10 => ?_)
    · skip
      first | exact absurd c10 (by decide) | exact absurd (by decide) c10
    · skip
      refine lv_iconst (v := nI 1) hx hb d_A_isLatin1_13 (by decide) ?_
      refine lv_goto (tgt := 18) hx hb d_A_isLatin1_14 (by decide) ?_
      exact W.zret hx hb hr rfl (fun t9 ht hW => ⟨_, rfl, rfl, ht⟩) (fun q h => by cases h) d_A_isLatin1_18 hlk
set_option maxHeartbeats 4000000 in
set_option maxRecDepth 100000 in
/-- StringLatin1.canEncode -/
theorem c_C_canEncode0 (l : Launch) (g : gG) (H : Heap) (cc : Nat) (hc : cc < 128) : Met l y_C_canEncode0 (wC y_C_canEncode0 b_C_canEncode0 1 (some .boolean)) (rmk 0 0 0 0) (pC g H [.int (nI cc)]) (qP H (fun v => v = some (.int 1))) 0 0 no_ := by
  refine mB (by decide) (Nat.le_of_ble_eq_true rfl) ?_
  intro p e s m below meth c ls C0 hH hZ hnm hl
  have C0 : cF g p s m _ meth c b_C_canEncode0 1 "java/lang/StringLatin1" (some .boolean) := C0
  obtain ⟨hx, hb, hml, hown, hts, hr, hlk, hK⟩ := id C0
  subst hH
  have hl : lv_has ls 1 [(0, .int (nI cc))] := hl
  have hS : va_S (fW s.heap no_) s.heap s.heap [] := hS_rf
  refine lv_iload_n hx hb d_C_canEncode0_0 rfl (lv_at hl 0 rfl) ?_
  refine lv_sipush (v := nI 255) hx hb d_C_canEncode0_1 (by decide) ?_
  refine n_gt (tgt := 11) (a := cc) (b := 255) hx hb d_C_canEncode0_4 (by decide) (by omega) (by omega) (fun c4 => ?_) (fun c4 => ?_)
  · skip
    exact absurd c4 (by omega)
  · skip
    refine lv_iconst (v := nI 1) hx hb d_C_canEncode0_7 (by decide) ?_
    refine lv_goto (tgt := 12) hx hb d_C_canEncode0_8 (by decide) ?_
    exact W.zret hx hb hr rfl (fun t9 ht hW => ⟨_, rfl, rfl, ht⟩) (fun q h => by cases h) d_C_canEncode0_12 hlk
set_option maxHeartbeats 4000000 in
set_option maxRecDepth 100000 in
/-- AbstractStringBuilder.length() -/
theorem c_A_length (l : Launch) (g : gG) (H : Heap) (b v n : Nat) (mb : Int32) (f0 : ob g H b 7 [.ref v, .int 0, .int mb, .int (nI n)]) : Met l y_A_length (wC y_A_length b_A_length 1 (some .int)) (rmk 0 0 0 0) (pC g H [.ref b]) (qP H (fun v => v = some (.int (nI n)))) 0 0 no_ := by
  refine mB (by decide) (Nat.le_of_ble_eq_true rfl) ?_
  intro p e s m below meth c ls C0 hH hZ hnm hl
  have C0 : cF g p s m _ meth c b_A_length 1 "java/lang/AbstractStringBuilder" (some .int) := C0
  obtain ⟨hx, hb, hml, hown, hts, hr, hlk, hK⟩ := id C0
  subst hH
  have hl : lv_has ls 1 [(0, .ref b)] := hl
  have hS : va_S (fW s.heap no_) s.heap s.heap [] := hS_rf
  refine lv_aload_n hx hb d_A_length_0 rfl (lv_at hl 0 rfl) ?_
  refine va_get (D := g.1) (ci := 7) (C := R_B) (T := F_B) (N := 4) hx hb hts i_B hown hK.1 f0 0 rfl rfl 3 (by decide) (hts (.fieldLink "java/lang/AbstractStringBuilder" 79 "java/lang/AbstractStringBuilder" "count" "I") (in_1 (List.mem_of_getElem? (i := 56) rfl) rfl)) (fun _ h9 => h9) rfl d_A_length_1 ?_
  exact W.iret hx hb hr (fun t9 ht hW => ⟨_, rfl, rfl, ht⟩) (fun q h => by cases h) d_A_length_4 hlk
set_option maxHeartbeats 4000000 in
set_option maxRecDepth 100000 in
/-- AbstractStringBuilder.getValue() -/
theorem c_A_getValue (l : Launch) (g : gG) (H : Heap) (b w n : Nat) (mb : Int32) (f0 : ob g H b 7 [.ref w, .int 0, .int mb, .int (nI n)]) : Met l y_A_getValue (wC y_A_getValue b_A_getValue 1 (some (.array .byte))) (rmk 0 0 0 0) (pC g H [.ref b]) (qP H (fun v => v = some (.ref w))) 0 0 no_ := by
  refine mB (by decide) (Nat.le_of_ble_eq_true rfl) ?_
  intro p e s m below meth c ls C0 hH hZ hnm hl
  have C0 : cF g p s m _ meth c b_A_getValue 1 "java/lang/AbstractStringBuilder" (some (.array .byte)) := C0
  obtain ⟨hx, hb, hml, hown, hts, hr, hlk, hK⟩ := id C0
  subst hH
  have hl : lv_has ls 1 [(0, .ref b)] := hl
  have hS : va_S (fW s.heap no_) s.heap s.heap [] := hS_rf
  refine lv_aload_n hx hb d_A_getValue_0 rfl (lv_at hl 0 rfl) ?_
  refine va_get (D := g.1) (ci := 7) (C := R_B) (T := F_B) (N := 4) hx hb hts i_B hown hK.1 f0 0 rfl rfl 0 (by decide) (hts (.fieldLink "java/lang/AbstractStringBuilder" 15 "java/lang/AbstractStringBuilder" "value" "[B") (in_1 (List.mem_of_getElem? (i := 52) rfl) rfl)) (fun _ h9 => h9) rfl d_A_getValue_1 ?_
  exact W.aret hx hb hr (Or.inr ⟨_, rfl⟩) (Or.inr ⟨_, rfl⟩) (fun t9 ht hW => ⟨_, rfl, rfl, ht⟩) (fun q h => by cases h) d_A_getValue_4 hlk
theorem k_B_length_1 : kU "java/lang/StringBuilder" 343 y_A_length b_A_length 1 (some .int) 0 := ⟨(in_1 (List.mem_of_getElem? (i := 231) rfl) rfl), (in_1 (List.mem_of_getElem? (i := 227) rfl) rfl), (in_1 (List.mem_of_getElem? (i := 65) rfl) rfl), (in_1 (List.mem_of_getElem? (i := 226) rfl) rfl), (in_1 (List.mem_of_getElem? (i := 2) rfl) rfl), (in_1 (List.mem_of_getElem? (i := 232) rfl) rfl), by decide, ⟨by decide, by decide, by decide +kernel⟩⟩
set_option maxHeartbeats 4000000 in
set_option maxRecDepth 100000 in
/-- StringBuilder.length() -/
theorem c_B_length (l : Launch) (g : gG) (H : Heap) (b v n : Nat) (mb : Int32) (f0 : ob g H b 7 [.ref v, .int 0, .int mb, .int (nI n)]) : Met l y_B_length (wC y_B_length b_B_length 1 (some .int)) (rmk 1 0 0 20) (pC g H [.ref b]) (qP H (fun v => v = some (.int (nI n)))) 0 0 no_ := by
  refine mB (by decide) (Nat.le_of_ble_eq_true rfl) ?_
  intro p e s m below meth c ls C0 hH hZ hnm hl
  have C0 : cF g p s m _ meth c b_B_length 1 "java/lang/StringBuilder" (some .int) := C0
  obtain ⟨hx, hb, hml, hown, hts, hr, hlk, hK⟩ := id C0
  subst hH
  have hl : lv_has ls 1 [(0, .ref b)] := hl
  have hS : va_S (fW s.heap no_) s.heap s.heap [] := hS_rf
  refine lv_aload_n hx hb d_B_length_0 rfl (lv_at hl 0 rfl) ?_
  refine aP (rU (As := []) (rest := []) C0 (c_A_length l g _ b v n mb f0) (zK_S hZ hS (fun _ h => h.elim)) k_B_length_1 rfl rfl ⟨Nat.le_of_ble_eq_true rfl, Nat.le_of_ble_eq_true rfl⟩ (ci := 7) (q := (R_B, F_B, 4)) rfl (ob_recv hK f0 rfl) rfl hl.1 rfl (Nat.le_of_ble_eq_true rfl) d_B_length_1 ⟨by show 0 + 0 ≤ 0; omega, by show 0 + 0 ≤ 0; omega⟩) ?_
  intro v hv; subst hv
  refine W.eq (g2 := F0 m 4 ls [.int (nI n)]) rfl ?_
  exact W.iret hx hb hr (fun t9 ht hW => ⟨_, rfl, rfl, ht⟩) (fun q h => by cases h) d_B_length_4 hlk
set_option maxHeartbeats 4000000 in
set_option maxRecDepth 100000 in
/-- newLength -/
theorem c_V_newLength (l : Launch) (g : gG) (H : Heap) (a d e0 : Nat) (ha : a ≤ 1000) (hd : 1 ≤ d ∧ d ≤ 1000) (he : e0 ≤ 1000) : Met l y_V_newLength (wC y_V_newLength b_V_newLength 4 (some .int)) (rmk 1 0 0 21) (pC g H [.int (nI a), .int (nI d), .int (nI e0)]) (qP H (fun v => v = some (.int (nI (a + max d e0))))) 0 0 no_ := by
  refine mB (by decide) (Nat.le_of_ble_eq_true rfl) ?_
  intro p e s m below meth c ls C0 hH hZ hnm hl
  have C0 : cF g p s m _ meth c b_V_newLength 4 "jdk/internal/util/ArraysSupport" (some .int) := C0
  obtain ⟨hx, hb, hml, hown, hts, hr, hlk, hK⟩ := id C0
  subst hH
  have hl : lv_has ls 4 [(0, .int (nI a)), (1, .int (nI d)), (2, .int (nI e0))] := hl
  have hS : va_S (fW s.heap no_) s.heap s.heap [] := hS_rf
  refine lv_iload_n hx hb d_V_newLength_0 rfl (lv_at hl 0 rfl) ?_
  refine lv_iload_n hx hb d_V_newLength_1 rfl (lv_at hl 1 rfl) ?_
  refine lv_iload_n hx hb d_V_newLength_2 rfl (lv_at hl 2 rfl) ?_
  refine va_mmax hx hb (by rw [hml]; exact hl.1.symm) hown (hts _ (in_1 (List.mem_of_getElem? (i := 150) rfl) rfl)) (hts _ (in_1 (List.mem_of_getElem? (i := 151) rfl) rfl)) (hts _ (in_1 (List.mem_of_getElem? (i := 11) rfl) rfl)) (hts _ (in_1 (List.mem_of_getElem? (i := 152) rfl) rfl)) (Nat.le_of_ble_eq_true rfl) (Nat.le_of_ble_eq_true rfl) (by show 0 ≤ 0; omega) (by show 0 ≤ 0; omega) d_V_newLength_3 ?_
  refine W.eq (g2 := F0 m 6 ls [.int (nI (max d e0)), .int (nI a)]) (by rw [mxn_ (by omega) (by omega)]) ?_
  refine n_iadd hx hb d_V_newLength_6 ?_
  refine lv_istore_n (lv' := [(3, .int (nI (a + (max d e0)))), (0, .int (nI a)), (1, .int (nI d)), (2, .int (nI e0))]) hx hb d_V_newLength_7 rfl hl (by decide) rfl (fun ls hl => ?_)
  refine lv_iconst (v := nI 0) hx hb d_V_newLength_8 (by decide) ?_
  refine lv_iload_n hx hb d_V_newLength_9 rfl (lv_at hl 0 rfl) ?_
  refine n_ge (tgt := 21) (a := 0) (b := a + (max d e0)) hx hb d_V_newLength_10 (by decide) (by omega) (by omega) (fun c10 => ?_) (fun c10 => ?_)
  · skip
    exact absurd c10 (by omega)
  · skip
    refine lv_iload_n hx hb d_V_newLength_13 rfl (lv_at hl 0 rfl) ?_
    refine lv_ldc (v := nI 2147483639) hx hb hown (hts _ (in_1 (List.mem_of_getElem? (i := 153) rfl) rfl)) d_V_newLength_14 ?_
    refine n_gt (tgt := 21) (a := a + (max d e0)) (b := 2147483639) hx hb d_V_newLength_16 (by decide) (by omega) (by omega) (fun c16 => ?_) (fun c16 => ?_)
    · skip
      exact absurd c16 (by omega)
    · skip
      refine lv_iload_n hx hb d_V_newLength_19 rfl (lv_at hl 0 rfl) ?_
      exact W.iret hx hb hr (fun t9 ht hW => ⟨_, rfl, rfl, ht⟩) (fun q h => by cases h) d_V_newLength_20 hlk
theorem k_A_newCapacity_29 : kS "java/lang/AbstractStringBuilder" 114 y_V_newLength b_V_newLength 4 (some .int) 3 := ⟨(in_1 (List.mem_of_getElem? (i := 147) rfl) rfl), (in_1 (List.mem_of_getElem? (i := 148) rfl) rfl), (in_1 (List.mem_of_getElem? (i := 10) rfl) rfl), (in_1 (List.mem_of_getElem? (i := 149) rfl) rfl), ⟨by decide, by decide, by decide +kernel⟩⟩
set_option maxHeartbeats 4000000 in
set_option maxRecDepth 100000 in
/-- newCapacity -/
theorem c_A_newCapacity (l : Launch) (g : gG) (H : Heap) (b v n cap d : Nat) (mb : Int32) (f : Nat → Int32) (f0 : ob g H b 7 [.ref v, .int 0, .int mb, .int (nI n)]) (f1 : ar g 0 H v (cap, .inl f)) (hc : cap ≤ 34) (hd : cap < d ∧ d ≤ 100) : Met l y_A_newCapacity (wC y_A_newCapacity b_A_newCapacity 6 (some .int)) (rmk 2 0 0 44) (pC g H [.ref b, .int (nI d)]) (qP H (fun v => v = some (.int (nI (cap + max (d - cap) (cap + 2)))))) 0 0 no_ := by
  refine mB (by decide) (Nat.le_of_ble_eq_true rfl) ?_
  intro p e s m below meth c ls C0 hH hZ hnm hl
  have C0 : cF g p s m _ meth c b_A_newCapacity 6 "java/lang/AbstractStringBuilder" (some .int) := C0
  obtain ⟨hx, hb, hml, hown, hts, hr, hlk, hK⟩ := id C0
  subst hH
  have hl : lv_has ls 6 [(0, .ref b), (1, .int (nI d))] := hl
  have hS : va_S (fW s.heap no_) s.heap s.heap [] := hS_rf
  refine lv_aload_n hx hb d_A_newCapacity_0 rfl (lv_at hl 0 rfl) ?_
  refine va_get (D := g.1) (ci := 7) (C := R_B) (T := F_B) (N := 4) hx hb hts i_B hown hK.1 f0 0 rfl rfl 0 (by decide) (hts (.fieldLink "java/lang/AbstractStringBuilder" 15 "java/lang/AbstractStringBuilder" "value" "[B") (in_1 (List.mem_of_getElem? (i := 52) rfl) rfl)) (fun _ h9 => h9) rfl d_A_newCapacity_1 ?_
  refine va_alen (D := g.1) hx hb hK.1 f1 0 0 rfl rfl (v := nI cap) rfl d_A_newCapacity_4 ?_
  refine lv_istore_n (lv' := [(2, .int (nI cap)), (0, .ref b), (1, .int (nI d))]) hx hb d_A_newCapacity_5 rfl hl (by decide) rfl (fun ls hl => ?_)
  refine lv_iload_n hx hb d_A_newCapacity_6 rfl (lv_at hl 2 rfl) ?_
  refine lv_aload_n hx hb d_A_newCapacity_7 rfl (lv_at hl 1 rfl) ?_
  refine va_get (D := g.1) (ci := 7) (C := R_B) (T := F_B) (N := 4) hx hb hts i_B hown hK.1 f0 0 rfl rfl 1 (by decide) (hts (.fieldLink "java/lang/AbstractStringBuilder" 22 "java/lang/AbstractStringBuilder" "coder" "B") (in_1 (List.mem_of_getElem? (i := 53) rfl) rfl)) (fun _ h9 => h9) rfl d_A_newCapacity_8 ?_
  refine lv_ishl hx hb d_A_newCapacity_11 ?_
  refine W.eq (g2 := F0 m 12 ls [.int (nI d)]) (by rw [sb_shl0]) ?_
  refine lv_istore_n (lv' := [(3, .int (nI d)), (2, .int (nI cap)), (0, .ref b), (1, .int (nI d))]) hx hb d_A_newCapacity_12 rfl hl (by decide) rfl (fun ls hl => ?_)
  refine lv_iload_n hx hb d_A_newCapacity_13 rfl (lv_at hl 0 rfl) ?_
  refine lv_iload_n hx hb d_A_newCapacity_14 rfl (lv_at hl 1 rfl) ?_
  refine n_isub hx hb (by omega) d_A_newCapacity_15 ?_
  refine lv_istore (lv' := [(4, .int (nI (d - cap))), (3, .int (nI d)), (2, .int (nI cap)), (0, .ref b), (1, .int (nI d))]) hx hb d_A_newCapacity_16 hl (by decide) rfl (fun ls hl => ?_)
  refine lv_iload_n hx hb d_A_newCapacity_18 rfl (lv_at hl 2 rfl) ?_
  refine lv_iload hx hb d_A_newCapacity_19 (lv_at hl 0 rfl) ?_
  refine lv_iload_n hx hb d_A_newCapacity_21 rfl (lv_at hl 2 rfl) ?_
  refine lv_iconst (v := nI 2) hx hb d_A_newCapacity_22 (by decide) ?_
  refine lv_aload_n hx hb d_A_newCapacity_23 rfl (lv_at hl 3 rfl) ?_
  refine va_get (D := g.1) (ci := 7) (C := R_B) (T := F_B) (N := 4) hx hb hts i_B hown hK.1 f0 0 rfl rfl 1 (by decide) (hts (.fieldLink "java/lang/AbstractStringBuilder" 22 "java/lang/AbstractStringBuilder" "coder" "B") (in_1 (List.mem_of_getElem? (i := 53) rfl) rfl)) (fun _ h9 => h9) rfl d_A_newCapacity_24 ?_
  refine lv_ishl hx hb d_A_newCapacity_27 ?_
  refine W.eq (g2 := F0 m 28 ls [.int (nI 2), .int (nI cap), .int (nI (d - cap)), .int (nI cap)]) (by rw [sb_shl0]) ?_
  refine n_iadd hx hb d_A_newCapacity_28 ?_
  refine aP (rS (As := [.int (nI cap), .int (nI (d - cap)), .int (nI (cap + 2))]) (rest := []) C0 (c_V_newLength l g _ cap (d - cap) (cap + 2) (by omega) (by omega) (by omega)) (zK_S hZ hS (fun _ h => h.elim)) k_A_newCapacity_29 rfl rfl ⟨Nat.le_of_ble_eq_true rfl, Nat.le_of_ble_eq_true rfl⟩ rfl hl.1 rfl (Nat.le_of_ble_eq_true rfl) d_A_newCapacity_29 ⟨by show 0 + 0 ≤ 0; omega, by show 0 + 0 ≤ 0; omega⟩) ?_
  intro v hv; subst hv
  refine W.eq (g2 := F0 m 32 ls [.int (nI (cap + max (d - cap) (cap + 2)))]) rfl ?_
  refine lv_istore (lv' := [(5, .int (nI (cap + max (d - cap) (cap + 2)))), (4, .int (nI (d - cap))), (3, .int (nI d)), (2, .int (nI cap)), (0, .ref b), (1, .int (nI d))]) hx hb d_A_newCapacity_32 hl (by decide) rfl (fun ls hl => ?_)
  refine lv_iload hx hb d_A_newCapacity_34 (lv_at hl 0 rfl) ?_
  refine lv_ldc (v := nI 2147483647) hx hb hown (hts _ (in_1 (List.mem_of_getElem? (i := 157) rfl) rfl)) d_A_newCapacity_36 ?_
  refine n_ne (tgt := 51) (a := cap + max (d - cap) (cap + 2)) (b := 2147483647) hx hb d_A_newCapacity_38 (by decide) (by omega) (by omega) (fun c38 => ?_) (fun c38 => ?_)
  · skip
    refine lv_iload hx hb d_A_newCapacity_51 (lv_at hl 0 rfl) ?_
    refine lv_aload_n hx hb d_A_newCapacity_53 rfl (lv_at hl 4 rfl) ?_
    refine va_get (D := g.1) (ci := 7) (C := R_B) (T := F_B) (N := 4) hx hb hts i_B hown hK.1 f0 0 rfl rfl 1 (by decide) (hts (.fieldLink "java/lang/AbstractStringBuilder" 22 "java/lang/AbstractStringBuilder" "coder" "B") (in_1 (List.mem_of_getElem? (i := 53) rfl) rfl)) (fun _ h9 => h9) rfl d_A_newCapacity_54 ?_
    refine lv_ishr hx hb d_A_newCapacity_57 ?_
    refine W.eq (g2 := F0 m 58 ls [.int (nI (cap + max (d - cap) (cap + 2)))]) (by rw [sb_shr0]) ?_
    exact W.iret hx hb hr (fun t9 ht hW => ⟨_, rfl, rfl, ht⟩) (fun q h => by cases h) d_A_newCapacity_58 hlk
  · skip
    exact absurd c38 (by omega)
set_option maxHeartbeats 4000000 in
set_option maxRecDepth 100000 in
/-- Arrays.copyOf, longer -/
theorem c_Y_copyOf0 (l : Launch) (g : gG) (H : Heap) (v cap n : Nat) (f : Nat → Int32) (f1 : ar g 0 H v (cap, .inl f)) (hf : ∀ j, ∃ c, c < 128 ∧ f j = nI c) (hn : cap < n ∧ n ≤ 34) : Met l y_Y_copyOf0 (wC y_Y_copyOf0 b_Y_copyOf0 3 (some (.array .byte))) (rmk 1 1 34 21) (pC g H [.ref v, .int (nI n)]) (qW H no_ (fun v H1 => ∃ q, H.size ≤ q ∧ v = some (.ref q) ∧ ar g 0 H1 q (n, .inl (va_cpy f (fun _ => 0) 0 0 (min cap n))))) 1 34 (fW H no_) := by
  refine mB (by decide) (Nat.le_of_ble_eq_true rfl) ?_
  intro p e s m below meth c ls C0 hH hZ hnm hl
  have C0 : cF g p s m _ meth c b_Y_copyOf0 3 "java/util/Arrays" (some (.array .byte)) := C0
  obtain ⟨hx, hb, hml, hown, hts, hr, hlk, hK⟩ := id C0
  subst hH
  have hl : lv_has ls 3 [(0, .ref v), (1, .int (nI n))] := hl
  have hS : va_S (fW s.heap no_) s.heap s.heap [] := hS_rf
  refine lv_iload_n hx hb d_Y_copyOf0_0 rfl (lv_at hl 1 rfl) ?_
  refine lv_aload_n hx hb d_Y_copyOf0_1 rfl (lv_at hl 0 rfl) ?_
  refine va_alen (D := g.1) hx hb hK.1 f1 0 0 rfl rfl (v := nI cap) rfl d_Y_copyOf0_2 ?_
  refine n_ne (tgt := 14) (a := n) (b := cap) hx hb d_Y_copyOf0_3 (by decide) (by omega) (by omega) (fun c3 => ?_) (fun c3 => ?_)
  · skip
    refine lv_iload_n hx hb d_Y_copyOf0_14 rfl (lv_at hl 1 rfl) ?_
    have hS0 := hS
    refine s_newa hx hb (hts _ (in_1 (List.mem_of_getElem? (i := 66) rfl) rfl)) (ty := .byte) rfl rfl hK hS 0 rfl (a0 := (n, .inl (fun _ => 0))) (fun _ => rfl) (nI_pos (by omega)) (nI_clamp (by omega)) (by show n * 1 ≤ 536870912; omega) (by show 0 + 1 ≤ 1; omega) (by show 0 + n ≤ 34; omega) d_Y_copyOf0_15 (fun q1 H hq f_q1 hz o1 hS => ?_)
    have lt_v_q1 : v < q1 := by rw [hq]; exact ar_lt f1
    have f1 := ar_kept f1 (o1 _ lt_v_q1)
    have ge_q1 : s.heap.size ≤ q1 := by rw [hq]; exact hS0.1
    refine lv_astore_n (lv' := [(2, .ref q1), (0, .ref v), (1, .int (nI n))]) hx hb d_Y_copyOf0_17 rfl hl (by decide) rfl (fun ls hl => ?_)
    refine lv_aload_n hx hb d_Y_copyOf0_18 rfl (lv_at hl 1 rfl) ?_
    refine lv_iconst (v := nI 0) hx hb d_Y_copyOf0_19 (by decide) ?_
    refine lv_aload_n hx hb d_Y_copyOf0_20 rfl (lv_at hl 0 rfl) ?_
    refine lv_iconst (v := nI 0) hx hb d_Y_copyOf0_21 (by decide) ?_
    refine lv_aload_n hx hb d_Y_copyOf0_22 rfl (lv_at hl 1 rfl) ?_
    refine va_alen (D := g.1) hx hb hK.1 f1 0 0 rfl rfl (v := nI cap) rfl d_Y_copyOf0_23 ?_
    refine lv_iload_n hx hb d_Y_copyOf0_24 rfl (lv_at hl 2 rfl) ?_
    refine va_mmin hx hb (by rw [hml]; exact hl.1.symm) hown (hts _ (in_1 (List.mem_of_getElem? (i := 168) rfl) rfl)) (hts _ (in_1 (List.mem_of_getElem? (i := 169) rfl) rfl)) (hts _ (in_1 (List.mem_of_getElem? (i := 11) rfl) rfl)) (hts _ (in_1 (List.mem_of_getElem? (i := 170) rfl) rfl)) (Nat.le_of_ble_eq_true rfl) (Nat.le_of_ble_eq_true rfl) (by show 0 + 1 ≤ 1; omega) (by show 0 + n ≤ 34; omega) d_Y_copyOf0_25 ?_
    refine W.eq (g2 := F0 m 28 ls [.int (nI (min cap n)), .int (nI 0), .ref q1, .int (nI 0), .ref v]) (by rw [mn_ (by omega) (by omega)]) ?_
    refine s_copy hx hb (by rw [hml]; exact hl.1.symm) hown (hts _ (in_1 (List.mem_of_getElem? (i := 171) rfl) rfl)) (hts _ (in_1 (List.mem_of_getElem? (i := 173) rfl) rfl)) (hts _ (in_1 (List.mem_of_getElem? (i := 172) rfl) rfl)) (hts _ (in_1 (List.mem_of_getElem? (i := 13) rfl) rfl)) hK hS (Or.inr ge_q1) f1 f_q1 0 0 (min cap n) (by omega) (by omega) (by omega) (fun i _ => by obtain ⟨c, h1, h2⟩ := hf (0 + i); rw [h2]; exact by_fit c h1) (Nat.le_of_ble_eq_true rfl) (Nat.le_of_ble_eq_true rfl) d_Y_copyOf0_28 (fun H locs f_q1 hz oq hS => ?_)
    have f1 := ar_kept f1 (oq _ (Nat.ne_of_lt lt_v_q1))
    refine lv_aload_n hx hb d_Y_copyOf0_31 rfl (lv_at hl 0 rfl) ?_
    refine W.widen (k := 1) (n := 34) (by omega) (by omega) ?_
    exact W.aret hx hb hr (Or.inr ⟨_, rfl⟩) (Or.inr ⟨_, rfl⟩) (fun t9 ht hW => ⟨_, rfl, by rw [ht]; exact hS_hC hS, by rw [ht]; exact ⟨_, ge_q1, rfl, f_q1⟩⟩) hS.2.2 d_Y_copyOf0_32 hlk
  · skip
    exact absurd c3 (by omega)
theorem le_sub {q cap : Nat} (h : q ≤ cap) (hc : cap < 2 ^ 30) : nI q - nI cap ≤ 0 := by
  rw [Int32.le_iff_toInt_le, pk_sub_toInt (by omega) (by omega)]
  simp
  omega
theorem k_A_ensureCapacityInternal_24 : kV "java/lang/AbstractStringBuilder" 104 "java/lang/StringBuilder" y_A_newCapacity b_A_newCapacity 6 (some .int) 1 := ⟨(in_1 (List.mem_of_getElem? (i := 143) rfl) rfl), (in_1 (List.mem_of_getElem? (i := 145) rfl) rfl), (in_7 (List.mem_of_getElem? (i := 1) rfl) rfl), (in_1 (List.mem_of_getElem? (i := 2) rfl) rfl), (in_1 (List.mem_of_getElem? (i := 146) rfl) rfl), ⟨by decide, by decide, by decide +kernel⟩⟩
theorem k_A_ensureCapacityInternal_32 : kS "java/lang/AbstractStringBuilder" 108 y_Y_copyOf0 b_Y_copyOf0 3 (some (.array .byte)) 2 := ⟨(in_1 (List.mem_of_getElem? (i := 158) rfl) rfl), (in_1 (List.mem_of_getElem? (i := 159) rfl) rfl), (in_1 (List.mem_of_getElem? (i := 12) rfl) rfl), (in_1 (List.mem_of_getElem? (i := 160) rfl) rfl), ⟨by decide, by decide, by decide +kernel⟩⟩
set_option maxHeartbeats 4000000 in
set_option maxRecDepth 100000 in
/-- ensureCapacityInternal -/
theorem c_A_ensureCapacityInternal (l : Launch) (g : gG) (H : Heap) (b v n cap d : Nat) (mb : Int32) (f : Nat → Int32) (hb9 : g.2.2.1 ≤ b) (f0 : ob g H b 7 [.ref v, .int 0, .int mb, .int (nI n)]) (f1 : ar g 0 H v (cap, .inl f)) (hf : ∀ j, ∃ c, c < 128 ∧ f j = nI c) (hc : cap = 16 ∨ cap = 34) (hd : d ≤ 34) (hbv : b ≠ v) : Met l y_A_ensureCapacityInternal (wC y_A_ensureCapacityInternal b_A_ensureCapacityInternal 3 none) (rmk 3 1 34 69) (pC g H [.ref b, .int (nI d)]) (qW H (fun q => q = b) (fun r H1 => r = none ∧ ∃ v2 cap2 f2, ob g H1 b 7 [.ref v2, .int 0, .int mb, .int (nI n)] ∧ ar g 0 H1 v2 (cap2, .inl f2) ∧ (∀ j, j < cap → f2 j = f j) ∧ (∀ j, ∃ c, c < 128 ∧ f2 j = nI c) ∧ d ≤ cap2 ∧ cap ≤ cap2 ∧ (cap2 = 16 ∨ cap2 = 34) ∧ (v2 = v ∨ H.size ≤ v2))) 1 34 (fW H (fun q => q = b)) := by
  refine mB (by decide) (Nat.le_of_ble_eq_true rfl) ?_
  intro p e s m below meth c ls C0 hH hZ hnm hl
  have C0 : cF g p s m _ meth c b_A_ensureCapacityInternal 3 "java/lang/AbstractStringBuilder" none := C0
  obtain ⟨hx, hb, hml, hown, hts, hr, hlk, hK⟩ := id C0
  subst hH
  have hl : lv_has ls 3 [(0, .ref b), (1, .int (nI d))] := hl
  have hS : va_S (fW s.heap (fun q => q = b)) s.heap s.heap [] := hS_rf
  have f0b := f0
  have f1b := f1
  refine lv_aload_n hx hb d_A_ensureCapacityInternal_0 rfl (lv_at hl 0 rfl) ?_
  refine va_get (D := g.1) (ci := 7) (C := R_B) (T := F_B) (N := 4) hx hb hts i_B hown hK.1 f0 0 rfl rfl 0 (by decide) (hts (.fieldLink "java/lang/AbstractStringBuilder" 15 "java/lang/AbstractStringBuilder" "value" "[B") (in_1 (List.mem_of_getElem? (i := 52) rfl) rfl)) (fun _ h9 => h9) rfl d_A_ensureCapacityInternal_1 ?_
  refine va_alen (D := g.1) hx hb hK.1 f1 0 0 rfl rfl (v := nI cap) rfl d_A_ensureCapacityInternal_4 ?_
  refine lv_aload_n hx hb d_A_ensureCapacityInternal_5 rfl (lv_at hl 0 rfl) ?_
  refine va_get (D := g.1) (ci := 7) (C := R_B) (T := F_B) (N := 4) hx hb hts i_B hown hK.1 f0 0 rfl rfl 1 (by decide) (hts (.fieldLink "java/lang/AbstractStringBuilder" 22 "java/lang/AbstractStringBuilder" "coder" "B") (in_1 (List.mem_of_getElem? (i := 53) rfl) rfl)) (fun _ h9 => h9) rfl d_A_ensureCapacityInternal_6 ?_
  refine lv_ishr hx hb d_A_ensureCapacityInternal_9 ?_
  refine W.eq (g2 := F0 m 10 ls [.int (nI cap)]) (by rw [sb_shr0]) ?_
  refine lv_istore_n (lv' := [(2, .int (nI cap)), (0, .ref b), (1, .int (nI d))]) hx hb d_A_ensureCapacityInternal_10 rfl hl (by decide) rfl (fun ls hl => ?_)
  refine lv_iload_n hx hb d_A_ensureCapacityInternal_11 rfl (lv_at hl 2 rfl) ?_
  refine lv_iload_n hx hb d_A_ensureCapacityInternal_12 rfl (lv_at hl 0 rfl) ?_
  by_cases hdc : d ≤ cap
  · skip
    refine lv_isub hx hb d_A_ensureCapacityInternal_13 ?_
    refine lv_if_le (tgt := 38) hx hb d_A_ensureCapacityInternal_14 (by decide) (fun c14 => ?_) (fun c14 => ?_)
    · skip
      refine W.widen (k := 1) (n := 34) (by omega) (by omega) ?_
      exact W.vret hx hb hr (fun t9 ht hW => ⟨_, rfl, by rw [ht]; exact hS_hC hS, by rw [ht]; exact ⟨rfl, v, cap, f, f0, f1, (fun _ _ => rfl), hf, hdc, Nat.le_refl _, hc, Or.inl rfl⟩⟩) hS.2.2 d_A_ensureCapacityInternal_38 hlk
    · skip
      exact absurd (le_sub hdc (by omega)) c14
  · skip
    refine n_isub hx hb (by omega) d_A_ensureCapacityInternal_13 ?_
    refine lv_if_le (tgt := 38) hx hb d_A_ensureCapacityInternal_14 (by decide) (fun c14 => ?_) (fun c14 => ?_)
    · skip
      exact absurd c14 (Int32.not_le.mpr (nI_lt (a := 0) (by omega) (by omega)))
    · skip
      refine lv_aload_n hx hb d_A_ensureCapacityInternal_17 rfl (lv_at hl 1 rfl) ?_
      refine lv_aload_n hx hb d_A_ensureCapacityInternal_18 rfl (lv_at hl 1 rfl) ?_
      refine va_get (D := g.1) (ci := 7) (C := R_B) (T := F_B) (N := 4) hx hb hts i_B hown hK.1 f0 0 rfl rfl 0 (by decide) (hts (.fieldLink "java/lang/AbstractStringBuilder" 15 "java/lang/AbstractStringBuilder" "value" "[B") (in_1 (List.mem_of_getElem? (i := 52) rfl) rfl)) (fun _ h9 => h9) rfl d_A_ensureCapacityInternal_19 ?_
      refine lv_aload_n hx hb d_A_ensureCapacityInternal_22 rfl (lv_at hl 1 rfl) ?_
      refine lv_iload_n hx hb d_A_ensureCapacityInternal_23 rfl (lv_at hl 2 rfl) ?_
      refine aP (rV (As := [.int (nI d)]) (rest := [.ref v, .ref b]) C0 (c_A_newCapacity l g _ b v n cap d mb f f0 f1 (by omega) (by omega)) (zK_S hZ hS (fun q h => by subst h; exact hb9)) k_A_ensureCapacityInternal_24 rfl rfl ⟨Nat.le_of_ble_eq_true rfl, Nat.le_of_ble_eq_true rfl⟩ (ob_recv hK f0 rfl) rfl hl.1 rfl (Nat.le_of_ble_eq_true rfl) d_A_ensureCapacityInternal_24 ⟨by show 0 + 0 ≤ 1; omega, by show 0 + 0 ≤ 34; omega⟩) ?_
      intro v hv; subst hv
      refine W.eq (g2 := F0 m 27 ls [.int (nI (cap + max (d - cap) (cap + 2))), .ref v, .ref b]) rfl ?_
      refine lv_aload_n hx hb d_A_ensureCapacityInternal_27 rfl (lv_at hl 1 rfl) ?_
      refine va_get (D := g.1) (ci := 7) (C := R_B) (T := F_B) (N := 4) hx hb hts i_B hown hK.1 f0 0 rfl rfl 1 (by decide) (hts (.fieldLink "java/lang/AbstractStringBuilder" 22 "java/lang/AbstractStringBuilder" "coder" "B") (in_1 (List.mem_of_getElem? (i := 53) rfl) rfl)) (fun _ h9 => h9) rfl d_A_ensureCapacityInternal_28 ?_
      refine lv_ishl hx hb d_A_ensureCapacityInternal_31 ?_
      refine W.eq (g2 := F0 m 32 ls [.int (nI (cap + max (d - cap) (cap + 2))), .ref v, .ref b]) (by rw [sb_shl0]) ?_
      have e16 : cap = 16 := by omega
      have e34 : cap + max (d - cap) (cap + 2) = 34 := by omega
      refine W.eq (g2 := F0 m 32 ls [.int (nI 34), .ref v, .ref b]) (by rw [e34]) ?_
      refine aW (N := no_) (rS (As := [.ref v, .int (nI 34)]) (rest := [.ref b]) C0 (c_Y_copyOf0 l g _ v cap 34 f f1 hf (by omega)) (zK_S hZ hS (fun q h => by subst h; exact hb9)) k_A_ensureCapacityInternal_32 rfl rfl ⟨Nat.le_of_ble_eq_true rfl, Nat.le_of_ble_eq_true rfl⟩ rfl hl.1 rfl (Nat.le_of_ble_eq_true rfl) d_A_ensureCapacityInternal_32 ⟨by show 0 + 1 ≤ 1; omega, by show 0 + 34 ≤ 34; omega⟩) (fun v H L hC1 hp hL => ?_)
      have hS0 := hS
      have hS := hS_call hS hC1 hL (fun q h => h.elim)
      have f0 := ob_kept f0 (hC_at hC1 (ob_lt f0) (fun z => z))
      have f1 := ar_kept f1 (hC_at hC1 (ar_lt f1) (fun z => z))
      obtain ⟨q9, hq9, rfl, f9⟩ := hp
      have lt_b : b < q9 := Nat.lt_of_lt_of_le (ob_lt f0b) hq9
      have hq9 : s.heap.size ≤ q9 := hq9
      refine W.eq (g2 := F0 m 35 ls [.ref q9, .ref b]) rfl ?_
      refine s_put (ci := 7) (C := R_B) (T := F_B) (N := 4) hx hb hts i_B t_B t_B_ok n_B hown hK hS (Or.inl rfl) f0 rfl 0 (by decide) (hts _ (in_1 (List.mem_of_getElem? (i := 52) rfl) rfl)) (fun _ h9 => h9) rfl (v := .ref q9) rfl rfl rfl (Nat.le_of_ble_eq_true rfl) (fs2 := [.ref q9, .int 0, .int mb, .int (nI n)]) rfl d_A_ensureCapacityInternal_35 (fun H locs f0 hz oq hS => ?_)
      have f1 := ar_kept f1 (oq _ (Ne.symm (hbv)))
      have f9 := ar_kept f9 (oq _ (Ne.symm (Nat.ne_of_lt lt_b)))
      refine W.widen (k := 1) (n := 34) (by omega) (by omega) ?_
      exact W.vret hx hb hr (fun t9 ht hW => ⟨_, rfl, by rw [ht]; exact hS_hC hS, by rw [ht]; exact ⟨rfl, q9, 34, _, f0, f9, (fun j hj => by rw [show va_cpy f (fun _ => 0) 0 0 (min cap 34) j = f j from by have := cpy_in (f := f) (g9 := fun _ => 0) (so := 0) (d := 0) (n := min cap 34) (k := j) (by omega); rw [Nat.zero_add] at this; exact this]), (fun j => by by_cases z : 0 ≤ j ∧ j < 0 + min cap 34; (rw [va_cpy, if_pos z]; exact hf _); (rw [va_cpy, if_neg z]; exact ⟨0, by decide, rfl⟩)), by omega, by omega, Or.inr rfl, Or.inr hq9⟩⟩) hS.2.2 d_A_ensureCapacityInternal_38 hlk
