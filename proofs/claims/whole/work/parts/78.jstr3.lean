set_option maxHeartbeats 4000000 in
set_option maxRecDepth 100000 in
/-- checkFromToIndex, in range -/
theorem c_P_checkFromToIndex0 (l : Launch) (g : gG) (H : Heap) (so to0 n : Nat) (r : Option Nat) (h : so ≤ to0 ∧ to0 ≤ n ∧ n ≤ 100) : Met l y_P_checkFromToIndex0 (wC y_P_checkFromToIndex0 b_P_checkFromToIndex0 4 (some .int)) (rmk 0 0 0 0) (pC g H [.int (nI so), .int (nI to0), .int (nI n), va_rf r]) (qP H (fun v => v = some (.int (nI so)))) 0 0 no_ := by
  refine mB (by decide) (by cases r <;> exact Nat.le_of_ble_eq_true rfl) ?_
  intro p e s m below meth c ls C0 hH hZ hnm hl
  have C0 : cF g p s m _ meth c b_P_checkFromToIndex0 4 "jdk/internal/util/Preconditions" (some .int) := C0
  obtain ⟨hx, hb, hml, hown, hts, hr, hlk, hK⟩ := id C0
  subst hH
  have hl : lv_has ls 4 [(0, .int (nI so)), (1, .int (nI to0)), (2, .int (nI n)), (3, va_rf r)] := hl
  have hS : va_S (fW s.heap no_) s.heap s.heap [] := hS_rf
  have hl := hl
  refine lv_iload_n hx hb d_P_checkFromToIndex0_0 rfl (lv_at hl 0 rfl) ?_
  refine lv_if_lt (tgt := 14) hx hb d_P_checkFromToIndex0_1 (by decide) (fun c1 => ?_) (fun c1 => ?_)
  · skip
    exact absurd c1 (nI_pos (by omega))
  · skip
    refine lv_iload_n hx hb d_P_checkFromToIndex0_4 rfl (lv_at hl 0 rfl) ?_
    refine lv_iload_n hx hb d_P_checkFromToIndex0_5 rfl (lv_at hl 1 rfl) ?_
    refine n_gt (tgt := 14) (a := so) (b := to0) hx hb d_P_checkFromToIndex0_6 (by decide) (by omega) (by omega) (fun c6 => ?_) (fun c6 => ?_)
    · skip
      exact absurd c6 (by omega)
    · skip
      refine lv_iload_n hx hb d_P_checkFromToIndex0_9 rfl (lv_at hl 1 rfl) ?_
      refine lv_iload_n hx hb d_P_checkFromToIndex0_10 rfl (lv_at hl 2 rfl) ?_
      refine n_le (tgt := 22) (a := to0) (b := n) hx hb d_P_checkFromToIndex0_11 (by decide) (by omega) (by omega) (fun c11 => ?_) (fun c11 => ?_)
      · skip
        refine lv_iload_n hx hb d_P_checkFromToIndex0_22 rfl (lv_at hl 0 rfl) ?_
        exact W.iret hx hb hr (fun t9 ht hW => ⟨_, rfl, rfl, ht⟩) (fun q h => by cases h) d_P_checkFromToIndex0_23 hlk
      · skip
        exact absurd c11 (by omega)
theorem k_S_checkBoundsBeginEnd_6 : kS "java/lang/String" 1062 y_P_checkFromToIndex0 b_P_checkFromToIndex0 4 (some .int) 4 := ⟨(in_2 (List.mem_of_getElem? (i := 71) rfl) rfl), (in_2 (List.mem_of_getElem? (i := 72) rfl) rfl), (in_1 (List.mem_of_getElem? (i := 9) rfl) rfl), (in_2 (List.mem_of_getElem? (i := 73) rfl) rfl), ⟨by decide, by decide, by decide +kernel⟩⟩
set_option maxHeartbeats 4000000 in
set_option maxRecDepth 100000 in
/-- checkBoundsBeginEnd, in range -/
theorem c_S_checkBoundsBeginEnd (l : Launch) (g : gG) (H : Heap) (so to0 n : Nat) (h : so ≤ to0 ∧ to0 ≤ n ∧ n ≤ 100) : Met l y_S_checkBoundsBeginEnd (wC y_S_checkBoundsBeginEnd b_S_checkBoundsBeginEnd 3 none) (rmk 1 0 0 23) (pC g H [.int (nI so), .int (nI to0), .int (nI n)]) (qP H (fun v => v = none)) 0 0 no_ := by
  refine mB (by decide) (Nat.le_of_ble_eq_true rfl) ?_
  intro p e s m below meth c ls C0 hH hZ hnm hl
  have C0 : cF g p s m _ meth c b_S_checkBoundsBeginEnd 3 "java/lang/String" none := C0
  obtain ⟨hx, hb, hml, hown, hts, hr, hlk, hK⟩ := id C0
  subst hH
  have hl : lv_has ls 3 [(0, .int (nI so)), (1, .int (nI to0)), (2, .int (nI n))] := hl
  have hS : va_S (fW s.heap no_) s.heap s.heap [] := hS_rf
  refine lv_iload_n hx hb d_S_checkBoundsBeginEnd_0 rfl (lv_at hl 0 rfl) ?_
  refine lv_iload_n hx hb d_S_checkBoundsBeginEnd_1 rfl (lv_at hl 1 rfl) ?_
  refine lv_iload_n hx hb d_S_checkBoundsBeginEnd_2 rfl (lv_at hl 2 rfl) ?_
  obtain ⟨r0, hr0⟩ := hZ.2.1
  refine va_gets hx hb hr0 va_S.rf hown (hts _ (in_1 (List.mem_of_getElem? (i := 108) rfl) rfl)) (fun _ h9 => h9) d_S_checkBoundsBeginEnd_3 ?_
  refine aP (rS (As := [.int (nI so), .int (nI to0), .int (nI n), va_rf r0]) (rest := []) C0 (c_P_checkFromToIndex0 l g _ so to0 n r0 h) (zK_S hZ hS (fun _ h => h.elim)) k_S_checkBoundsBeginEnd_6 rfl rfl ⟨Nat.le_of_ble_eq_true rfl, Nat.le_of_ble_eq_true rfl⟩ rfl hl.1 rfl (Nat.le_of_ble_eq_true rfl) d_S_checkBoundsBeginEnd_6 ⟨by show 0 + 0 ≤ 0; omega, by show 0 + 0 ≤ 0; omega⟩) ?_
  intro v hv; subst hv
  refine W.eq (g2 := F0 m 9 ls [.int (nI so)]) rfl ?_
  refine lv_pop hx hb d_S_checkBoundsBeginEnd_9 rfl ?_
  exact W.vret hx hb hr (fun t9 ht hW => ⟨_, rfl, rfl, ht⟩) (fun q h => by cases h) d_S_checkBoundsBeginEnd_10 hlk
set_option maxHeartbeats 4000000 in
set_option maxRecDepth 100000 in
/-- String.<init>(byte[], byte) -/
theorem c_S_init7 (l : Launch) (g : gG) (H : Heap) (a w : Nat) (f9 : ob g H a 6 [.null, .int 0, .int 0, .int 0]) : Met l y_S_init7 (wC y_S_init7 b_S_init7 3 none) (rmk 1 0 0 20) (pC g H [.ref a, .ref w, .int (nI 0)]) (qW H (fun q => q = a) (fun r H1 => r = none ∧ ob g H1 a 6 [.ref w, .int 0, .int 0, .int 0])) 0 0 (fW H (fun q => q = a)) := by
  refine mB (by decide) (Nat.le_of_ble_eq_true rfl) ?_
  intro p e s m below meth c ls C0 hH hZ hnm hl
  have C0 : cF g p s m _ meth c b_S_init7 3 "java/lang/String" none := C0
  obtain ⟨hx, hb, hml, hown, hts, hr, hlk, hK⟩ := id C0
  subst hH
  have hl : lv_has ls 3 [(0, .ref a), (1, .ref w), (2, .int (nI 0))] := hl
  have hS : va_S (fW s.heap (fun q => q = a)) s.heap s.heap [] := hS_rf
  refine lv_aload_n hx hb d_S_init7_0 rfl (lv_at hl 0 rfl) ?_
  refine W.objInit hx hb hown (hts (.methodLink "java/lang/String" 1 Lib.objectInit) (in_1 (List.mem_of_getElem? (i := 219) rfl) rfl)) (hts (.instanceMethod Lib.objectInit) (in_1 (List.mem_of_getElem? (i := 32) rfl) rfl)) (hts (.code Lib.objectInit ⟨#[0xb1]⟩ 1 none) (in_1 (List.mem_of_getElem? (i := 33) rfl) rfl)) rfl (by rw [hml]; exact hl.1) rfl d_S_init7_1 (Nat.le_of_ble_eq_true rfl) (Nat.le_of_ble_eq_true rfl) ?_
  refine W.eq (g2 := F0 m 4 ls []) rfl ?_
  refine lv_aload_n hx hb d_S_init7_4 rfl (lv_at hl 0 rfl) ?_
  refine lv_aload_n hx hb d_S_init7_5 rfl (lv_at hl 1 rfl) ?_
  refine s_putF (ci := 6) (C := R_S) (T := F_S) (N := 4) hx hb hts i_S t_S t_S_ok n_S hown hK hS (Or.inl rfl) f9 rfl 0 (by decide) (hts _ (in_2 (List.mem_of_getElem? (i := 146) rfl) rfl)) (fun _ h9 => h9) rfl hnm rfl (v := .ref w) rfl rfl rfl (Nat.le_of_ble_eq_true rfl) (fs2 := [.ref w, .int 0, .int 0, .int 0]) rfl d_S_init7_6 (fun H locs f9 hz oq hS => ?_)
  refine lv_aload_n hx hb d_S_init7_9 rfl (lv_at hl 0 rfl) ?_
  refine lv_iload_n hx hb d_S_init7_10 rfl (lv_at hl 2 rfl) ?_
  refine s_putF (ci := 6) (C := R_S) (T := F_S) (N := 4) hx hb hts i_S t_S t_S_ok n_S hown hK hS (Or.inl rfl) f9 rfl 1 (by decide) (hts _ (in_2 (List.mem_of_getElem? (i := 147) rfl) rfl)) (fun _ h9 => h9) rfl hnm rfl (v := .int (nI 0)) rfl rfl rfl (Nat.le_of_ble_eq_true rfl) (fs2 := [.ref w, .int (nI 0), .int 0, .int 0]) rfl d_S_init7_11 (fun H locs f9 hz oq hS => ?_)
  refine W.widen (k := 0) (n := 0) (by omega) (by omega) ?_
  exact W.vret hx hb hr (fun t9 ht hW => ⟨_, rfl, by rw [ht]; exact hS_hC hS, by rw [ht]; exact ⟨rfl, f9⟩⟩) hS.2.2 d_S_init7_14 hlk
theorem k_C_newString_16 : kS "java/lang/StringLatin1" 232 y_Y_copyOfRange0 b_Y_copyOfRange0 3 (some (.array .byte)) 3 := ⟨(in_4 (List.mem_of_getElem? (i := 189) rfl) rfl), (in_1 (List.mem_of_getElem? (i := 235) rfl) rfl), (in_1 (List.mem_of_getElem? (i := 12) rfl) rfl), (in_1 (List.mem_of_getElem? (i := 236) rfl) rfl), ⟨by decide, by decide, by decide +kernel⟩⟩
theorem k_C_newString_20 : kI "java/lang/StringLatin1" 112 y_S_init7 b_S_init7 3 2 := ⟨(in_4 (List.mem_of_getElem? (i := 190) rfl) rfl), (in_4 (List.mem_of_getElem? (i := 191) rfl) rfl), (in_1 (List.mem_of_getElem? (i := 4) rfl) rfl), (in_4 (List.mem_of_getElem? (i := 192) rfl) rfl), rfl, ⟨by decide, by decide, by decide +kernel⟩⟩
set_option maxHeartbeats 4000000 in
set_option maxRecDepth 100000 in
/-- StringLatin1.newString -/
theorem c_C_newString (l : Launch) (g : gG) (H : Heap) (v cap so n : Nat) (f : Nat → Int32) (f1 : ar g 0 H v (cap, .inl f)) (hf : ∀ j, ∃ c, c < 128 ∧ f j = nI c) (u : List Nat) (hu : u.length = n ∧ (∀ j, j < n → f (so + j) = nI (u.getD j 0)) ∧ ∀ c, u.getD c 0 < 128) (hn : so + n ≤ cap ∧ cap ≤ 34 ∧ n ≤ 24) : Met l y_C_newString (wC y_C_newString b_C_newString 3 (some (.object "java/lang/String"))) (rmk 3 2 38 67) (pC g H [.ref v, .int (nI so), .int (nI n)]) (qW H no_ (fun r H1 => (n = 0 ∧ r = some (.ref (g.2.2.2 1))) ∨ ∃ a w, H.size ≤ a ∧ H.size ≤ w ∧ r = some (.ref a) ∧ sS g H1 a w u)) 2 38 (fW H no_) := by
  refine mB (by decide) (Nat.le_of_ble_eq_true rfl) ?_
  intro p e s m below meth c ls C0 hH hZ hnm hl
  have C0 : cF g p s m _ meth c b_C_newString 3 "java/lang/StringLatin1" (some (.object "java/lang/String")) := C0
  obtain ⟨hx, hb, hml, hown, hts, hr, hlk, hK⟩ := id C0
  subst hH
  have hl : lv_has ls 3 [(0, .ref v), (1, .int (nI so)), (2, .int (nI n))] := hl
  have hS : va_S (fW s.heap no_) s.heap s.heap [] := hS_rf
  have v9lt := ar_lt f1
  refine lv_iload_n hx hb d_C_newString_0 rfl (lv_at hl 2 rfl) ?_
  refine lv_if_ne (tgt := 7) hx hb d_C_newString_1 (by decide) (fun c1 => ?_) (fun c1 => ?_)
  · skip
    have hS0 := hS
    refine s_new (ci := 6) (C := R_S) (T := F_S) (N := 4) hx hb hts i_S t_S t_S_ok hown (hts _ (in_4 (List.mem_of_getElem? (i := 188) rfl) rfl)) (hts _ (in_1 (List.mem_of_getElem? (i := 212) rfl) rfl)) (hts _ (in_1 (List.mem_of_getElem? (i := 4) rfl) rfl)) hK hS rfl (fs := [.null, .int 0, .int 0, .int 0]) (by decide) (by show 0 + 1 ≤ 2; omega) (by show 0 + 4 ≤ 38; omega) d_C_newString_7 (fun q1 H hq f_q1 hz o1 hS => ?_)
    have lt_v_q1 : v < q1 := by rw [hq]; exact ar_lt f1
    have f1 := ar_kept f1 (o1 _ lt_v_q1)
    have ge_q1 : s.heap.size ≤ q1 := by rw [hq]; exact hS0.1
    refine lv_dup hx hb d_C_newString_10 rfl ?_
    have hq1lt := ob_lt f_q1
    refine lv_aload_n hx hb d_C_newString_11 rfl (lv_at hl 0 rfl) ?_
    refine lv_iload_n hx hb d_C_newString_12 rfl (lv_at hl 1 rfl) ?_
    refine lv_iload_n hx hb d_C_newString_13 rfl (lv_at hl 1 rfl) ?_
    refine lv_iload_n hx hb d_C_newString_14 rfl (lv_at hl 2 rfl) ?_
    refine n_iadd hx hb d_C_newString_15 ?_
    refine aW (N := no_) (rS (As := [.ref v, .int (nI so), .int (nI (so + n))]) (rest := [.ref q1, .ref q1]) C0 (c_Y_copyOfRange0 l g _ v cap so (so + n) f f1 hf (by omega)) (zK_S hZ hS (fun _ h => h.elim)) k_C_newString_16 rfl rfl ⟨Nat.le_of_ble_eq_true rfl, Nat.le_of_ble_eq_true rfl⟩ rfl hl.1 rfl (Nat.le_of_ble_eq_true rfl) d_C_newString_16 ⟨by show 0 + 1 + 1 ≤ 2; omega, by show 0 + 4 + 34 ≤ 38; omega⟩) (fun v H L hC1 hp hL => ?_)
    have hS0 := hS
    have hS := hS_call hS hC1 hL (fun q h => h.elim)
    have f1 := ar_kept f1 (hC_at hC1 (ar_lt f1) (fun z => z))
    have f_q1 := ob_kept f_q1 (hC_at hC1 (ob_lt f_q1) (fun z => z))
    obtain ⟨q9, hq9, rfl, f2, hp1, hp2, hp3⟩ := hp
    rw [Nat.add_sub_cancel_left] at hp1 hp2
    have ltq : s.heap.size ≤ q9 := Nat.le_trans hS0.1 hq9
    have ne9 : q9 ≠ q1 := Ne.symm (Nat.ne_of_lt (Nat.lt_of_lt_of_le hq1lt hq9))
    refine W.eq (g2 := F0 m 19 ls [.ref q9, .ref q1, .ref q1]) rfl ?_
    refine lv_iconst (v := nI 0) hx hb d_C_newString_19 (by decide) ?_
    refine aW (N := (fun q => q = q1)) (rI (As := [.ref q9, .int (nI 0)]) (rest := [.ref q1]) C0 (c_S_init7 l g _ q1 q9 f_q1) (zK_S hZ hS (fun _ h => h.elim)) k_C_newString_20 rfl rfl ⟨Nat.le_of_ble_eq_true rfl, Nat.le_of_ble_eq_true rfl⟩ rfl hl.1 rfl (Nat.le_of_ble_eq_true rfl) d_C_newString_20 ⟨by show 0 + 1 + 1 + 0 ≤ 2; omega, by show 0 + 4 + 34 + 0 ≤ 38; omega⟩) (fun v H L hC1 hp hL => ?_)
    have hS0 := hS
    have hS := hS_call hS hC1 hL (fun q h => by subst h; exact Or.inr ge_q1)
    have f1 := ar_kept f1 (hC_at hC1 (ar_lt f1) (fun z => (Nat.ne_of_lt (Nat.lt_of_lt_of_le v9lt ge_q1)) z))
    have hp1 := ar_kept hp1 (hC_at hC1 (ar_lt hp1) (fun z => ne9 z))
    obtain ⟨rfl, f8⟩ := hp
    refine W.eq (g2 := F0 m 23 ls [.ref q1]) rfl ?_
    refine W.widen (k := 2) (n := 38) (by omega) (by omega) ?_
    exact W.aret hx hb hr (Or.inl ⟨_, rfl⟩) (Or.inr ⟨_, rfl⟩) (fun t9 ht hW => ⟨_, rfl, by rw [ht]; exact hS_hC hS, by rw [ht]; exact Or.inr ⟨q1, q9, ge_q1, ltq, rfl, ob_sO f8, ⟨f2, by rw [hu.1]; exact hp1, (fun j hj => by rw [hp2 j (by omega)]; exact hu.2.1 j (by omega)), hp3⟩, hu.2.2, by omega⟩⟩) hS.2.2 d_C_newString_23 hlk
  · skip
    refine va_ldcS hx hb hown hK.2.2.2.2.2.1 d_C_newString_4 ?_
    refine W.widen (k := 2) (n := 38) (by omega) (by omega) ?_
    exact W.aret hx hb hr (Or.inl ⟨_, rfl⟩) (Or.inr ⟨_, rfl⟩) (fun t9 ht hW => ⟨_, rfl, by rw [ht]; exact hS_hC hS, by rw [ht]; exact Or.inl ⟨(nI_eq (a := n) (b := 0) (by omega) (by decide)).mp c1, rfl⟩⟩) hS.2.2 d_C_newString_6 hlk
theorem k_S_substring1_1 : kV "java/lang/String" 505 "java/lang/String" y_S_length b_S_length 1 (some .int) 0 := ⟨(in_4 (List.mem_of_getElem? (i := 140) rfl) rfl), (in_1 (List.mem_of_getElem? (i := 86) rfl) rfl), (in_1 (List.mem_of_getElem? (i := 87) rfl) rfl), (in_1 (List.mem_of_getElem? (i := 4) rfl) rfl), (in_1 (List.mem_of_getElem? (i := 88) rfl) rfl), ⟨by decide, by decide, by decide +kernel⟩⟩
theorem k_S_substring1_8 : kS "java/lang/String" 521 y_S_checkBoundsBeginEnd b_S_checkBoundsBeginEnd 3 none 3 := ⟨(in_4 (List.mem_of_getElem? (i := 183) rfl) rfl), (in_2 (List.mem_of_getElem? (i := 69) rfl) rfl), (in_1 (List.mem_of_getElem? (i := 4) rfl) rfl), (in_2 (List.mem_of_getElem? (i := 70) rfl) rfl), ⟨by decide, by decide, by decide +kernel⟩⟩
theorem k_S_substring1_28 : kV "java/lang/String" 492 "java/lang/String" y_S_isLatin1 b_S_isLatin1 1 (some .boolean) 0 := ⟨(in_1 (List.mem_of_getElem? (i := 98) rfl) rfl), (in_1 (List.mem_of_getElem? (i := 99) rfl) rfl), (in_1 (List.mem_of_getElem? (i := 100) rfl) rfl), (in_1 (List.mem_of_getElem? (i := 4) rfl) rfl), (in_1 (List.mem_of_getElem? (i := 101) rfl) rfl), ⟨by decide, by decide, by decide +kernel⟩⟩
theorem k_S_substring1_41 : kS "java/lang/String" 685 y_C_newString b_C_newString 3 (some (.object "java/lang/String")) 3 := ⟨(in_4 (List.mem_of_getElem? (i := 184) rfl) rfl), (in_4 (List.mem_of_getElem? (i := 185) rfl) rfl), (in_1 (List.mem_of_getElem? (i := 8) rfl) rfl), (in_4 (List.mem_of_getElem? (i := 186) rfl) rfl), ⟨by decide, by decide, by decide +kernel⟩⟩
set_option maxHeartbeats 4000000 in
set_option maxRecDepth 100000 in
/-- String.substring -/
theorem c_S_substring1 (l : Launch) (g : gG) (H : Heap) (a w9 so to0 : Nat) (t : List Nat) (h : sS g H a w9 t) (hst : so ≤ to0 ∧ to0 ≤ t.length) : Met l y_S_substring1 (wC y_S_substring1 b_S_substring1 5 (some (.object "java/lang/String"))) (rmk 4 2 38 89) (pC g H [.ref a, .int (nI so), .int (nI to0)]) (qW H no_ (fun r H1 => ∃ a2, r = some (.ref a2) ∧ ((so = 0 ∧ to0 = t.length ∧ a2 = a) ∨ (so = to0 ∧ a2 = g.2.2.2 1) ∨ ∃ w2, H.size ≤ a2 ∧ H.size ≤ w2 ∧ sS g H1 a2 w2 ((t.drop so).take (to0 - so))))) 2 38 (fW H no_) := by
  refine mB (by decide) (Nat.le_of_ble_eq_true rfl) ?_
  intro p e s m below meth c ls C0 hH hZ hnm hl
  have C0 : cF g p s m _ meth c b_S_substring1 5 "java/lang/String" (some (.object "java/lang/String")) := C0
  obtain ⟨hx, hb, hml, hown, hts, hr, hlk, hK⟩ := id C0
  subst hH
  have hl : lv_has ls 5 [(0, .ref a), (1, .int (nI so)), (2, .int (nI to0))] := hl
  have hS : va_S (fW s.heap no_) s.heap s.heap [] := hS_rf
  obtain ⟨fa, ⟨f, f1, hf3, hf4⟩, hch, ht24⟩ := h
  refine lv_aload_n hx hb d_S_substring1_0 rfl (lv_at hl 0 rfl) ?_
  refine aP (rV (As := []) (rest := []) C0 (c_S_length l g _ a w9 t.length f fa (ar_bA f1)) (zK_S hZ hS (fun _ h => h.elim)) k_S_substring1_1 rfl rfl ⟨Nat.le_of_ble_eq_true rfl, Nat.le_of_ble_eq_true rfl⟩ (s_recv hK fa) rfl hl.1 rfl (Nat.le_of_ble_eq_true rfl) d_S_substring1_1 ⟨by show 0 + 0 ≤ 2; omega, by show 0 + 0 ≤ 38; omega⟩) ?_
  intro v hv; subst hv
  refine W.eq (g2 := F0 m 4 ls [.int (nI t.length)]) rfl ?_
  refine lv_istore_n (lv' := [(3, .int (nI t.length)), (0, .ref a), (1, .int (nI so)), (2, .int (nI to0))]) hx hb d_S_substring1_4 rfl hl (by decide) rfl (fun ls hl => ?_)
  refine lv_iload_n hx hb d_S_substring1_5 rfl (lv_at hl 2 rfl) ?_
  refine lv_iload_n hx hb d_S_substring1_6 rfl (lv_at hl 3 rfl) ?_
  refine lv_iload_n hx hb d_S_substring1_7 rfl (lv_at hl 0 rfl) ?_
  refine aP (rS (As := [.int (nI so), .int (nI to0), .int (nI t.length)]) (rest := []) C0 (c_S_checkBoundsBeginEnd l g _ so to0 t.length (by omega)) (zK_S hZ hS (fun _ h => h.elim)) k_S_substring1_8 rfl rfl ⟨Nat.le_of_ble_eq_true rfl, Nat.le_of_ble_eq_true rfl⟩ rfl hl.1 rfl (Nat.le_of_ble_eq_true rfl) d_S_substring1_8 ⟨by show 0 + 0 ≤ 2; omega, by show 0 + 0 ≤ 38; omega⟩) ?_
  intro v hv; subst hv
  refine W.eq (g2 := F0 m 11 ls []) rfl ?_
  refine lv_iload_n hx hb d_S_substring1_11 rfl (lv_at hl 2 rfl) ?_
  refine lv_if_ne (tgt := 22) hx hb d_S_substring1_12 (by decide) (fun c12 => ?_) (fun c12 => ?_)
  · skip
    refine lv_iload_n hx hb d_S_substring1_22 rfl (lv_at hl 3 rfl) ?_
    refine lv_iload_n hx hb d_S_substring1_23 rfl (lv_at hl 2 rfl) ?_
    refine n_isub hx hb (by omega) d_S_substring1_24 ?_
    refine lv_istore (lv' := [(4, .int (nI (to0 - so))), (3, .int (nI t.length)), (0, .ref a), (1, .int (nI so)), (2, .int (nI to0))]) hx hb d_S_substring1_25 hl (by decide) rfl (fun ls hl => ?_)
    refine lv_aload_n hx hb d_S_substring1_27 rfl (lv_at hl 2 rfl) ?_
    refine aP (rV (As := []) (rest := []) C0 (c_S_isLatin1 l g _ a w9 fa) (zK_S hZ hS (fun _ h => h.elim)) k_S_substring1_28 rfl rfl ⟨Nat.le_of_ble_eq_true rfl, Nat.le_of_ble_eq_true rfl⟩ (s_recv hK fa) rfl hl.1 rfl (Nat.le_of_ble_eq_true rfl) d_S_substring1_28 ⟨by show 0 + 0 ≤ 2; omega, by show 0 + 0 ≤ 38; omega⟩) ?_
    intro v hv; subst hv
    refine W.eq (g2 := F0 m 31 ls [.int 1]) rfl ?_
    refine lv_if_eq (tgt := 47) hx hb d_S_substring1_31 (by decide) (fun c31 => ?_) (fun c31 => ?_)
    · skip
      first | exact absurd c31 (by decide) | exact absurd (by decide) c31
    · skip
      refine lv_aload_n hx hb d_S_substring1_34 rfl (lv_at hl 2 rfl) ?_
      refine s_get hx hb hts hown hK fa 0 (by decide) (hts (.fieldLink "java/lang/String" 9 "java/lang/String" "value" "[B") (in_2 (List.mem_of_getElem? (i := 146) rfl) rfl)) d_S_substring1_35 ?_
      refine W.eq (g2 := F0 m 38 ls [.ref w9]) rfl ?_
      refine lv_iload_n hx hb d_S_substring1_38 rfl (lv_at hl 3 rfl) ?_
      refine lv_iload hx hb d_S_substring1_39 (lv_at hl 0 rfl) ?_
      refine aW (N := no_) (rS (As := [.ref w9, .int (nI so), .int (nI (to0 - so))]) (rest := []) C0 (c_C_newString l g _ w9 t.length so (to0 - so) f f1 hf4 ((t.drop so).take (to0 - so)) ⟨by rw [List.length_take, List.length_drop]; omega, (fun j hj => by rw [hf3 (so + j) (by omega)]; congr 1; rw [List.getD_eq_getElem?_getD, List.getD_eq_getElem?_getD, List.getElem?_take, if_pos hj, List.getElem?_drop]), (fun k => by rw [List.getD_eq_getElem?_getD, List.getElem?_take]; split; (rw [List.getElem?_drop, ← List.getD_eq_getElem?_getD]; exact hch _); decide)⟩ (by omega)) (zK_S hZ hS (fun _ h => h.elim)) k_S_substring1_41 rfl rfl ⟨Nat.le_of_ble_eq_true rfl, Nat.le_of_ble_eq_true rfl⟩ rfl hl.1 rfl (Nat.le_of_ble_eq_true rfl) d_S_substring1_41 ⟨by show 0 + 2 ≤ 2; omega, by show 0 + 38 ≤ 38; omega⟩) (fun v H L hC1 hp hL => ?_)
      have hS0 := hS
      have hS := hS_call hS hC1 hL (fun q h => h.elim)
      have fa := sO_kept fa (hC_at hC1 (sO_lt fa) (fun z => z))
      have f1 := ar_kept f1 (hC_at hC1 (ar_lt f1) (fun z => z))
      have hp : (to0 - so = 0 ∧ v = some (.ref (g.2.2.2 1))) ∨ ∃ a w, s.heap.size ≤ a ∧ s.heap.size ≤ w ∧ v = some (.ref a) ∧ sS g H a w ((t.drop so).take (to0 - so)) := hp
      obtain ⟨a2, rfl, hp5⟩ : ∃ a2, v = some (.ref a2) ∧ ((to0 - so = 0 ∧ a2 = g.2.2.2 1) ∨ ∃ w, s.heap.size ≤ a2 ∧ s.heap.size ≤ w ∧ sS g H a2 w ((t.drop so).take (to0 - so))) := by
        rcases hp with ⟨h1, h2⟩ | ⟨a2, w2, h1, h2, h3, h4⟩
        · exact ⟨_, h2, Or.inl ⟨h1, rfl⟩⟩
        · exact ⟨a2, h3, Or.inr ⟨w2, h1, h2, h4⟩⟩
      refine W.eq (g2 := F0 m 44 ls [.ref a2]) rfl ?_
      refine lv_goto (tgt := 57) hx hb d_S_substring1_44 (by decide) ?_
      refine W.widen (k := 2) (n := 38) (by omega) (by omega) ?_
      exact W.aret hx hb hr (Or.inl ⟨_, rfl⟩) (Or.inr ⟨_, rfl⟩) (fun t9 ht hW => ⟨_, rfl, by rw [ht]; exact hS_hC hS, by rw [ht]; exact ⟨a2, rfl, Or.inr (hp5.elim (fun z => Or.inl ⟨by omega, z.2⟩) (fun z => Or.inr z))⟩⟩) hS.2.2 d_S_substring1_57 hlk
  · skip
    refine lv_iload_n hx hb d_S_substring1_15 rfl (lv_at hl 3 rfl) ?_
    refine lv_iload_n hx hb d_S_substring1_16 rfl (lv_at hl 0 rfl) ?_
    refine n_ne (tgt := 22) (a := to0) (b := t.length) hx hb d_S_substring1_17 (by decide) (by omega) (by omega) (fun c17 => ?_) (fun c17 => ?_)
    · skip
      refine lv_iload_n hx hb d_S_substring1_22 rfl (lv_at hl 3 rfl) ?_
      refine lv_iload_n hx hb d_S_substring1_23 rfl (lv_at hl 2 rfl) ?_
      refine n_isub hx hb (by omega) d_S_substring1_24 ?_
      refine lv_istore (lv' := [(4, .int (nI (to0 - so))), (3, .int (nI t.length)), (0, .ref a), (1, .int (nI so)), (2, .int (nI to0))]) hx hb d_S_substring1_25 hl (by decide) rfl (fun ls hl => ?_)
      refine lv_aload_n hx hb d_S_substring1_27 rfl (lv_at hl 2 rfl) ?_
      refine aP (rV (As := []) (rest := []) C0 (c_S_isLatin1 l g _ a w9 fa) (zK_S hZ hS (fun _ h => h.elim)) k_S_substring1_28 rfl rfl ⟨Nat.le_of_ble_eq_true rfl, Nat.le_of_ble_eq_true rfl⟩ (s_recv hK fa) rfl hl.1 rfl (Nat.le_of_ble_eq_true rfl) d_S_substring1_28 ⟨by show 0 + 0 ≤ 2; omega, by show 0 + 0 ≤ 38; omega⟩) ?_
      intro v hv; subst hv
      refine W.eq (g2 := F0 m 31 ls [.int 1]) rfl ?_
      refine lv_if_eq (tgt := 47) hx hb d_S_substring1_31 (by decide) (fun c31 => ?_) (fun c31 => ?_)
      · skip
        first | exact absurd c31 (by decide) | exact absurd (by decide) c31
      · skip
        refine lv_aload_n hx hb d_S_substring1_34 rfl (lv_at hl 2 rfl) ?_
        refine s_get hx hb hts hown hK fa 0 (by decide) (hts (.fieldLink "java/lang/String" 9 "java/lang/String" "value" "[B") (in_2 (List.mem_of_getElem? (i := 146) rfl) rfl)) d_S_substring1_35 ?_
        refine W.eq (g2 := F0 m 38 ls [.ref w9]) rfl ?_
        refine lv_iload_n hx hb d_S_substring1_38 rfl (lv_at hl 3 rfl) ?_
        refine lv_iload hx hb d_S_substring1_39 (lv_at hl 0 rfl) ?_
        refine aW (N := no_) (rS (As := [.ref w9, .int (nI so), .int (nI (to0 - so))]) (rest := []) C0 (c_C_newString l g _ w9 t.length so (to0 - so) f f1 hf4 ((t.drop so).take (to0 - so)) ⟨by rw [List.length_take, List.length_drop]; omega, (fun j hj => by rw [hf3 (so + j) (by omega)]; congr 1; rw [List.getD_eq_getElem?_getD, List.getD_eq_getElem?_getD, List.getElem?_take, if_pos hj, List.getElem?_drop]), (fun k => by rw [List.getD_eq_getElem?_getD, List.getElem?_take]; split; (rw [List.getElem?_drop, ← List.getD_eq_getElem?_getD]; exact hch _); decide)⟩ (by omega)) (zK_S hZ hS (fun _ h => h.elim)) k_S_substring1_41 rfl rfl ⟨Nat.le_of_ble_eq_true rfl, Nat.le_of_ble_eq_true rfl⟩ rfl hl.1 rfl (Nat.le_of_ble_eq_true rfl) d_S_substring1_41 ⟨by show 0 + 2 ≤ 2; omega, by show 0 + 38 ≤ 38; omega⟩) (fun v H L hC1 hp hL => ?_)
        have hS0 := hS
        have hS := hS_call hS hC1 hL (fun q h => h.elim)
        have fa := sO_kept fa (hC_at hC1 (sO_lt fa) (fun z => z))
        have f1 := ar_kept f1 (hC_at hC1 (ar_lt f1) (fun z => z))
        have hp : (to0 - so = 0 ∧ v = some (.ref (g.2.2.2 1))) ∨ ∃ a w, s.heap.size ≤ a ∧ s.heap.size ≤ w ∧ v = some (.ref a) ∧ sS g H a w ((t.drop so).take (to0 - so)) := hp
        obtain ⟨a2, rfl, hp5⟩ : ∃ a2, v = some (.ref a2) ∧ ((to0 - so = 0 ∧ a2 = g.2.2.2 1) ∨ ∃ w, s.heap.size ≤ a2 ∧ s.heap.size ≤ w ∧ sS g H a2 w ((t.drop so).take (to0 - so))) := by
          rcases hp with ⟨h1, h2⟩ | ⟨a2, w2, h1, h2, h3, h4⟩
          · exact ⟨_, h2, Or.inl ⟨h1, rfl⟩⟩
          · exact ⟨a2, h3, Or.inr ⟨w2, h1, h2, h4⟩⟩
        refine W.eq (g2 := F0 m 44 ls [.ref a2]) rfl ?_
        refine lv_goto (tgt := 57) hx hb d_S_substring1_44 (by decide) ?_
        refine W.widen (k := 2) (n := 38) (by omega) (by omega) ?_
        exact W.aret hx hb hr (Or.inl ⟨_, rfl⟩) (Or.inr ⟨_, rfl⟩) (fun t9 ht hW => ⟨_, rfl, by rw [ht]; exact hS_hC hS, by rw [ht]; exact ⟨a2, rfl, Or.inr (hp5.elim (fun z => Or.inl ⟨by omega, z.2⟩) (fun z => Or.inr z))⟩⟩) hS.2.2 d_S_substring1_57 hlk
    · skip
      refine lv_aload_n hx hb d_S_substring1_20 rfl (lv_at hl 1 rfl) ?_
      refine W.widen (k := 2) (n := 38) (by omega) (by omega) ?_
      exact W.aret hx hb hr (Or.inl ⟨_, rfl⟩) (Or.inr ⟨_, rfl⟩) (fun t9 ht hW => ⟨_, rfl, by rw [ht]; exact hS_hC hS, by rw [ht]; exact ⟨a, rfl, Or.inl ⟨(nI_eq (a := so) (b := 0) (by omega) (by decide)).mp c12, c17, rfl⟩⟩⟩) hS.2.2 d_S_substring1_21 hlk
set_option maxHeartbeats 4000000 in
set_option maxRecDepth 100000 in
/-- StringLatin1.canEncode(int) -/
theorem c_C_canEncode1 (l : Launch) (g : gG) (H : Heap) (k : Nat) (hk : k < 128) : Met l y_C_canEncode1 (wC y_C_canEncode1 b_C_canEncode1 1 (some .boolean)) (rmk 0 0 0 0) (pC g H [.int (nI k)]) (qP H (fun v => v = some (.int 1))) 0 0 no_ := by
  refine mB (by decide) (Nat.le_of_ble_eq_true rfl) ?_
  intro p e s m below meth c ls C0 hH hZ hnm hl
  have C0 : cF g p s m _ meth c b_C_canEncode1 1 "java/lang/StringLatin1" (some .boolean) := C0
  obtain ⟨hx, hb, hml, hown, hts, hr, hlk, hK⟩ := id C0
  subst hH
  have hl : lv_has ls 1 [(0, .int (nI k))] := hl
  have hS : va_S (fW s.heap no_) s.heap s.heap [] := hS_rf
  refine lv_iload_n hx hb d_C_canEncode1_0 rfl (lv_at hl 0 rfl) ?_
  refine lv_if_lt (tgt := 15) hx hb d_C_canEncode1_1 (by decide) (fun c1 => ?_) (fun c1 => ?_)
  · skip
    exact absurd c1 (nI_pos (by omega))
  · skip
    refine lv_iload_n hx hb d_C_canEncode1_4 rfl (lv_at hl 0 rfl) ?_
    refine lv_sipush (v := nI 255) hx hb d_C_canEncode1_5 (by decide) ?_
    refine n_gt (tgt := 15) (a := k) (b := 255) hx hb d_C_canEncode1_8 (by decide) (by omega) (by omega) (fun c8 => ?_) (fun c8 => ?_)
    · skip
      exact absurd c8 (by omega)
    · skip
      refine lv_iconst (v := nI 1) hx hb d_C_canEncode1_11 (by decide) ?_
      refine lv_goto (tgt := 16) hx hb d_C_canEncode1_12 (by decide) ?_
      exact W.zret hx hb hr rfl (fun t9 ht hW => ⟨_, rfl, rfl, ht⟩) (fun q h => by cases h) d_C_canEncode1_16 hlk
def ixL (k : Nat) : List Nat → Nat → Int32
  | [], _ => -1
  | x :: l, i => if x = k then nI i else ixL k l (i + 1)
theorem by_i8 : ∀ c, c < 128 → (nI c).toInt8.toInt32 = nI c := by decide +kernel
set_option maxHeartbeats 4000000 in
set_option maxRecDepth 100000 in
theorem lp_C_indexOfChar {p : Program} {l : Launch} {e : Env} {s : State} {m : MethodId} {args : Array Value} {below : List Frame} {meth : Method} {c : Code} {g : gG} (C0 : cF g p s m args meth c b_C_indexOfChar 6 "java/lang/StringLatin1" (some .int)) {w9 k : Nat} (hk : k < 128) (t : List Nat) (ht : t.length ≤ 24) (f : Nat → Int32) (f1 : bA g s.heap w9 t.length f) (hf3 : ∀ j, j < t.length → f j = nI (t.getD j 0)) (hch : ∀ c, t.getD c 0 < 128) (res : Int32) :
    ∀ (n i : Nat), i ≤ t.length → t.length + 1 ≤ i + n → ixL k (t.drop i) i = res → ∀ (ls : Array Slot), lv_has ls 6 [(0, .ref w9), (1, .int (nI k)), (2, .int (nI 0)), (3, .int (nI t.length)), (4, .int (nI k)), (5, .int (nI i))] → W p l e (rmk 0 0 0 0) s m args below meth c s.heap [] 0 0 (MQ below (qP s.heap (fun v => v = some (.int res))) args s 0 0 no_) (F0 m 7 ls []) := by
  obtain ⟨hx, hb, hml, hown, hts, hr, hlk, hK⟩ := id C0
  intro n
  induction n with
  | zero => intro i h1 h2; exact absurd h2 (by omega)
  | succ n ih =>
    intro i hi hin hres ls hl
    refine lv_iload hx hb d_C_indexOfChar_7 (lv_at hl 5 rfl) ?_
    refine lv_iload_n hx hb d_C_indexOfChar_9 rfl (lv_at hl 3 rfl) ?_
    refine n_ge (tgt := 31) (a := i) (b := t.length) hx hb d_C_indexOfChar_10 (by decide) (by omega) (by omega) (fun c10 => ?_) (fun c10 => ?_)
    · skip
      refine lv_iconst (v := (-1)) hx hb d_C_indexOfChar_31 (by decide) ?_
      rw [List.drop_eq_nil_of_le (by omega), ixL] at hres
      exact W.iret hx hb hr (fun t9 ht hW => ⟨_, rfl, by rw [hres], ht⟩) (fun q h => by cases h) d_C_indexOfChar_32 hlk
    · skip
      refine lv_aload_n hx hb d_C_indexOfChar_13 rfl (lv_at hl 0 rfl) ?_
      refine lv_iload hx hb d_C_indexOfChar_14 (lv_at hl 5 rfl) ?_
      refine b_ld hx hb hK f1 (vp_in_nI (by omega) (by omega)) d_C_indexOfChar_16 ?_
      refine W.eq (g2 := F0 m 17 ls [.int (nI (t.getD i 0))]) (by rw [nI_clamp (by omega), hf3 i (by omega)]) ?_
      have hci := hch i
      refine lv_iload hx hb d_C_indexOfChar_17 (lv_at hl 4 rfl) ?_
      refine n_ne (tgt := 25) (a := t.getD i 0) (b := k) hx hb d_C_indexOfChar_19 (by decide) (by omega) (by omega) (fun c19 => ?_) (fun c19 => ?_)
      · skip
        refine n_inc (a := i) (lv' := [(5, .int (nI (i + 1))), (0, .ref w9), (1, .int (nI k)), (2, .int (nI 0)), (3, .int (nI t.length)), (4, .int (nI k))]) hx hb d_C_indexOfChar_25 hl (k := 5) rfl (by decide) rfl (fun ls hl => ?_)
        refine lv_goto (tgt := 7) hx hb d_C_indexOfChar_28 (by decide) ?_
        rw [List.drop_eq_getElem_cons (by omega), ixL, show t[i] = t.getD i 0 from by rw [List.getD_eq_getElem?_getD, List.getElem?_eq_getElem (by omega)]; rfl, if_neg c19] at hres
        exact ih (i + 1) (by omega) (by omega) hres ls (lv_sub hl [1, 2, 3, 4, 5, 0] rfl)
      · skip
        refine lv_iload hx hb d_C_indexOfChar_22 (lv_at hl 5 rfl) ?_
        rw [List.drop_eq_getElem_cons (by omega), ixL, show t[i] = t.getD i 0 from by rw [List.getD_eq_getElem?_getD, List.getElem?_eq_getElem (by omega)]; rfl, if_pos c19] at hres
        exact W.iret hx hb hr (fun t9 ht hW => ⟨_, rfl, by rw [hres], ht⟩) (fun q h => by cases h) d_C_indexOfChar_24 hlk
set_option maxHeartbeats 4000000 in
set_option maxRecDepth 100000 in
/-- indexOfChar -/
theorem c_C_indexOfChar (l : Launch) (g : gG) (H : Heap) (w9 k : Nat) (hk : k < 128) (t : List Nat) (ht : t.length ≤ 24) (f : Nat → Int32) (f1 : bA g H w9 t.length f) (hf3 : ∀ j, j < t.length → f j = nI (t.getD j 0)) (hch : ∀ c, t.getD c 0 < 128) : Met l y_C_indexOfChar (wC y_C_indexOfChar b_C_indexOfChar 6 (some .int)) (rmk 0 0 0 0) (pC g H [.ref w9, .int (nI k), .int (nI 0), .int (nI t.length)]) (qP H (fun v => v = some (.int (ixL k t 0)))) 0 0 no_ := by
  refine mB (by decide) (Nat.le_of_ble_eq_true rfl) ?_
  intro p e s m below meth c ls C0 hH hZ hnm hl
  have C0 : cF g p s m _ meth c b_C_indexOfChar 6 "java/lang/StringLatin1" (some .int) := C0
  obtain ⟨hx, hb, hml, hown, hts, hr, hlk, hK⟩ := id C0
  subst hH
  have hl : lv_has ls 6 [(0, .ref w9), (1, .int (nI k)), (2, .int (nI 0)), (3, .int (nI t.length))] := hl
  have hS : va_S (fW s.heap no_) s.heap s.heap [] := hS_rf
  refine lv_iload_n hx hb d_C_indexOfChar_0 rfl (lv_at hl 1 rfl) ?_
  refine lv_i2b hx hb d_C_indexOfChar_1 rfl ?_
  refine W.eq (g2 := F0 m 2 ls [.int (nI k)]) (by rw [by_i8 k hk]) ?_
  refine lv_istore (lv' := [(4, .int (nI k)), (0, .ref w9), (1, .int (nI k)), (2, .int (nI 0)), (3, .int (nI t.length))]) hx hb d_C_indexOfChar_2 hl (by decide) rfl (fun ls hl => ?_)
  refine lv_iload_n hx hb d_C_indexOfChar_4 rfl (lv_at hl 3 rfl) ?_
  refine lv_istore (lv' := [(5, .int (nI 0)), (4, .int (nI k)), (0, .ref w9), (1, .int (nI k)), (2, .int (nI 0)), (3, .int (nI t.length))]) hx hb d_C_indexOfChar_5 hl (by decide) rfl (fun ls hl => ?_)
  exact lp_C_indexOfChar C0 hk t ht f f1 hf3 hch _ (t.length + 1) 0 (Nat.zero_le _) (by omega) rfl ls (lv_sub hl [2, 3, 4, 5, 1, 0] rfl)
theorem k_C_indexOf0_1 : kS "java/lang/StringLatin1" 88 y_C_canEncode1 b_C_canEncode1 1 (some .boolean) 1 := ⟨(in_4 (List.mem_of_getElem? (i := 144) rfl) rfl), (in_4 (List.mem_of_getElem? (i := 145) rfl) rfl), (in_1 (List.mem_of_getElem? (i := 8) rfl) rfl), (in_4 (List.mem_of_getElem? (i := 146) rfl) rfl), ⟨by decide, by decide, by decide +kernel⟩⟩
theorem k_C_indexOf0_33 : kS "java/lang/StringLatin1" 95 y_C_indexOfChar b_C_indexOfChar 6 (some .int) 4 := ⟨(in_4 (List.mem_of_getElem? (i := 149) rfl) rfl), (in_4 (List.mem_of_getElem? (i := 150) rfl) rfl), (in_1 (List.mem_of_getElem? (i := 8) rfl) rfl), (in_4 (List.mem_of_getElem? (i := 151) rfl) rfl), ⟨by decide, by decide, by decide +kernel⟩⟩
set_option maxHeartbeats 4000000 in
set_option maxRecDepth 100000 in
/-- StringLatin1.indexOf -/
theorem c_C_indexOf0 (l : Launch) (g : gG) (H : Heap) (w9 k : Nat) (hk : k < 128) (t : List Nat) (ht : t.length ≤ 24) (f : Nat → Int32) (f1 : bA g H w9 t.length f) (hf3 : ∀ j, j < t.length → f j = nI (t.getD j 0)) (hch : ∀ c, t.getD c 0 < 128) : Met l y_C_indexOf0 (wC y_C_indexOf0 b_C_indexOf0 4 (some .int)) (rmk 1 0 0 25) (pC g H [.ref w9, .int (nI k), .int (nI 0), .int (nI t.length)]) (qP H (fun v => v = some (.int (ixL k t 0)))) 0 0 no_ := by
  refine mB (by decide) (Nat.le_of_ble_eq_true rfl) ?_
  intro p e s m below meth c ls C0 hH hZ hnm hl
  have C0 : cF g p s m _ meth c b_C_indexOf0 4 "java/lang/StringLatin1" (some .int) := C0
  obtain ⟨hx, hb, hml, hown, hts, hr, hlk, hK⟩ := id C0
  subst hH
  have hl : lv_has ls 4 [(0, .ref w9), (1, .int (nI k)), (2, .int (nI 0)), (3, .int (nI t.length))] := hl
  have hS : va_S (fW s.heap no_) s.heap s.heap [] := hS_rf
  refine lv_iload_n hx hb d_C_indexOf0_0 rfl (lv_at hl 1 rfl) ?_
  refine aP (rS (As := [.int (nI k)]) (rest := []) C0 (c_C_canEncode1 l g _ k hk) (zK_S hZ hS (fun _ h => h.elim)) k_C_indexOf0_1 rfl rfl ⟨Nat.le_of_ble_eq_true rfl, Nat.le_of_ble_eq_true rfl⟩ rfl hl.1 rfl (Nat.le_of_ble_eq_true rfl) d_C_indexOf0_1 ⟨by show 0 + 0 ≤ 0; omega, by show 0 + 0 ≤ 0; omega⟩) ?_
  intro v hv; subst hv
  refine W.eq (g2 := F0 m 4 ls [.int 1]) rfl ?_
  refine lv_if_ne (tgt := 9) hx hb d_C_indexOf0_4 (by decide) (fun c4 => ?_) (fun c4 => ?_)
  · skip
    refine lv_iload_n hx hb d_C_indexOf0_9 rfl (lv_at hl 2 rfl) ?_
    refine lv_iconst (v := nI 0) hx hb d_C_indexOf0_10 (by decide) ?_
    refine va_mmax hx hb (by rw [hml]; exact hl.1.symm) hown (hts _ (in_4 (List.mem_of_getElem? (i := 147) rfl) rfl)) (hts _ (in_1 (List.mem_of_getElem? (i := 151) rfl) rfl)) (hts _ (in_1 (List.mem_of_getElem? (i := 11) rfl) rfl)) (hts _ (in_1 (List.mem_of_getElem? (i := 152) rfl) rfl)) (Nat.le_of_ble_eq_true rfl) (Nat.le_of_ble_eq_true rfl) (by show 0 ≤ 0; omega) (by show 0 ≤ 0; omega) d_C_indexOf0_11 ?_
    refine W.eq (g2 := F0 m 14 ls [.int (nI (max 0 0))]) (by rw [mxn_ (by omega) (by omega)]) ?_
    refine W.eq (g2 := F0 m 14 ls [.int (nI 0)]) rfl ?_
    refine lv_istore_n (lv' := [(2, .int (nI 0)), (0, .ref w9), (1, .int (nI k)), (3, .int (nI t.length))]) hx hb d_C_indexOf0_14 rfl hl (by decide) rfl (fun ls hl => ?_)
    refine lv_iload_n hx hb d_C_indexOf0_15 rfl (lv_at hl 3 rfl) ?_
    refine lv_aload_n hx hb d_C_indexOf0_16 rfl (lv_at hl 1 rfl) ?_
    refine b_len hx hb hK f1 d_C_indexOf0_17 ?_
    refine va_mmin hx hb (by rw [hml]; exact hl.1.symm) hown (hts _ (in_4 (List.mem_of_getElem? (i := 148) rfl) rfl)) (hts _ (in_1 (List.mem_of_getElem? (i := 169) rfl) rfl)) (hts _ (in_1 (List.mem_of_getElem? (i := 11) rfl) rfl)) (hts _ (in_1 (List.mem_of_getElem? (i := 170) rfl) rfl)) (Nat.le_of_ble_eq_true rfl) (Nat.le_of_ble_eq_true rfl) (by show 0 ≤ 0; omega) (by show 0 ≤ 0; omega) d_C_indexOf0_18 ?_
    refine W.eq (g2 := F0 m 21 ls [.int (nI (min t.length t.length))]) (by rw [mn_ (by omega) (by omega)]) ?_
    refine W.eq (g2 := F0 m 21 ls [.int (nI t.length)]) (by rw [Nat.min_self]) ?_
    refine lv_istore_n (lv' := [(3, .int (nI t.length)), (2, .int (nI 0)), (0, .ref w9), (1, .int (nI k))]) hx hb d_C_indexOf0_21 rfl hl (by decide) rfl (fun ls hl => ?_)
    refine lv_iload_n hx hb d_C_indexOf0_22 rfl (lv_at hl 1 rfl) ?_
    refine lv_iload_n hx hb d_C_indexOf0_23 rfl (lv_at hl 0 rfl) ?_
    refine n_lt (tgt := 29) (a := 0) (b := t.length) hx hb d_C_indexOf0_24 (by decide) (by omega) (by omega) (fun c24 => ?_) (fun c24 => ?_)
    · skip
      refine lv_aload_n hx hb d_C_indexOf0_29 rfl (lv_at hl 2 rfl) ?_
      refine lv_iload_n hx hb d_C_indexOf0_30 rfl (lv_at hl 3 rfl) ?_
      refine lv_iload_n hx hb d_C_indexOf0_31 rfl (lv_at hl 1 rfl) ?_
      refine lv_iload_n hx hb d_C_indexOf0_32 rfl (lv_at hl 0 rfl) ?_
      refine aP (rS (As := [.ref w9, .int (nI k), .int (nI 0), .int (nI t.length)]) (rest := []) C0 (c_C_indexOfChar l g _ w9 k hk t ht f f1 hf3 hch) (zK_S hZ hS (fun _ h => h.elim)) k_C_indexOf0_33 rfl rfl ⟨Nat.le_of_ble_eq_true rfl, Nat.le_of_ble_eq_true rfl⟩ rfl hl.1 rfl (Nat.le_of_ble_eq_true rfl) d_C_indexOf0_33 ⟨by show 0 + 0 ≤ 0; omega, by show 0 + 0 ≤ 0; omega⟩) ?_
      intro v hv; subst hv
      refine W.eq (g2 := F0 m 36 ls [.int (ixL k t 0)]) rfl ?_
      exact W.iret hx hb hr (fun t9 ht hW => ⟨_, rfl, rfl, ht⟩) (fun q h => by cases h) d_C_indexOf0_36 hlk
    · skip
      refine lv_iconst (v := (-1)) hx hb d_C_indexOf0_27 (by decide) ?_
      exact W.iret hx hb hr (fun t9 ht hW => ⟨_, rfl, by rw [show t = [] from List.eq_nil_of_length_eq_zero (by omega)]; rfl, ht⟩) (fun q h => by cases h) d_C_indexOf0_28 hlk
  · skip
    first | exact absurd c4 (by decide) | exact absurd (by decide) c4
theorem k_S_indexOf1_1 : kV "java/lang/String" 492 "java/lang/String" y_S_isLatin1 b_S_isLatin1 1 (some .boolean) 0 := ⟨(in_1 (List.mem_of_getElem? (i := 98) rfl) rfl), (in_1 (List.mem_of_getElem? (i := 99) rfl) rfl), (in_1 (List.mem_of_getElem? (i := 100) rfl) rfl), (in_1 (List.mem_of_getElem? (i := 4) rfl) rfl), (in_1 (List.mem_of_getElem? (i := 101) rfl) rfl), ⟨by decide, by decide, by decide +kernel⟩⟩
theorem k_S_indexOf1_14 : kV "java/lang/String" 505 "java/lang/String" y_S_length b_S_length 1 (some .int) 0 := ⟨(in_4 (List.mem_of_getElem? (i := 140) rfl) rfl), (in_1 (List.mem_of_getElem? (i := 86) rfl) rfl), (in_1 (List.mem_of_getElem? (i := 87) rfl) rfl), (in_1 (List.mem_of_getElem? (i := 4) rfl) rfl), (in_1 (List.mem_of_getElem? (i := 88) rfl) rfl), ⟨by decide, by decide, by decide +kernel⟩⟩
theorem k_S_indexOf1_17 : kS "java/lang/String" 637 y_C_indexOf0 b_C_indexOf0 4 (some .int) 4 := ⟨(in_4 (List.mem_of_getElem? (i := 141) rfl) rfl), (in_4 (List.mem_of_getElem? (i := 142) rfl) rfl), (in_1 (List.mem_of_getElem? (i := 8) rfl) rfl), (in_4 (List.mem_of_getElem? (i := 143) rfl) rfl), ⟨by decide, by decide, by decide +kernel⟩⟩
set_option maxHeartbeats 4000000 in
set_option maxRecDepth 100000 in
/-- String.indexOf(int, int) -/
theorem c_S_indexOf1 (l : Launch) (g : gG) (H : Heap) (a w9 k : Nat) (hk : k < 128) (t : List Nat) (h : sS g H a w9 t) : Met l y_S_indexOf1 (wC y_S_indexOf1 b_S_indexOf1 3 (some .int)) (rmk 2 0 0 48) (pC g H [.ref a, .int (nI k), .int (nI 0)]) (qP H (fun v => v = some (.int (ixL k t 0)))) 0 0 no_ := by
  refine mB (by decide) (Nat.le_of_ble_eq_true rfl) ?_
  intro p e s m below meth c ls C0 hH hZ hnm hl
  have C0 : cF g p s m _ meth c b_S_indexOf1 3 "java/lang/String" (some .int) := C0
  obtain ⟨hx, hb, hml, hown, hts, hr, hlk, hK⟩ := id C0
  subst hH
  have hl : lv_has ls 3 [(0, .ref a), (1, .int (nI k)), (2, .int (nI 0))] := hl
  have hS : va_S (fW s.heap no_) s.heap s.heap [] := hS_rf
  obtain ⟨fa, ⟨f, f1, hf3, hf4⟩, hch, ht24⟩ := h
  refine lv_aload_n hx hb d_S_indexOf1_0 rfl (lv_at hl 0 rfl) ?_
  refine aP (rV (As := []) (rest := []) C0 (c_S_isLatin1 l g _ a w9 fa) (zK_S hZ hS (fun _ h => h.elim)) k_S_indexOf1_1 rfl rfl ⟨Nat.le_of_ble_eq_true rfl, Nat.le_of_ble_eq_true rfl⟩ (s_recv hK fa) rfl hl.1 rfl (Nat.le_of_ble_eq_true rfl) d_S_indexOf1_1 ⟨by show 0 + 0 ≤ 0; omega, by show 0 + 0 ≤ 0; omega⟩) ?_
  intro v hv; subst hv
  refine W.eq (g2 := F0 m 4 ls [.int 1]) rfl ?_
  refine lv_if_eq (tgt := 23) hx hb d_S_indexOf1_4 (by decide) (fun c4 => ?_) (fun c4 => ?_)
  · skip
    first | exact absurd c4 (by decide) | exact absurd (by decide) c4
  · skip
    refine lv_aload_n hx hb d_S_indexOf1_7 rfl (lv_at hl 0 rfl) ?_
    refine s_get hx hb hts hown hK fa 0 (by decide) (hts (.fieldLink "java/lang/String" 9 "java/lang/String" "value" "[B") (in_2 (List.mem_of_getElem? (i := 146) rfl) rfl)) d_S_indexOf1_8 ?_
    refine W.eq (g2 := F0 m 11 ls [.ref w9]) rfl ?_
    refine lv_iload_n hx hb d_S_indexOf1_11 rfl (lv_at hl 1 rfl) ?_
    refine lv_iload_n hx hb d_S_indexOf1_12 rfl (lv_at hl 2 rfl) ?_
    refine lv_aload_n hx hb d_S_indexOf1_13 rfl (lv_at hl 0 rfl) ?_
    refine aP (rV (As := []) (rest := [.int (nI 0), .int (nI k), .ref w9]) C0 (c_S_length l g _ a w9 t.length f fa (ar_bA f1)) (zK_S hZ hS (fun _ h => h.elim)) k_S_indexOf1_14 rfl rfl ⟨Nat.le_of_ble_eq_true rfl, Nat.le_of_ble_eq_true rfl⟩ (s_recv hK fa) rfl hl.1 rfl (Nat.le_of_ble_eq_true rfl) d_S_indexOf1_14 ⟨by show 0 + 0 ≤ 0; omega, by show 0 + 0 ≤ 0; omega⟩) ?_
    intro v hv; subst hv
    refine W.eq (g2 := F0 m 17 ls [.int (nI t.length), .int (nI 0), .int (nI k), .ref w9]) rfl ?_
    refine aP (rS (As := [.ref w9, .int (nI k), .int (nI 0), .int (nI t.length)]) (rest := []) C0 (c_C_indexOf0 l g _ w9 k hk t ht24 f (ar_bA f1) hf3 hch) (zK_S hZ hS (fun _ h => h.elim)) k_S_indexOf1_17 rfl rfl ⟨Nat.le_of_ble_eq_true rfl, Nat.le_of_ble_eq_true rfl⟩ rfl hl.1 rfl (Nat.le_of_ble_eq_true rfl) d_S_indexOf1_17 ⟨by show 0 + 0 ≤ 0; omega, by show 0 + 0 ≤ 0; omega⟩) ?_
    intro v hv; subst hv
    refine W.eq (g2 := F0 m 20 ls [.int (ixL k t 0)]) rfl ?_
    refine lv_goto (tgt := 36) hx hb d_S_indexOf1_20 (by decide) ?_
    exact W.iret hx hb hr (fun t9 ht hW => ⟨_, rfl, rfl, ht⟩) (fun q h => by cases h) d_S_indexOf1_36 hlk
theorem k_S_indexOf0_3 : kV "java/lang/String" 633 "java/lang/String" y_S_indexOf1 b_S_indexOf1 3 (some .int) 2 := ⟨(in_4 (List.mem_of_getElem? (i := 136) rfl) rfl), (in_4 (List.mem_of_getElem? (i := 137) rfl) rfl), (in_4 (List.mem_of_getElem? (i := 138) rfl) rfl), (in_1 (List.mem_of_getElem? (i := 4) rfl) rfl), (in_4 (List.mem_of_getElem? (i := 139) rfl) rfl), ⟨by decide, by decide, by decide +kernel⟩⟩
set_option maxHeartbeats 4000000 in
set_option maxRecDepth 100000 in
/-- String.indexOf(int) -/
theorem c_S_indexOf0 (l : Launch) (g : gG) (H : Heap) (a w9 k : Nat) (hk : k < 128) (t : List Nat) (h : sS g H a w9 t) : Met l y_S_indexOf0 (wC y_S_indexOf0 b_S_indexOf0 2 (some .int)) (rmk 3 0 0 70) (pC g H [.ref a, .int (nI k)]) (qP H (fun v => v = some (.int (ixL k t 0)))) 0 0 no_ := by
  refine mB (by decide) (Nat.le_of_ble_eq_true rfl) ?_
  intro p e s m below meth c ls C0 hH hZ hnm hl
  have C0 : cF g p s m _ meth c b_S_indexOf0 2 "java/lang/String" (some .int) := C0
  obtain ⟨hx, hb, hml, hown, hts, hr, hlk, hK⟩ := id C0
  subst hH
  have hl : lv_has ls 2 [(0, .ref a), (1, .int (nI k))] := hl
  have hS : va_S (fW s.heap no_) s.heap s.heap [] := hS_rf
  refine lv_aload_n hx hb d_S_indexOf0_0 rfl (lv_at hl 0 rfl) ?_
  refine lv_iload_n hx hb d_S_indexOf0_1 rfl (lv_at hl 1 rfl) ?_
  refine lv_iconst (v := nI 0) hx hb d_S_indexOf0_2 (by decide) ?_
  refine aP (rV (As := [.int (nI k), .int (nI 0)]) (rest := []) C0 (c_S_indexOf1 l g _ a w9 k hk t h) (zK_S hZ hS (fun _ h => h.elim)) k_S_indexOf0_3 rfl rfl ⟨Nat.le_of_ble_eq_true rfl, Nat.le_of_ble_eq_true rfl⟩ (s_recv hK h.1) rfl hl.1 rfl (Nat.le_of_ble_eq_true rfl) d_S_indexOf0_3 ⟨by show 0 + 0 ≤ 0; omega, by show 0 + 0 ≤ 0; omega⟩) ?_
  intro v hv; subst hv
  refine W.eq (g2 := F0 m 6 ls [.int (ixL k t 0)]) rfl ?_
  exact W.iret hx hb hr (fun t9 ht hW => ⟨_, rfl, rfl, ht⟩) (fun q h => by cases h) d_S_indexOf0_6 hlk
