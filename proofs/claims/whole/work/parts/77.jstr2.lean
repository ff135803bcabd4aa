set_option maxHeartbeats 4000000 in
set_option maxRecDepth 100000 in
/-- Arrays.checkLength -/
theorem c_Y_checkLength (l : Launch) (g : gG) (H : Heap) (so to0 : Nat) (hst : so ≤ to0 ∧ to0 ≤ 1000) : Met l y_Y_checkLength (wC y_Y_checkLength b_Y_checkLength 2 none) (rmk 0 0 0 0) (pC g H [.int (nI so), .int (nI to0)]) (qP H (fun v => v = none)) 0 0 no_ := by
  refine mB (by decide) (Nat.le_of_ble_eq_true rfl) ?_
  intro p e s m below meth c ls C0 hH hZ hnm hl
  have C0 : cF g p s m _ meth c b_Y_checkLength 2 "java/util/Arrays" none := C0
  obtain ⟨hx, hb, hml, hown, hts, hr, hlk, hK⟩ := id C0
  subst hH
  have hl : lv_has ls 2 [(0, .int (nI so)), (1, .int (nI to0))] := hl
  have hS : va_S (fW s.heap no_) s.heap s.heap [] := hS_rf
  refine lv_iload_n hx hb d_Y_checkLength_0 rfl (lv_at hl 1 rfl) ?_
  refine lv_iload_n hx hb d_Y_checkLength_1 rfl (lv_at hl 0 rfl) ?_
  refine n_ge (tgt := 37) (a := to0) (b := so) hx hb d_Y_checkLength_2 (by decide) (by omega) (by omega) (fun c2 => ?_) (fun c2 => ?_)
  · skip
    exact W.vret hx hb hr (fun t9 ht hW => ⟨_, rfl, rfl, ht⟩) (fun q h => by cases h) d_Y_checkLength_37 hlk
  · skip
    exact absurd c2 (by omega)
theorem k_Y_copyOfRangeByte_2 : kS "java/util/Arrays" 343 y_Y_checkLength b_Y_checkLength 2 none 2 := ⟨(in_2 (List.mem_of_getElem? (i := 0) rfl) rfl), (in_2 (List.mem_of_getElem? (i := 1) rfl) rfl), (in_1 (List.mem_of_getElem? (i := 12) rfl) rfl), (in_2 (List.mem_of_getElem? (i := 2) rfl) rfl), ⟨by decide, by decide, by decide +kernel⟩⟩
set_option maxHeartbeats 4000000 in
set_option maxRecDepth 100000 in
/-- Arrays.copyOfRangeByte -/
theorem c_Y_copyOfRangeByte (l : Launch) (g : gG) (H : Heap) (v cap so to0 : Nat) (f : Nat → Int32) (f1 : ar g 0 H v (cap, .inl f)) (hf : ∀ j, ∃ c, c < 128 ∧ f j = nI c) (hst : so ≤ to0 ∧ to0 ≤ cap ∧ cap ≤ 34) : Met l y_Y_copyOfRangeByte (wC y_Y_copyOfRangeByte b_Y_copyOfRangeByte 5 (some (.array .byte))) (rmk 1 1 34 21) (pC g H [.ref v, .int (nI so), .int (nI to0)]) (qW H no_ (fun r H1 => ∃ q, H.size ≤ q ∧ r = some (.ref q) ∧ ∃ f2, ar g 0 H1 q (to0 - so, .inl f2) ∧ (∀ j, j < to0 - so → f2 j = f (so + j)) ∧ ∀ j, ∃ c, c < 128 ∧ f2 j = nI c)) 1 34 (fW H no_) := by
  refine mB (by decide) (Nat.le_of_ble_eq_true rfl) ?_
  intro p e s m below meth c ls C0 hH hZ hnm hl
  have C0 : cF g p s m _ meth c b_Y_copyOfRangeByte 5 "java/util/Arrays" (some (.array .byte)) := C0
  obtain ⟨hx, hb, hml, hown, hts, hr, hlk, hK⟩ := id C0
  subst hH
  have hl : lv_has ls 5 [(0, .ref v), (1, .int (nI so)), (2, .int (nI to0))] := hl
  have hS : va_S (fW s.heap no_) s.heap s.heap [] := hS_rf
  refine lv_iload_n hx hb d_Y_copyOfRangeByte_0 rfl (lv_at hl 1 rfl) ?_
  refine lv_iload_n hx hb d_Y_copyOfRangeByte_1 rfl (lv_at hl 2 rfl) ?_
  refine aP (rS (As := [.int (nI so), .int (nI to0)]) (rest := []) C0 (c_Y_checkLength l g _ so to0 (by omega)) (zK_S hZ hS (fun _ h => h.elim)) k_Y_copyOfRangeByte_2 rfl rfl ⟨Nat.le_of_ble_eq_true rfl, Nat.le_of_ble_eq_true rfl⟩ rfl hl.1 rfl (Nat.le_of_ble_eq_true rfl) d_Y_copyOfRangeByte_2 ⟨by show 0 + 0 ≤ 1; omega, by show 0 + 0 ≤ 34; omega⟩) ?_
  intro v hv; subst hv
  refine W.eq (g2 := F0 m 5 ls []) rfl ?_
  refine lv_iload_n hx hb d_Y_copyOfRangeByte_5 rfl (lv_at hl 2 rfl) ?_
  refine lv_iload_n hx hb d_Y_copyOfRangeByte_6 rfl (lv_at hl 1 rfl) ?_
  refine n_isub hx hb (by omega) d_Y_copyOfRangeByte_7 ?_
  refine lv_istore_n (lv' := [(3, .int (nI (to0 - so))), (0, .ref v), (1, .int (nI so)), (2, .int (nI to0))]) hx hb d_Y_copyOfRangeByte_8 rfl hl (by decide) rfl (fun ls hl => ?_)
  refine lv_iload_n hx hb d_Y_copyOfRangeByte_9 rfl (lv_at hl 0 rfl) ?_
  have hS0 := hS
  refine s_newa hx hb (hts _ (in_1 (List.mem_of_getElem? (i := 66) rfl) rfl)) (ty := .byte) rfl rfl hK hS 0 rfl (a0 := (to0 - so, .inl (fun _ => 0))) (fun _ => rfl) (nI_pos (by omega)) (nI_clamp (by omega)) (by show (to0 - so) * 1 ≤ 536870912; omega) (by show 0 + 1 ≤ 1; omega) (by show 0 + (to0 - so) ≤ 34; omega) d_Y_copyOfRangeByte_10 (fun q1 H hq f_q1 hz o1 hS => ?_)
  have lt_v_q1 : v < q1 := by rw [hq]; exact ar_lt f1
  have f1 := ar_kept f1 (o1 _ lt_v_q1)
  have ge_q1 : s.heap.size ≤ q1 := by rw [hq]; exact hS0.1
  refine lv_astore (lv' := [(4, .ref q1), (3, .int (nI (to0 - so))), (0, .ref v), (1, .int (nI so)), (2, .int (nI to0))]) hx hb d_Y_copyOfRangeByte_12 hl (by decide) rfl (fun ls hl => ?_)
  refine lv_aload_n hx hb d_Y_copyOfRangeByte_14 rfl (lv_at hl 2 rfl) ?_
  refine lv_iload_n hx hb d_Y_copyOfRangeByte_15 rfl (lv_at hl 3 rfl) ?_
  refine lv_aload hx hb d_Y_copyOfRangeByte_16 (lv_at hl 0 rfl) ?_
  refine lv_iconst (v := nI 0) hx hb d_Y_copyOfRangeByte_18 (by decide) ?_
  refine lv_aload_n hx hb d_Y_copyOfRangeByte_19 rfl (lv_at hl 2 rfl) ?_
  refine va_alen (D := g.1) hx hb hK.1 f1 0 0 rfl rfl (v := nI cap) rfl d_Y_copyOfRangeByte_20 ?_
  refine lv_iload_n hx hb d_Y_copyOfRangeByte_21 rfl (lv_at hl 3 rfl) ?_
  refine n_isub hx hb (by omega) d_Y_copyOfRangeByte_22 ?_
  refine lv_iload_n hx hb d_Y_copyOfRangeByte_23 rfl (lv_at hl 1 rfl) ?_
  refine va_mmin hx hb (by rw [hml]; exact hl.1.symm) hown (hts _ (in_1 (List.mem_of_getElem? (i := 168) rfl) rfl)) (hts _ (in_1 (List.mem_of_getElem? (i := 169) rfl) rfl)) (hts _ (in_1 (List.mem_of_getElem? (i := 11) rfl) rfl)) (hts _ (in_1 (List.mem_of_getElem? (i := 170) rfl) rfl)) (Nat.le_of_ble_eq_true rfl) (Nat.le_of_ble_eq_true rfl) (by show 0 + 1 ≤ 1; omega) (by show 0 + (to0 - so) ≤ 34; omega) d_Y_copyOfRangeByte_24 ?_
  refine W.eq (g2 := F0 m 27 ls [.int (nI (min (cap - so) (to0 - so))), .int (nI 0), .ref q1, .int (nI so), .ref v]) (by rw [mn_ (by omega) (by omega)]) ?_
  refine s_copy hx hb (by rw [hml]; exact hl.1.symm) hown (hts _ (in_1 (List.mem_of_getElem? (i := 171) rfl) rfl)) (hts _ (in_1 (List.mem_of_getElem? (i := 173) rfl) rfl)) (hts _ (in_1 (List.mem_of_getElem? (i := 172) rfl) rfl)) (hts _ (in_1 (List.mem_of_getElem? (i := 13) rfl) rfl)) hK hS (Or.inr ge_q1) f1 f_q1 so 0 (min (cap - so) (to0 - so)) (by omega) (by omega) (by omega) (fun i _ => by obtain ⟨c, h1, h2⟩ := hf (so + i); rw [h2]; exact by_fit c h1) (Nat.le_of_ble_eq_true rfl) (Nat.le_of_ble_eq_true rfl) d_Y_copyOfRangeByte_27 (fun H locs f_q1 hz oq hS => ?_)
  have f1 := ar_kept f1 (oq _ (Nat.ne_of_lt lt_v_q1))
  refine lv_aload hx hb d_Y_copyOfRangeByte_30 (lv_at hl 0 rfl) ?_
  refine W.widen (k := 1) (n := 34) (by omega) (by omega) ?_
  exact W.aret hx hb hr (Or.inr ⟨_, rfl⟩) (Or.inr ⟨_, rfl⟩) (fun t9 ht hW => ⟨_, rfl, by rw [ht]; exact hS_hC hS, by rw [ht]; exact ⟨_, ge_q1, rfl, _, f_q1, (fun j hj => by have := cpy_in (f := f) (g9 := fun _ => 0) (so := so) (d := 0) (n := min (cap - so) (to0 - so)) (k := j) (by omega); rw [Nat.zero_add] at this; exact this), (fun j => by by_cases z : 0 ≤ j ∧ j < 0 + min (cap - so) (to0 - so); (rw [va_cpy, if_pos z]; exact hf _); (rw [va_cpy, if_neg z]; exact ⟨0, by decide, rfl⟩))⟩⟩) hS.2.2 d_Y_copyOfRangeByte_32 hlk
theorem k_Y_copyOfRange0_13 : kS "java/util/Arrays" 339 y_Y_copyOfRangeByte b_Y_copyOfRangeByte 5 (some (.array .byte)) 3 := ⟨(in_1 (List.mem_of_getElem? (i := 237) rfl) rfl), (in_1 (List.mem_of_getElem? (i := 238) rfl) rfl), (in_1 (List.mem_of_getElem? (i := 12) rfl) rfl), (in_1 (List.mem_of_getElem? (i := 239) rfl) rfl), ⟨by decide, by decide, by decide +kernel⟩⟩
set_option maxHeartbeats 4000000 in
set_option maxRecDepth 100000 in
/-- Arrays.copyOfRange -/
theorem c_Y_copyOfRange0 (l : Launch) (g : gG) (H : Heap) (v cap so to0 : Nat) (f : Nat → Int32) (f1 : ar g 0 H v (cap, .inl f)) (hf : ∀ j, ∃ c, c < 128 ∧ f j = nI c) (hst : so ≤ to0 ∧ to0 ≤ cap ∧ cap ≤ 34) : Met l y_Y_copyOfRange0 (wC y_Y_copyOfRange0 b_Y_copyOfRange0 3 (some (.array .byte))) (rmk 2 1 34 45) (pC g H [.ref v, .int (nI so), .int (nI to0)]) (qW H no_ (fun r H1 => ∃ q, H.size ≤ q ∧ r = some (.ref q) ∧ ∃ f2, ar g 0 H1 q (to0 - so, .inl f2) ∧ (∀ j, j < to0 - so → f2 j = f (so + j)) ∧ ∀ j, ∃ c, c < 128 ∧ f2 j = nI c)) 1 34 (fW H no_) := by
  refine mB (by decide) (Nat.le_of_ble_eq_true rfl) ?_
  intro p e s m below meth c ls C0 hH hZ hnm hl
  have C0 : cF g p s m _ meth c b_Y_copyOfRange0 3 "java/util/Arrays" (some (.array .byte)) := C0
  obtain ⟨hx, hb, hml, hown, hts, hr, hlk, hK⟩ := id C0
  subst hH
  have hl : lv_has ls 3 [(0, .ref v), (1, .int (nI so)), (2, .int (nI to0))] := hl
  have hS : va_S (fW s.heap no_) s.heap s.heap [] := hS_rf
  refine lv_iload_n hx hb d_Y_copyOfRange0_0 rfl (lv_at hl 1 rfl) ?_
  refine lv_if_ne (tgt := 10) hx hb d_Y_copyOfRange0_1 (by decide) (fun c1 => ?_) (fun c1 => ?_)
  · skip
    refine lv_aload_n hx hb d_Y_copyOfRange0_10 rfl (lv_at hl 0 rfl) ?_
    refine lv_iload_n hx hb d_Y_copyOfRange0_11 rfl (lv_at hl 1 rfl) ?_
    refine lv_iload_n hx hb d_Y_copyOfRange0_12 rfl (lv_at hl 2 rfl) ?_
    refine aW (N := no_) (rS (As := [.ref v, .int (nI so), .int (nI to0)]) (rest := []) C0 (c_Y_copyOfRangeByte l g _ v cap so to0 f f1 hf hst) (zK_S hZ hS (fun _ h => h.elim)) k_Y_copyOfRange0_13 rfl rfl ⟨Nat.le_of_ble_eq_true rfl, Nat.le_of_ble_eq_true rfl⟩ rfl hl.1 rfl (Nat.le_of_ble_eq_true rfl) d_Y_copyOfRange0_13 ⟨by show 0 + 1 ≤ 1; omega, by show 0 + 34 ≤ 34; omega⟩) (fun v H L hC1 hp hL => ?_)
    have hS0 := hS
    have hS := hS_call hS hC1 hL (fun q h => h.elim)
    have f1 := ar_kept f1 (hC_at hC1 (ar_lt f1) (fun z => z))
    obtain ⟨q9, hq9, rfl, hp⟩ := hp
    refine W.eq (g2 := F0 m 16 ls [.ref q9]) rfl ?_
    refine W.widen (k := 1) (n := 34) (by omega) (by omega) ?_
    exact W.aret hx hb hr (Or.inr ⟨_, rfl⟩) (Or.inr ⟨_, rfl⟩) (fun t9 ht hW => ⟨_, rfl, by rw [ht]; exact hS_hC hS, by rw [ht]; exact ⟨q9, hq9, rfl, hp⟩⟩) hS.2.2 d_Y_copyOfRange0_16 hlk
  · skip
    refine lv_iload_n hx hb d_Y_copyOfRange0_4 rfl (lv_at hl 2 rfl) ?_
    refine lv_aload_n hx hb d_Y_copyOfRange0_5 rfl (lv_at hl 0 rfl) ?_
    refine va_alen (D := g.1) hx hb hK.1 f1 0 0 rfl rfl (v := nI cap) rfl d_Y_copyOfRange0_6 ?_
    refine n_eq (tgt := 17) (a := to0) (b := cap) hx hb d_Y_copyOfRange0_7 (by decide) (by omega) (by omega) (fun c7 => ?_) (fun c7 => ?_)
    · skip
      refine lv_aload_n hx hb d_Y_copyOfRange0_17 rfl (lv_at hl 0 rfl) ?_
      have e0 : so = 0 := (nI_eq (a := so) (b := 0) (by omega) (by decide)).mp c1
      have hS0 := hS
      refine s_clone hx hb (by rw [hml]; exact hl.1.symm) hown (hts _ (in_1 (List.mem_of_getElem? (i := 161) rfl) rfl)) (hts _ (in_1 (List.mem_of_getElem? (i := 162) rfl) rfl)) (hts _ (in_1 (List.mem_of_getElem? (i := 163) rfl) rfl)) (hts _ (in_1 (List.mem_of_getElem? (i := 164) rfl) rfl)) (hts _ (in_1 (List.mem_of_getElem? (i := 165) rfl) rfl)) (va_Nw.use rfl (hK.2.2.2.2.2.2.2.2.2.1.1 _ (List.mem_of_getElem? (i := 0) rfl))) hK hS f1 (fun i _ => by obtain ⟨c, h1, h2⟩ := hf i; rw [h2]; exact by_fit c h1) (Nat.le_of_ble_eq_true rfl) (Nat.le_of_ble_eq_true rfl) (Nat.le_of_ble_eq_true rfl) (by show 0 + cap ≤ 34; omega) d_Y_copyOfRange0_18 (fun q1 H hq f_q1 hz o1 hS => ?_)
      have lt_v_q1 : v < q1 := by rw [hq]; exact ar_lt f1
      have f1 := ar_kept f1 (o1 _ lt_v_q1)
      have ge_q1 : s.heap.size ≤ q1 := by rw [hq]; exact hS0.1
      refine s_castB hx hb hown (hts _ (in_1 (List.mem_of_getElem? (i := 167) rfl) rfl)) hK f_q1 d_Y_copyOfRange0_21 ?_
      refine W.widen (k := 1) (n := 34) (by omega) (by omega) ?_
      exact W.aret hx hb hr (Or.inr ⟨_, rfl⟩) (Or.inr ⟨_, rfl⟩) (fun t9 ht hW => ⟨_, rfl, by rw [ht]; exact hS_hC hS, by rw [ht]; exact ⟨q1, ge_q1, rfl, f, by rw [e0, c7, Nat.sub_zero]; exact f_q1, (fun j _ => by rw [e0, Nat.zero_add]), hf⟩⟩) hS.2.2 d_Y_copyOfRange0_24 hlk
    · skip
      refine lv_aload_n hx hb d_Y_copyOfRange0_10 rfl (lv_at hl 0 rfl) ?_
      refine lv_iload_n hx hb d_Y_copyOfRange0_11 rfl (lv_at hl 1 rfl) ?_
      refine lv_iload_n hx hb d_Y_copyOfRange0_12 rfl (lv_at hl 2 rfl) ?_
      refine aW (N := no_) (rS (As := [.ref v, .int (nI so), .int (nI to0)]) (rest := []) C0 (c_Y_copyOfRangeByte l g _ v cap so to0 f f1 hf hst) (zK_S hZ hS (fun _ h => h.elim)) k_Y_copyOfRange0_13 rfl rfl ⟨Nat.le_of_ble_eq_true rfl, Nat.le_of_ble_eq_true rfl⟩ rfl hl.1 rfl (Nat.le_of_ble_eq_true rfl) d_Y_copyOfRange0_13 ⟨by show 0 + 1 ≤ 1; omega, by show 0 + 34 ≤ 34; omega⟩) (fun v H L hC1 hp hL => ?_)
      have hS0 := hS
      have hS := hS_call hS hC1 hL (fun q h => h.elim)
      have f1 := ar_kept f1 (hC_at hC1 (ar_lt f1) (fun z => z))
      obtain ⟨q9, hq9, rfl, hp⟩ := hp
      refine W.eq (g2 := F0 m 16 ls [.ref q9]) rfl ?_
      refine W.widen (k := 1) (n := 34) (by omega) (by omega) ?_
      exact W.aret hx hb hr (Or.inr ⟨_, rfl⟩) (Or.inr ⟨_, rfl⟩) (fun t9 ht hW => ⟨_, rfl, by rw [ht]; exact hS_hC hS, by rw [ht]; exact ⟨q9, hq9, rfl, hp⟩⟩) hS.2.2 d_Y_copyOfRange0_16 hlk
theorem k_S_init1_5 : kV "java/lang/String" 552 "java/lang/StringBuilder" y_A_getValue b_A_getValue 1 (some (.array .byte)) 0 := ⟨(in_1 (List.mem_of_getElem? (i := 220) rfl) rfl), (in_1 (List.mem_of_getElem? (i := 221) rfl) rfl), (in_1 (List.mem_of_getElem? (i := 223) rfl) rfl), (in_1 (List.mem_of_getElem? (i := 2) rfl) rfl), (in_1 (List.mem_of_getElem? (i := 224) rfl) rfl), ⟨by decide, by decide, by decide +kernel⟩⟩
theorem k_S_init1_10 : kO "java/lang/String" 549 "java/lang/StringBuilder" y_A_length y_B_length b_B_length 1 (some .int) b_A_length 1 (some .int) 0 := ⟨(in_1 (List.mem_of_getElem? (i := 225) rfl) rfl), (in_1 (List.mem_of_getElem? (i := 227) rfl) rfl), (in_1 (List.mem_of_getElem? (i := 226) rfl) rfl), (in_1 (List.mem_of_getElem? (i := 228) rfl) rfl), (in_1 (List.mem_of_getElem? (i := 229) rfl) rfl), (in_1 (List.mem_of_getElem? (i := 3) rfl) rfl), (in_1 (List.mem_of_getElem? (i := 230) rfl) rfl), (in_1 (List.mem_of_getElem? (i := 232) rfl) rfl), ⟨by decide, by decide, by decide +kernel⟩⟩
theorem k_S_init1_16 : kV "java/lang/String" 1047 "java/lang/StringBuilder" y_A_isLatin1 b_A_isLatin1 1 (some .boolean) 0 := ⟨(in_1 (List.mem_of_getElem? (i := 233) rfl) rfl), (in_1 (List.mem_of_getElem? (i := 175) rfl) rfl), (in_1 (List.mem_of_getElem? (i := 177) rfl) rfl), (in_1 (List.mem_of_getElem? (i := 2) rfl) rfl), (in_1 (List.mem_of_getElem? (i := 178) rfl) rfl), ⟨by decide, by decide, by decide +kernel⟩⟩
theorem k_S_init1_32 : kS "java/lang/String" 54 y_Y_copyOfRange0 b_Y_copyOfRange0 3 (some (.array .byte)) 3 := ⟨(in_1 (List.mem_of_getElem? (i := 234) rfl) rfl), (in_1 (List.mem_of_getElem? (i := 235) rfl) rfl), (in_1 (List.mem_of_getElem? (i := 12) rfl) rfl), (in_1 (List.mem_of_getElem? (i := 236) rfl) rfl), ⟨by decide, by decide, by decide +kernel⟩⟩
/-- a String that was made here: its bytes at w are its own -/
def sS (g : gG) (H : Heap) (a w : Nat) (t : List Nat) : Prop := sO g H a w ∧ (∃ f, ar g 0 H w (t.length, .inl f) ∧ (∀ j, j < t.length → f j = nI (t.getD j 0)) ∧ ∀ j, ∃ c, c < 128 ∧ f j = nI c) ∧ (∀ c, t.getD c 0 < 128) ∧ t.length ≤ 24
theorem bA_ext {g : gG} {H : Heap} {v n : Nat} {f f2 : Nat → Int32} (h : bA g H v n f) (he : ∀ j, j < n → f j = f2 j) : bA g H v n f2 := by
  obtain ⟨cell, h1, h2, h3, h4, h5, h6⟩ := h
  exact ⟨cell, h1, h2, h3, h4, h5, fun j hj => by rw [← he j hj]; exact h6 j hj⟩
theorem mem_getD {t : List Nat} (h : ∀ c, t.getD c 0 < 128) : ∀ c ∈ t, c < 128 := fun c hc => by
  obtain ⟨j, hj, e⟩ := List.getElem_of_mem hc
  have := h j
  rw [List.getD_eq_getElem?_getD, List.getElem?_eq_getElem hj, e] at this
  exact this
theorem sS_isS {g : gG} {H : Heap} {a w : Nat} {t : List Nat} (h : sS g H a w t) : isS g H a t := by
  obtain ⟨h1, ⟨f, h2, h3, -⟩, h4, h5⟩ := h
  exact ⟨w, h1, bA_ext (ar_bA h2) h3, mem_getD h4, by omega⟩
theorem sS_lt {g : gG} {H : Heap} {a w : Nat} {t : List Nat} (h : sS g H a w t) : a < H.size ∧ w < H.size := ⟨sO_lt h.1, by obtain ⟨_, ⟨f, h2, -⟩, -⟩ := h; exact ar_lt h2⟩
theorem sS_kept {g : gG} {H H1 : Heap} {a w : Nat} {t : List Nat} (h : sS g H a w t) (ha : H1[a]? = H[a]?) (hw : H1[w]? = H[w]?) : sS g H1 a w t := by
  obtain ⟨h1, ⟨f, h2, h3⟩, h4⟩ := h
  exact ⟨sO_kept h1 ha, ⟨f, ar_kept h2 hw, h3⟩, h4⟩
set_option maxHeartbeats 4000000 in
set_option maxRecDepth 100000 in
/-- String.<init>(AbstractStringBuilder, Void) -/
theorem c_S_init1 (l : Launch) (g : gG) (H : Heap) (a b v : Nat) (t : List Nat) (ha9 : g.2.2.1 ≤ a) (f9 : ob g H a 6 [.null, .int 0, .int 0, .int 0]) (hab : a ≠ b) (hav : a ≠ v) (h : sB g H b v t) : Met l y_S_init1 (wC y_S_init1 b_S_init1 5 none) (rmk 3 1 34 67) (pC g H [.ref a, .ref b, .null]) (qW H (fun q => q = a) (fun r H1 => r = none ∧ ∃ w, H.size ≤ w ∧ sS g H1 a w t)) 1 34 (fW H (fun q => q = a)) := by
  refine mB (by decide) (Nat.le_of_ble_eq_true rfl) ?_
  intro p e s m below meth c ls C0 hH hZ hnm hl
  have C0 : cF g p s m _ meth c b_S_init1 5 "java/lang/String" none := C0
  obtain ⟨hx, hb, hml, hown, hts, hr, hlk, hK⟩ := id C0
  subst hH
  have hl : lv_has ls 5 [(0, .ref a), (1, .ref b), (2, .null)] := hl
  have hS : va_S (fW s.heap (fun q => q = a)) s.heap s.heap [] := hS_rf
  obtain ⟨mb, cap, f, f0, f1, hf3, hf4, hcl, hc, ht24, hch⟩ := h
  have a9lt := ob_lt f9
  have b9lt := ob_lt f0
  have v9lt := ar_lt f1
  refine lv_aload_n hx hb d_S_init1_0 rfl (lv_at hl 0 rfl) ?_
  refine W.objInit hx hb hown (hts (.methodLink "java/lang/String" 1 Lib.objectInit) (in_1 (List.mem_of_getElem? (i := 219) rfl) rfl)) (hts (.instanceMethod Lib.objectInit) (in_1 (List.mem_of_getElem? (i := 32) rfl) rfl)) (hts (.code Lib.objectInit ⟨#[0xb1]⟩ 1 none) (in_1 (List.mem_of_getElem? (i := 33) rfl) rfl)) rfl (by rw [hml]; exact hl.1) rfl d_S_init1_1 (Nat.le_of_ble_eq_true rfl) (Nat.le_of_ble_eq_true rfl) ?_
  refine W.eq (g2 := F0 m 4 ls []) rfl ?_
  refine lv_aload_n hx hb d_S_init1_4 rfl (lv_at hl 1 rfl) ?_
  refine aP (rV (As := []) (rest := []) C0 (c_A_getValue l g _ b v t.length (bI mb) f0) (zK_S hZ hS (fun q h => by subst h; exact ha9)) k_S_init1_5 rfl rfl ⟨Nat.le_of_ble_eq_true rfl, Nat.le_of_ble_eq_true rfl⟩ (ob_recv hK f0 rfl) rfl hl.1 rfl (Nat.le_of_ble_eq_true rfl) d_S_init1_5 ⟨by show 0 + 0 ≤ 1; omega, by show 0 + 0 ≤ 34; omega⟩) ?_
  intro v hv; subst hv
  refine W.eq (g2 := F0 m 8 ls [.ref v]) rfl ?_
  refine lv_astore_n (lv' := [(3, .ref v), (0, .ref a), (1, .ref b), (2, .null)]) hx hb d_S_init1_8 rfl hl (by decide) rfl (fun ls hl => ?_)
  refine lv_aload_n hx hb d_S_init1_9 rfl (lv_at hl 2 rfl) ?_
  refine aP (rO (As := []) (rest := []) C0 (c_B_length l g _ b v t.length (bI mb) f0) (zK_S hZ hS (fun q h => by subst h; exact ha9)) k_S_init1_10 rfl rfl ⟨Nat.le_of_ble_eq_true rfl, Nat.le_of_ble_eq_true rfl⟩ (ob_recv hK f0 rfl) rfl hl.1 rfl (Nat.le_of_ble_eq_true rfl) d_S_init1_10 ⟨by show 0 + 0 ≤ 1; omega, by show 0 + 0 ≤ 34; omega⟩) ?_
  intro v hv; subst hv
  refine W.eq (g2 := F0 m 13 ls [.int (nI t.length)]) rfl ?_
  refine lv_istore (lv' := [(4, .int (nI t.length)), (3, .ref v), (0, .ref a), (1, .ref b), (2, .null)]) hx hb d_S_init1_13 hl (by decide) rfl (fun ls hl => ?_)
  refine lv_aload_n hx hb d_S_init1_15 rfl (lv_at hl 3 rfl) ?_
  refine aP (rV (As := []) (rest := []) C0 (c_A_isLatin1 l g _ b v t.length (bI mb) f0) (zK_S hZ hS (fun q h => by subst h; exact ha9)) k_S_init1_16 rfl rfl ⟨Nat.le_of_ble_eq_true rfl, Nat.le_of_ble_eq_true rfl⟩ (ob_recv hK f0 rfl) rfl hl.1 rfl (Nat.le_of_ble_eq_true rfl) d_S_init1_16 ⟨by show 0 + 0 ≤ 1; omega, by show 0 + 0 ≤ 34; omega⟩) ?_
  intro v hv; subst hv
  refine W.eq (g2 := F0 m 19 ls [.int 1]) rfl ?_
  refine lv_if_eq (tgt := 41) hx hb d_S_init1_19 (by decide) (fun c19 => ?_) (fun c19 => ?_)
  · skip
    first | exact absurd c19 (by decide) | exact absurd (by decide) c19
  · skip
    refine lv_aload_n hx hb d_S_init1_22 rfl (lv_at hl 2 rfl) ?_
    refine lv_iconst (v := nI 0) hx hb d_S_init1_23 (by decide) ?_
    refine s_putF (ci := 6) (C := R_S) (T := F_S) (N := 4) hx hb hts i_S t_S t_S_ok n_S hown hK hS (Or.inl rfl) f9 rfl 1 (by decide) (hts _ (in_2 (List.mem_of_getElem? (i := 147) rfl) rfl)) (fun _ h9 => h9) rfl hnm rfl (v := .int (nI 0)) rfl rfl rfl (Nat.le_of_ble_eq_true rfl) (fs2 := [.null, .int (nI 0), .int 0, .int 0]) rfl d_S_init1_24 (fun H locs f9 hz oq hS => ?_)
    have f0 := ob_kept f0 (oq _ (Ne.symm (hab)))
    have f1 := ar_kept f1 (oq _ (Ne.symm (hav)))
    refine lv_aload_n hx hb d_S_init1_27 rfl (lv_at hl 2 rfl) ?_
    refine lv_aload_n hx hb d_S_init1_28 rfl (lv_at hl 1 rfl) ?_
    refine lv_iconst (v := nI 0) hx hb d_S_init1_29 (by decide) ?_
    refine lv_iload hx hb d_S_init1_30 (lv_at hl 0 rfl) ?_
    refine aW (N := no_) (rS (As := [.ref v, .int (nI 0), .int (nI t.length)]) (rest := [.ref a]) C0 (c_Y_copyOfRange0 l g _ v cap 0 t.length f f1 hf4 (by omega)) (zK_S hZ hS (fun q h => by subst h; exact ha9)) k_S_init1_32 rfl rfl ⟨Nat.le_of_ble_eq_true rfl, Nat.le_of_ble_eq_true rfl⟩ rfl hl.1 rfl (Nat.le_of_ble_eq_true rfl) d_S_init1_32 ⟨by show 0 + 1 ≤ 1; omega, by show 0 + 34 ≤ 34; omega⟩) (fun v H L hC1 hp hL => ?_)
    have hS0 := hS
    have hS := hS_call hS hC1 hL (fun q h => h.elim)
    have f9 := ob_kept f9 (hC_at hC1 (ob_lt f9) (fun z => z))
    have f0 := ob_kept f0 (hC_at hC1 (ob_lt f0) (fun z => z))
    have f1 := ar_kept f1 (hC_at hC1 (ar_lt f1) (fun z => z))
    obtain ⟨q9, hq9, rfl, f2, hp1, hp2, hp3⟩ := hp
    rw [Nat.sub_zero] at hp1
    refine W.eq (g2 := F0 m 35 ls [.ref q9, .ref a]) rfl ?_
    have ltq : s.heap.size ≤ q9 := Nat.le_trans hS0.1 hq9
    have hn9 : a ≠ q9 := Nat.ne_of_lt (Nat.lt_of_lt_of_le a9lt ltq)
    refine s_putF (ci := 6) (C := R_S) (T := F_S) (N := 4) hx hb hts i_S t_S t_S_ok n_S hown hK hS (Or.inl rfl) f9 rfl 0 (by decide) (hts _ (in_2 (List.mem_of_getElem? (i := 146) rfl) rfl)) (fun _ h9 => h9) rfl hnm rfl (v := .ref q9) rfl rfl rfl (Nat.le_of_ble_eq_true rfl) (fs2 := [.ref q9, .int (nI 0), .int 0, .int 0]) rfl d_S_init1_35 (fun H locs f9 hz oq hS => ?_)
    have f0 := ob_kept f0 (oq _ (Ne.symm (hab)))
    have f1 := ar_kept f1 (oq _ (Ne.symm (hav)))
    have hp1 := ar_kept hp1 (oq _ (Ne.symm (hn9)))
    refine lv_goto (tgt := 97) hx hb d_S_init1_38 (by decide) ?_
    refine W.widen (k := 1) (n := 34) (by omega) (by omega) ?_
    exact W.vret hx hb hr (fun t9 ht hW => ⟨_, rfl, by rw [ht]; exact hS_hC hS, by rw [ht]; exact ⟨rfl, q9, ltq, ob_sO f9, ⟨f2, hp1, (fun j hj => by rw [hp2 j (by omega), Nat.zero_add]; exact hf3 j hj), hp3⟩, hch, ht24⟩⟩) hS.2.2 d_S_init1_97 hlk
theorem k_S_init4_3 : kI "java/lang/String" 489 y_S_init1 b_S_init1 5 2 := ⟨(in_1 (List.mem_of_getElem? (i := 216) rfl) rfl), (in_1 (List.mem_of_getElem? (i := 217) rfl) rfl), (in_1 (List.mem_of_getElem? (i := 4) rfl) rfl), (in_1 (List.mem_of_getElem? (i := 218) rfl) rfl), rfl, ⟨by decide, by decide, by decide +kernel⟩⟩
set_option maxHeartbeats 4000000 in
set_option maxRecDepth 100000 in
/-- String.<init>(StringBuilder) -/
theorem c_S_init4 (l : Launch) (g : gG) (H : Heap) (a b v : Nat) (t : List Nat) (ha9 : g.2.2.1 ≤ a) (f9 : ob g H a 6 [.null, .int 0, .int 0, .int 0]) (hab : a ≠ b) (hav : a ≠ v) (h : sB g H b v t) : Met l y_S_init4 (wC y_S_init4 b_S_init4 2 none) (rmk 4 1 34 91) (pC g H [.ref a, .ref b]) (qW H (fun q => q = a) (fun r H1 => r = none ∧ ∃ w, H.size ≤ w ∧ sS g H1 a w t)) 1 34 (fW H (fun q => q = a)) := by
  refine mB (by decide) (Nat.le_of_ble_eq_true rfl) ?_
  intro p e s m below meth c ls C0 hH hZ hnm hl
  have C0 : cF g p s m _ meth c b_S_init4 2 "java/lang/String" none := C0
  obtain ⟨hx, hb, hml, hown, hts, hr, hlk, hK⟩ := id C0
  subst hH
  have hl : lv_has ls 2 [(0, .ref a), (1, .ref b)] := hl
  have hS : va_S (fW s.heap (fun q => q = a)) s.heap s.heap [] := hS_rf
  refine lv_aload_n hx hb d_S_init4_0 rfl (lv_at hl 0 rfl) ?_
  refine lv_aload_n hx hb d_S_init4_1 rfl (lv_at hl 1 rfl) ?_
  refine lv_null hx hb d_S_init4_2 ?_
  refine aW (N := (fun q => q = a)) (rI (As := [.ref b, .null]) (rest := []) C0 (c_S_init1 l g _ a b v t ha9 f9 hab hav h) (zK_S hZ hS (fun q h => by subst h; exact ha9)) k_S_init4_3 rfl rfl ⟨Nat.le_of_ble_eq_true rfl, Nat.le_of_ble_eq_true rfl⟩ rfl hl.1 rfl (Nat.le_of_ble_eq_true rfl) d_S_init4_3 ⟨by show 0 + 1 ≤ 1; omega, by show 0 + 34 ≤ 34; omega⟩) (fun v H L hC1 hp hL => ?_)
  have hS0 := hS
  have hS := hS_call hS hC1 hL (fun q h => Or.inl h)
  obtain ⟨rfl, hp⟩ := hp
  refine W.eq (g2 := F0 m 6 ls []) rfl ?_
  refine W.widen (k := 1) (n := 34) (by omega) (by omega) ?_
  exact W.vret hx hb hr (fun t9 ht hW => ⟨_, rfl, by rw [ht]; exact hS_hC hS, by rw [ht]; exact ⟨rfl, hp⟩⟩) hS.2.2 d_S_init4_6 hlk
theorem k_B_toString_5 : kI "java/lang/StringBuilder" 137 y_S_init4 b_S_init4 2 1 := ⟨(in_1 (List.mem_of_getElem? (i := 213) rfl) rfl), (in_1 (List.mem_of_getElem? (i := 214) rfl) rfl), (in_1 (List.mem_of_getElem? (i := 4) rfl) rfl), (in_1 (List.mem_of_getElem? (i := 215) rfl) rfl), rfl, ⟨by decide, by decide, by decide +kernel⟩⟩
set_option maxHeartbeats 4000000 in
set_option maxRecDepth 100000 in
/-- StringBuilder.toString() -/
theorem c_B_toString (l : Launch) (g : gG) (H : Heap) (b v : Nat) (t : List Nat) (hb9 : g.2.2.1 ≤ b) (h : sB g H b v t) : Met l y_B_toString (wC y_B_toString b_B_toString 1 (some (.object "java/lang/String"))) (rmk 5 2 38 112) (pC g H [.ref b]) (qW H no_ (fun r H1 => ∃ a w, H.size ≤ a ∧ H.size ≤ w ∧ r = some (.ref a) ∧ sS g H1 a w t)) 2 38 (fW H no_) := by
  refine mB (by decide) (Nat.le_of_ble_eq_true rfl) ?_
  intro p e s m below meth c ls C0 hH hZ hnm hl
  have C0 : cF g p s m _ meth c b_B_toString 1 "java/lang/StringBuilder" (some (.object "java/lang/String")) := C0
  obtain ⟨hx, hb, hml, hown, hts, hr, hlk, hK⟩ := id C0
  subst hH
  have hl : lv_has ls 1 [(0, .ref b)] := hl
  have hS : va_S (fW s.heap no_) s.heap s.heap [] := hS_rf
  obtain ⟨b9lt, v9lt⟩ := sB_b h
  have hS0 := hS
  refine s_new (ci := 6) (C := R_S) (T := F_S) (N := 4) hx hb hts i_S t_S t_S_ok hown (hts _ (in_1 (List.mem_of_getElem? (i := 211) rfl) rfl)) (hts _ (in_1 (List.mem_of_getElem? (i := 212) rfl) rfl)) (hts _ (in_1 (List.mem_of_getElem? (i := 4) rfl) rfl)) hK hS rfl (fs := [.null, .int 0, .int 0, .int 0]) (by decide) (by show 0 + 1 ≤ 2; omega) (by show 0 + 4 ≤ 38; omega) d_B_toString_0 (fun q1 H hq f_q1 hz o1 hS => ?_)
  have ge_q1 : s.heap.size ≤ q1 := by rw [hq]; exact hS0.1
  refine lv_dup hx hb d_B_toString_3 rfl ?_
  refine lv_aload_n hx hb d_B_toString_4 rfl (lv_at hl 0 rfl) ?_
  refine aW (N := (fun q => q = q1)) (rI (As := [.ref b]) (rest := [.ref q1]) C0 (c_S_init4 l g _ q1 b v t (Nat.le_trans (Nat.le_trans hb9 (Nat.le_of_lt b9lt)) ge_q1) f_q1 (Ne.symm (Nat.ne_of_lt (Nat.lt_of_lt_of_le b9lt ge_q1))) (Ne.symm (Nat.ne_of_lt (Nat.lt_of_lt_of_le v9lt ge_q1))) (sB_kept h (o1 _ (by rw [hq]; exact b9lt)) (o1 _ (by rw [hq]; exact v9lt)))) (zK_S hZ hS (fun _ h => h.elim)) k_B_toString_5 rfl rfl ⟨Nat.le_of_ble_eq_true rfl, Nat.le_of_ble_eq_true rfl⟩ rfl hl.1 rfl (Nat.le_of_ble_eq_true rfl) d_B_toString_5 ⟨by show 0 + 1 + 1 ≤ 2; omega, by show 0 + 4 + 34 ≤ 38; omega⟩) (fun v H L hC1 hp hL => ?_)
  have hS0 := hS
  have hS := hS_call hS hC1 hL (fun q h => by subst h; exact Or.inr ge_q1)
  obtain ⟨rfl, w9, hw9, hp⟩ := hp
  have hw9 : s.heap.size ≤ w9 := Nat.le_trans hS0.1 hw9
  refine W.eq (g2 := F0 m 8 ls [.ref q1]) rfl ?_
  refine W.widen (k := 2) (n := 38) (by omega) (by omega) ?_
  exact W.aret hx hb hr (Or.inl ⟨_, rfl⟩) (Or.inr ⟨_, rfl⟩) (fun t9 ht hW => ⟨_, rfl, by rw [ht]; exact hS_hC hS, by rw [ht]; exact ⟨q1, w9, ge_q1, hw9, rfl, hp⟩⟩) hS.2.2 d_B_toString_8 hlk
