set_option maxHeartbeats 4000000 in
set_option maxRecDepth 100000 in
/-- MIX -/
theorem c_T_mix (l : Launch) (g : gG) (H : Heap) (h x : Int64) : Met l y_T_mix (wC y_T_mix b_T_mix 6 (some .long)) (rmk 0 0 0 0) (pC g H [.long h, .long x]) (qP H (fun v => v = some (.long (mixS h x)))) 0 0 no_ := by
  refine mB (by decide) (Nat.le_of_ble_eq_true rfl) ?_
  intro p e s m below meth c ls C0 hH hZ hnm hl
  have C0 : cF g p s m _ meth c b_T_mix 6 "RegistryLog$Tree" (some .long) := C0
  obtain ⟨hx, hb, hml, hown, hts, hr, hlk, hK⟩ := id C0
  subst hH
  have hl : lv_has ls 6 [(0, .long h), (2, .long x)] := hl
  refine lv_lload_n hx hb d_T_mix_0 rfl (lv_at hl 0 rfl) ?_
  refine lv_lload_n hx hb d_T_mix_1 rfl (lv_at hl 1 rfl) ?_
  refine lv_lxor hx hb d_T_mix_2 ?_
  refine lv_ldc2 (v := (-7046029254386353131)) hx hb hown (hts (.constantLong "RegistryLog$Tree" 9 (-7046029254386353131)) (in_2 (List.mem_of_getElem? (i := 174) rfl) rfl)) d_T_mix_3 ?_
  refine lv_lmul hx hb d_T_mix_6 ?_
  refine lv_topl (fun x_1 ex_1 => ?_)
  refine lv_lstore (lv' := [(4, .long x_1), (0, .long h), (2, .long x)]) hx hb d_T_mix_7 hl (by decide) rfl (fun ls hl => ?_)
  refine lv_lload hx hb d_T_mix_9 (lv_at hl 0 rfl) ?_
  refine lv_lload hx hb d_T_mix_11 (lv_at hl 0 rfl) ?_
  refine lv_bipush (v := 29) hx hb d_T_mix_13 (by decide) ?_
  refine lv_lushr hx hb d_T_mix_15 rfl ?_
  refine lv_lxor hx hb d_T_mix_16 ?_
  subst ex_1
  exact W.lret hx hb hr (fun t9 ht hW => ⟨_, rfl, rfl, ht⟩) (fun q h => by cases h) d_T_mix_17 hlk
theorem k_T_join_2 : kS "RegistryLog$Tree" 21 y_T_mix b_T_mix 6 (some .long) 2 := ⟨(in_2 (List.mem_of_getElem? (i := 180) rfl) rfl), (in_2 (List.mem_of_getElem? (i := 172) rfl) rfl), (in_1 (List.mem_of_getElem? (i := 20) rfl) rfl), (in_2 (List.mem_of_getElem? (i := 173) rfl) rfl), ⟨by decide, by decide, by decide +kernel⟩⟩
theorem k_T_join_6 : kS "RegistryLog$Tree" 21 y_T_mix b_T_mix 6 (some .long) 2 := ⟨(in_2 (List.mem_of_getElem? (i := 180) rfl) rfl), (in_2 (List.mem_of_getElem? (i := 172) rfl) rfl), (in_1 (List.mem_of_getElem? (i := 20) rfl) rfl), (in_2 (List.mem_of_getElem? (i := 173) rfl) rfl), ⟨by decide, by decide, by decide +kernel⟩⟩
set_option maxHeartbeats 4000000 in
set_option maxRecDepth 100000 in
/-- JOIN -/
theorem c_T_join (l : Launch) (g : gG) (H : Heap) (a b : Int64) : Met l y_T_join (wC y_T_join b_T_join 4 (some .long)) (rmk 1 0 0 25) (pC g H [.long a, .long b]) (qP H (fun v => v = some (.long (joinS a b)))) 0 0 no_ := by
  refine mB (by decide) (Nat.le_of_ble_eq_true rfl) ?_
  intro p e s m below meth c ls C0 hH hZ hnm hl
  have C0 : cF g p s m _ meth c b_T_join 4 "RegistryLog$Tree" (some .long) := C0
  obtain ⟨hx, hb, hml, hown, hts, hr, hlk, hK⟩ := id C0
  subst hH
  have hl : lv_has ls 4 [(0, .long a), (2, .long b)] := hl
  refine lv_lconst (v := 1) hx hb d_T_join_0 (by decide) ?_
  refine lv_lload_n hx hb d_T_join_1 rfl (lv_at hl 0 rfl) ?_
  refine aP (rS (As := [.long 1, .long a]) (rest := []) C0 (c_T_mix l g s.heap 1 a) hZ k_T_join_2 rfl rfl ⟨Nat.le_of_ble_eq_true rfl, Nat.le_of_ble_eq_true rfl⟩ rfl hl.1 rfl (Nat.le_of_ble_eq_true rfl) d_T_join_2 ⟨Nat.zero_le _, Nat.zero_le _⟩) ?_
  intro v hv; subst hv
  refine W.eq (g2 := F0 m 5 ls [.long (mixS 1 a)]) rfl ?_
  refine lv_lload_n hx hb d_T_join_5 rfl (lv_at hl 1 rfl) ?_
  refine aP (rS (As := [.long (mixS 1 a), .long b]) (rest := []) C0 (c_T_mix l g s.heap (mixS 1 a) b) hZ k_T_join_6 rfl rfl ⟨Nat.le_of_ble_eq_true rfl, Nat.le_of_ble_eq_true rfl⟩ rfl hl.1 rfl (Nat.le_of_ble_eq_true rfl) d_T_join_6 ⟨Nat.zero_le _, Nat.zero_le _⟩) ?_
  intro v hv; subst hv
  refine W.eq (g2 := F0 m 9 ls [.long (mixS (mixS 1 a) b)]) rfl ?_
  exact W.lret hx hb hr (fun t9 ht hW => ⟨_, rfl, rfl, ht⟩) (fun q h => by cases h) d_T_join_9 hlk
set_option maxHeartbeats 4000000 in
set_option maxRecDepth 100000 in
/-- Numbers.size() -/
theorem c_U_size (l : Launch) (g : gG) (H : Heap) (a v : Nat) (f : Nat → Int64) (k q : Nat) (h : isU g H a v f k q) : Met l y_U_size (wC y_U_size b_U_size 1 (some .int)) (rmk 0 0 0 0) (pC g H [.ref a]) (qP H (fun v => v = some (.int (nI k)))) 0 0 no_ := by
  refine mB (by decide) (Nat.le_of_ble_eq_true rfl) ?_
  intro p e s m below meth c ls C0 hH hZ hnm hl
  have C0 : cF g p s m _ meth c b_U_size 1 "RegistryLog$Numbers" (some .int) := C0
  obtain ⟨hx, hb, hml, hown, hts, hr, hlk, hK⟩ := id C0
  subst hH
  have hl : lv_has ls 1 [(0, .ref a)] := hl
  refine lv_aload_n hx hb d_U_size_0 rfl (lv_at hl 0 rfl) ?_
  refine va_get (D := g.1) (ci := 3) (C := R_U) (T := F_U) (N := 3) hx hb hts i_U hown hK.1 h.1 0 rfl rfl 1 (by decide) (hts (.fieldLink "RegistryLog$Numbers" 15 "RegistryLog$Numbers" "count" "I") (in_2 (List.mem_of_getElem? (i := 239) rfl) rfl)) (fun _ h9 => h9) rfl d_U_size_1 ?_
  exact W.iret hx hb hr (fun t9 ht hW => ⟨_, rfl, rfl, ht⟩) (fun q h => by cases h) d_U_size_4 hlk
set_option maxHeartbeats 4000000 in
set_option maxRecDepth 100000 in
/-- Ledger.size() -/
theorem c_L_size (l : Launch) (g : gG) (H : Heap) (a w n : Nat) (k : Int32) (f0 : ob g H a 1 [.ref w, .ref n, .int k]) : Met l y_L_size (wC y_L_size b_L_size 1 (some .int)) (rmk 0 0 0 0) (pC g H [.ref a]) (qP H (fun v => v = some (.int k))) 0 0 no_ := by
  refine mB (by decide) (Nat.le_of_ble_eq_true rfl) ?_
  intro p e s m below meth c ls C0 hH hZ hnm hl
  have C0 : cF g p s m _ meth c b_L_size 1 "RegistryLog$Ledger" (some .int) := C0
  obtain ⟨hx, hb, hml, hown, hts, hr, hlk, hK⟩ := id C0
  subst hH
  have hl : lv_has ls 1 [(0, .ref a)] := hl
  refine lv_aload_n hx hb d_L_size_0 rfl (lv_at hl 0 rfl) ?_
  refine va_get (D := g.1) (ci := 1) (C := R_L) (T := F_L) (N := 3) hx hb hts i_L hown hK.1 f0 0 rfl rfl 2 (by decide) (hts (.fieldLink "RegistryLog$Ledger" 31 "RegistryLog$Ledger" "count" "I") (in_2 (List.mem_of_getElem? (i := 223) rfl) rfl)) (fun _ h9 => h9) rfl d_L_size_1 ?_
  exact W.iret hx hb hr (fun t9 ht hW => ⟨_, rfl, rfl, ht⟩) (fun q h => by cases h) d_L_size_4 hlk
set_option maxHeartbeats 4000000 in
set_option maxRecDepth 100000 in
/-- isPerson -/
theorem c_X_isPerson (l : Launch) (g : gG) (H : Heap) (i : Int32) : Met l y_X_isPerson (wC y_X_isPerson b_X_isPerson 1 (some .boolean)) (rmk 0 0 0 0) (pC g H [.int i]) (qP H (fun v => v = some (.int (bI (decide (0 ≤ i ∧ i < 8)))))) 0 0 no_ := by
  refine mB (by decide) (Nat.le_of_ble_eq_true rfl) ?_
  intro p e s m below meth c ls C0 hH hZ hnm hl
  have C0 : cF g p s m _ meth c b_X_isPerson 1 "RegistryLog" (some .boolean) := C0
  obtain ⟨hx, hb, hml, hown, hts, hr, hlk, hK⟩ := id C0
  subst hH
  have hl : lv_has ls 1 [(0, .int i)] := hl
  refine lv_iload_n hx hb d_X_isPerson_0 rfl (lv_at hl 0 rfl) ?_
  refine lv_if_lt (tgt := 14) hx hb d_X_isPerson_1 (by decide) (fun c1 => ?_) (fun c1 => ?_)
  · skip
    refine lv_iconst (v := 0) hx hb d_X_isPerson_14 (by decide) ?_
    exact W.zret hx hb hr rfl (fun t9 ht hW => ⟨_, rfl, by rw [decide_eq_false (fun z => absurd z.1 (Int32.not_le.mpr c1))]; rfl, ht⟩) (fun q h => by cases h) d_X_isPerson_15 hlk
  · skip
    refine lv_iload_n hx hb d_X_isPerson_4 rfl (lv_at hl 0 rfl) ?_
    refine lv_bipush (v := 8) hx hb d_X_isPerson_5 (by decide) ?_
    refine lv_icmp_ge (tgt := 14) hx hb d_X_isPerson_7 (by decide) (fun c7 => ?_) (fun c7 => ?_)
    · skip
      refine lv_iconst (v := 0) hx hb d_X_isPerson_14 (by decide) ?_
      exact W.zret hx hb hr rfl (fun t9 ht hW => ⟨_, rfl, by rw [decide_eq_false (fun z => absurd z.2 (Int32.not_lt.mpr c7))]; rfl, ht⟩) (fun q h => by cases h) d_X_isPerson_15 hlk
    · skip
      refine lv_iconst (v := 1) hx hb d_X_isPerson_10 (by decide) ?_
      refine lv_goto (tgt := 15) hx hb d_X_isPerson_11 (by decide) ?_
      exact W.zret hx hb hr rfl (fun t9 ht hW => ⟨_, rfl, by rw [decide_eq_true ⟨Int32.not_lt.mp c1, Int32.not_le.mp c7⟩]; rfl, ht⟩) (fun q h => by cases h) d_X_isPerson_15 hlk
set_option maxHeartbeats 4000000 in
set_option maxRecDepth 100000 in
/-- isVersion -/
theorem c_X_isVersion (l : Launch) (g : gG) (H : Heap) (i : Int32) : Met l y_X_isVersion (wC y_X_isVersion b_X_isVersion 1 (some .boolean)) (rmk 0 0 0 0) (pC g H [.int i]) (qP H (fun v => v = some (.int (bI (decide (0 ≤ i ∧ i < 1000)))))) 0 0 no_ := by
  refine mB (by decide) (Nat.le_of_ble_eq_true rfl) ?_
  intro p e s m below meth c ls C0 hH hZ hnm hl
  have C0 : cF g p s m _ meth c b_X_isVersion 1 "RegistryLog" (some .boolean) := C0
  obtain ⟨hx, hb, hml, hown, hts, hr, hlk, hK⟩ := id C0
  subst hH
  have hl : lv_has ls 1 [(0, .int i)] := hl
  refine lv_iload_n hx hb d_X_isVersion_0 rfl (lv_at hl 0 rfl) ?_
  refine lv_if_lt (tgt := 15) hx hb d_X_isVersion_1 (by decide) (fun c1 => ?_) (fun c1 => ?_)
  · skip
    refine lv_iconst (v := 0) hx hb d_X_isVersion_15 (by decide) ?_
    exact W.zret hx hb hr rfl (fun t9 ht hW => ⟨_, rfl, by rw [decide_eq_false (fun z => absurd z.1 (Int32.not_le.mpr c1))]; rfl, ht⟩) (fun q h => by cases h) d_X_isVersion_16 hlk
  · skip
    refine lv_iload_n hx hb d_X_isVersion_4 rfl (lv_at hl 0 rfl) ?_
    refine lv_sipush (v := 1000) hx hb d_X_isVersion_5 (by decide) ?_
    refine lv_icmp_ge (tgt := 15) hx hb d_X_isVersion_8 (by decide) (fun c8 => ?_) (fun c8 => ?_)
    · skip
      refine lv_iconst (v := 0) hx hb d_X_isVersion_15 (by decide) ?_
      exact W.zret hx hb hr rfl (fun t9 ht hW => ⟨_, rfl, by rw [decide_eq_false (fun z => absurd z.2 (Int32.not_lt.mpr c8))]; rfl, ht⟩) (fun q h => by cases h) d_X_isVersion_16 hlk
    · skip
      refine lv_iconst (v := 1) hx hb d_X_isVersion_11 (by decide) ?_
      refine lv_goto (tgt := 16) hx hb d_X_isVersion_12 (by decide) ?_
      exact W.zret hx hb hr rfl (fun t9 ht hW => ⟨_, rfl, by rw [decide_eq_true ⟨Int32.not_lt.mp c1, Int32.not_le.mp c8⟩]; rfl, ht⟩) (fun q h => by cases h) d_X_isVersion_16 hlk
set_option maxHeartbeats 4000000 in
set_option maxRecDepth 100000 in
/-- isMirror -/
theorem c_X_isMirror (l : Launch) (g : gG) (H : Heap) (i : Int32) : Met l y_X_isMirror (wC y_X_isMirror b_X_isMirror 1 (some .boolean)) (rmk 0 0 0 0) (pC g H [.int i]) (qP H (fun v => v = some (.int (bI (decide (0 ≤ i ∧ i < 4)))))) 0 0 no_ := by
  refine mB (by decide) (Nat.le_of_ble_eq_true rfl) ?_
  intro p e s m below meth c ls C0 hH hZ hnm hl
  have C0 : cF g p s m _ meth c b_X_isMirror 1 "RegistryLog" (some .boolean) := C0
  obtain ⟨hx, hb, hml, hown, hts, hr, hlk, hK⟩ := id C0
  subst hH
  have hl : lv_has ls 1 [(0, .int i)] := hl
  refine lv_iload_n hx hb d_X_isMirror_0 rfl (lv_at hl 0 rfl) ?_
  refine lv_if_lt (tgt := 13) hx hb d_X_isMirror_1 (by decide) (fun c1 => ?_) (fun c1 => ?_)
  · skip
    refine lv_iconst (v := 0) hx hb d_X_isMirror_13 (by decide) ?_
    exact W.zret hx hb hr rfl (fun t9 ht hW => ⟨_, rfl, by rw [decide_eq_false (fun z => absurd z.1 (Int32.not_le.mpr c1))]; rfl, ht⟩) (fun q h => by cases h) d_X_isMirror_14 hlk
  · skip
    refine lv_iload_n hx hb d_X_isMirror_4 rfl (lv_at hl 0 rfl) ?_
    refine lv_iconst (v := 4) hx hb d_X_isMirror_5 (by decide) ?_
    refine lv_icmp_ge (tgt := 13) hx hb d_X_isMirror_6 (by decide) (fun c6 => ?_) (fun c6 => ?_)
    · skip
      refine lv_iconst (v := 0) hx hb d_X_isMirror_13 (by decide) ?_
      exact W.zret hx hb hr rfl (fun t9 ht hW => ⟨_, rfl, by rw [decide_eq_false (fun z => absurd z.2 (Int32.not_lt.mpr c6))]; rfl, ht⟩) (fun q h => by cases h) d_X_isMirror_14 hlk
    · skip
      refine lv_iconst (v := 1) hx hb d_X_isMirror_9 (by decide) ?_
      refine lv_goto (tgt := 14) hx hb d_X_isMirror_10 (by decide) ?_
      exact W.zret hx hb hr rfl (fun t9 ht hW => ⟨_, rfl, by rw [decide_eq_true ⟨Int32.not_lt.mp c1, Int32.not_le.mp c6⟩]; rfl, ht⟩) (fun q h => by cases h) d_X_isMirror_14 hlk
set_option maxHeartbeats 4000000 in
set_option maxRecDepth 100000 in
/-- asNumber -/
theorem c_X_asNumber (l : Launch) (g : gG) (H : Heap) (b : Bool) : Met l y_X_asNumber (wC y_X_asNumber b_X_asNumber 1 (some .int)) (rmk 0 0 0 0) (pC g H [.int (bI b)]) (qP H (fun v => v = some (.int (bI b)))) 0 0 no_ := by
  refine mB (by decide) (Nat.le_of_ble_eq_true rfl) ?_
  intro p e s m below meth c ls C0 hH hZ hnm hl
  have C0 : cF g p s m _ meth c b_X_asNumber 1 "RegistryLog" (some .int) := C0
  obtain ⟨hx, hb, hml, hown, hts, hr, hlk, hK⟩ := id C0
  subst hH
  have hl : lv_has ls 1 [(0, .int (bI b))] := hl
  refine lv_iload_n hx hb d_X_asNumber_0 rfl (lv_at hl 0 rfl) ?_
  refine lv_if_eq (tgt := 8) hx hb d_X_asNumber_1 (by decide) (fun c1 => ?_) (fun c1 => ?_)
  · skip
    refine lv_iconst (v := 0) hx hb d_X_asNumber_8 (by decide) ?_
    exact W.iret hx hb hr (fun t9 ht hW => ⟨_, rfl, by rw [bI_z.mp c1]; rfl, ht⟩) (fun q h => by cases h) d_X_asNumber_9 hlk
  · skip
    refine lv_iconst (v := 1) hx hb d_X_asNumber_4 (by decide) ?_
    refine lv_goto (tgt := 9) hx hb d_X_asNumber_5 (by decide) ?_
    exact W.iret hx hb hr (fun t9 ht hW => ⟨_, rfl, by rw [bI_n.mp c1]; rfl, ht⟩) (fun q h => by cases h) d_X_asNumber_9 hlk
set_option maxHeartbeats 4000000 in
set_option maxRecDepth 100000 in
/-- Ledger.at(i): the row at i, or no row -/
theorem c_L_at (l : Launch) (g : gG) (H : Heap) (a : Nat) (rows : List Rw) (i : Int32) (h : isL g H a rows) : Met l y_L_at (wC y_L_at b_L_at 2 (some (.object "RegistryLog$Row"))) (rmk 0 0 0 0) (pC g H [.ref a, .int i]) (qP H (fun v => ∃ r, v = some (.ref r) ∧ isR g H r (atS rows i))) 0 0 no_ := by
  refine mB (by decide) (Nat.le_of_ble_eq_true rfl) ?_
  intro p e s m below meth c ls C0 hH hZ hnm hl
  have C0 : cF g p s m _ meth c b_L_at 2 "RegistryLog$Ledger" (some (.object "RegistryLog$Row")) := C0
  obtain ⟨hx, hb, hml, hown, hts, hr, hlk, hK⟩ := id C0
  subst hH
  have hl : lv_has ls 2 [(0, .ref a), (1, .int i)] := hl
  obtain ⟨w, n, f, f0, f1, hn9, hlen, hrs⟩ := h
  refine lv_iload_n hx hb d_L_at_0 rfl (lv_at hl 1 rfl) ?_
  refine lv_if_lt (tgt := 21) hx hb d_L_at_1 (by decide) (fun c1 => ?_) (fun c1 => ?_)
  · skip
    refine lv_aload_n hx hb d_L_at_21 rfl (lv_at hl 0 rfl) ?_
    refine va_get (D := g.1) (ci := 1) (C := R_L) (T := F_L) (N := 3) hx hb hts i_L hown hK.1 f0 0 rfl rfl 1 (by decide) (hts (.fieldLink "RegistryLog$Ledger" 21 "RegistryLog$Ledger" "noRow" "LRegistryLog$Row;") (in_2 (List.mem_of_getElem? (i := 222) rfl) rfl)) (fun _ h9 => h9) rfl d_L_at_22 ?_
    exact W.aret hx hb hr (Or.inl ⟨_, rfl⟩) (Or.inr ⟨_, rfl⟩) (fun t9 ht hW => ⟨_, rfl, ⟨n, rfl, by rw [atS, if_neg (fun z => absurd z.1 (Int32.not_le.mpr c1))]; exact hn9⟩, ht⟩) (fun q h => by cases h) d_L_at_25 hlk
  · skip
    refine lv_iload_n hx hb d_L_at_4 rfl (lv_at hl 1 rfl) ?_
    refine lv_aload_n hx hb d_L_at_5 rfl (lv_at hl 0 rfl) ?_
    refine va_get (D := g.1) (ci := 1) (C := R_L) (T := F_L) (N := 3) hx hb hts i_L hown hK.1 f0 0 rfl rfl 2 (by decide) (hts (.fieldLink "RegistryLog$Ledger" 31 "RegistryLog$Ledger" "count" "I") (in_2 (List.mem_of_getElem? (i := 223) rfl) rfl)) (fun _ h9 => h9) rfl d_L_at_6 ?_
    refine lv_icmp_ge (tgt := 21) hx hb d_L_at_9 (by decide) (fun c9 => ?_) (fun c9 => ?_)
    · skip
      refine lv_aload_n hx hb d_L_at_21 rfl (lv_at hl 0 rfl) ?_
      refine va_get (D := g.1) (ci := 1) (C := R_L) (T := F_L) (N := 3) hx hb hts i_L hown hK.1 f0 0 rfl rfl 1 (by decide) (hts (.fieldLink "RegistryLog$Ledger" 21 "RegistryLog$Ledger" "noRow" "LRegistryLog$Row;") (in_2 (List.mem_of_getElem? (i := 222) rfl) rfl)) (fun _ h9 => h9) rfl d_L_at_22 ?_
      exact W.aret hx hb hr (Or.inl ⟨_, rfl⟩) (Or.inr ⟨_, rfl⟩) (fun t9 ht hW => ⟨_, rfl, ⟨n, rfl, by rw [atS, if_neg (fun z => absurd z.2 (Int32.not_lt.mpr c9))]; exact hn9⟩, ht⟩) (fun q h => by cases h) d_L_at_25 hlk
    · skip
      refine lv_aload_n hx hb d_L_at_12 rfl (lv_at hl 0 rfl) ?_
      refine va_get (D := g.1) (ci := 1) (C := R_L) (T := F_L) (N := 3) hx hb hts i_L hown hK.1 f0 0 rfl rfl 0 (by decide) (hts (.fieldLink "RegistryLog$Ledger" 27 "RegistryLog$Ledger" "written" "[LRegistryLog$Row;") (in_2 (List.mem_of_getElem? (i := 221) rfl) rfl)) (fun _ h9 => h9) rfl d_L_at_13 ?_
      refine lv_iload_n hx hb d_L_at_16 rfl (lv_at hl 1 rfl) ?_
      have hin : 0 ≤ i ∧ i < nI rows.length := ⟨Int32.not_lt.mp c1, Int32.not_le.mp c9⟩
      obtain ⟨k, hk, ek⟩ : ∃ k : Nat, k < rows.length ∧ i = nI k := by
        obtain ⟨k, h1, h2⟩ := nI_of c1
        subst h2
        exact ⟨k, (nI_ltI h1 (by omega)).mp hin.2, rfl⟩
      subst ek
      obtain ⟨r, hf, hr9⟩ := hrs k hk
      refine va_aldq (D := g.1) hx hb hK.1 f1 0 2 rfl rfl (vp_in_nI (by omega) (by omega)) d_L_at_17 ?_
      rw [nI_clamp (by omega), hf]
      refine W.eq (g2 := F0 m 18 ls [.ref r]) rfl ?_
      refine lv_goto (tgt := 25) hx hb d_L_at_18 (by decide) ?_
      exact W.aret hx hb hr (Or.inl ⟨_, rfl⟩) (Or.inr ⟨_, rfl⟩) (fun t9 ht hW => ⟨_, rfl, ⟨r, rfl, by rw [atS_in hk hlen]; exact hr9⟩, ht⟩) (fun q h => by cases h) d_L_at_25 hlk
set_option maxHeartbeats 4000000 in
set_option maxRecDepth 100000 in
/-- Numbers.get(i) -/
theorem c_U_get (l : Launch) (g : gG) (H : Heap) (a v : Nat) (f : Nat → Int64) (k q : Nat) (i : Int32) (h : isU g H a v f k q) : Met l y_U_get (wC y_U_get b_U_get 2 (some .long)) (rmk 0 0 0 0) (pC g H [.ref a, .int i]) (qP H (fun v => v = some (.long (getS f k i)))) 0 0 no_ := by
  refine mB (by decide) (Nat.le_of_ble_eq_true rfl) ?_
  intro p e s m below meth c ls C0 hH hZ hnm hl
  have C0 : cF g p s m _ meth c b_U_get 2 "RegistryLog$Numbers" (some .long) := C0
  obtain ⟨hx, hb, hml, hown, hts, hr, hlk, hK⟩ := id C0
  subst hH
  have hl : lv_has ls 2 [(0, .ref a), (1, .int i)] := hl
  obtain ⟨f0, f1, hk16, hq⟩ := h
  refine lv_iload_n hx hb d_U_get_0 rfl (lv_at hl 1 rfl) ?_
  refine lv_if_lt (tgt := 21) hx hb d_U_get_1 (by decide) (fun c1 => ?_) (fun c1 => ?_)
  · skip
    refine lv_lconst (v := 0) hx hb d_U_get_21 (by decide) ?_
    exact W.lret hx hb hr (fun t9 ht hW => ⟨_, rfl, by rw [getS, if_neg (fun z => absurd z.1 (Int32.not_le.mpr c1))], ht⟩) (fun q h => by cases h) d_U_get_22 hlk
  · skip
    refine lv_iload_n hx hb d_U_get_4 rfl (lv_at hl 1 rfl) ?_
    refine lv_aload_n hx hb d_U_get_5 rfl (lv_at hl 0 rfl) ?_
    refine va_get (D := g.1) (ci := 3) (C := R_U) (T := F_U) (N := 3) hx hb hts i_U hown hK.1 f0 0 rfl rfl 1 (by decide) (hts (.fieldLink "RegistryLog$Numbers" 15 "RegistryLog$Numbers" "count" "I") (in_2 (List.mem_of_getElem? (i := 239) rfl) rfl)) (fun _ h9 => h9) rfl d_U_get_6 ?_
    refine lv_icmp_ge (tgt := 21) hx hb d_U_get_9 (by decide) (fun c9 => ?_) (fun c9 => ?_)
    · skip
      refine lv_lconst (v := 0) hx hb d_U_get_21 (by decide) ?_
      exact W.lret hx hb hr (fun t9 ht hW => ⟨_, rfl, by rw [getS, if_neg (fun z => absurd z.2 (Int32.not_lt.mpr c9))], ht⟩) (fun q h => by cases h) d_U_get_22 hlk
    · skip
      refine lv_aload_n hx hb d_U_get_12 rfl (lv_at hl 0 rfl) ?_
      refine va_get (D := g.1) (ci := 3) (C := R_U) (T := F_U) (N := 3) hx hb hts i_U hown hK.1 f0 0 rfl rfl 0 (by decide) (hts (.fieldLink "RegistryLog$Numbers" 9 "RegistryLog$Numbers" "values" "[J") (in_2 (List.mem_of_getElem? (i := 238) rfl) rfl)) (fun _ h9 => h9) rfl d_U_get_13 ?_
      refine lv_iload_n hx hb d_U_get_16 rfl (lv_at hl 1 rfl) ?_
      have hin : 0 ≤ i ∧ i < nI k := ⟨Int32.not_lt.mp c1, Int32.not_le.mp c9⟩
      have hv : vp_in i 16 := by
        obtain ⟨j, h1, h2⟩ := nI_of c1
        subst h2
        exact vp_in_nI (by have := (nI_ltI h1 (by omega)).mp hin.2; omega) (by omega)
      refine va_lald (D := g.1) hx hb hK.1 f1 0 1 rfl rfl hv d_U_get_17 ?_
      refine lv_goto (tgt := 22) hx hb d_U_get_18 (by decide) ?_
      exact W.lret hx hb hr (fun t9 ht hW => ⟨_, rfl, by rw [getS, if_pos hin], ht⟩) (fun q h => by cases h) d_U_get_22 hlk
set_option maxHeartbeats 4000000 in
set_option maxRecDepth 100000 in
/-- Numbers.isReadToTheEnd() -/
theorem c_U_isReadToTheEnd (l : Launch) (g : gG) (H : Heap) (a v : Nat) (f : Nat → Int64) (k q : Nat) (h : isU g H a v f k q) : Met l y_U_isReadToTheEnd (wC y_U_isReadToTheEnd b_U_isReadToTheEnd 1 (some .boolean)) (rmk 0 0 0 0) (pC g H [.ref a]) (qP H (fun v => v = some (.int (bI (decide (q = k)))))) 0 0 no_ := by
  refine mB (by decide) (Nat.le_of_ble_eq_true rfl) ?_
  intro p e s m below meth c ls C0 hH hZ hnm hl
  have C0 : cF g p s m _ meth c b_U_isReadToTheEnd 1 "RegistryLog$Numbers" (some .boolean) := C0
  obtain ⟨hx, hb, hml, hown, hts, hr, hlk, hK⟩ := id C0
  subst hH
  have hl : lv_has ls 1 [(0, .ref a)] := hl
  obtain ⟨f0, f1, hk16, hq⟩ := h
  refine lv_aload_n hx hb d_U_isReadToTheEnd_0 rfl (lv_at hl 0 rfl) ?_
  refine va_get (D := g.1) (ci := 3) (C := R_U) (T := F_U) (N := 3) hx hb hts i_U hown hK.1 f0 0 rfl rfl 2 (by decide) (hts (.fieldLink "RegistryLog$Numbers" 19 "RegistryLog$Numbers" "asked" "I") (in_3 (List.mem_of_getElem? (i := 0) rfl) rfl)) (fun _ h9 => h9) rfl d_U_isReadToTheEnd_1 ?_
  refine lv_aload_n hx hb d_U_isReadToTheEnd_4 rfl (lv_at hl 0 rfl) ?_
  refine va_get (D := g.1) (ci := 3) (C := R_U) (T := F_U) (N := 3) hx hb hts i_U hown hK.1 f0 0 rfl rfl 1 (by decide) (hts (.fieldLink "RegistryLog$Numbers" 15 "RegistryLog$Numbers" "count" "I") (in_2 (List.mem_of_getElem? (i := 239) rfl) rfl)) (fun _ h9 => h9) rfl d_U_isReadToTheEnd_5 ?_
  refine lv_icmp_ne (tgt := 15) hx hb d_U_isReadToTheEnd_8 (by decide) (fun c8 => ?_) (fun c8 => ?_)
  · skip
    refine lv_iconst (v := 0) hx hb d_U_isReadToTheEnd_15 (by decide) ?_
    exact W.zret hx hb hr rfl (fun t9 ht hW => ⟨_, rfl, by rw [decide_eq_false (fun z => c8 (by rw [z]))]; rfl, ht⟩) (fun q h => by cases h) d_U_isReadToTheEnd_16 hlk
  · skip
    refine lv_iconst (v := 1) hx hb d_U_isReadToTheEnd_11 (by decide) ?_
    refine lv_goto (tgt := 16) hx hb d_U_isReadToTheEnd_12 (by decide) ?_
    exact W.zret hx hb hr rfl (fun t9 ht hW => ⟨_, rfl, by rw [decide_eq_true ((nI_eq (by omega) (by omega)).mp c8)]; rfl, ht⟩) (fun q h => by cases h) d_U_isReadToTheEnd_16 hlk
theorem k_L_founderOf_2 : kV "RegistryLog$Ledger" 35 "RegistryLog$Ledger" y_L_at b_L_at 2 (some (.object "RegistryLog$Row")) 1 := ⟨(in_3 (List.mem_of_getElem? (i := 236) rfl) rfl), (in_3 (List.mem_of_getElem? (i := 47) rfl) rfl), (in_3 (List.mem_of_getElem? (i := 48) rfl) rfl), (in_1 (List.mem_of_getElem? (i := 6) rfl) rfl), (in_3 (List.mem_of_getElem? (i := 49) rfl) rfl), ⟨by decide, by decide, by decide +kernel⟩⟩
theorem isL_recv {g : gG} {H : Heap} {s : State} {a : Nat} {rows : List Rw} (hK : kK g s) (h : isL g H a rows) : ∃ cell : Cell, H[a]? = some cell ∧ cell.vm.isStatics = false ∧ s.vm.findClass "RegistryLog$Ledger" = some cell.cls := by
  obtain ⟨w, n, f, f0, -⟩ := h
  exact ob_recv (ci := 1) (q := (R_L, F_L, 3)) hK f0 rfl
set_option maxHeartbeats 4000000 in
set_option maxRecDepth 100000 in
/-- Ledger.founderOf(i) -/
theorem c_L_founderOf (l : Launch) (g : gG) (H : Heap) (a : Nat) (rows : List Rw) (i : Int32) (h : isL g H a rows) : Met l y_L_founderOf (wC y_L_founderOf b_L_founderOf 2 (some .int)) (rmk 1 0 0 21) (pC g H [.ref a, .int i]) (qP H (fun v => v = some (.int (rp (atS rows i))))) 0 0 no_ := by
  refine mB (by decide) (Nat.le_of_ble_eq_true rfl) ?_
  intro p e s m below meth c ls C0 hH hZ hnm hl
  have C0 : cF g p s m _ meth c b_L_founderOf 2 "RegistryLog$Ledger" (some .int) := C0
  obtain ⟨hx, hb, hml, hown, hts, hr, hlk, hK⟩ := id C0
  subst hH
  have hl : lv_has ls 2 [(0, .ref a), (1, .int i)] := hl
  refine lv_aload_n hx hb d_L_founderOf_0 rfl (lv_at hl 0 rfl) ?_
  refine lv_iload_n hx hb d_L_founderOf_1 rfl (lv_at hl 1 rfl) ?_
  refine aP (rV (As := [.int i]) (rest := []) C0 (c_L_at l g s.heap a rows i h) hZ k_L_founderOf_2 rfl rfl ⟨Nat.le_of_ble_eq_true rfl, Nat.le_of_ble_eq_true rfl⟩ (isL_recv hK h) rfl hl.1 rfl (Nat.le_of_ble_eq_true rfl) d_L_founderOf_2 ⟨Nat.zero_le _, Nat.zero_le _⟩) ?_
  rintro v ⟨r, rfl, hr9⟩
  obtain ⟨R9, eR⟩ : ∃ R9, R9 = atS rows i := ⟨_, rfl⟩
  rw [← eR] at hr9
  refine W.eq (g2 := F0 m 5 ls [.ref r]) rfl ?_
  obtain ⟨na, nb, hr90, hr9n, hr9a⟩ := hr9
  refine va_get (D := g.1) (ci := 4) (C := R_R) (T := F_R) (N := 8) hx hb hts i_R hown hK.1 hr90 0 rfl rfl 1 (by decide) (hts (.fieldLink "RegistryLog$Ledger" 63 "RegistryLog$Row" "person" "I") (in_2 (List.mem_of_getElem? (i := 186) rfl) rfl)) (fun _ h9 => h9) rfl d_L_founderOf_5 ?_
  exact W.iret hx hb hr (fun t9 ht hW => ⟨_, rfl, by rw [← eR], ht⟩) (fun q h => by cases h) d_L_founderOf_8 hlk
