theorem k_X_move_1 : kV "RegistryLog" 111 "RegistryLog" y_X_takeText b_X_takeText 2 (some (.object "java/lang/String")) 0 := ⟨(in_3 (List.mem_of_getElem? (i := 203) rfl) rfl), (in_3 (List.mem_of_getElem? (i := 205) rfl) rfl), (in_0 (List.mem_of_getElem? (i := 4) rfl) rfl), (in_1 (List.mem_of_getElem? (i := 1) rfl) rfl), (in_3 (List.mem_of_getElem? (i := 206) rfl) rfl), ⟨by decide, by decide, by decide +kernel⟩⟩
theorem k_X_move_8 : kV "RegistryLog" 115 "java/lang/String" y_S_indexOf0 b_S_indexOf0 2 (some .int) 1 := ⟨(in_4 (List.mem_of_getElem? (i := 132) rfl) rfl), (in_4 (List.mem_of_getElem? (i := 133) rfl) rfl), (in_4 (List.mem_of_getElem? (i := 134) rfl) rfl), (in_1 (List.mem_of_getElem? (i := 4) rfl) rfl), (in_4 (List.mem_of_getElem? (i := 135) rfl) rfl), ⟨by decide, by decide, by decide +kernel⟩⟩
theorem k_X_move_17 : kS "RegistryLog" 58 y_X_isPerson b_X_isPerson 1 (some .boolean) 1 := ⟨(in_4 (List.mem_of_getElem? (i := 17) rfl) rfl), (in_4 (List.mem_of_getElem? (i := 18) rfl) rfl), (in_1 (List.mem_of_getElem? (i := 1) rfl) rfl), (in_4 (List.mem_of_getElem? (i := 19) rfl) rfl), ⟨by decide, by decide, by decide +kernel⟩⟩
theorem k_X_move_40 : kV "RegistryLog" 127 "java/lang/String" y_S_substring1 b_S_substring1 5 (some (.object "java/lang/String")) 2 := ⟨(in_4 (List.mem_of_getElem? (i := 179) rfl) rfl), (in_4 (List.mem_of_getElem? (i := 180) rfl) rfl), (in_4 (List.mem_of_getElem? (i := 181) rfl) rfl), (in_1 (List.mem_of_getElem? (i := 4) rfl) rfl), (in_4 (List.mem_of_getElem? (i := 182) rfl) rfl), ⟨by decide, by decide, by decide +kernel⟩⟩
theorem k_X_move_43 : kI "RegistryLog" 131 y_N_init b_N_init 2 1 := ⟨(in_3 (List.mem_of_getElem? (i := 231) rfl) rfl), (in_1 (List.mem_of_getElem? (i := 77) rfl) rfl), (in_1 (List.mem_of_getElem? (i := 7) rfl) rfl), (in_1 (List.mem_of_getElem? (i := 78) rfl) rfl), rfl, ⟨by decide, by decide, by decide +kernel⟩⟩
theorem k_X_move_57 : kV "RegistryLog" 132 "java/lang/String" y_S_length b_S_length 1 (some .int) 0 := ⟨(in_4 (List.mem_of_getElem? (i := 202) rfl) rfl), (in_1 (List.mem_of_getElem? (i := 86) rfl) rfl), (in_1 (List.mem_of_getElem? (i := 87) rfl) rfl), (in_1 (List.mem_of_getElem? (i := 4) rfl) rfl), (in_1 (List.mem_of_getElem? (i := 88) rfl) rfl), ⟨by decide, by decide, by decide +kernel⟩⟩
theorem k_X_move_60 : kV "RegistryLog" 127 "java/lang/String" y_S_substring1 b_S_substring1 5 (some (.object "java/lang/String")) 2 := ⟨(in_4 (List.mem_of_getElem? (i := 179) rfl) rfl), (in_4 (List.mem_of_getElem? (i := 180) rfl) rfl), (in_4 (List.mem_of_getElem? (i := 181) rfl) rfl), (in_1 (List.mem_of_getElem? (i := 4) rfl) rfl), (in_4 (List.mem_of_getElem? (i := 182) rfl) rfl), ⟨by decide, by decide, by decide +kernel⟩⟩
theorem k_X_move_63 : kI "RegistryLog" 131 y_N_init b_N_init 2 1 := ⟨(in_3 (List.mem_of_getElem? (i := 231) rfl) rfl), (in_1 (List.mem_of_getElem? (i := 77) rfl) rfl), (in_1 (List.mem_of_getElem? (i := 7) rfl) rfl), (in_1 (List.mem_of_getElem? (i := 78) rfl) rfl), rfl, ⟨by decide, by decide, by decide +kernel⟩⟩
theorem k_X_move_70 : kV "RegistryLog" 52 "RegistryLog$Name" y_N_isName b_N_isName 6 (some .boolean) 0 := ⟨(in_4 (List.mem_of_getElem? (i := 50) rfl) rfl), (in_4 (List.mem_of_getElem? (i := 51) rfl) rfl), (in_4 (List.mem_of_getElem? (i := 52) rfl) rfl), (in_1 (List.mem_of_getElem? (i := 7) rfl) rfl), (in_4 (List.mem_of_getElem? (i := 53) rfl) rfl), ⟨by decide, by decide, by decide +kernel⟩⟩
theorem k_X_move_78 : kV "RegistryLog" 52 "RegistryLog$Name" y_N_isName b_N_isName 6 (some .boolean) 0 := ⟨(in_4 (List.mem_of_getElem? (i := 50) rfl) rfl), (in_4 (List.mem_of_getElem? (i := 51) rfl) rfl), (in_4 (List.mem_of_getElem? (i := 52) rfl) rfl), (in_1 (List.mem_of_getElem? (i := 7) rfl) rfl), (in_4 (List.mem_of_getElem? (i := 53) rfl) rfl), ⟨by decide, by decide, by decide +kernel⟩⟩
theorem k_X_move_89 : kS "RegistryLog" 65 y_X_demandArguments b_X_demandArguments 1 none 1 := ⟨(in_4 (List.mem_of_getElem? (i := 57) rfl) rfl), (in_4 (List.mem_of_getElem? (i := 58) rfl) rfl), (in_1 (List.mem_of_getElem? (i := 1) rfl) rfl), (in_4 (List.mem_of_getElem? (i := 59) rfl) rfl), ⟨by decide, by decide, by decide +kernel⟩⟩
theorem k_X_move_98 : kV "RegistryLog" 69 "RegistryLog$Ledger" y_L_originOf b_L_originOf 5 (some .int) 1 := ⟨(in_3 (List.mem_of_getElem? (i := 232) rfl) rfl), (in_3 (List.mem_of_getElem? (i := 233) rfl) rfl), (in_3 (List.mem_of_getElem? (i := 234) rfl) rfl), (in_1 (List.mem_of_getElem? (i := 6) rfl) rfl), (in_3 (List.mem_of_getElem? (i := 235) rfl) rfl), ⟨by decide, by decide, by decide +kernel⟩⟩
theorem k_X_move_110 : kV "RegistryLog" 107 "RegistryLog$Ledger" y_L_founderOf b_L_founderOf 2 (some .int) 1 := ⟨(in_4 (List.mem_of_getElem? (i := 9) rfl) rfl), (in_4 (List.mem_of_getElem? (i := 10) rfl) rfl), (in_4 (List.mem_of_getElem? (i := 11) rfl) rfl), (in_1 (List.mem_of_getElem? (i := 6) rfl) rfl), (in_4 (List.mem_of_getElem? (i := 12) rfl) rfl), ⟨by decide, by decide, by decide +kernel⟩⟩
theorem k_X_move_124 : kV "RegistryLog" 73 "RegistryLog$Ledger" y_L_isFree b_L_isFree 5 (some .boolean) 2 := ⟨(in_4 (List.mem_of_getElem? (i := 63) rfl) rfl), (in_4 (List.mem_of_getElem? (i := 64) rfl) rfl), (in_4 (List.mem_of_getElem? (i := 65) rfl) rfl), (in_1 (List.mem_of_getElem? (i := 6) rfl) rfl), (in_4 (List.mem_of_getElem? (i := 66) rfl) rfl), ⟨by decide, by decide, by decide +kernel⟩⟩
theorem k_X_move_135 : kS "RegistryLog" 77 y_X_demandState b_X_demandState 1 none 1 := ⟨(in_4 (List.mem_of_getElem? (i := 83) rfl) rfl), (in_4 (List.mem_of_getElem? (i := 84) rfl) rfl), (in_1 (List.mem_of_getElem? (i := 1) rfl) rfl), (in_4 (List.mem_of_getElem? (i := 85) rfl) rfl), ⟨by decide, by decide, by decide +kernel⟩⟩
theorem k_X_move_153 : kI "RegistryLog" 93 y_R_init b_R_init 10 7 := ⟨(in_4 (List.mem_of_getElem? (i := 103) rfl) rfl), (in_2 (List.mem_of_getElem? (i := 168) rfl) rfl), (in_1 (List.mem_of_getElem? (i := 19) rfl) rfl), (in_2 (List.mem_of_getElem? (i := 169) rfl) rfl), rfl, ⟨by decide, by decide, by decide +kernel⟩⟩
theorem k_X_move_156 : kV "RegistryLog" 96 "RegistryLog" y_X_write b_X_write 3 (some .int) 1 := ⟨(in_4 (List.mem_of_getElem? (i := 104) rfl) rfl), (in_4 (List.mem_of_getElem? (i := 106) rfl) rfl), (in_0 (List.mem_of_getElem? (i := 5) rfl) rfl), (in_1 (List.mem_of_getElem? (i := 1) rfl) rfl), (in_4 (List.mem_of_getElem? (i := 107) rfl) rfl), ⟨by decide, by decide, by decide +kernel⟩⟩
set_option maxHeartbeats 4000000 in
set_option maxRecDepth 100000 in
/-- move -/
theorem c_X_move (l : Launch) (g : gG) (H : Heap) (Z : Nat → Prop) (x : Nat) (ad : Nat → Nat) (ms nm nw : Nat) (rows : List Rw) (mir : Nat → List Rw) (T : List Nat) (f : Nat → Int64) (k q : Nat) (f2 : Nat → Int64) (k2 : Nat) (hX : cX Z g H x ad ms nm nw rows mir T f k q f2 k2 0) (hsz : g.2.2.1 ≤ H.size) (hZb : ∀ a, H.size ≤ a → Z a) (hE : pS (PX Z ad) g H (g.2.2.2 1) []) (who : Int32) (c0 : Nat) (hc0 : ixL 62 T 0 = nI c0) (hc1 : c0 < T.length) (hA2 : decide (0 ≤ who ∧ who < 8) = true) (hA1 : nameS (T.take c0) = true) (hA3 : nameS (T.drop (c0 + 1)) = true) (og0 : Int32) (hmay : movC rows (T.take c0) (T.drop (c0 + 1)) who = true) (hog : oS (T.take c0) rows (-1) = og0) (hlt : rows.length < 120) : Met l y_X_move (wC y_X_move b_X_move 7 (some .int)) (rmk 8 66 1920 177) (pC g H [.ref x, .int who]) (qW H (NX ad) (fun r H1 => ∃ v2, r = some (.int (nI rows.length)) ∧ cX Z g H1 x (adU ad v2) ms nm nw (rows ++ [(3, who, (T.take c0), (T.drop (c0 + 1)), -1, 0, og0)]) mir ([]) f k q f2 k2 0)) 66 1920 (fW H (NX ad)) := by
  refine mB (by decide) (Nat.le_of_ble_eq_true rfl) ?_
  intro p e s m below meth c ls C0 hH hZ hnm hl
  have C0 : cF g p s m _ meth c b_X_move 7 "RegistryLog" (some .int) := C0
  obtain ⟨hx, hb, hml, hown, hts, hr, hlk, hK⟩ := id C0
  subst hH
  have hl : lv_has ls 7 [(0, .ref x), (1, .int who)] := hl
  have hS : va_S (fW s.heap (NX ad)) s.heap s.heap [] := hS_rf
  have hX0 := hX
  have ad0 := cX_lt hX0 (j := 0) (by decide)
  have ad1 := cX_lt hX0 (j := 1) (by decide)
  have hT24 := (cX_T hX).1
  refine lv_aload_n hx hb d_X_move_0 rfl (lv_at hl 0 rfl) ?_
  refine aW (N := (NX ad)) (rV (As := []) (rest := []) C0 (c_X_takeText l g _ Z x ad ms nm nw rows mir T f k q f2 k2 hX hsz hZb) (zK_S hZ hS (cX_old hX0)) k_X_move_1 rfl rfl ⟨Nat.le_of_ble_eq_true rfl, Nat.le_of_ble_eq_true rfl⟩ (ob_recv hK (cX_ob hX) rfl) rfl hl.1 rfl (Nat.le_of_ble_eq_true rfl) d_X_move_1 ⟨by show 0 + 3 ≤ 66; omega, by show 0 + 72 ≤ 1920; omega⟩) (fun v H L hC1 hp hL => ?_)
  have hS0 := hS
  have hS := hS_call hS hC1 hL (fun a h => Or.inl h)
  obtain ⟨sa, w9, v2, hsa, hw9, rfl, hs9, hX, hv4, hv5, hv6⟩ := hp
  have hE := pS_mv (P' := PX Z (adU ad v2)) hE (fun a h1 h2 => ⟨hC_at hC1 h2 (fun z => by obtain ⟨j, hj, z2⟩ := z; exact h1.1 j hj z2), PX_U h1 hv4 h2⟩)
  obtain ⟨ad2, had2⟩ : ∃ ad2, ad2 = adU ad v2 := ⟨_, rfl⟩
  rw [← had2] at hX hE
  have hsz2 := hS.1
  refine W.eq (g2 := F0 m 4 ls [.ref sa]) rfl ?_
  refine lv_astore_n (lv' := [(2, .ref sa), (0, .ref x), (1, .int who)]) hx hb d_X_move_4 rfl hl (by decide) rfl (fun ls hl => ?_)
  refine lv_aload_n hx hb d_X_move_5 rfl (lv_at hl 0 rfl) ?_
  refine lv_bipush (v := nI 62) hx hb d_X_move_6 (by decide) ?_
  refine aP (rV (As := [.int (nI 62)]) (rest := []) C0 (c_S_indexOf0 l g _ sa w9 62 (by decide) T hs9) (zK_S hZ hS (cX_old hX0)) k_X_move_8 rfl rfl ⟨Nat.le_of_ble_eq_true rfl, Nat.le_of_ble_eq_true rfl⟩ (s_recv hK hs9.1) rfl hl.1 rfl (Nat.le_of_ble_eq_true rfl) d_X_move_8 ⟨by show 0 + 3 + 0 ≤ 66; omega, by show 0 + 72 + 0 ≤ 1920; omega⟩) ?_
  intro v hv; subst hv
  refine W.eq (g2 := F0 m 11 ls [.int (ixL 62 T 0)]) rfl ?_
  refine W.eq (g2 := F0 m 11 ls [.int (nI c0)]) (by rw [hc0]) ?_
  refine lv_istore_n (lv' := [(3, .int (nI c0)), (2, .ref sa), (0, .ref x), (1, .int who)]) hx hb d_X_move_11 rfl hl (by decide) rfl (fun ls hl => ?_)
  refine lv_iload_n hx hb d_X_move_12 rfl (lv_at hl 0 rfl) ?_
  refine lv_if_lt (tgt := 23) hx hb d_X_move_13 (by decide) (fun c13 => ?_) (fun c13 => ?_)
  · skip
    exact absurd c13 (nI_pos (by omega))
  · skip
    refine lv_iload_n hx hb d_X_move_16 rfl (lv_at hl 3 rfl) ?_
    refine aP (rS (As := [.int who]) (rest := []) C0 (c_X_isPerson l g _ who) (zK_S hZ hS (cX_old hX0)) k_X_move_17 rfl rfl ⟨Nat.le_of_ble_eq_true rfl, Nat.le_of_ble_eq_true rfl⟩ rfl hl.1 rfl (Nat.le_of_ble_eq_true rfl) d_X_move_17 ⟨by show 0 + 3 + 0 ≤ 66; omega, by show 0 + 72 + 0 ≤ 1920; omega⟩) ?_
    intro v hv; subst hv
    refine W.eq (g2 := F0 m 20 ls [.int (bI (decide (0 ≤ who ∧ who < 8)))]) rfl ?_
    refine z_ne (tgt := 33) (v := decide (0 ≤ who ∧ who < 8)) hx hb d_X_move_20 (by decide) (fun c20 => ?_) (fun c20 => ?_)
    · skip
      have hadq1 : ∀ j, j < 16 → ad2 j < H.size := fun j hj => cX_lt hX hj
      obtain ⟨z1, hz1⟩ : ∃ z, z = H.size := ⟨_, rfl⟩
      rw [← hz1] at hadq1
      have hzs1 : s.heap.size ≤ z1 := by rw [hz1]; exact hS.1
      have hsl1 := sS_lt hs9
      rw [← hz1] at hsl1
      have hS0 := hS
      refine s_new (ci := 2) (C := R_N) (T := F_N) (N := 2) hx hb hts i_N t_N t_N_ok hown (hts _ (in_3 (List.mem_of_getElem? (i := 202) rfl) rfl)) (hts _ (in_1 (List.mem_of_getElem? (i := 74) rfl) rfl)) (hts _ (in_1 (List.mem_of_getElem? (i := 7) rfl) rfl)) hK hS rfl (fs := [.null, .null]) (by decide) (by show 0 + 3 + 1 ≤ 66; omega) (by show 0 + 72 + 2 ≤ 1920; omega) d_X_move_33 (fun q1 H hq f_q1 hz o1 hS => ?_)
      have hX := cX_mv hX (Z' := fun a => Z a ∧ a ≠ q1) (fun a h1 h2 => ⟨o1 a (by rw [hq]; exact h2), h1, by omega⟩)
      have hE := pS_mv hE (P' := fun a => PX Z ad2 a ∧ a ≠ q1) (fun a h1 h2 => ⟨o1 a (by rw [hq]; exact h2), h1, by omega⟩)
      have hs9 := sS_kept hs9 (o1 _ (by rw [hq]; exact (sS_lt hs9).1)) (o1 _ (by rw [hq]; exact (sS_lt hs9).2))
      have ge_q1 : s.heap.size ≤ q1 := by rw [hq]; exact hS0.1
      refine lv_dup hx hb d_X_move_36 rfl ?_
      refine lv_aload_n hx hb d_X_move_37 rfl (lv_at hl 1 rfl) ?_
      refine lv_iconst (v := nI 0) hx hb d_X_move_38 (by decide) ?_
      refine lv_iload_n hx hb d_X_move_39 rfl (lv_at hl 0 rfl) ?_
      have hqs1 := ob_lt f_q1
      refine aW (N := no_) (rV (As := [.int (nI 0), .int (nI c0)]) (rest := [.ref q1, .ref q1]) C0 (c_S_substring1 l g _ sa w9 0 c0 T hs9 ⟨by omega, by omega⟩) (zK_S hZ hS (cX_old hX0)) k_X_move_40 rfl rfl ⟨Nat.le_of_ble_eq_true rfl, Nat.le_of_ble_eq_true rfl⟩ (s_recv hK hs9.1) rfl hl.1 rfl (Nat.le_of_ble_eq_true rfl) d_X_move_40 ⟨by show 0 + 3 + 1 + 2 ≤ 66; omega, by show 0 + 72 + 2 + 38 ≤ 1920; omega⟩) (fun v H L hC1 hp hL => ?_)
      have hS0 := hS
      have hS := hS_call hS hC1 hL (fun q h => h.elim)
      have hX := cX_mv hX (fun q h1 h2 => ⟨hC_at hC1 h2 (fun z => z), h1⟩)
      have hE := pS_mv hE (fun q h1 h2 => ⟨hC_at hC1 h2 (fun z => z), h1⟩)
      have hs9 := sS_kept hs9 (hC_at hC1 (sS_lt hs9).1 (fun z => z)) (hC_at hC1 (sS_lt hs9).2 (fun z => z))
      have f_q1 := ob_kept f_q1 (hC_at hC1 (ob_lt f_q1) (fun z => z))
      have hzz1 : z1 < H.size := by have := hC1.1; omega
      obtain ⟨s1, rfl, hs1⟩ := hp
      have hp1 := sub_pS hE hs1 (fun z => by omega) (fun a h => ⟨⟨fun j hj z => by have := hadq1 j hj; omega, hZb _ (by omega)⟩, by omega⟩)
      rw [show (T.drop 0).take (c0 - 0) = T.take c0 from rfl] at hp1
      refine W.eq (g2 := F0 m 43 ls [.ref s1, .ref q1, .ref q1]) rfl ?_
      obtain ⟨w1, ⟨_, na1⟩, ⟨_, nb1⟩, so1, ba1, hc19, hl19⟩ := id hp1
      refine aW (N := (fun a => a = q1)) (rI (As := [.ref s1]) (rest := [.ref q1]) C0 (c_N_init l g _ q1 s1 w1 (T.take c0) (Nat.le_trans hsz hS.1) (by omega) f_q1 so1 ba1 (Ne.symm na1) (Ne.symm nb1) (by simp only [List.length_take, List.length_drop]; omega) (pS_getD hp1)) (zK_S hZ hS (cX_old hX0)) k_X_move_43 rfl rfl ⟨Nat.le_of_ble_eq_true rfl, Nat.le_of_ble_eq_true rfl⟩ rfl hl.1 rfl (Nat.le_of_ble_eq_true rfl) d_X_move_43 ⟨by show 0 + 3 + 1 + 2 + 28 ≤ 66; omega, by show 0 + 72 + 2 + 38 + 880 ≤ 1920; omega⟩) (fun v H L hC1 hp hL => ?_)
      have hS0 := hS
      have hS := hS_call hS hC1 hL (fun a h => by rw [h]; exact Or.inr (by omega))
      obtain ⟨rfl, fa1, fw1, hfa1, hfw1, f_q1, hf19⟩ := hp
      have hX := cX_mv (Z' := Z) hX (fun a h1 h2 => ⟨hC_at hC1 h2 (fun z => h1.2 z), h1.1⟩)
      have hE := pS_mv (P' := PX Z ad2) hE (fun a h1 h2 => ⟨hC_at hC1 h2 (fun z => h1.2 z), h1.1⟩)
      have hs9 := sS_kept hs9 (hC_at hC1 (sS_lt hs9).1 (fun z => absurd z (by omega))) (hC_at hC1 (sS_lt hs9).2 (fun z => absurd z (by omega)))
      have hN9 : pN (PX Z ad2) g H q1 (T.take c0) := ⟨s1, fa1, ⟨fun j hj z => by have := hadq1 j hj; omega, hZb _ (by omega)⟩, f_q1, pS_mv (P' := PX Z ad2) hp1 (fun a h1 h2 => ⟨hC_at hC1 h2 (fun z => h1.2 z), h1.1⟩), sS_pS hf19 ⟨fun j hj z => by have := hadq1 j hj; omega, hZb _ (by omega)⟩ ⟨fun j hj z => by have := hadq1 j hj; omega, hZb _ (by omega)⟩⟩
      refine W.eq (g2 := F0 m 46 ls [.ref q1]) rfl ?_
      refine lv_astore (lv' := [(4, .ref q1), (3, .int (nI c0)), (2, .ref sa), (0, .ref x), (1, .int who)]) hx hb d_X_move_46 hl (by decide) rfl (fun ls hl => ?_)
      have hadq2 : ∀ j, j < 16 → ad2 j < H.size := fun j hj => cX_lt hX hj
      obtain ⟨z2, hz2⟩ : ∃ z, z = H.size := ⟨_, rfl⟩
      rw [← hz2] at hadq2
      have hzs2 : s.heap.size ≤ z2 := by rw [hz2]; exact hS.1
      have hsl2 := sS_lt hs9
      rw [← hz2] at hsl2
      have hS0 := hS
      refine s_new (ci := 2) (C := R_N) (T := F_N) (N := 2) hx hb hts i_N t_N t_N_ok hown (hts _ (in_3 (List.mem_of_getElem? (i := 202) rfl) rfl)) (hts _ (in_1 (List.mem_of_getElem? (i := 74) rfl) rfl)) (hts _ (in_1 (List.mem_of_getElem? (i := 7) rfl) rfl)) hK hS rfl (fs := [.null, .null]) (by decide) (by show 0 + 3 + 1 + 2 + 28 + 1 ≤ 66; omega) (by show 0 + 72 + 2 + 38 + 880 + 2 ≤ 1920; omega) d_X_move_48 (fun q2 H hq f_q2 hz o1 hS => ?_)
      have hX := cX_mv hX (Z' := fun a => Z a ∧ a ≠ q2) (fun a h1 h2 => ⟨o1 a (by rw [hq]; exact h2), h1, by omega⟩)
      have hE := pS_mv hE (P' := fun a => PX Z ad2 a ∧ a ≠ q2) (fun a h1 h2 => ⟨o1 a (by rw [hq]; exact h2), h1, by omega⟩)
      have hs9 := sS_kept hs9 (o1 _ (by rw [hq]; exact (sS_lt hs9).1)) (o1 _ (by rw [hq]; exact (sS_lt hs9).2))
      have hN9 := pN_mv hN9 (P' := fun a => PX Z ad2 a ∧ a ≠ q2) (fun a h1 h2 => ⟨o1 a (by rw [hq]; exact h2), h1, by omega⟩)
      have ge_q2 : s.heap.size ≤ q2 := by rw [hq]; exact hS0.1
      refine lv_dup hx hb d_X_move_51 rfl ?_
      refine lv_aload_n hx hb d_X_move_52 rfl (lv_at hl 2 rfl) ?_
      refine lv_iload_n hx hb d_X_move_53 rfl (lv_at hl 1 rfl) ?_
      refine lv_iconst (v := nI 1) hx hb d_X_move_54 (by decide) ?_
      refine n_iadd hx hb d_X_move_55 ?_
      refine lv_aload_n hx hb d_X_move_56 rfl (lv_at hl 2 rfl) ?_
      refine aP (rV (As := []) (rest := [.int (nI (c0 + 1)), .ref sa, .ref q2, .ref q2]) C0 (c_S_length l g _ sa w9 T.length (ch T) hs9.1 (sS_bA hs9)) (zK_S hZ hS (cX_old hX0)) k_X_move_57 rfl rfl ⟨Nat.le_of_ble_eq_true rfl, Nat.le_of_ble_eq_true rfl⟩ (s_recv hK hs9.1) rfl hl.1 rfl (Nat.le_of_ble_eq_true rfl) d_X_move_57 ⟨by show 0 + 3 + 1 + 2 + 28 + 1 + 0 ≤ 66; omega, by show 0 + 72 + 2 + 38 + 880 + 2 + 0 ≤ 1920; omega⟩) ?_
      intro v hv; subst hv
      refine W.eq (g2 := F0 m 60 ls [.int (nI T.length), .int (nI (c0 + 1)), .ref sa, .ref q2, .ref q2]) rfl ?_
      have hqs2 := ob_lt f_q2
      refine aW (N := no_) (rV (As := [.int (nI (c0 + 1)), .int (nI T.length)]) (rest := [.ref q2, .ref q2]) C0 (c_S_substring1 l g _ sa w9 (c0 + 1) T.length T hs9 ⟨by omega, by omega⟩) (zK_S hZ hS (cX_old hX0)) k_X_move_60 rfl rfl ⟨Nat.le_of_ble_eq_true rfl, Nat.le_of_ble_eq_true rfl⟩ (s_recv hK hs9.1) rfl hl.1 rfl (Nat.le_of_ble_eq_true rfl) d_X_move_60 ⟨by show 0 + 3 + 1 + 2 + 28 + 1 + 2 ≤ 66; omega, by show 0 + 72 + 2 + 38 + 880 + 2 + 38 ≤ 1920; omega⟩) (fun v H L hC1 hp hL => ?_)
      have hS0 := hS
      have hS := hS_call hS hC1 hL (fun q h => h.elim)
      have hX := cX_mv hX (fun q h1 h2 => ⟨hC_at hC1 h2 (fun z => z), h1⟩)
      have hE := pS_mv hE (fun q h1 h2 => ⟨hC_at hC1 h2 (fun z => z), h1⟩)
      have hs9 := sS_kept hs9 (hC_at hC1 (sS_lt hs9).1 (fun z => z)) (hC_at hC1 (sS_lt hs9).2 (fun z => z))
      have hN9 := pN_mv hN9 (fun q h1 h2 => ⟨hC_at hC1 h2 (fun z => z), h1⟩)
      have f_q2 := ob_kept f_q2 (hC_at hC1 (ob_lt f_q2) (fun z => z))
      have hzz2 : z2 < H.size := by have := hC1.1; omega
      obtain ⟨s2, rfl, hs2⟩ := hp
      have hp2 := sub_pS hE hs2 (fun z => by omega) (fun a h => ⟨⟨fun j hj z => by have := hadq2 j hj; omega, hZb _ (by omega)⟩, by omega⟩)
      rw [show (T.drop (c0 + 1)).take (T.length - (c0 + 1)) = T.drop (c0 + 1) from List.take_of_length_le (by rw [List.length_drop]; omega)] at hp2
      refine W.eq (g2 := F0 m 63 ls [.ref s2, .ref q2, .ref q2]) rfl ?_
      obtain ⟨w2, ⟨_, na2⟩, ⟨_, nb2⟩, so2, ba2, hc29, hl29⟩ := id hp2
      refine aW (N := (fun a => a = q2)) (rI (As := [.ref s2]) (rest := [.ref q2]) C0 (c_N_init l g _ q2 s2 w2 (T.drop (c0 + 1)) (Nat.le_trans hsz hS.1) (by omega) f_q2 so2 ba2 (Ne.symm na2) (Ne.symm nb2) (by simp only [List.length_take, List.length_drop]; omega) (pS_getD hp2)) (zK_S hZ hS (cX_old hX0)) k_X_move_63 rfl rfl ⟨Nat.le_of_ble_eq_true rfl, Nat.le_of_ble_eq_true rfl⟩ rfl hl.1 rfl (Nat.le_of_ble_eq_true rfl) d_X_move_63 ⟨by show 0 + 3 + 1 + 2 + 28 + 1 + 2 + 28 ≤ 66; omega, by show 0 + 72 + 2 + 38 + 880 + 2 + 38 + 880 ≤ 1920; omega⟩) (fun v H L hC1 hp hL => ?_)
      have hS0 := hS
      have hS := hS_call hS hC1 hL (fun a h => by rw [h]; exact Or.inr (by omega))
      obtain ⟨rfl, fa2, fw2, hfa2, hfw2, f_q2, hf29⟩ := hp
      have hX := cX_mv (Z' := Z) hX (fun a h1 h2 => ⟨hC_at hC1 h2 (fun z => h1.2 z), h1.1⟩)
      have hE := pS_mv (P' := PX Z ad2) hE (fun a h1 h2 => ⟨hC_at hC1 h2 (fun z => h1.2 z), h1.1⟩)
      have hs9 := sS_kept hs9 (hC_at hC1 (sS_lt hs9).1 (fun z => absurd z (by omega))) (hC_at hC1 (sS_lt hs9).2 (fun z => absurd z (by omega)))
      have hN9 := pN_mv (P' := PX Z ad2) hN9 (fun a h1 h2 => ⟨hC_at hC1 h2 (fun z => h1.2 z), h1.1⟩)
      have hN8 : pN (PX Z ad2) g H q2 (T.drop (c0 + 1)) := ⟨s2, fa2, ⟨fun j hj z => by have := hadq2 j hj; omega, hZb _ (by omega)⟩, f_q2, pS_mv (P' := PX Z ad2) hp2 (fun a h1 h2 => ⟨hC_at hC1 h2 (fun z => h1.2 z), h1.1⟩), sS_pS hf29 ⟨fun j hj z => by have := hadq2 j hj; omega, hZb _ (by omega)⟩ ⟨fun j hj z => by have := hadq2 j hj; omega, hZb _ (by omega)⟩⟩
      refine W.eq (g2 := F0 m 66 ls [.ref q2]) rfl ?_
      refine lv_astore (lv' := [(5, .ref q2), (4, .ref q1), (3, .int (nI c0)), (2, .ref sa), (0, .ref x), (1, .int who)]) hx hb d_X_move_66 hl (by decide) rfl (fun ls hl => ?_)
      refine lv_aload hx hb d_X_move_68 (lv_at hl 1 rfl) ?_
      refine aP (rV (As := []) (rest := []) C0 (c_N_isName l g _ q1 (T.take c0) (pN_isN hN9)) (zK_S hZ hS (cX_old hX0)) k_X_move_70 rfl rfl ⟨Nat.le_of_ble_eq_true rfl, Nat.le_of_ble_eq_true rfl⟩ (isN_recv hK (pN_isN hN9)) rfl hl.1 rfl (Nat.le_of_ble_eq_true rfl) d_X_move_70 ⟨by show 0 + 3 + 1 + 2 + 28 + 1 + 2 + 28 + 0 ≤ 66; omega, by show 0 + 72 + 2 + 38 + 880 + 2 + 38 + 880 + 0 ≤ 1920; omega⟩) ?_
      intro v hv; subst hv
      refine W.eq (g2 := F0 m 73 ls [.int (bI (nameS (T.take c0)))]) rfl ?_
      refine z_eq (tgt := 88) (v := nameS (T.take c0)) hx hb d_X_move_73 (by decide) (fun c73 => ?_) (fun c73 => ?_)
      · skip
        exact absurd hA1 (by rw [c73]; decide)
      · skip
        refine lv_aload hx hb d_X_move_76 (lv_at hl 0 rfl) ?_
        refine aP (rV (As := []) (rest := []) C0 (c_N_isName l g _ q2 (T.drop (c0 + 1)) (pN_isN hN8)) (zK_S hZ hS (cX_old hX0)) k_X_move_78 rfl rfl ⟨Nat.le_of_ble_eq_true rfl, Nat.le_of_ble_eq_true rfl⟩ (isN_recv hK (pN_isN hN8)) rfl hl.1 rfl (Nat.le_of_ble_eq_true rfl) d_X_move_78 ⟨by show 0 + 3 + 1 + 2 + 28 + 1 + 2 + 28 + 0 ≤ 66; omega, by show 0 + 72 + 2 + 38 + 880 + 2 + 38 + 880 + 0 ≤ 1920; omega⟩) ?_
        intro v hv; subst hv
        refine W.eq (g2 := F0 m 81 ls [.int (bI (nameS (T.drop (c0 + 1))))]) rfl ?_
        refine z_eq (tgt := 88) (v := nameS (T.drop (c0 + 1))) hx hb d_X_move_81 (by decide) (fun c81 => ?_) (fun c81 => ?_)
        · skip
          exact absurd hA3 (by rw [c81]; decide)
        · skip
          refine lv_iconst (v := bI true) hx hb d_X_move_84 (by decide) ?_
          refine lv_goto (tgt := 89) hx hb d_X_move_85 (by decide) ?_
          refine aP (rS (As := [.int (bI true)]) (rest := []) C0 (c_X_demandArguments l g _) (zK_S hZ hS (cX_old hX0)) k_X_move_89 rfl rfl ⟨Nat.le_of_ble_eq_true rfl, Nat.le_of_ble_eq_true rfl⟩ rfl hl.1 rfl (Nat.le_of_ble_eq_true rfl) d_X_move_89 ⟨by show 0 + 3 + 1 + 2 + 28 + 1 + 2 + 28 + 0 ≤ 66; omega, by show 0 + 72 + 2 + 38 + 880 + 2 + 38 + 880 + 0 ≤ 1920; omega⟩) ?_
          intro v hv; subst hv
          refine W.eq (g2 := F0 m 92 ls []) rfl ?_
          refine lv_aload_n hx hb d_X_move_92 rfl (lv_at hl 4 rfl) ?_
          refine va_get (D := g.1) (ci := 0) (C := R_X) (T := F_X) (N := 6) hx hb hts i_X hown hK.1 (cX_ob hX) 0 rfl rfl 1 (by decide) (hts (.fieldLink "RegistryLog" 19 "RegistryLog" "log" "LRegistryLog$Ledger;") (in_3 (List.mem_of_getElem? (i := 10) rfl) rfl)) (fun _ h9 => h9) rfl d_X_move_93 ?_
          refine lv_aload hx hb d_X_move_96 (lv_at hl 1 rfl) ?_
          refine aP (rV (As := [.ref q1]) (rest := []) C0 (c_L_originOf l g _ (ad2 2) q1 rows (T.take c0) (pL_isL (cX_log hX)) (pN_isN hN9)) (zK_S hZ hS (cX_old hX0)) k_X_move_98 rfl rfl ⟨Nat.le_of_ble_eq_true rfl, Nat.le_of_ble_eq_true rfl⟩ (isL_recv hK (pL_isL (cX_log hX))) rfl hl.1 rfl (Nat.le_of_ble_eq_true rfl) d_X_move_98 ⟨by show 0 + 3 + 1 + 2 + 28 + 1 + 2 + 28 + 0 ≤ 66; omega, by show 0 + 72 + 2 + 38 + 880 + 2 + 38 + 880 + 0 ≤ 1920; omega⟩) ?_
          intro v hv; subst hv
          refine W.eq (g2 := F0 m 101 ls [.int (oS (T.take c0) rows (-1))]) rfl ?_
          refine lv_topi (fun x_1 ex_1 => ?_)
          refine lv_istore (lv' := [(6, .int x_1), (5, .ref q2), (4, .ref q1), (3, .int (nI c0)), (2, .ref sa), (0, .ref x), (1, .int who)]) hx hb d_X_move_101 hl (by decide) rfl (fun ls hl => ?_)
          refine lv_iload_n hx hb d_X_move_103 rfl (lv_at hl 6 rfl) ?_
          refine lv_aload_n hx hb d_X_move_104 rfl (lv_at hl 5 rfl) ?_
          refine va_get (D := g.1) (ci := 0) (C := R_X) (T := F_X) (N := 6) hx hb hts i_X hown hK.1 (cX_ob hX) 0 rfl rfl 1 (by decide) (hts (.fieldLink "RegistryLog" 19 "RegistryLog" "log" "LRegistryLog$Ledger;") (in_3 (List.mem_of_getElem? (i := 10) rfl) rfl)) (fun _ h9 => h9) rfl d_X_move_105 ?_
          refine lv_iload hx hb d_X_move_108 (lv_at hl 0 rfl) ?_
          refine aP (rV (As := [.int x_1]) (rest := [.int who]) C0 (c_L_founderOf l g _ (ad2 2) rows x_1 (pL_isL (cX_log hX))) (zK_S hZ hS (cX_old hX0)) k_X_move_110 rfl rfl ⟨Nat.le_of_ble_eq_true rfl, Nat.le_of_ble_eq_true rfl⟩ (isL_recv hK (pL_isL (cX_log hX))) rfl hl.1 rfl (Nat.le_of_ble_eq_true rfl) d_X_move_110 ⟨by show 0 + 3 + 1 + 2 + 28 + 1 + 2 + 28 + 0 ≤ 66; omega, by show 0 + 72 + 2 + 38 + 880 + 2 + 38 + 880 + 0 ≤ 1920; omega⟩) ?_
          intro v hv; subst hv
          refine W.eq (g2 := F0 m 113 ls [.int (rp (atS rows x_1)), .int who]) rfl ?_
          refine lv_icmp_ne (tgt := 134) hx hb d_X_move_113 (by decide) (fun c113 => ?_) (fun c113 => ?_)
          · skip
            refine lv_iconst (v := bI false) hx hb d_X_move_134 (by decide) ?_
            have ho1 : oS (T.take c0) rows (-1) = x_1 := ex_1.symm
            have hmy : movC rows (T.take c0) (T.drop (c0 + 1)) who = false := by unfold movC; rw [ho1, decide_eq_false (p := who = rp (atS rows x_1)) c113, Bool.false_and]
            exact absurd hmay (by rw [hmy]; decide)
          · skip
            refine lv_aload_n hx hb d_X_move_116 rfl (lv_at hl 5 rfl) ?_
            refine va_get (D := g.1) (ci := 0) (C := R_X) (T := F_X) (N := 6) hx hb hts i_X hown hK.1 (cX_ob hX) 0 rfl rfl 1 (by decide) (hts (.fieldLink "RegistryLog" 19 "RegistryLog" "log" "LRegistryLog$Ledger;") (in_3 (List.mem_of_getElem? (i := 10) rfl) rfl)) (fun _ h9 => h9) rfl d_X_move_117 ?_
            refine lv_aload hx hb d_X_move_120 (lv_at hl 1 rfl) ?_
            refine lv_iload hx hb d_X_move_122 (lv_at hl 0 rfl) ?_
            refine aP (rV (As := [.ref q2, .int x_1]) (rest := []) C0 (c_L_isFree l g _ (ad2 2) q2 rows (T.drop (c0 + 1)) x_1 (pL_isL (cX_log hX)) (pN_isN hN8)) (zK_S hZ hS (cX_old hX0)) k_X_move_124 rfl rfl ⟨Nat.le_of_ble_eq_true rfl, Nat.le_of_ble_eq_true rfl⟩ (isL_recv hK (pL_isL (cX_log hX))) rfl hl.1 rfl (Nat.le_of_ble_eq_true rfl) d_X_move_124 ⟨by show 0 + 3 + 1 + 2 + 28 + 1 + 2 + 28 + 0 ≤ 66; omega, by show 0 + 72 + 2 + 38 + 880 + 2 + 38 + 880 + 0 ≤ 1920; omega⟩) ?_
            intro v hv; subst hv
            refine W.eq (g2 := F0 m 127 ls [.int (bI (freeS (T.drop (c0 + 1)) x_1 rows rows))]) rfl ?_
            refine z_eq (tgt := 134) (v := freeS (T.drop (c0 + 1)) x_1 rows rows) hx hb d_X_move_127 (by decide) (fun c127 => ?_) (fun c127 => ?_)
            · skip
              refine lv_iconst (v := bI false) hx hb d_X_move_134 (by decide) ?_
              have ho1 : oS (T.take c0) rows (-1) = x_1 := ex_1.symm
              have hmy : movC rows (T.take c0) (T.drop (c0 + 1)) who = false := by unfold movC; rw [ho1, c127, Bool.and_false]
              exact absurd hmay (by rw [hmy]; decide)
            · skip
              refine lv_iconst (v := bI true) hx hb d_X_move_130 (by decide) ?_
              refine lv_goto (tgt := 135) hx hb d_X_move_131 (by decide) ?_
              have ho1 : oS (T.take c0) rows (-1) = x_1 := ex_1.symm
              have hmy : movC rows (T.take c0) (T.drop (c0 + 1)) who = true := by unfold movC; rw [ho1, decide_eq_true (p := who = rp (atS rows x_1)) c113, c127]; rfl
              refine aP (rS (As := [.int (bI true)]) (rest := []) C0 (c_X_demandState l g _) (zK_S hZ hS (cX_old hX0)) k_X_move_135 rfl rfl ⟨Nat.le_of_ble_eq_true rfl, Nat.le_of_ble_eq_true rfl⟩ rfl hl.1 rfl (Nat.le_of_ble_eq_true rfl) d_X_move_135 ⟨by show 0 + 3 + 1 + 2 + 28 + 1 + 2 + 28 + 0 ≤ 66; omega, by show 0 + 72 + 2 + 38 + 880 + 2 + 38 + 880 + 0 ≤ 1920; omega⟩) ?_
              intro v hv; subst hv
              refine W.eq (g2 := F0 m 138 ls []) rfl ?_
              refine lv_aload_n hx hb d_X_move_138 rfl (lv_at hl 5 rfl) ?_
              have hadq3 : ∀ j, j < 16 → ad2 j < H.size := fun j hj => cX_lt hX hj
              obtain ⟨z3, hz3⟩ : ∃ z, z = H.size := ⟨_, rfl⟩
              rw [← hz3] at hadq3
              have hzs3 : s.heap.size ≤ z3 := by rw [hz3]; exact hS.1
              have hsl3 := sS_lt hs9
              rw [← hz3] at hsl3
              rw [ho1] at hog
              subst hog
              have hS0 := hS
              refine s_new (ci := 4) (C := R_R) (T := F_R) (N := 8) hx hb hts i_R t_R t_R_ok hown (hts _ (in_4 (List.mem_of_getElem? (i := 102) rfl) rfl)) (hts _ (in_2 (List.mem_of_getElem? (i := 166) rfl) rfl)) (hts _ (in_1 (List.mem_of_getElem? (i := 19) rfl) rfl)) hK hS rfl (fs := [.int 0, .int 0, .null, .null, .int 0, .int 0, .int 0, .long 0]) (by decide) (by show 0 + 3 + 1 + 2 + 28 + 1 + 2 + 28 + 1 ≤ 66; omega) (by show 0 + 72 + 2 + 38 + 880 + 2 + 38 + 880 + 8 ≤ 1920; omega) d_X_move_139 (fun q3 H hq f_q3 hz o1 hS => ?_)
              have hX := cX_mv hX (Z' := fun a => Z a ∧ a ≠ q3) (fun a h1 h2 => ⟨o1 a (by rw [hq]; exact h2), h1, by omega⟩)
              have hE := pS_mv hE (P' := fun a => PX Z ad2 a ∧ a ≠ q3) (fun a h1 h2 => ⟨o1 a (by rw [hq]; exact h2), h1, by omega⟩)
              have hs9 := sS_kept hs9 (o1 _ (by rw [hq]; exact (sS_lt hs9).1)) (o1 _ (by rw [hq]; exact (sS_lt hs9).2))
              have hN9 := pN_mv hN9 (P' := fun a => PX Z ad2 a ∧ a ≠ q3) (fun a h1 h2 => ⟨o1 a (by rw [hq]; exact h2), h1, by omega⟩)
              have hN8 := pN_mv hN8 (P' := fun a => PX Z ad2 a ∧ a ≠ q3) (fun a h1 h2 => ⟨o1 a (by rw [hq]; exact h2), h1, by omega⟩)
              have ge_q3 : s.heap.size ≤ q3 := by rw [hq]; exact hS0.1
              refine lv_dup hx hb d_X_move_142 rfl ?_
              refine lv_iconst (v := nI 3) hx hb d_X_move_143 (by decide) ?_
              refine lv_iload_n hx hb d_X_move_144 rfl (lv_at hl 6 rfl) ?_
              refine lv_aload hx hb d_X_move_145 (lv_at hl 2 rfl) ?_
              refine lv_aload hx hb d_X_move_147 (lv_at hl 1 rfl) ?_
              refine lv_iconst (v := (-1)) hx hb d_X_move_149 (by decide) ?_
              refine lv_iconst (v := nI 0) hx hb d_X_move_150 (by decide) ?_
              refine lv_iload hx hb d_X_move_151 (lv_at hl 0 rfl) ?_
              refine aW (N := (fun a => a = q3)) (rI (As := [.int (nI 3), .int who, .ref q1, .ref q2, .int ((-1)), .int (nI 0), .int x_1]) (rest := [.ref q3, .ref x]) C0 (c_R_init l g _ q3 q1 q2 (nI 3) who ((-1)) (nI 0) x_1 (T.take c0) (T.drop (c0 + 1)) f_q3 (by omega) (pN_P hN9 (fun a h1 _ => h1.2)) (pN_P hN8 (fun a h1 _ => h1.2))) (zK_S hZ hS (cX_old hX0)) k_X_move_153 rfl rfl ⟨Nat.le_of_ble_eq_true rfl, Nat.le_of_ble_eq_true rfl⟩ rfl hl.1 rfl (Nat.le_of_ble_eq_true rfl) d_X_move_153 ⟨by show 0 + 3 + 1 + 2 + 28 + 1 + 2 + 28 + 1 + 0 ≤ 66; omega, by show 0 + 72 + 2 + 38 + 880 + 2 + 38 + 880 + 8 + 0 ≤ 1920; omega⟩) (fun v H L hC1 hp hL => ?_)
              have hS0 := hS
              have hS := hS_call hS hC1 hL (fun a h => by rw [h]; exact Or.inr (by omega))
              obtain ⟨rfl, f_q3⟩ := hp
              have hX := cX_mv (Z' := Z) hX (fun a h1 h2 => ⟨hC_at hC1 h2 (fun z => h1.2 z), h1.1⟩)
              have hN9 := pN_mv (P' := PX Z ad2) hN9 (fun a h1 h2 => ⟨hC_at hC1 h2 (fun z => h1.2 z), h1.1⟩)
              have hN8 := pN_mv (P' := PX Z ad2) hN8 (fun a h1 h2 => ⟨hC_at hC1 h2 (fun z => h1.2 z), h1.1⟩)
              have hR1 : pR (PX Z ad2) g H q3 ((nI 3), who, (T.take c0), (T.drop (c0 + 1)), ((-1)), (nI 0), x_1) := ⟨q1, q2, ⟨fun j hj z => by have := hadq3 j hj; omega, hZb _ (by omega)⟩, f_q3, hN9, hN8⟩
              refine W.eq (g2 := F0 m 156 ls [.ref q3, .ref x]) rfl ?_
              refine aW (N := (NX ad2)) (rV (As := [.ref q3]) (rest := []) C0 (c_X_write l g _ Z x ad2 ms nm nw rows mir [] f k q f2 k2 hX q3 ((nI 3), who, (T.take c0), (T.drop (c0 + 1)), ((-1)), (nI 0), x_1) hR1 hlt) (zK_S hZ hS (cX_old hX0)) k_X_move_156 rfl rfl ⟨Nat.le_of_ble_eq_true rfl, Nat.le_of_ble_eq_true rfl⟩ (ob_recv hK (cX_ob hX) rfl) rfl hl.1 rfl (Nat.le_of_ble_eq_true rfl) d_X_move_156 ⟨by show 0 + 3 + 1 + 2 + 28 + 1 + 2 + 28 + 1 + 0 + 0 ≤ 66; omega, by show 0 + 72 + 2 + 38 + 880 + 2 + 38 + 880 + 8 + 0 + 0 ≤ 1920; omega⟩) (fun v H L hC1 hp hL => ?_)
              have hS0 := hS
              have hS := hS_call hS hC1 hL (fun a h => NX_U hv4 (by rw [← had2]; exact h))
              obtain ⟨rfl, hX⟩ := hp
              rw [had2] at hX
              refine W.eq (g2 := F0 m 159 ls [.int (nI rows.length)]) rfl ?_
              refine W.widen (k := 66) (n := 1920) (by omega) (by omega) ?_
              exact W.iret hx hb hr (fun t9 ht hW => ⟨_, rfl, by rw [ht]; exact hS_hC hS, by rw [ht]; exact ⟨v2, rfl, hX⟩⟩) hS.2.2 d_X_move_159 hlk
    · skip
      exact absurd hA2 (by rw [c20]; decide)
set_option maxHeartbeats 4000000 in
set_option maxRecDepth 100000 in
/-- move, badD -/
theorem x_X_moveD (l : Launch) (g : gG) (H : Heap) (htr : ∀ e, l.admits e → e.platform.stackTraces = false) (Z : Nat → Prop) (x : Nat) (ad : Nat → Nat) (ms nm nw : Nat) (rows : List Rw) (mir : Nat → List Rw) (T : List Nat) (f : Nat → Int64) (k q : Nat) (f2 : Nat → Int64) (k2 : Nat) (hX : cX Z g H x ad ms nm nw rows mir T f k q f2 k2 0) (hsz : g.2.2.1 ≤ H.size) (hZb : ∀ a, H.size ≤ a → Z a) (hE : pS (PX Z ad) g H (g.2.2.2 1) []) (who : Int32) (hbad : ixL 62 T 0 < 0 ∨ decide (0 ≤ who ∧ who < 8) = false) : MetX l y_X_move (wC y_X_move b_X_move 7 (some .int)) (rmk 8 67 1926 177) (pC g H [.ref x, .int who]) (qX H (NX ad) iaE (fun H1 => ∃ v2, cX Z g H1 x (adU ad v2) ms nm nw rows mir ([]) f k q f2 k2 0)) 67 1926 (fW H (NX ad)) := by
  refine mX (by decide) (Nat.le_of_ble_eq_true rfl) ?_
  intro p e s m below meth c ls C0 hH hZ hno hl
  have C0 : cF g p s m _ meth c b_X_move 7 "RegistryLog" (some .int) := C0
  obtain ⟨hx, hb, hml, hown, hts, hr, hlk, hK⟩ := id C0
  subst hH
  have hl : lv_has ls 7 [(0, .ref x), (1, .int who)] := hl
  have hS : va_S (fW s.heap (NX ad)) s.heap s.heap [] := hS_rf
  have hX0 := hX
  have ad0 := cX_lt hX0 (j := 0) (by decide)
  have ad1 := cX_lt hX0 (j := 1) (by decide)
  have hT24 := (cX_T hX).1
  refine lv_aload_n hx hb d_X_move_0 rfl (lv_at hl 0 rfl) ?_
  refine aW (N := (NX ad)) (rV (As := []) (rest := []) C0 (c_X_takeText l g _ Z x ad ms nm nw rows mir T f k q f2 k2 hX hsz hZb) (zK_S hZ hS (cX_old hX0)) k_X_move_1 rfl rfl ⟨Nat.le_of_ble_eq_true rfl, Nat.le_of_ble_eq_true rfl⟩ (ob_recv hK (cX_ob hX) rfl) rfl hl.1 rfl (Nat.le_of_ble_eq_true rfl) d_X_move_1 ⟨by show 0 + 3 ≤ 67; omega, by show 0 + 72 ≤ 1926; omega⟩) (fun v H L hC1 hp hL => ?_)
  have hS0 := hS
  have hS := hS_call hS hC1 hL (fun a h => Or.inl h)
  obtain ⟨sa, w9, v2, hsa, hw9, rfl, hs9, hX, hv4, hv5, hv6⟩ := hp
  have hE := pS_mv (P' := PX Z (adU ad v2)) hE (fun a h1 h2 => ⟨hC_at hC1 h2 (fun z => by obtain ⟨j, hj, z2⟩ := z; exact h1.1 j hj z2), PX_U h1 hv4 h2⟩)
  obtain ⟨ad2, had2⟩ : ∃ ad2, ad2 = adU ad v2 := ⟨_, rfl⟩
  rw [← had2] at hX hE
  have hsz2 := hS.1
  refine W.eq (g2 := F0 m 4 ls [.ref sa]) rfl ?_
  refine lv_astore_n (lv' := [(2, .ref sa), (0, .ref x), (1, .int who)]) hx hb d_X_move_4 rfl hl (by decide) rfl (fun ls hl => ?_)
  refine lv_aload_n hx hb d_X_move_5 rfl (lv_at hl 0 rfl) ?_
  refine lv_bipush (v := nI 62) hx hb d_X_move_6 (by decide) ?_
  refine aP (rV (As := [.int (nI 62)]) (rest := []) C0 (c_S_indexOf0 l g _ sa w9 62 (by decide) T hs9) (zK_S hZ hS (cX_old hX0)) k_X_move_8 rfl rfl ⟨Nat.le_of_ble_eq_true rfl, Nat.le_of_ble_eq_true rfl⟩ (s_recv hK hs9.1) rfl hl.1 rfl (Nat.le_of_ble_eq_true rfl) d_X_move_8 ⟨by show 0 + 3 + 0 ≤ 67; omega, by show 0 + 72 + 0 ≤ 1926; omega⟩) ?_
  intro v hv; subst hv
  refine W.eq (g2 := F0 m 11 ls [.int (ixL 62 T 0)]) rfl ?_
  refine lv_istore_n (lv' := [(3, .int (ixL 62 T 0)), (2, .ref sa), (0, .ref x), (1, .int who)]) hx hb d_X_move_11 rfl hl (by decide) rfl (fun ls hl => ?_)
  refine lv_iload_n hx hb d_X_move_12 rfl (lv_at hl 0 rfl) ?_
  refine lv_if_lt (tgt := 23) hx hb d_X_move_13 (by decide) (fun c13 => ?_) (fun c13 => ?_)
  · skip
    refine W.widen (k := 66) (n := 1920) (by omega) (by omega) ?_
    refine w_thr C0 hno htr (in_4 (List.mem_of_getElem? (i := 60) rfl) rfl) (in_2 (List.mem_of_getElem? (i := 4) rfl) rfl) (in_1 (List.mem_of_getElem? (i := 17) rfl) rfl) (by decide) (own_ok own1 (List.mem_of_getElem? (i := 1) rfl) hts hK hZ) hK.2.2.2.2.2.2.2.2.1 (fun q9 h9 cell hcl => by rcases hS.2.2 q9 h9 with z | z; exact cX_st hX0 _ z cell hcl; exact absurd (Array.getElem?_eq_some_iff.mp hcl).1 (Nat.not_lt.mpr z)) hS.1 d_X_move_23 d_X_move_26 d_X_move_27 d_X_move_29 d_X_move_32 hl.1 (Nat.le_of_ble_eq_true rfl) (Nat.le_of_ble_eq_true rfl) (Nat.le_of_ble_eq_true rfl) (Nat.le_of_ble_eq_true rfl) (fun H1 h1 h2 => ⟨hS.1, h2, hC_tr (hS_hC hS) h1, v2, by rw [← had2]; exact cX_new hX h1⟩) hS.2.2
  · skip
    refine lv_iload_n hx hb d_X_move_16 rfl (lv_at hl 3 rfl) ?_
    refine aP (rS (As := [.int who]) (rest := []) C0 (c_X_isPerson l g _ who) (zK_S hZ hS (cX_old hX0)) k_X_move_17 rfl rfl ⟨Nat.le_of_ble_eq_true rfl, Nat.le_of_ble_eq_true rfl⟩ rfl hl.1 rfl (Nat.le_of_ble_eq_true rfl) d_X_move_17 ⟨by show 0 + 3 + 0 ≤ 67; omega, by show 0 + 72 + 0 ≤ 1926; omega⟩) ?_
    intro v hv; subst hv
    refine W.eq (g2 := F0 m 20 ls [.int (bI (decide (0 ≤ who ∧ who < 8)))]) rfl ?_
    refine z_ne (tgt := 33) (v := decide (0 ≤ who ∧ who < 8)) hx hb d_X_move_20 (by decide) (fun c20 => ?_) (fun c20 => ?_)
    · skip
      exact absurd hbad (fun z => z.elim c13 (fun z => by rw [c20] at z; cases z))
    · skip
      refine W.widen (k := 66) (n := 1920) (by omega) (by omega) ?_
      refine w_thr C0 hno htr (in_4 (List.mem_of_getElem? (i := 60) rfl) rfl) (in_2 (List.mem_of_getElem? (i := 4) rfl) rfl) (in_1 (List.mem_of_getElem? (i := 17) rfl) rfl) (by decide) (own_ok own1 (List.mem_of_getElem? (i := 1) rfl) hts hK hZ) hK.2.2.2.2.2.2.2.2.1 (fun q9 h9 cell hcl => by rcases hS.2.2 q9 h9 with z | z; exact cX_st hX0 _ z cell hcl; exact absurd (Array.getElem?_eq_some_iff.mp hcl).1 (Nat.not_lt.mpr z)) hS.1 d_X_move_23 d_X_move_26 d_X_move_27 d_X_move_29 d_X_move_32 hl.1 (Nat.le_of_ble_eq_true rfl) (Nat.le_of_ble_eq_true rfl) (Nat.le_of_ble_eq_true rfl) (Nat.le_of_ble_eq_true rfl) (fun H1 h1 h2 => ⟨hS.1, h2, hC_tr (hS_hC hS) h1, v2, by rw [← had2]; exact cX_new hX h1⟩) hS.2.2
set_option maxHeartbeats 4000000 in
set_option maxRecDepth 100000 in
/-- move, badN -/
theorem x_X_moveB (l : Launch) (g : gG) (H : Heap) (htr : ∀ e, l.admits e → e.platform.stackTraces = false) (Z : Nat → Prop) (x : Nat) (ad : Nat → Nat) (ms nm nw : Nat) (rows : List Rw) (mir : Nat → List Rw) (T : List Nat) (f : Nat → Int64) (k q : Nat) (f2 : Nat → Int64) (k2 : Nat) (hX : cX Z g H x ad ms nm nw rows mir T f k q f2 k2 0) (hsz : g.2.2.1 ≤ H.size) (hZb : ∀ a, H.size ≤ a → Z a) (hE : pS (PX Z ad) g H (g.2.2.2 1) []) (who : Int32) (c0 : Nat) (hc0 : ixL 62 T 0 = nI c0) (hc1 : c0 < T.length) (hA2 : decide (0 ≤ who ∧ who < 8) = true) (hbad : (nameS (T.take c0) && nameS (T.drop (c0 + 1))) = false) : MetX l y_X_move (wC y_X_move b_X_move 7 (some .int)) (rmk 8 67 1926 177) (pC g H [.ref x, .int who]) (qX H (NX ad) iaE (fun H1 => ∃ v2, cX Z g H1 x (adU ad v2) ms nm nw rows mir ([]) f k q f2 k2 0)) 67 1926 (fW H (NX ad)) := by
  refine mX (by decide) (Nat.le_of_ble_eq_true rfl) ?_
  intro p e s m below meth c ls C0 hH hZ hno hl
  have C0 : cF g p s m _ meth c b_X_move 7 "RegistryLog" (some .int) := C0
  obtain ⟨hx, hb, hml, hown, hts, hr, hlk, hK⟩ := id C0
  subst hH
  have hl : lv_has ls 7 [(0, .ref x), (1, .int who)] := hl
  have hS : va_S (fW s.heap (NX ad)) s.heap s.heap [] := hS_rf
  have hX0 := hX
  have ad0 := cX_lt hX0 (j := 0) (by decide)
  have ad1 := cX_lt hX0 (j := 1) (by decide)
  have hT24 := (cX_T hX).1
  refine lv_aload_n hx hb d_X_move_0 rfl (lv_at hl 0 rfl) ?_
  refine aW (N := (NX ad)) (rV (As := []) (rest := []) C0 (c_X_takeText l g _ Z x ad ms nm nw rows mir T f k q f2 k2 hX hsz hZb) (zK_S hZ hS (cX_old hX0)) k_X_move_1 rfl rfl ⟨Nat.le_of_ble_eq_true rfl, Nat.le_of_ble_eq_true rfl⟩ (ob_recv hK (cX_ob hX) rfl) rfl hl.1 rfl (Nat.le_of_ble_eq_true rfl) d_X_move_1 ⟨by show 0 + 3 ≤ 67; omega, by show 0 + 72 ≤ 1926; omega⟩) (fun v H L hC1 hp hL => ?_)
  have hS0 := hS
  have hS := hS_call hS hC1 hL (fun a h => Or.inl h)
  obtain ⟨sa, w9, v2, hsa, hw9, rfl, hs9, hX, hv4, hv5, hv6⟩ := hp
  have hE := pS_mv (P' := PX Z (adU ad v2)) hE (fun a h1 h2 => ⟨hC_at hC1 h2 (fun z => by obtain ⟨j, hj, z2⟩ := z; exact h1.1 j hj z2), PX_U h1 hv4 h2⟩)
  obtain ⟨ad2, had2⟩ : ∃ ad2, ad2 = adU ad v2 := ⟨_, rfl⟩
  rw [← had2] at hX hE
  have hsz2 := hS.1
  refine W.eq (g2 := F0 m 4 ls [.ref sa]) rfl ?_
  refine lv_astore_n (lv' := [(2, .ref sa), (0, .ref x), (1, .int who)]) hx hb d_X_move_4 rfl hl (by decide) rfl (fun ls hl => ?_)
  refine lv_aload_n hx hb d_X_move_5 rfl (lv_at hl 0 rfl) ?_
  refine lv_bipush (v := nI 62) hx hb d_X_move_6 (by decide) ?_
  refine aP (rV (As := [.int (nI 62)]) (rest := []) C0 (c_S_indexOf0 l g _ sa w9 62 (by decide) T hs9) (zK_S hZ hS (cX_old hX0)) k_X_move_8 rfl rfl ⟨Nat.le_of_ble_eq_true rfl, Nat.le_of_ble_eq_true rfl⟩ (s_recv hK hs9.1) rfl hl.1 rfl (Nat.le_of_ble_eq_true rfl) d_X_move_8 ⟨by show 0 + 3 + 0 ≤ 67; omega, by show 0 + 72 + 0 ≤ 1926; omega⟩) ?_
  intro v hv; subst hv
  refine W.eq (g2 := F0 m 11 ls [.int (ixL 62 T 0)]) rfl ?_
  refine W.eq (g2 := F0 m 11 ls [.int (nI c0)]) (by rw [hc0]) ?_
  refine lv_istore_n (lv' := [(3, .int (nI c0)), (2, .ref sa), (0, .ref x), (1, .int who)]) hx hb d_X_move_11 rfl hl (by decide) rfl (fun ls hl => ?_)
  refine lv_iload_n hx hb d_X_move_12 rfl (lv_at hl 0 rfl) ?_
  refine lv_if_lt (tgt := 23) hx hb d_X_move_13 (by decide) (fun c13 => ?_) (fun c13 => ?_)
  · skip
    exact absurd c13 (nI_pos (by omega))
  · skip
    refine lv_iload_n hx hb d_X_move_16 rfl (lv_at hl 3 rfl) ?_
    refine aP (rS (As := [.int who]) (rest := []) C0 (c_X_isPerson l g _ who) (zK_S hZ hS (cX_old hX0)) k_X_move_17 rfl rfl ⟨Nat.le_of_ble_eq_true rfl, Nat.le_of_ble_eq_true rfl⟩ rfl hl.1 rfl (Nat.le_of_ble_eq_true rfl) d_X_move_17 ⟨by show 0 + 3 + 0 ≤ 67; omega, by show 0 + 72 + 0 ≤ 1926; omega⟩) ?_
    intro v hv; subst hv
    refine W.eq (g2 := F0 m 20 ls [.int (bI (decide (0 ≤ who ∧ who < 8)))]) rfl ?_
    refine z_ne (tgt := 33) (v := decide (0 ≤ who ∧ who < 8)) hx hb d_X_move_20 (by decide) (fun c20 => ?_) (fun c20 => ?_)
    · skip
      have hadq1 : ∀ j, j < 16 → ad2 j < H.size := fun j hj => cX_lt hX hj
      obtain ⟨z1, hz1⟩ : ∃ z, z = H.size := ⟨_, rfl⟩
      rw [← hz1] at hadq1
      have hzs1 : s.heap.size ≤ z1 := by rw [hz1]; exact hS.1
      have hsl1 := sS_lt hs9
      rw [← hz1] at hsl1
      have hS0 := hS
      refine s_new (ci := 2) (C := R_N) (T := F_N) (N := 2) hx hb hts i_N t_N t_N_ok hown (hts _ (in_3 (List.mem_of_getElem? (i := 202) rfl) rfl)) (hts _ (in_1 (List.mem_of_getElem? (i := 74) rfl) rfl)) (hts _ (in_1 (List.mem_of_getElem? (i := 7) rfl) rfl)) hK hS rfl (fs := [.null, .null]) (by decide) (by show 0 + 3 + 1 ≤ 67; omega) (by show 0 + 72 + 2 ≤ 1926; omega) d_X_move_33 (fun q1 H hq f_q1 hz o1 hS => ?_)
      have hX := cX_mv hX (Z' := fun a => Z a ∧ a ≠ q1) (fun a h1 h2 => ⟨o1 a (by rw [hq]; exact h2), h1, by omega⟩)
      have hE := pS_mv hE (P' := fun a => PX Z ad2 a ∧ a ≠ q1) (fun a h1 h2 => ⟨o1 a (by rw [hq]; exact h2), h1, by omega⟩)
      have hs9 := sS_kept hs9 (o1 _ (by rw [hq]; exact (sS_lt hs9).1)) (o1 _ (by rw [hq]; exact (sS_lt hs9).2))
      have ge_q1 : s.heap.size ≤ q1 := by rw [hq]; exact hS0.1
      refine lv_dup hx hb d_X_move_36 rfl ?_
      refine lv_aload_n hx hb d_X_move_37 rfl (lv_at hl 1 rfl) ?_
      refine lv_iconst (v := nI 0) hx hb d_X_move_38 (by decide) ?_
      refine lv_iload_n hx hb d_X_move_39 rfl (lv_at hl 0 rfl) ?_
      have hqs1 := ob_lt f_q1
      refine aW (N := no_) (rV (As := [.int (nI 0), .int (nI c0)]) (rest := [.ref q1, .ref q1]) C0 (c_S_substring1 l g _ sa w9 0 c0 T hs9 ⟨by omega, by omega⟩) (zK_S hZ hS (cX_old hX0)) k_X_move_40 rfl rfl ⟨Nat.le_of_ble_eq_true rfl, Nat.le_of_ble_eq_true rfl⟩ (s_recv hK hs9.1) rfl hl.1 rfl (Nat.le_of_ble_eq_true rfl) d_X_move_40 ⟨by show 0 + 3 + 1 + 2 ≤ 67; omega, by show 0 + 72 + 2 + 38 ≤ 1926; omega⟩) (fun v H L hC1 hp hL => ?_)
      have hS0 := hS
      have hS := hS_call hS hC1 hL (fun q h => h.elim)
      have hX := cX_mv hX (fun q h1 h2 => ⟨hC_at hC1 h2 (fun z => z), h1⟩)
      have hE := pS_mv hE (fun q h1 h2 => ⟨hC_at hC1 h2 (fun z => z), h1⟩)
      have hs9 := sS_kept hs9 (hC_at hC1 (sS_lt hs9).1 (fun z => z)) (hC_at hC1 (sS_lt hs9).2 (fun z => z))
      have f_q1 := ob_kept f_q1 (hC_at hC1 (ob_lt f_q1) (fun z => z))
      have hzz1 : z1 < H.size := by have := hC1.1; omega
      obtain ⟨s1, rfl, hs1⟩ := hp
      have hp1 := sub_pS hE hs1 (fun z => by omega) (fun a h => ⟨⟨fun j hj z => by have := hadq1 j hj; omega, hZb _ (by omega)⟩, by omega⟩)
      rw [show (T.drop 0).take (c0 - 0) = T.take c0 from rfl] at hp1
      refine W.eq (g2 := F0 m 43 ls [.ref s1, .ref q1, .ref q1]) rfl ?_
      obtain ⟨w1, ⟨_, na1⟩, ⟨_, nb1⟩, so1, ba1, hc19, hl19⟩ := id hp1
      refine aW (N := (fun a => a = q1)) (rI (As := [.ref s1]) (rest := [.ref q1]) C0 (c_N_init l g _ q1 s1 w1 (T.take c0) (Nat.le_trans hsz hS.1) (by omega) f_q1 so1 ba1 (Ne.symm na1) (Ne.symm nb1) (by simp only [List.length_take, List.length_drop]; omega) (pS_getD hp1)) (zK_S hZ hS (cX_old hX0)) k_X_move_43 rfl rfl ⟨Nat.le_of_ble_eq_true rfl, Nat.le_of_ble_eq_true rfl⟩ rfl hl.1 rfl (Nat.le_of_ble_eq_true rfl) d_X_move_43 ⟨by show 0 + 3 + 1 + 2 + 28 ≤ 67; omega, by show 0 + 72 + 2 + 38 + 880 ≤ 1926; omega⟩) (fun v H L hC1 hp hL => ?_)
      have hS0 := hS
      have hS := hS_call hS hC1 hL (fun a h => by rw [h]; exact Or.inr (by omega))
      obtain ⟨rfl, fa1, fw1, hfa1, hfw1, f_q1, hf19⟩ := hp
      have hX := cX_mv (Z' := Z) hX (fun a h1 h2 => ⟨hC_at hC1 h2 (fun z => h1.2 z), h1.1⟩)
      have hE := pS_mv (P' := PX Z ad2) hE (fun a h1 h2 => ⟨hC_at hC1 h2 (fun z => h1.2 z), h1.1⟩)
      have hs9 := sS_kept hs9 (hC_at hC1 (sS_lt hs9).1 (fun z => absurd z (by omega))) (hC_at hC1 (sS_lt hs9).2 (fun z => absurd z (by omega)))
      have hN9 : pN (PX Z ad2) g H q1 (T.take c0) := ⟨s1, fa1, ⟨fun j hj z => by have := hadq1 j hj; omega, hZb _ (by omega)⟩, f_q1, pS_mv (P' := PX Z ad2) hp1 (fun a h1 h2 => ⟨hC_at hC1 h2 (fun z => h1.2 z), h1.1⟩), sS_pS hf19 ⟨fun j hj z => by have := hadq1 j hj; omega, hZb _ (by omega)⟩ ⟨fun j hj z => by have := hadq1 j hj; omega, hZb _ (by omega)⟩⟩
      refine W.eq (g2 := F0 m 46 ls [.ref q1]) rfl ?_
      refine lv_astore (lv' := [(4, .ref q1), (3, .int (nI c0)), (2, .ref sa), (0, .ref x), (1, .int who)]) hx hb d_X_move_46 hl (by decide) rfl (fun ls hl => ?_)
      have hadq2 : ∀ j, j < 16 → ad2 j < H.size := fun j hj => cX_lt hX hj
      obtain ⟨z2, hz2⟩ : ∃ z, z = H.size := ⟨_, rfl⟩
      rw [← hz2] at hadq2
      have hzs2 : s.heap.size ≤ z2 := by rw [hz2]; exact hS.1
      have hsl2 := sS_lt hs9
      rw [← hz2] at hsl2
      have hS0 := hS
      refine s_new (ci := 2) (C := R_N) (T := F_N) (N := 2) hx hb hts i_N t_N t_N_ok hown (hts _ (in_3 (List.mem_of_getElem? (i := 202) rfl) rfl)) (hts _ (in_1 (List.mem_of_getElem? (i := 74) rfl) rfl)) (hts _ (in_1 (List.mem_of_getElem? (i := 7) rfl) rfl)) hK hS rfl (fs := [.null, .null]) (by decide) (by show 0 + 3 + 1 + 2 + 28 + 1 ≤ 67; omega) (by show 0 + 72 + 2 + 38 + 880 + 2 ≤ 1926; omega) d_X_move_48 (fun q2 H hq f_q2 hz o1 hS => ?_)
      have hX := cX_mv hX (Z' := fun a => Z a ∧ a ≠ q2) (fun a h1 h2 => ⟨o1 a (by rw [hq]; exact h2), h1, by omega⟩)
      have hE := pS_mv hE (P' := fun a => PX Z ad2 a ∧ a ≠ q2) (fun a h1 h2 => ⟨o1 a (by rw [hq]; exact h2), h1, by omega⟩)
      have hs9 := sS_kept hs9 (o1 _ (by rw [hq]; exact (sS_lt hs9).1)) (o1 _ (by rw [hq]; exact (sS_lt hs9).2))
      have hN9 := pN_mv hN9 (P' := fun a => PX Z ad2 a ∧ a ≠ q2) (fun a h1 h2 => ⟨o1 a (by rw [hq]; exact h2), h1, by omega⟩)
      have ge_q2 : s.heap.size ≤ q2 := by rw [hq]; exact hS0.1
      refine lv_dup hx hb d_X_move_51 rfl ?_
      refine lv_aload_n hx hb d_X_move_52 rfl (lv_at hl 2 rfl) ?_
      refine lv_iload_n hx hb d_X_move_53 rfl (lv_at hl 1 rfl) ?_
      refine lv_iconst (v := nI 1) hx hb d_X_move_54 (by decide) ?_
      refine n_iadd hx hb d_X_move_55 ?_
      refine lv_aload_n hx hb d_X_move_56 rfl (lv_at hl 2 rfl) ?_
      refine aP (rV (As := []) (rest := [.int (nI (c0 + 1)), .ref sa, .ref q2, .ref q2]) C0 (c_S_length l g _ sa w9 T.length (ch T) hs9.1 (sS_bA hs9)) (zK_S hZ hS (cX_old hX0)) k_X_move_57 rfl rfl ⟨Nat.le_of_ble_eq_true rfl, Nat.le_of_ble_eq_true rfl⟩ (s_recv hK hs9.1) rfl hl.1 rfl (Nat.le_of_ble_eq_true rfl) d_X_move_57 ⟨by show 0 + 3 + 1 + 2 + 28 + 1 + 0 ≤ 67; omega, by show 0 + 72 + 2 + 38 + 880 + 2 + 0 ≤ 1926; omega⟩) ?_
      intro v hv; subst hv
      refine W.eq (g2 := F0 m 60 ls [.int (nI T.length), .int (nI (c0 + 1)), .ref sa, .ref q2, .ref q2]) rfl ?_
      have hqs2 := ob_lt f_q2
      refine aW (N := no_) (rV (As := [.int (nI (c0 + 1)), .int (nI T.length)]) (rest := [.ref q2, .ref q2]) C0 (c_S_substring1 l g _ sa w9 (c0 + 1) T.length T hs9 ⟨by omega, by omega⟩) (zK_S hZ hS (cX_old hX0)) k_X_move_60 rfl rfl ⟨Nat.le_of_ble_eq_true rfl, Nat.le_of_ble_eq_true rfl⟩ (s_recv hK hs9.1) rfl hl.1 rfl (Nat.le_of_ble_eq_true rfl) d_X_move_60 ⟨by show 0 + 3 + 1 + 2 + 28 + 1 + 2 ≤ 67; omega, by show 0 + 72 + 2 + 38 + 880 + 2 + 38 ≤ 1926; omega⟩) (fun v H L hC1 hp hL => ?_)
      have hS0 := hS
      have hS := hS_call hS hC1 hL (fun q h => h.elim)
      have hX := cX_mv hX (fun q h1 h2 => ⟨hC_at hC1 h2 (fun z => z), h1⟩)
      have hE := pS_mv hE (fun q h1 h2 => ⟨hC_at hC1 h2 (fun z => z), h1⟩)
      have hs9 := sS_kept hs9 (hC_at hC1 (sS_lt hs9).1 (fun z => z)) (hC_at hC1 (sS_lt hs9).2 (fun z => z))
      have hN9 := pN_mv hN9 (fun q h1 h2 => ⟨hC_at hC1 h2 (fun z => z), h1⟩)
      have f_q2 := ob_kept f_q2 (hC_at hC1 (ob_lt f_q2) (fun z => z))
      have hzz2 : z2 < H.size := by have := hC1.1; omega
      obtain ⟨s2, rfl, hs2⟩ := hp
      have hp2 := sub_pS hE hs2 (fun z => by omega) (fun a h => ⟨⟨fun j hj z => by have := hadq2 j hj; omega, hZb _ (by omega)⟩, by omega⟩)
      rw [show (T.drop (c0 + 1)).take (T.length - (c0 + 1)) = T.drop (c0 + 1) from List.take_of_length_le (by rw [List.length_drop]; omega)] at hp2
      refine W.eq (g2 := F0 m 63 ls [.ref s2, .ref q2, .ref q2]) rfl ?_
      obtain ⟨w2, ⟨_, na2⟩, ⟨_, nb2⟩, so2, ba2, hc29, hl29⟩ := id hp2
      refine aW (N := (fun a => a = q2)) (rI (As := [.ref s2]) (rest := [.ref q2]) C0 (c_N_init l g _ q2 s2 w2 (T.drop (c0 + 1)) (Nat.le_trans hsz hS.1) (by omega) f_q2 so2 ba2 (Ne.symm na2) (Ne.symm nb2) (by simp only [List.length_take, List.length_drop]; omega) (pS_getD hp2)) (zK_S hZ hS (cX_old hX0)) k_X_move_63 rfl rfl ⟨Nat.le_of_ble_eq_true rfl, Nat.le_of_ble_eq_true rfl⟩ rfl hl.1 rfl (Nat.le_of_ble_eq_true rfl) d_X_move_63 ⟨by show 0 + 3 + 1 + 2 + 28 + 1 + 2 + 28 ≤ 67; omega, by show 0 + 72 + 2 + 38 + 880 + 2 + 38 + 880 ≤ 1926; omega⟩) (fun v H L hC1 hp hL => ?_)
      have hS0 := hS
      have hS := hS_call hS hC1 hL (fun a h => by rw [h]; exact Or.inr (by omega))
      obtain ⟨rfl, fa2, fw2, hfa2, hfw2, f_q2, hf29⟩ := hp
      have hX := cX_mv (Z' := Z) hX (fun a h1 h2 => ⟨hC_at hC1 h2 (fun z => h1.2 z), h1.1⟩)
      have hE := pS_mv (P' := PX Z ad2) hE (fun a h1 h2 => ⟨hC_at hC1 h2 (fun z => h1.2 z), h1.1⟩)
      have hs9 := sS_kept hs9 (hC_at hC1 (sS_lt hs9).1 (fun z => absurd z (by omega))) (hC_at hC1 (sS_lt hs9).2 (fun z => absurd z (by omega)))
      have hN9 := pN_mv (P' := PX Z ad2) hN9 (fun a h1 h2 => ⟨hC_at hC1 h2 (fun z => h1.2 z), h1.1⟩)
      have hN8 : pN (PX Z ad2) g H q2 (T.drop (c0 + 1)) := ⟨s2, fa2, ⟨fun j hj z => by have := hadq2 j hj; omega, hZb _ (by omega)⟩, f_q2, pS_mv (P' := PX Z ad2) hp2 (fun a h1 h2 => ⟨hC_at hC1 h2 (fun z => h1.2 z), h1.1⟩), sS_pS hf29 ⟨fun j hj z => by have := hadq2 j hj; omega, hZb _ (by omega)⟩ ⟨fun j hj z => by have := hadq2 j hj; omega, hZb _ (by omega)⟩⟩
      refine W.eq (g2 := F0 m 66 ls [.ref q2]) rfl ?_
      refine lv_astore (lv' := [(5, .ref q2), (4, .ref q1), (3, .int (nI c0)), (2, .ref sa), (0, .ref x), (1, .int who)]) hx hb d_X_move_66 hl (by decide) rfl (fun ls hl => ?_)
      refine lv_aload hx hb d_X_move_68 (lv_at hl 1 rfl) ?_
      refine aP (rV (As := []) (rest := []) C0 (c_N_isName l g _ q1 (T.take c0) (pN_isN hN9)) (zK_S hZ hS (cX_old hX0)) k_X_move_70 rfl rfl ⟨Nat.le_of_ble_eq_true rfl, Nat.le_of_ble_eq_true rfl⟩ (isN_recv hK (pN_isN hN9)) rfl hl.1 rfl (Nat.le_of_ble_eq_true rfl) d_X_move_70 ⟨by show 0 + 3 + 1 + 2 + 28 + 1 + 2 + 28 + 0 ≤ 67; omega, by show 0 + 72 + 2 + 38 + 880 + 2 + 38 + 880 + 0 ≤ 1926; omega⟩) ?_
      intro v hv; subst hv
      refine W.eq (g2 := F0 m 73 ls [.int (bI (nameS (T.take c0)))]) rfl ?_
      refine z_eq (tgt := 88) (v := nameS (T.take c0)) hx hb d_X_move_73 (by decide) (fun c73 => ?_) (fun c73 => ?_)
      · skip
        refine lv_iconst (v := bI false) hx hb d_X_move_88 (by decide) ?_
        refine rSX (As := [.int (bI false)]) (rest := []) C0 (x_X_demandArguments l g _ htr) (zK_S hZ hS (cX_old hX0)) k_X_move_89 rfl rfl ⟨Nat.le_of_ble_eq_true rfl, Nat.le_of_ble_eq_true rfl⟩ rfl hl.1 rfl (Nat.le_of_ble_eq_true rfl) d_X_move_89 ⟨by show 0 + 3 + 1 + 2 + 28 + 1 + 2 + 28 + 1 ≤ 67; omega, by show 0 + 72 + 2 + 38 + 880 + 2 + 38 + 880 + 6 ≤ 1926; omega⟩ (fun x9 H L st hW9 hq9 hL => ?_)
        obtain ⟨hx1, ⟨ce, hx2, hx3, hx4⟩, hC1, hp⟩ := hq9
        have hS1 := hS_call hS hC1 hL (fun q h => h.elim)
        refine WX.widen (k := 67) (n := 1926) (by omega) (by omega) ?_
        refine WX.out hno ⟨Nat.le_trans hS.1 hx1, ⟨ce, hx2, hx3, by rw [← hW9.alike.findClass]; exact hx4⟩, hS_hC hS1, ⟨v2, by rw [← had2]; exact cX_new hX hC1⟩⟩ hS1.2.2 hlk
      · skip
        refine lv_aload hx hb d_X_move_76 (lv_at hl 0 rfl) ?_
        refine aP (rV (As := []) (rest := []) C0 (c_N_isName l g _ q2 (T.drop (c0 + 1)) (pN_isN hN8)) (zK_S hZ hS (cX_old hX0)) k_X_move_78 rfl rfl ⟨Nat.le_of_ble_eq_true rfl, Nat.le_of_ble_eq_true rfl⟩ (isN_recv hK (pN_isN hN8)) rfl hl.1 rfl (Nat.le_of_ble_eq_true rfl) d_X_move_78 ⟨by show 0 + 3 + 1 + 2 + 28 + 1 + 2 + 28 + 0 ≤ 67; omega, by show 0 + 72 + 2 + 38 + 880 + 2 + 38 + 880 + 0 ≤ 1926; omega⟩) ?_
        intro v hv; subst hv
        refine W.eq (g2 := F0 m 81 ls [.int (bI (nameS (T.drop (c0 + 1))))]) rfl ?_
        refine z_eq (tgt := 88) (v := nameS (T.drop (c0 + 1))) hx hb d_X_move_81 (by decide) (fun c81 => ?_) (fun c81 => ?_)
        · skip
          refine lv_iconst (v := bI false) hx hb d_X_move_88 (by decide) ?_
          refine rSX (As := [.int (bI false)]) (rest := []) C0 (x_X_demandArguments l g _ htr) (zK_S hZ hS (cX_old hX0)) k_X_move_89 rfl rfl ⟨Nat.le_of_ble_eq_true rfl, Nat.le_of_ble_eq_true rfl⟩ rfl hl.1 rfl (Nat.le_of_ble_eq_true rfl) d_X_move_89 ⟨by show 0 + 3 + 1 + 2 + 28 + 1 + 2 + 28 + 1 ≤ 67; omega, by show 0 + 72 + 2 + 38 + 880 + 2 + 38 + 880 + 6 ≤ 1926; omega⟩ (fun x9 H L st hW9 hq9 hL => ?_)
          obtain ⟨hx1, ⟨ce, hx2, hx3, hx4⟩, hC1, hp⟩ := hq9
          have hS1 := hS_call hS hC1 hL (fun q h => h.elim)
          refine WX.widen (k := 67) (n := 1926) (by omega) (by omega) ?_
          refine WX.out hno ⟨Nat.le_trans hS.1 hx1, ⟨ce, hx2, hx3, by rw [← hW9.alike.findClass]; exact hx4⟩, hS_hC hS1, ⟨v2, by rw [← had2]; exact cX_new hX hC1⟩⟩ hS1.2.2 hlk
        · skip
          refine lv_iconst (v := bI true) hx hb d_X_move_84 (by decide) ?_
          refine lv_goto (tgt := 89) hx hb d_X_move_85 (by decide) ?_
          exact absurd hbad (by rw [c73, c81]; decide)
    · skip
      exact absurd hA2 (by rw [c20]; decide)
set_option maxHeartbeats 4000000 in
set_option maxRecDepth 100000 in
/-- move, st -/
theorem x_X_moveS (l : Launch) (g : gG) (H : Heap) (htr : ∀ e, l.admits e → e.platform.stackTraces = false) (Z : Nat → Prop) (x : Nat) (ad : Nat → Nat) (ms nm nw : Nat) (rows : List Rw) (mir : Nat → List Rw) (T : List Nat) (f : Nat → Int64) (k q : Nat) (f2 : Nat → Int64) (k2 : Nat) (hX : cX Z g H x ad ms nm nw rows mir T f k q f2 k2 0) (hsz : g.2.2.1 ≤ H.size) (hZb : ∀ a, H.size ≤ a → Z a) (hE : pS (PX Z ad) g H (g.2.2.2 1) []) (who : Int32) (c0 : Nat) (hc0 : ixL 62 T 0 = nI c0) (hc1 : c0 < T.length) (hA2 : decide (0 ≤ who ∧ who < 8) = true) (hA1 : nameS (T.take c0) = true) (hA3 : nameS (T.drop (c0 + 1)) = true) (hst : movC rows (T.take c0) (T.drop (c0 + 1)) who = false) : MetX l y_X_move (wC y_X_move b_X_move 7 (some .int)) (rmk 8 67 1926 177) (pC g H [.ref x, .int who]) (qX H (NX ad) isE (fun H1 => ∃ v2, cX Z g H1 x (adU ad v2) ms nm nw rows mir ([]) f k q f2 k2 0)) 67 1926 (fW H (NX ad)) := by
  refine mX (by decide) (Nat.le_of_ble_eq_true rfl) ?_
  intro p e s m below meth c ls C0 hH hZ hno hl
  have C0 : cF g p s m _ meth c b_X_move 7 "RegistryLog" (some .int) := C0
  obtain ⟨hx, hb, hml, hown, hts, hr, hlk, hK⟩ := id C0
  subst hH
  have hl : lv_has ls 7 [(0, .ref x), (1, .int who)] := hl
  have hS : va_S (fW s.heap (NX ad)) s.heap s.heap [] := hS_rf
  have hX0 := hX
  have ad0 := cX_lt hX0 (j := 0) (by decide)
  have ad1 := cX_lt hX0 (j := 1) (by decide)
  have hT24 := (cX_T hX).1
  refine lv_aload_n hx hb d_X_move_0 rfl (lv_at hl 0 rfl) ?_
  refine aW (N := (NX ad)) (rV (As := []) (rest := []) C0 (c_X_takeText l g _ Z x ad ms nm nw rows mir T f k q f2 k2 hX hsz hZb) (zK_S hZ hS (cX_old hX0)) k_X_move_1 rfl rfl ⟨Nat.le_of_ble_eq_true rfl, Nat.le_of_ble_eq_true rfl⟩ (ob_recv hK (cX_ob hX) rfl) rfl hl.1 rfl (Nat.le_of_ble_eq_true rfl) d_X_move_1 ⟨by show 0 + 3 ≤ 67; omega, by show 0 + 72 ≤ 1926; omega⟩) (fun v H L hC1 hp hL => ?_)
  have hS0 := hS
  have hS := hS_call hS hC1 hL (fun a h => Or.inl h)
  obtain ⟨sa, w9, v2, hsa, hw9, rfl, hs9, hX, hv4, hv5, hv6⟩ := hp
  have hE := pS_mv (P' := PX Z (adU ad v2)) hE (fun a h1 h2 => ⟨hC_at hC1 h2 (fun z => by obtain ⟨j, hj, z2⟩ := z; exact h1.1 j hj z2), PX_U h1 hv4 h2⟩)
  obtain ⟨ad2, had2⟩ : ∃ ad2, ad2 = adU ad v2 := ⟨_, rfl⟩
  rw [← had2] at hX hE
  have hsz2 := hS.1
  refine W.eq (g2 := F0 m 4 ls [.ref sa]) rfl ?_
  refine lv_astore_n (lv' := [(2, .ref sa), (0, .ref x), (1, .int who)]) hx hb d_X_move_4 rfl hl (by decide) rfl (fun ls hl => ?_)
  refine lv_aload_n hx hb d_X_move_5 rfl (lv_at hl 0 rfl) ?_
  refine lv_bipush (v := nI 62) hx hb d_X_move_6 (by decide) ?_
  refine aP (rV (As := [.int (nI 62)]) (rest := []) C0 (c_S_indexOf0 l g _ sa w9 62 (by decide) T hs9) (zK_S hZ hS (cX_old hX0)) k_X_move_8 rfl rfl ⟨Nat.le_of_ble_eq_true rfl, Nat.le_of_ble_eq_true rfl⟩ (s_recv hK hs9.1) rfl hl.1 rfl (Nat.le_of_ble_eq_true rfl) d_X_move_8 ⟨by show 0 + 3 + 0 ≤ 67; omega, by show 0 + 72 + 0 ≤ 1926; omega⟩) ?_
  intro v hv; subst hv
  refine W.eq (g2 := F0 m 11 ls [.int (ixL 62 T 0)]) rfl ?_
  refine W.eq (g2 := F0 m 11 ls [.int (nI c0)]) (by rw [hc0]) ?_
  refine lv_istore_n (lv' := [(3, .int (nI c0)), (2, .ref sa), (0, .ref x), (1, .int who)]) hx hb d_X_move_11 rfl hl (by decide) rfl (fun ls hl => ?_)
  refine lv_iload_n hx hb d_X_move_12 rfl (lv_at hl 0 rfl) ?_
  refine lv_if_lt (tgt := 23) hx hb d_X_move_13 (by decide) (fun c13 => ?_) (fun c13 => ?_)
  · skip
    exact absurd c13 (nI_pos (by omega))
  · skip
    refine lv_iload_n hx hb d_X_move_16 rfl (lv_at hl 3 rfl) ?_
    refine aP (rS (As := [.int who]) (rest := []) C0 (c_X_isPerson l g _ who) (zK_S hZ hS (cX_old hX0)) k_X_move_17 rfl rfl ⟨Nat.le_of_ble_eq_true rfl, Nat.le_of_ble_eq_true rfl⟩ rfl hl.1 rfl (Nat.le_of_ble_eq_true rfl) d_X_move_17 ⟨by show 0 + 3 + 0 ≤ 67; omega, by show 0 + 72 + 0 ≤ 1926; omega⟩) ?_
    intro v hv; subst hv
    refine W.eq (g2 := F0 m 20 ls [.int (bI (decide (0 ≤ who ∧ who < 8)))]) rfl ?_
    refine z_ne (tgt := 33) (v := decide (0 ≤ who ∧ who < 8)) hx hb d_X_move_20 (by decide) (fun c20 => ?_) (fun c20 => ?_)
    · skip
      have hadq1 : ∀ j, j < 16 → ad2 j < H.size := fun j hj => cX_lt hX hj
      obtain ⟨z1, hz1⟩ : ∃ z, z = H.size := ⟨_, rfl⟩
      rw [← hz1] at hadq1
      have hzs1 : s.heap.size ≤ z1 := by rw [hz1]; exact hS.1
      have hsl1 := sS_lt hs9
      rw [← hz1] at hsl1
      have hS0 := hS
      refine s_new (ci := 2) (C := R_N) (T := F_N) (N := 2) hx hb hts i_N t_N t_N_ok hown (hts _ (in_3 (List.mem_of_getElem? (i := 202) rfl) rfl)) (hts _ (in_1 (List.mem_of_getElem? (i := 74) rfl) rfl)) (hts _ (in_1 (List.mem_of_getElem? (i := 7) rfl) rfl)) hK hS rfl (fs := [.null, .null]) (by decide) (by show 0 + 3 + 1 ≤ 67; omega) (by show 0 + 72 + 2 ≤ 1926; omega) d_X_move_33 (fun q1 H hq f_q1 hz o1 hS => ?_)
      have hX := cX_mv hX (Z' := fun a => Z a ∧ a ≠ q1) (fun a h1 h2 => ⟨o1 a (by rw [hq]; exact h2), h1, by omega⟩)
      have hE := pS_mv hE (P' := fun a => PX Z ad2 a ∧ a ≠ q1) (fun a h1 h2 => ⟨o1 a (by rw [hq]; exact h2), h1, by omega⟩)
      have hs9 := sS_kept hs9 (o1 _ (by rw [hq]; exact (sS_lt hs9).1)) (o1 _ (by rw [hq]; exact (sS_lt hs9).2))
      have ge_q1 : s.heap.size ≤ q1 := by rw [hq]; exact hS0.1
      refine lv_dup hx hb d_X_move_36 rfl ?_
      refine lv_aload_n hx hb d_X_move_37 rfl (lv_at hl 1 rfl) ?_
      refine lv_iconst (v := nI 0) hx hb d_X_move_38 (by decide) ?_
      refine lv_iload_n hx hb d_X_move_39 rfl (lv_at hl 0 rfl) ?_
      have hqs1 := ob_lt f_q1
      refine aW (N := no_) (rV (As := [.int (nI 0), .int (nI c0)]) (rest := [.ref q1, .ref q1]) C0 (c_S_substring1 l g _ sa w9 0 c0 T hs9 ⟨by omega, by omega⟩) (zK_S hZ hS (cX_old hX0)) k_X_move_40 rfl rfl ⟨Nat.le_of_ble_eq_true rfl, Nat.le_of_ble_eq_true rfl⟩ (s_recv hK hs9.1) rfl hl.1 rfl (Nat.le_of_ble_eq_true rfl) d_X_move_40 ⟨by show 0 + 3 + 1 + 2 ≤ 67; omega, by show 0 + 72 + 2 + 38 ≤ 1926; omega⟩) (fun v H L hC1 hp hL => ?_)
      have hS0 := hS
      have hS := hS_call hS hC1 hL (fun q h => h.elim)
      have hX := cX_mv hX (fun q h1 h2 => ⟨hC_at hC1 h2 (fun z => z), h1⟩)
      have hE := pS_mv hE (fun q h1 h2 => ⟨hC_at hC1 h2 (fun z => z), h1⟩)
      have hs9 := sS_kept hs9 (hC_at hC1 (sS_lt hs9).1 (fun z => z)) (hC_at hC1 (sS_lt hs9).2 (fun z => z))
      have f_q1 := ob_kept f_q1 (hC_at hC1 (ob_lt f_q1) (fun z => z))
      have hzz1 : z1 < H.size := by have := hC1.1; omega
      obtain ⟨s1, rfl, hs1⟩ := hp
      have hp1 := sub_pS hE hs1 (fun z => by omega) (fun a h => ⟨⟨fun j hj z => by have := hadq1 j hj; omega, hZb _ (by omega)⟩, by omega⟩)
      rw [show (T.drop 0).take (c0 - 0) = T.take c0 from rfl] at hp1
      refine W.eq (g2 := F0 m 43 ls [.ref s1, .ref q1, .ref q1]) rfl ?_
      obtain ⟨w1, ⟨_, na1⟩, ⟨_, nb1⟩, so1, ba1, hc19, hl19⟩ := id hp1
      refine aW (N := (fun a => a = q1)) (rI (As := [.ref s1]) (rest := [.ref q1]) C0 (c_N_init l g _ q1 s1 w1 (T.take c0) (Nat.le_trans hsz hS.1) (by omega) f_q1 so1 ba1 (Ne.symm na1) (Ne.symm nb1) (by simp only [List.length_take, List.length_drop]; omega) (pS_getD hp1)) (zK_S hZ hS (cX_old hX0)) k_X_move_43 rfl rfl ⟨Nat.le_of_ble_eq_true rfl, Nat.le_of_ble_eq_true rfl⟩ rfl hl.1 rfl (Nat.le_of_ble_eq_true rfl) d_X_move_43 ⟨by show 0 + 3 + 1 + 2 + 28 ≤ 67; omega, by show 0 + 72 + 2 + 38 + 880 ≤ 1926; omega⟩) (fun v H L hC1 hp hL => ?_)
      have hS0 := hS
      have hS := hS_call hS hC1 hL (fun a h => by rw [h]; exact Or.inr (by omega))
      obtain ⟨rfl, fa1, fw1, hfa1, hfw1, f_q1, hf19⟩ := hp
      have hX := cX_mv (Z' := Z) hX (fun a h1 h2 => ⟨hC_at hC1 h2 (fun z => h1.2 z), h1.1⟩)
      have hE := pS_mv (P' := PX Z ad2) hE (fun a h1 h2 => ⟨hC_at hC1 h2 (fun z => h1.2 z), h1.1⟩)
      have hs9 := sS_kept hs9 (hC_at hC1 (sS_lt hs9).1 (fun z => absurd z (by omega))) (hC_at hC1 (sS_lt hs9).2 (fun z => absurd z (by omega)))
      have hN9 : pN (PX Z ad2) g H q1 (T.take c0) := ⟨s1, fa1, ⟨fun j hj z => by have := hadq1 j hj; omega, hZb _ (by omega)⟩, f_q1, pS_mv (P' := PX Z ad2) hp1 (fun a h1 h2 => ⟨hC_at hC1 h2 (fun z => h1.2 z), h1.1⟩), sS_pS hf19 ⟨fun j hj z => by have := hadq1 j hj; omega, hZb _ (by omega)⟩ ⟨fun j hj z => by have := hadq1 j hj; omega, hZb _ (by omega)⟩⟩
      refine W.eq (g2 := F0 m 46 ls [.ref q1]) rfl ?_
      refine lv_astore (lv' := [(4, .ref q1), (3, .int (nI c0)), (2, .ref sa), (0, .ref x), (1, .int who)]) hx hb d_X_move_46 hl (by decide) rfl (fun ls hl => ?_)
      have hadq2 : ∀ j, j < 16 → ad2 j < H.size := fun j hj => cX_lt hX hj
      obtain ⟨z2, hz2⟩ : ∃ z, z = H.size := ⟨_, rfl⟩
      rw [← hz2] at hadq2
      have hzs2 : s.heap.size ≤ z2 := by rw [hz2]; exact hS.1
      have hsl2 := sS_lt hs9
      rw [← hz2] at hsl2
      have hS0 := hS
      refine s_new (ci := 2) (C := R_N) (T := F_N) (N := 2) hx hb hts i_N t_N t_N_ok hown (hts _ (in_3 (List.mem_of_getElem? (i := 202) rfl) rfl)) (hts _ (in_1 (List.mem_of_getElem? (i := 74) rfl) rfl)) (hts _ (in_1 (List.mem_of_getElem? (i := 7) rfl) rfl)) hK hS rfl (fs := [.null, .null]) (by decide) (by show 0 + 3 + 1 + 2 + 28 + 1 ≤ 67; omega) (by show 0 + 72 + 2 + 38 + 880 + 2 ≤ 1926; omega) d_X_move_48 (fun q2 H hq f_q2 hz o1 hS => ?_)
      have hX := cX_mv hX (Z' := fun a => Z a ∧ a ≠ q2) (fun a h1 h2 => ⟨o1 a (by rw [hq]; exact h2), h1, by omega⟩)
      have hE := pS_mv hE (P' := fun a => PX Z ad2 a ∧ a ≠ q2) (fun a h1 h2 => ⟨o1 a (by rw [hq]; exact h2), h1, by omega⟩)
      have hs9 := sS_kept hs9 (o1 _ (by rw [hq]; exact (sS_lt hs9).1)) (o1 _ (by rw [hq]; exact (sS_lt hs9).2))
      have hN9 := pN_mv hN9 (P' := fun a => PX Z ad2 a ∧ a ≠ q2) (fun a h1 h2 => ⟨o1 a (by rw [hq]; exact h2), h1, by omega⟩)
      have ge_q2 : s.heap.size ≤ q2 := by rw [hq]; exact hS0.1
      refine lv_dup hx hb d_X_move_51 rfl ?_
      refine lv_aload_n hx hb d_X_move_52 rfl (lv_at hl 2 rfl) ?_
      refine lv_iload_n hx hb d_X_move_53 rfl (lv_at hl 1 rfl) ?_
      refine lv_iconst (v := nI 1) hx hb d_X_move_54 (by decide) ?_
      refine n_iadd hx hb d_X_move_55 ?_
      refine lv_aload_n hx hb d_X_move_56 rfl (lv_at hl 2 rfl) ?_
      refine aP (rV (As := []) (rest := [.int (nI (c0 + 1)), .ref sa, .ref q2, .ref q2]) C0 (c_S_length l g _ sa w9 T.length (ch T) hs9.1 (sS_bA hs9)) (zK_S hZ hS (cX_old hX0)) k_X_move_57 rfl rfl ⟨Nat.le_of_ble_eq_true rfl, Nat.le_of_ble_eq_true rfl⟩ (s_recv hK hs9.1) rfl hl.1 rfl (Nat.le_of_ble_eq_true rfl) d_X_move_57 ⟨by show 0 + 3 + 1 + 2 + 28 + 1 + 0 ≤ 67; omega, by show 0 + 72 + 2 + 38 + 880 + 2 + 0 ≤ 1926; omega⟩) ?_
      intro v hv; subst hv
      refine W.eq (g2 := F0 m 60 ls [.int (nI T.length), .int (nI (c0 + 1)), .ref sa, .ref q2, .ref q2]) rfl ?_
      have hqs2 := ob_lt f_q2
      refine aW (N := no_) (rV (As := [.int (nI (c0 + 1)), .int (nI T.length)]) (rest := [.ref q2, .ref q2]) C0 (c_S_substring1 l g _ sa w9 (c0 + 1) T.length T hs9 ⟨by omega, by omega⟩) (zK_S hZ hS (cX_old hX0)) k_X_move_60 rfl rfl ⟨Nat.le_of_ble_eq_true rfl, Nat.le_of_ble_eq_true rfl⟩ (s_recv hK hs9.1) rfl hl.1 rfl (Nat.le_of_ble_eq_true rfl) d_X_move_60 ⟨by show 0 + 3 + 1 + 2 + 28 + 1 + 2 ≤ 67; omega, by show 0 + 72 + 2 + 38 + 880 + 2 + 38 ≤ 1926; omega⟩) (fun v H L hC1 hp hL => ?_)
      have hS0 := hS
      have hS := hS_call hS hC1 hL (fun q h => h.elim)
      have hX := cX_mv hX (fun q h1 h2 => ⟨hC_at hC1 h2 (fun z => z), h1⟩)
      have hE := pS_mv hE (fun q h1 h2 => ⟨hC_at hC1 h2 (fun z => z), h1⟩)
      have hs9 := sS_kept hs9 (hC_at hC1 (sS_lt hs9).1 (fun z => z)) (hC_at hC1 (sS_lt hs9).2 (fun z => z))
      have hN9 := pN_mv hN9 (fun q h1 h2 => ⟨hC_at hC1 h2 (fun z => z), h1⟩)
      have f_q2 := ob_kept f_q2 (hC_at hC1 (ob_lt f_q2) (fun z => z))
      have hzz2 : z2 < H.size := by have := hC1.1; omega
      obtain ⟨s2, rfl, hs2⟩ := hp
      have hp2 := sub_pS hE hs2 (fun z => by omega) (fun a h => ⟨⟨fun j hj z => by have := hadq2 j hj; omega, hZb _ (by omega)⟩, by omega⟩)
      rw [show (T.drop (c0 + 1)).take (T.length - (c0 + 1)) = T.drop (c0 + 1) from List.take_of_length_le (by rw [List.length_drop]; omega)] at hp2
      refine W.eq (g2 := F0 m 63 ls [.ref s2, .ref q2, .ref q2]) rfl ?_
      obtain ⟨w2, ⟨_, na2⟩, ⟨_, nb2⟩, so2, ba2, hc29, hl29⟩ := id hp2
      refine aW (N := (fun a => a = q2)) (rI (As := [.ref s2]) (rest := [.ref q2]) C0 (c_N_init l g _ q2 s2 w2 (T.drop (c0 + 1)) (Nat.le_trans hsz hS.1) (by omega) f_q2 so2 ba2 (Ne.symm na2) (Ne.symm nb2) (by simp only [List.length_take, List.length_drop]; omega) (pS_getD hp2)) (zK_S hZ hS (cX_old hX0)) k_X_move_63 rfl rfl ⟨Nat.le_of_ble_eq_true rfl, Nat.le_of_ble_eq_true rfl⟩ rfl hl.1 rfl (Nat.le_of_ble_eq_true rfl) d_X_move_63 ⟨by show 0 + 3 + 1 + 2 + 28 + 1 + 2 + 28 ≤ 67; omega, by show 0 + 72 + 2 + 38 + 880 + 2 + 38 + 880 ≤ 1926; omega⟩) (fun v H L hC1 hp hL => ?_)
      have hS0 := hS
      have hS := hS_call hS hC1 hL (fun a h => by rw [h]; exact Or.inr (by omega))
      obtain ⟨rfl, fa2, fw2, hfa2, hfw2, f_q2, hf29⟩ := hp
      have hX := cX_mv (Z' := Z) hX (fun a h1 h2 => ⟨hC_at hC1 h2 (fun z => h1.2 z), h1.1⟩)
      have hE := pS_mv (P' := PX Z ad2) hE (fun a h1 h2 => ⟨hC_at hC1 h2 (fun z => h1.2 z), h1.1⟩)
      have hs9 := sS_kept hs9 (hC_at hC1 (sS_lt hs9).1 (fun z => absurd z (by omega))) (hC_at hC1 (sS_lt hs9).2 (fun z => absurd z (by omega)))
      have hN9 := pN_mv (P' := PX Z ad2) hN9 (fun a h1 h2 => ⟨hC_at hC1 h2 (fun z => h1.2 z), h1.1⟩)
      have hN8 : pN (PX Z ad2) g H q2 (T.drop (c0 + 1)) := ⟨s2, fa2, ⟨fun j hj z => by have := hadq2 j hj; omega, hZb _ (by omega)⟩, f_q2, pS_mv (P' := PX Z ad2) hp2 (fun a h1 h2 => ⟨hC_at hC1 h2 (fun z => h1.2 z), h1.1⟩), sS_pS hf29 ⟨fun j hj z => by have := hadq2 j hj; omega, hZb _ (by omega)⟩ ⟨fun j hj z => by have := hadq2 j hj; omega, hZb _ (by omega)⟩⟩
      refine W.eq (g2 := F0 m 66 ls [.ref q2]) rfl ?_
      refine lv_astore (lv' := [(5, .ref q2), (4, .ref q1), (3, .int (nI c0)), (2, .ref sa), (0, .ref x), (1, .int who)]) hx hb d_X_move_66 hl (by decide) rfl (fun ls hl => ?_)
      refine lv_aload hx hb d_X_move_68 (lv_at hl 1 rfl) ?_
      refine aP (rV (As := []) (rest := []) C0 (c_N_isName l g _ q1 (T.take c0) (pN_isN hN9)) (zK_S hZ hS (cX_old hX0)) k_X_move_70 rfl rfl ⟨Nat.le_of_ble_eq_true rfl, Nat.le_of_ble_eq_true rfl⟩ (isN_recv hK (pN_isN hN9)) rfl hl.1 rfl (Nat.le_of_ble_eq_true rfl) d_X_move_70 ⟨by show 0 + 3 + 1 + 2 + 28 + 1 + 2 + 28 + 0 ≤ 67; omega, by show 0 + 72 + 2 + 38 + 880 + 2 + 38 + 880 + 0 ≤ 1926; omega⟩) ?_
      intro v hv; subst hv
      refine W.eq (g2 := F0 m 73 ls [.int (bI (nameS (T.take c0)))]) rfl ?_
      refine z_eq (tgt := 88) (v := nameS (T.take c0)) hx hb d_X_move_73 (by decide) (fun c73 => ?_) (fun c73 => ?_)
      · skip
        exact absurd hA1 (by rw [c73]; decide)
      · skip
        refine lv_aload hx hb d_X_move_76 (lv_at hl 0 rfl) ?_
        refine aP (rV (As := []) (rest := []) C0 (c_N_isName l g _ q2 (T.drop (c0 + 1)) (pN_isN hN8)) (zK_S hZ hS (cX_old hX0)) k_X_move_78 rfl rfl ⟨Nat.le_of_ble_eq_true rfl, Nat.le_of_ble_eq_true rfl⟩ (isN_recv hK (pN_isN hN8)) rfl hl.1 rfl (Nat.le_of_ble_eq_true rfl) d_X_move_78 ⟨by show 0 + 3 + 1 + 2 + 28 + 1 + 2 + 28 + 0 ≤ 67; omega, by show 0 + 72 + 2 + 38 + 880 + 2 + 38 + 880 + 0 ≤ 1926; omega⟩) ?_
        intro v hv; subst hv
        refine W.eq (g2 := F0 m 81 ls [.int (bI (nameS (T.drop (c0 + 1))))]) rfl ?_
        refine z_eq (tgt := 88) (v := nameS (T.drop (c0 + 1))) hx hb d_X_move_81 (by decide) (fun c81 => ?_) (fun c81 => ?_)
        · skip
          exact absurd hA3 (by rw [c81]; decide)
        · skip
          refine lv_iconst (v := bI true) hx hb d_X_move_84 (by decide) ?_
          refine lv_goto (tgt := 89) hx hb d_X_move_85 (by decide) ?_
          refine aP (rS (As := [.int (bI true)]) (rest := []) C0 (c_X_demandArguments l g _) (zK_S hZ hS (cX_old hX0)) k_X_move_89 rfl rfl ⟨Nat.le_of_ble_eq_true rfl, Nat.le_of_ble_eq_true rfl⟩ rfl hl.1 rfl (Nat.le_of_ble_eq_true rfl) d_X_move_89 ⟨by show 0 + 3 + 1 + 2 + 28 + 1 + 2 + 28 + 0 ≤ 67; omega, by show 0 + 72 + 2 + 38 + 880 + 2 + 38 + 880 + 0 ≤ 1926; omega⟩) ?_
          intro v hv; subst hv
          refine W.eq (g2 := F0 m 92 ls []) rfl ?_
          refine lv_aload_n hx hb d_X_move_92 rfl (lv_at hl 4 rfl) ?_
          refine va_get (D := g.1) (ci := 0) (C := R_X) (T := F_X) (N := 6) hx hb hts i_X hown hK.1 (cX_ob hX) 0 rfl rfl 1 (by decide) (hts (.fieldLink "RegistryLog" 19 "RegistryLog" "log" "LRegistryLog$Ledger;") (in_3 (List.mem_of_getElem? (i := 10) rfl) rfl)) (fun _ h9 => h9) rfl d_X_move_93 ?_
          refine lv_aload hx hb d_X_move_96 (lv_at hl 1 rfl) ?_
          refine aP (rV (As := [.ref q1]) (rest := []) C0 (c_L_originOf l g _ (ad2 2) q1 rows (T.take c0) (pL_isL (cX_log hX)) (pN_isN hN9)) (zK_S hZ hS (cX_old hX0)) k_X_move_98 rfl rfl ⟨Nat.le_of_ble_eq_true rfl, Nat.le_of_ble_eq_true rfl⟩ (isL_recv hK (pL_isL (cX_log hX))) rfl hl.1 rfl (Nat.le_of_ble_eq_true rfl) d_X_move_98 ⟨by show 0 + 3 + 1 + 2 + 28 + 1 + 2 + 28 + 0 ≤ 67; omega, by show 0 + 72 + 2 + 38 + 880 + 2 + 38 + 880 + 0 ≤ 1926; omega⟩) ?_
          intro v hv; subst hv
          refine W.eq (g2 := F0 m 101 ls [.int (oS (T.take c0) rows (-1))]) rfl ?_
          refine lv_topi (fun x_1 ex_1 => ?_)
          refine lv_istore (lv' := [(6, .int x_1), (5, .ref q2), (4, .ref q1), (3, .int (nI c0)), (2, .ref sa), (0, .ref x), (1, .int who)]) hx hb d_X_move_101 hl (by decide) rfl (fun ls hl => ?_)
          refine lv_iload_n hx hb d_X_move_103 rfl (lv_at hl 6 rfl) ?_
          refine lv_aload_n hx hb d_X_move_104 rfl (lv_at hl 5 rfl) ?_
          refine va_get (D := g.1) (ci := 0) (C := R_X) (T := F_X) (N := 6) hx hb hts i_X hown hK.1 (cX_ob hX) 0 rfl rfl 1 (by decide) (hts (.fieldLink "RegistryLog" 19 "RegistryLog" "log" "LRegistryLog$Ledger;") (in_3 (List.mem_of_getElem? (i := 10) rfl) rfl)) (fun _ h9 => h9) rfl d_X_move_105 ?_
          refine lv_iload hx hb d_X_move_108 (lv_at hl 0 rfl) ?_
          refine aP (rV (As := [.int x_1]) (rest := [.int who]) C0 (c_L_founderOf l g _ (ad2 2) rows x_1 (pL_isL (cX_log hX))) (zK_S hZ hS (cX_old hX0)) k_X_move_110 rfl rfl ⟨Nat.le_of_ble_eq_true rfl, Nat.le_of_ble_eq_true rfl⟩ (isL_recv hK (pL_isL (cX_log hX))) rfl hl.1 rfl (Nat.le_of_ble_eq_true rfl) d_X_move_110 ⟨by show 0 + 3 + 1 + 2 + 28 + 1 + 2 + 28 + 0 ≤ 67; omega, by show 0 + 72 + 2 + 38 + 880 + 2 + 38 + 880 + 0 ≤ 1926; omega⟩) ?_
          intro v hv; subst hv
          refine W.eq (g2 := F0 m 113 ls [.int (rp (atS rows x_1)), .int who]) rfl ?_
          refine lv_icmp_ne (tgt := 134) hx hb d_X_move_113 (by decide) (fun c113 => ?_) (fun c113 => ?_)
          · skip
            refine lv_iconst (v := bI false) hx hb d_X_move_134 (by decide) ?_
            have ho1 : oS (T.take c0) rows (-1) = x_1 := ex_1.symm
            have hmy : movC rows (T.take c0) (T.drop (c0 + 1)) who = false := by unfold movC; rw [ho1, decide_eq_false (p := who = rp (atS rows x_1)) c113, Bool.false_and]
            refine rSX (As := [.int (bI false)]) (rest := []) C0 (x_X_demandState l g _ htr) (zK_S hZ hS (cX_old hX0)) k_X_move_135 rfl rfl ⟨Nat.le_of_ble_eq_true rfl, Nat.le_of_ble_eq_true rfl⟩ rfl hl.1 rfl (Nat.le_of_ble_eq_true rfl) d_X_move_135 ⟨by show 0 + 3 + 1 + 2 + 28 + 1 + 2 + 28 + 1 ≤ 67; omega, by show 0 + 72 + 2 + 38 + 880 + 2 + 38 + 880 + 6 ≤ 1926; omega⟩ (fun x9 H L st hW9 hq9 hL => ?_)
            obtain ⟨hx1, ⟨ce, hx2, hx3, hx4⟩, hC1, hp⟩ := hq9
            have hS1 := hS_call hS hC1 hL (fun q h => h.elim)
            refine WX.widen (k := 67) (n := 1926) (by omega) (by omega) ?_
            refine WX.out hno ⟨Nat.le_trans hS.1 hx1, ⟨ce, hx2, hx3, by rw [← hW9.alike.findClass]; exact hx4⟩, hS_hC hS1, ⟨v2, by rw [← had2]; exact cX_new hX hC1⟩⟩ hS1.2.2 hlk
          · skip
            refine lv_aload_n hx hb d_X_move_116 rfl (lv_at hl 5 rfl) ?_
            refine va_get (D := g.1) (ci := 0) (C := R_X) (T := F_X) (N := 6) hx hb hts i_X hown hK.1 (cX_ob hX) 0 rfl rfl 1 (by decide) (hts (.fieldLink "RegistryLog" 19 "RegistryLog" "log" "LRegistryLog$Ledger;") (in_3 (List.mem_of_getElem? (i := 10) rfl) rfl)) (fun _ h9 => h9) rfl d_X_move_117 ?_
            refine lv_aload hx hb d_X_move_120 (lv_at hl 1 rfl) ?_
            refine lv_iload hx hb d_X_move_122 (lv_at hl 0 rfl) ?_
            refine aP (rV (As := [.ref q2, .int x_1]) (rest := []) C0 (c_L_isFree l g _ (ad2 2) q2 rows (T.drop (c0 + 1)) x_1 (pL_isL (cX_log hX)) (pN_isN hN8)) (zK_S hZ hS (cX_old hX0)) k_X_move_124 rfl rfl ⟨Nat.le_of_ble_eq_true rfl, Nat.le_of_ble_eq_true rfl⟩ (isL_recv hK (pL_isL (cX_log hX))) rfl hl.1 rfl (Nat.le_of_ble_eq_true rfl) d_X_move_124 ⟨by show 0 + 3 + 1 + 2 + 28 + 1 + 2 + 28 + 0 ≤ 67; omega, by show 0 + 72 + 2 + 38 + 880 + 2 + 38 + 880 + 0 ≤ 1926; omega⟩) ?_
            intro v hv; subst hv
            refine W.eq (g2 := F0 m 127 ls [.int (bI (freeS (T.drop (c0 + 1)) x_1 rows rows))]) rfl ?_
            refine z_eq (tgt := 134) (v := freeS (T.drop (c0 + 1)) x_1 rows rows) hx hb d_X_move_127 (by decide) (fun c127 => ?_) (fun c127 => ?_)
            · skip
              refine lv_iconst (v := bI false) hx hb d_X_move_134 (by decide) ?_
              have ho1 : oS (T.take c0) rows (-1) = x_1 := ex_1.symm
              have hmy : movC rows (T.take c0) (T.drop (c0 + 1)) who = false := by unfold movC; rw [ho1, c127, Bool.and_false]
              refine rSX (As := [.int (bI false)]) (rest := []) C0 (x_X_demandState l g _ htr) (zK_S hZ hS (cX_old hX0)) k_X_move_135 rfl rfl ⟨Nat.le_of_ble_eq_true rfl, Nat.le_of_ble_eq_true rfl⟩ rfl hl.1 rfl (Nat.le_of_ble_eq_true rfl) d_X_move_135 ⟨by show 0 + 3 + 1 + 2 + 28 + 1 + 2 + 28 + 1 ≤ 67; omega, by show 0 + 72 + 2 + 38 + 880 + 2 + 38 + 880 + 6 ≤ 1926; omega⟩ (fun x9 H L st hW9 hq9 hL => ?_)
              obtain ⟨hx1, ⟨ce, hx2, hx3, hx4⟩, hC1, hp⟩ := hq9
              have hS1 := hS_call hS hC1 hL (fun q h => h.elim)
              refine WX.widen (k := 67) (n := 1926) (by omega) (by omega) ?_
              refine WX.out hno ⟨Nat.le_trans hS.1 hx1, ⟨ce, hx2, hx3, by rw [← hW9.alike.findClass]; exact hx4⟩, hS_hC hS1, ⟨v2, by rw [← had2]; exact cX_new hX hC1⟩⟩ hS1.2.2 hlk
            · skip
              refine lv_iconst (v := bI true) hx hb d_X_move_130 (by decide) ?_
              refine lv_goto (tgt := 135) hx hb d_X_move_131 (by decide) ?_
              have ho1 : oS (T.take c0) rows (-1) = x_1 := ex_1.symm
              have hmy : movC rows (T.take c0) (T.drop (c0 + 1)) who = true := by unfold movC; rw [ho1, decide_eq_true (p := who = rp (atS rows x_1)) c113, c127]; rfl
              exact absurd hst (by rw [hmy]; decide)
    · skip
      exact absurd hA2 (by rw [c20]; decide)
set_option maxHeartbeats 4000000 in
set_option maxRecDepth 100000 in
/-- move, full -/
theorem x_X_moveF (l : Launch) (g : gG) (H : Heap) (htr : ∀ e, l.admits e → e.platform.stackTraces = false) (Z : Nat → Prop) (x : Nat) (ad : Nat → Nat) (ms nm nw : Nat) (rows : List Rw) (mir : Nat → List Rw) (T : List Nat) (f : Nat → Int64) (k q : Nat) (f2 : Nat → Int64) (k2 : Nat) (hX : cX Z g H x ad ms nm nw rows mir T f k q f2 k2 0) (hsz : g.2.2.1 ≤ H.size) (hZb : ∀ a, H.size ≤ a → Z a) (hE : pS (PX Z ad) g H (g.2.2.2 1) []) (who : Int32) (c0 : Nat) (hc0 : ixL 62 T 0 = nI c0) (hc1 : c0 < T.length) (hA2 : decide (0 ≤ who ∧ who < 8) = true) (hA1 : nameS (T.take c0) = true) (hA3 : nameS (T.drop (c0 + 1)) = true) (og0 : Int32) (hmay : movC rows (T.take c0) (T.drop (c0 + 1)) who = true) (hog : oS (T.take c0) rows (-1) = og0) (hge : ¬ rows.length < 120) : MetX l y_X_move (wC y_X_move b_X_move 7 (some .int)) (rmk 8 67 1926 177) (pC g H [.ref x, .int who]) (qX H (NX ad) isE (fun H1 => ∃ v2, cX Z g H1 x (adU ad v2) ms nm nw rows mir ([]) f k q f2 k2 0)) 67 1926 (fW H (NX ad)) := by
  refine mX (by decide) (Nat.le_of_ble_eq_true rfl) ?_
  intro p e s m below meth c ls C0 hH hZ hno hl
  have C0 : cF g p s m _ meth c b_X_move 7 "RegistryLog" (some .int) := C0
  obtain ⟨hx, hb, hml, hown, hts, hr, hlk, hK⟩ := id C0
  subst hH
  have hl : lv_has ls 7 [(0, .ref x), (1, .int who)] := hl
  have hS : va_S (fW s.heap (NX ad)) s.heap s.heap [] := hS_rf
  have hX0 := hX
  have ad0 := cX_lt hX0 (j := 0) (by decide)
  have ad1 := cX_lt hX0 (j := 1) (by decide)
  have hT24 := (cX_T hX).1
  refine lv_aload_n hx hb d_X_move_0 rfl (lv_at hl 0 rfl) ?_
  refine aW (N := (NX ad)) (rV (As := []) (rest := []) C0 (c_X_takeText l g _ Z x ad ms nm nw rows mir T f k q f2 k2 hX hsz hZb) (zK_S hZ hS (cX_old hX0)) k_X_move_1 rfl rfl ⟨Nat.le_of_ble_eq_true rfl, Nat.le_of_ble_eq_true rfl⟩ (ob_recv hK (cX_ob hX) rfl) rfl hl.1 rfl (Nat.le_of_ble_eq_true rfl) d_X_move_1 ⟨by show 0 + 3 ≤ 67; omega, by show 0 + 72 ≤ 1926; omega⟩) (fun v H L hC1 hp hL => ?_)
  have hS0 := hS
  have hS := hS_call hS hC1 hL (fun a h => Or.inl h)
  obtain ⟨sa, w9, v2, hsa, hw9, rfl, hs9, hX, hv4, hv5, hv6⟩ := hp
  have hE := pS_mv (P' := PX Z (adU ad v2)) hE (fun a h1 h2 => ⟨hC_at hC1 h2 (fun z => by obtain ⟨j, hj, z2⟩ := z; exact h1.1 j hj z2), PX_U h1 hv4 h2⟩)
  obtain ⟨ad2, had2⟩ : ∃ ad2, ad2 = adU ad v2 := ⟨_, rfl⟩
  rw [← had2] at hX hE
  have hsz2 := hS.1
  refine W.eq (g2 := F0 m 4 ls [.ref sa]) rfl ?_
  refine lv_astore_n (lv' := [(2, .ref sa), (0, .ref x), (1, .int who)]) hx hb d_X_move_4 rfl hl (by decide) rfl (fun ls hl => ?_)
  refine lv_aload_n hx hb d_X_move_5 rfl (lv_at hl 0 rfl) ?_
  refine lv_bipush (v := nI 62) hx hb d_X_move_6 (by decide) ?_
  refine aP (rV (As := [.int (nI 62)]) (rest := []) C0 (c_S_indexOf0 l g _ sa w9 62 (by decide) T hs9) (zK_S hZ hS (cX_old hX0)) k_X_move_8 rfl rfl ⟨Nat.le_of_ble_eq_true rfl, Nat.le_of_ble_eq_true rfl⟩ (s_recv hK hs9.1) rfl hl.1 rfl (Nat.le_of_ble_eq_true rfl) d_X_move_8 ⟨by show 0 + 3 + 0 ≤ 67; omega, by show 0 + 72 + 0 ≤ 1926; omega⟩) ?_
  intro v hv; subst hv
  refine W.eq (g2 := F0 m 11 ls [.int (ixL 62 T 0)]) rfl ?_
  refine W.eq (g2 := F0 m 11 ls [.int (nI c0)]) (by rw [hc0]) ?_
  refine lv_istore_n (lv' := [(3, .int (nI c0)), (2, .ref sa), (0, .ref x), (1, .int who)]) hx hb d_X_move_11 rfl hl (by decide) rfl (fun ls hl => ?_)
  refine lv_iload_n hx hb d_X_move_12 rfl (lv_at hl 0 rfl) ?_
  refine lv_if_lt (tgt := 23) hx hb d_X_move_13 (by decide) (fun c13 => ?_) (fun c13 => ?_)
  · skip
    exact absurd c13 (nI_pos (by omega))
  · skip
    refine lv_iload_n hx hb d_X_move_16 rfl (lv_at hl 3 rfl) ?_
    refine aP (rS (As := [.int who]) (rest := []) C0 (c_X_isPerson l g _ who) (zK_S hZ hS (cX_old hX0)) k_X_move_17 rfl rfl ⟨Nat.le_of_ble_eq_true rfl, Nat.le_of_ble_eq_true rfl⟩ rfl hl.1 rfl (Nat.le_of_ble_eq_true rfl) d_X_move_17 ⟨by show 0 + 3 + 0 ≤ 67; omega, by show 0 + 72 + 0 ≤ 1926; omega⟩) ?_
    intro v hv; subst hv
    refine W.eq (g2 := F0 m 20 ls [.int (bI (decide (0 ≤ who ∧ who < 8)))]) rfl ?_
    refine z_ne (tgt := 33) (v := decide (0 ≤ who ∧ who < 8)) hx hb d_X_move_20 (by decide) (fun c20 => ?_) (fun c20 => ?_)
    · skip
      have hadq1 : ∀ j, j < 16 → ad2 j < H.size := fun j hj => cX_lt hX hj
      obtain ⟨z1, hz1⟩ : ∃ z, z = H.size := ⟨_, rfl⟩
      rw [← hz1] at hadq1
      have hzs1 : s.heap.size ≤ z1 := by rw [hz1]; exact hS.1
      have hsl1 := sS_lt hs9
      rw [← hz1] at hsl1
      have hS0 := hS
      refine s_new (ci := 2) (C := R_N) (T := F_N) (N := 2) hx hb hts i_N t_N t_N_ok hown (hts _ (in_3 (List.mem_of_getElem? (i := 202) rfl) rfl)) (hts _ (in_1 (List.mem_of_getElem? (i := 74) rfl) rfl)) (hts _ (in_1 (List.mem_of_getElem? (i := 7) rfl) rfl)) hK hS rfl (fs := [.null, .null]) (by decide) (by show 0 + 3 + 1 ≤ 67; omega) (by show 0 + 72 + 2 ≤ 1926; omega) d_X_move_33 (fun q1 H hq f_q1 hz o1 hS => ?_)
      have hX := cX_mv hX (Z' := fun a => Z a ∧ a ≠ q1) (fun a h1 h2 => ⟨o1 a (by rw [hq]; exact h2), h1, by omega⟩)
      have hE := pS_mv hE (P' := fun a => PX Z ad2 a ∧ a ≠ q1) (fun a h1 h2 => ⟨o1 a (by rw [hq]; exact h2), h1, by omega⟩)
      have hs9 := sS_kept hs9 (o1 _ (by rw [hq]; exact (sS_lt hs9).1)) (o1 _ (by rw [hq]; exact (sS_lt hs9).2))
      have ge_q1 : s.heap.size ≤ q1 := by rw [hq]; exact hS0.1
      refine lv_dup hx hb d_X_move_36 rfl ?_
      refine lv_aload_n hx hb d_X_move_37 rfl (lv_at hl 1 rfl) ?_
      refine lv_iconst (v := nI 0) hx hb d_X_move_38 (by decide) ?_
      refine lv_iload_n hx hb d_X_move_39 rfl (lv_at hl 0 rfl) ?_
      have hqs1 := ob_lt f_q1
      refine aW (N := no_) (rV (As := [.int (nI 0), .int (nI c0)]) (rest := [.ref q1, .ref q1]) C0 (c_S_substring1 l g _ sa w9 0 c0 T hs9 ⟨by omega, by omega⟩) (zK_S hZ hS (cX_old hX0)) k_X_move_40 rfl rfl ⟨Nat.le_of_ble_eq_true rfl, Nat.le_of_ble_eq_true rfl⟩ (s_recv hK hs9.1) rfl hl.1 rfl (Nat.le_of_ble_eq_true rfl) d_X_move_40 ⟨by show 0 + 3 + 1 + 2 ≤ 67; omega, by show 0 + 72 + 2 + 38 ≤ 1926; omega⟩) (fun v H L hC1 hp hL => ?_)
      have hS0 := hS
      have hS := hS_call hS hC1 hL (fun q h => h.elim)
      have hX := cX_mv hX (fun q h1 h2 => ⟨hC_at hC1 h2 (fun z => z), h1⟩)
      have hE := pS_mv hE (fun q h1 h2 => ⟨hC_at hC1 h2 (fun z => z), h1⟩)
      have hs9 := sS_kept hs9 (hC_at hC1 (sS_lt hs9).1 (fun z => z)) (hC_at hC1 (sS_lt hs9).2 (fun z => z))
      have f_q1 := ob_kept f_q1 (hC_at hC1 (ob_lt f_q1) (fun z => z))
      have hzz1 : z1 < H.size := by have := hC1.1; omega
      obtain ⟨s1, rfl, hs1⟩ := hp
      have hp1 := sub_pS hE hs1 (fun z => by omega) (fun a h => ⟨⟨fun j hj z => by have := hadq1 j hj; omega, hZb _ (by omega)⟩, by omega⟩)
      rw [show (T.drop 0).take (c0 - 0) = T.take c0 from rfl] at hp1
      refine W.eq (g2 := F0 m 43 ls [.ref s1, .ref q1, .ref q1]) rfl ?_
      obtain ⟨w1, ⟨_, na1⟩, ⟨_, nb1⟩, so1, ba1, hc19, hl19⟩ := id hp1
      refine aW (N := (fun a => a = q1)) (rI (As := [.ref s1]) (rest := [.ref q1]) C0 (c_N_init l g _ q1 s1 w1 (T.take c0) (Nat.le_trans hsz hS.1) (by omega) f_q1 so1 ba1 (Ne.symm na1) (Ne.symm nb1) (by simp only [List.length_take, List.length_drop]; omega) (pS_getD hp1)) (zK_S hZ hS (cX_old hX0)) k_X_move_43 rfl rfl ⟨Nat.le_of_ble_eq_true rfl, Nat.le_of_ble_eq_true rfl⟩ rfl hl.1 rfl (Nat.le_of_ble_eq_true rfl) d_X_move_43 ⟨by show 0 + 3 + 1 + 2 + 28 ≤ 67; omega, by show 0 + 72 + 2 + 38 + 880 ≤ 1926; omega⟩) (fun v H L hC1 hp hL => ?_)
      have hS0 := hS
      have hS := hS_call hS hC1 hL (fun a h => by rw [h]; exact Or.inr (by omega))
      obtain ⟨rfl, fa1, fw1, hfa1, hfw1, f_q1, hf19⟩ := hp
      have hX := cX_mv (Z' := Z) hX (fun a h1 h2 => ⟨hC_at hC1 h2 (fun z => h1.2 z), h1.1⟩)
      have hE := pS_mv (P' := PX Z ad2) hE (fun a h1 h2 => ⟨hC_at hC1 h2 (fun z => h1.2 z), h1.1⟩)
      have hs9 := sS_kept hs9 (hC_at hC1 (sS_lt hs9).1 (fun z => absurd z (by omega))) (hC_at hC1 (sS_lt hs9).2 (fun z => absurd z (by omega)))
      have hN9 : pN (PX Z ad2) g H q1 (T.take c0) := ⟨s1, fa1, ⟨fun j hj z => by have := hadq1 j hj; omega, hZb _ (by omega)⟩, f_q1, pS_mv (P' := PX Z ad2) hp1 (fun a h1 h2 => ⟨hC_at hC1 h2 (fun z => h1.2 z), h1.1⟩), sS_pS hf19 ⟨fun j hj z => by have := hadq1 j hj; omega, hZb _ (by omega)⟩ ⟨fun j hj z => by have := hadq1 j hj; omega, hZb _ (by omega)⟩⟩
      refine W.eq (g2 := F0 m 46 ls [.ref q1]) rfl ?_
      refine lv_astore (lv' := [(4, .ref q1), (3, .int (nI c0)), (2, .ref sa), (0, .ref x), (1, .int who)]) hx hb d_X_move_46 hl (by decide) rfl (fun ls hl => ?_)
      have hadq2 : ∀ j, j < 16 → ad2 j < H.size := fun j hj => cX_lt hX hj
      obtain ⟨z2, hz2⟩ : ∃ z, z = H.size := ⟨_, rfl⟩
      rw [← hz2] at hadq2
      have hzs2 : s.heap.size ≤ z2 := by rw [hz2]; exact hS.1
      have hsl2 := sS_lt hs9
      rw [← hz2] at hsl2
      have hS0 := hS
      refine s_new (ci := 2) (C := R_N) (T := F_N) (N := 2) hx hb hts i_N t_N t_N_ok hown (hts _ (in_3 (List.mem_of_getElem? (i := 202) rfl) rfl)) (hts _ (in_1 (List.mem_of_getElem? (i := 74) rfl) rfl)) (hts _ (in_1 (List.mem_of_getElem? (i := 7) rfl) rfl)) hK hS rfl (fs := [.null, .null]) (by decide) (by show 0 + 3 + 1 + 2 + 28 + 1 ≤ 67; omega) (by show 0 + 72 + 2 + 38 + 880 + 2 ≤ 1926; omega) d_X_move_48 (fun q2 H hq f_q2 hz o1 hS => ?_)
      have hX := cX_mv hX (Z' := fun a => Z a ∧ a ≠ q2) (fun a h1 h2 => ⟨o1 a (by rw [hq]; exact h2), h1, by omega⟩)
      have hE := pS_mv hE (P' := fun a => PX Z ad2 a ∧ a ≠ q2) (fun a h1 h2 => ⟨o1 a (by rw [hq]; exact h2), h1, by omega⟩)
      have hs9 := sS_kept hs9 (o1 _ (by rw [hq]; exact (sS_lt hs9).1)) (o1 _ (by rw [hq]; exact (sS_lt hs9).2))
      have hN9 := pN_mv hN9 (P' := fun a => PX Z ad2 a ∧ a ≠ q2) (fun a h1 h2 => ⟨o1 a (by rw [hq]; exact h2), h1, by omega⟩)
      have ge_q2 : s.heap.size ≤ q2 := by rw [hq]; exact hS0.1
      refine lv_dup hx hb d_X_move_51 rfl ?_
      refine lv_aload_n hx hb d_X_move_52 rfl (lv_at hl 2 rfl) ?_
      refine lv_iload_n hx hb d_X_move_53 rfl (lv_at hl 1 rfl) ?_
      refine lv_iconst (v := nI 1) hx hb d_X_move_54 (by decide) ?_
      refine n_iadd hx hb d_X_move_55 ?_
      refine lv_aload_n hx hb d_X_move_56 rfl (lv_at hl 2 rfl) ?_
      refine aP (rV (As := []) (rest := [.int (nI (c0 + 1)), .ref sa, .ref q2, .ref q2]) C0 (c_S_length l g _ sa w9 T.length (ch T) hs9.1 (sS_bA hs9)) (zK_S hZ hS (cX_old hX0)) k_X_move_57 rfl rfl ⟨Nat.le_of_ble_eq_true rfl, Nat.le_of_ble_eq_true rfl⟩ (s_recv hK hs9.1) rfl hl.1 rfl (Nat.le_of_ble_eq_true rfl) d_X_move_57 ⟨by show 0 + 3 + 1 + 2 + 28 + 1 + 0 ≤ 67; omega, by show 0 + 72 + 2 + 38 + 880 + 2 + 0 ≤ 1926; omega⟩) ?_
      intro v hv; subst hv
      refine W.eq (g2 := F0 m 60 ls [.int (nI T.length), .int (nI (c0 + 1)), .ref sa, .ref q2, .ref q2]) rfl ?_
      have hqs2 := ob_lt f_q2
      refine aW (N := no_) (rV (As := [.int (nI (c0 + 1)), .int (nI T.length)]) (rest := [.ref q2, .ref q2]) C0 (c_S_substring1 l g _ sa w9 (c0 + 1) T.length T hs9 ⟨by omega, by omega⟩) (zK_S hZ hS (cX_old hX0)) k_X_move_60 rfl rfl ⟨Nat.le_of_ble_eq_true rfl, Nat.le_of_ble_eq_true rfl⟩ (s_recv hK hs9.1) rfl hl.1 rfl (Nat.le_of_ble_eq_true rfl) d_X_move_60 ⟨by show 0 + 3 + 1 + 2 + 28 + 1 + 2 ≤ 67; omega, by show 0 + 72 + 2 + 38 + 880 + 2 + 38 ≤ 1926; omega⟩) (fun v H L hC1 hp hL => ?_)
      have hS0 := hS
      have hS := hS_call hS hC1 hL (fun q h => h.elim)
      have hX := cX_mv hX (fun q h1 h2 => ⟨hC_at hC1 h2 (fun z => z), h1⟩)
      have hE := pS_mv hE (fun q h1 h2 => ⟨hC_at hC1 h2 (fun z => z), h1⟩)
      have hs9 := sS_kept hs9 (hC_at hC1 (sS_lt hs9).1 (fun z => z)) (hC_at hC1 (sS_lt hs9).2 (fun z => z))
      have hN9 := pN_mv hN9 (fun q h1 h2 => ⟨hC_at hC1 h2 (fun z => z), h1⟩)
      have f_q2 := ob_kept f_q2 (hC_at hC1 (ob_lt f_q2) (fun z => z))
      have hzz2 : z2 < H.size := by have := hC1.1; omega
      obtain ⟨s2, rfl, hs2⟩ := hp
      have hp2 := sub_pS hE hs2 (fun z => by omega) (fun a h => ⟨⟨fun j hj z => by have := hadq2 j hj; omega, hZb _ (by omega)⟩, by omega⟩)
      rw [show (T.drop (c0 + 1)).take (T.length - (c0 + 1)) = T.drop (c0 + 1) from List.take_of_length_le (by rw [List.length_drop]; omega)] at hp2
      refine W.eq (g2 := F0 m 63 ls [.ref s2, .ref q2, .ref q2]) rfl ?_
      obtain ⟨w2, ⟨_, na2⟩, ⟨_, nb2⟩, so2, ba2, hc29, hl29⟩ := id hp2
      refine aW (N := (fun a => a = q2)) (rI (As := [.ref s2]) (rest := [.ref q2]) C0 (c_N_init l g _ q2 s2 w2 (T.drop (c0 + 1)) (Nat.le_trans hsz hS.1) (by omega) f_q2 so2 ba2 (Ne.symm na2) (Ne.symm nb2) (by simp only [List.length_take, List.length_drop]; omega) (pS_getD hp2)) (zK_S hZ hS (cX_old hX0)) k_X_move_63 rfl rfl ⟨Nat.le_of_ble_eq_true rfl, Nat.le_of_ble_eq_true rfl⟩ rfl hl.1 rfl (Nat.le_of_ble_eq_true rfl) d_X_move_63 ⟨by show 0 + 3 + 1 + 2 + 28 + 1 + 2 + 28 ≤ 67; omega, by show 0 + 72 + 2 + 38 + 880 + 2 + 38 + 880 ≤ 1926; omega⟩) (fun v H L hC1 hp hL => ?_)
      have hS0 := hS
      have hS := hS_call hS hC1 hL (fun a h => by rw [h]; exact Or.inr (by omega))
      obtain ⟨rfl, fa2, fw2, hfa2, hfw2, f_q2, hf29⟩ := hp
      have hX := cX_mv (Z' := Z) hX (fun a h1 h2 => ⟨hC_at hC1 h2 (fun z => h1.2 z), h1.1⟩)
      have hE := pS_mv (P' := PX Z ad2) hE (fun a h1 h2 => ⟨hC_at hC1 h2 (fun z => h1.2 z), h1.1⟩)
      have hs9 := sS_kept hs9 (hC_at hC1 (sS_lt hs9).1 (fun z => absurd z (by omega))) (hC_at hC1 (sS_lt hs9).2 (fun z => absurd z (by omega)))
      have hN9 := pN_mv (P' := PX Z ad2) hN9 (fun a h1 h2 => ⟨hC_at hC1 h2 (fun z => h1.2 z), h1.1⟩)
      have hN8 : pN (PX Z ad2) g H q2 (T.drop (c0 + 1)) := ⟨s2, fa2, ⟨fun j hj z => by have := hadq2 j hj; omega, hZb _ (by omega)⟩, f_q2, pS_mv (P' := PX Z ad2) hp2 (fun a h1 h2 => ⟨hC_at hC1 h2 (fun z => h1.2 z), h1.1⟩), sS_pS hf29 ⟨fun j hj z => by have := hadq2 j hj; omega, hZb _ (by omega)⟩ ⟨fun j hj z => by have := hadq2 j hj; omega, hZb _ (by omega)⟩⟩
      refine W.eq (g2 := F0 m 66 ls [.ref q2]) rfl ?_
      refine lv_astore (lv' := [(5, .ref q2), (4, .ref q1), (3, .int (nI c0)), (2, .ref sa), (0, .ref x), (1, .int who)]) hx hb d_X_move_66 hl (by decide) rfl (fun ls hl => ?_)
      refine lv_aload hx hb d_X_move_68 (lv_at hl 1 rfl) ?_
      refine aP (rV (As := []) (rest := []) C0 (c_N_isName l g _ q1 (T.take c0) (pN_isN hN9)) (zK_S hZ hS (cX_old hX0)) k_X_move_70 rfl rfl ⟨Nat.le_of_ble_eq_true rfl, Nat.le_of_ble_eq_true rfl⟩ (isN_recv hK (pN_isN hN9)) rfl hl.1 rfl (Nat.le_of_ble_eq_true rfl) d_X_move_70 ⟨by show 0 + 3 + 1 + 2 + 28 + 1 + 2 + 28 + 0 ≤ 67; omega, by show 0 + 72 + 2 + 38 + 880 + 2 + 38 + 880 + 0 ≤ 1926; omega⟩) ?_
      intro v hv; subst hv
      refine W.eq (g2 := F0 m 73 ls [.int (bI (nameS (T.take c0)))]) rfl ?_
      refine z_eq (tgt := 88) (v := nameS (T.take c0)) hx hb d_X_move_73 (by decide) (fun c73 => ?_) (fun c73 => ?_)
      · skip
        exact absurd hA1 (by rw [c73]; decide)
      · skip
        refine lv_aload hx hb d_X_move_76 (lv_at hl 0 rfl) ?_
        refine aP (rV (As := []) (rest := []) C0 (c_N_isName l g _ q2 (T.drop (c0 + 1)) (pN_isN hN8)) (zK_S hZ hS (cX_old hX0)) k_X_move_78 rfl rfl ⟨Nat.le_of_ble_eq_true rfl, Nat.le_of_ble_eq_true rfl⟩ (isN_recv hK (pN_isN hN8)) rfl hl.1 rfl (Nat.le_of_ble_eq_true rfl) d_X_move_78 ⟨by show 0 + 3 + 1 + 2 + 28 + 1 + 2 + 28 + 0 ≤ 67; omega, by show 0 + 72 + 2 + 38 + 880 + 2 + 38 + 880 + 0 ≤ 1926; omega⟩) ?_
        intro v hv; subst hv
        refine W.eq (g2 := F0 m 81 ls [.int (bI (nameS (T.drop (c0 + 1))))]) rfl ?_
        refine z_eq (tgt := 88) (v := nameS (T.drop (c0 + 1))) hx hb d_X_move_81 (by decide) (fun c81 => ?_) (fun c81 => ?_)
        · skip
          exact absurd hA3 (by rw [c81]; decide)
        · skip
          refine lv_iconst (v := bI true) hx hb d_X_move_84 (by decide) ?_
          refine lv_goto (tgt := 89) hx hb d_X_move_85 (by decide) ?_
          refine aP (rS (As := [.int (bI true)]) (rest := []) C0 (c_X_demandArguments l g _) (zK_S hZ hS (cX_old hX0)) k_X_move_89 rfl rfl ⟨Nat.le_of_ble_eq_true rfl, Nat.le_of_ble_eq_true rfl⟩ rfl hl.1 rfl (Nat.le_of_ble_eq_true rfl) d_X_move_89 ⟨by show 0 + 3 + 1 + 2 + 28 + 1 + 2 + 28 + 0 ≤ 67; omega, by show 0 + 72 + 2 + 38 + 880 + 2 + 38 + 880 + 0 ≤ 1926; omega⟩) ?_
          intro v hv; subst hv
          refine W.eq (g2 := F0 m 92 ls []) rfl ?_
          refine lv_aload_n hx hb d_X_move_92 rfl (lv_at hl 4 rfl) ?_
          refine va_get (D := g.1) (ci := 0) (C := R_X) (T := F_X) (N := 6) hx hb hts i_X hown hK.1 (cX_ob hX) 0 rfl rfl 1 (by decide) (hts (.fieldLink "RegistryLog" 19 "RegistryLog" "log" "LRegistryLog$Ledger;") (in_3 (List.mem_of_getElem? (i := 10) rfl) rfl)) (fun _ h9 => h9) rfl d_X_move_93 ?_
          refine lv_aload hx hb d_X_move_96 (lv_at hl 1 rfl) ?_
          refine aP (rV (As := [.ref q1]) (rest := []) C0 (c_L_originOf l g _ (ad2 2) q1 rows (T.take c0) (pL_isL (cX_log hX)) (pN_isN hN9)) (zK_S hZ hS (cX_old hX0)) k_X_move_98 rfl rfl ⟨Nat.le_of_ble_eq_true rfl, Nat.le_of_ble_eq_true rfl⟩ (isL_recv hK (pL_isL (cX_log hX))) rfl hl.1 rfl (Nat.le_of_ble_eq_true rfl) d_X_move_98 ⟨by show 0 + 3 + 1 + 2 + 28 + 1 + 2 + 28 + 0 ≤ 67; omega, by show 0 + 72 + 2 + 38 + 880 + 2 + 38 + 880 + 0 ≤ 1926; omega⟩) ?_
          intro v hv; subst hv
          refine W.eq (g2 := F0 m 101 ls [.int (oS (T.take c0) rows (-1))]) rfl ?_
          refine lv_topi (fun x_1 ex_1 => ?_)
          refine lv_istore (lv' := [(6, .int x_1), (5, .ref q2), (4, .ref q1), (3, .int (nI c0)), (2, .ref sa), (0, .ref x), (1, .int who)]) hx hb d_X_move_101 hl (by decide) rfl (fun ls hl => ?_)
          refine lv_iload_n hx hb d_X_move_103 rfl (lv_at hl 6 rfl) ?_
          refine lv_aload_n hx hb d_X_move_104 rfl (lv_at hl 5 rfl) ?_
          refine va_get (D := g.1) (ci := 0) (C := R_X) (T := F_X) (N := 6) hx hb hts i_X hown hK.1 (cX_ob hX) 0 rfl rfl 1 (by decide) (hts (.fieldLink "RegistryLog" 19 "RegistryLog" "log" "LRegistryLog$Ledger;") (in_3 (List.mem_of_getElem? (i := 10) rfl) rfl)) (fun _ h9 => h9) rfl d_X_move_105 ?_
          refine lv_iload hx hb d_X_move_108 (lv_at hl 0 rfl) ?_
          refine aP (rV (As := [.int x_1]) (rest := [.int who]) C0 (c_L_founderOf l g _ (ad2 2) rows x_1 (pL_isL (cX_log hX))) (zK_S hZ hS (cX_old hX0)) k_X_move_110 rfl rfl ⟨Nat.le_of_ble_eq_true rfl, Nat.le_of_ble_eq_true rfl⟩ (isL_recv hK (pL_isL (cX_log hX))) rfl hl.1 rfl (Nat.le_of_ble_eq_true rfl) d_X_move_110 ⟨by show 0 + 3 + 1 + 2 + 28 + 1 + 2 + 28 + 0 ≤ 67; omega, by show 0 + 72 + 2 + 38 + 880 + 2 + 38 + 880 + 0 ≤ 1926; omega⟩) ?_
          intro v hv; subst hv
          refine W.eq (g2 := F0 m 113 ls [.int (rp (atS rows x_1)), .int who]) rfl ?_
          refine lv_icmp_ne (tgt := 134) hx hb d_X_move_113 (by decide) (fun c113 => ?_) (fun c113 => ?_)
          · skip
            refine lv_iconst (v := bI false) hx hb d_X_move_134 (by decide) ?_
            have ho1 : oS (T.take c0) rows (-1) = x_1 := ex_1.symm
            have hmy : movC rows (T.take c0) (T.drop (c0 + 1)) who = false := by unfold movC; rw [ho1, decide_eq_false (p := who = rp (atS rows x_1)) c113, Bool.false_and]
            exact absurd hmay (by rw [hmy]; decide)
          · skip
            refine lv_aload_n hx hb d_X_move_116 rfl (lv_at hl 5 rfl) ?_
            refine va_get (D := g.1) (ci := 0) (C := R_X) (T := F_X) (N := 6) hx hb hts i_X hown hK.1 (cX_ob hX) 0 rfl rfl 1 (by decide) (hts (.fieldLink "RegistryLog" 19 "RegistryLog" "log" "LRegistryLog$Ledger;") (in_3 (List.mem_of_getElem? (i := 10) rfl) rfl)) (fun _ h9 => h9) rfl d_X_move_117 ?_
            refine lv_aload hx hb d_X_move_120 (lv_at hl 1 rfl) ?_
            refine lv_iload hx hb d_X_move_122 (lv_at hl 0 rfl) ?_
            refine aP (rV (As := [.ref q2, .int x_1]) (rest := []) C0 (c_L_isFree l g _ (ad2 2) q2 rows (T.drop (c0 + 1)) x_1 (pL_isL (cX_log hX)) (pN_isN hN8)) (zK_S hZ hS (cX_old hX0)) k_X_move_124 rfl rfl ⟨Nat.le_of_ble_eq_true rfl, Nat.le_of_ble_eq_true rfl⟩ (isL_recv hK (pL_isL (cX_log hX))) rfl hl.1 rfl (Nat.le_of_ble_eq_true rfl) d_X_move_124 ⟨by show 0 + 3 + 1 + 2 + 28 + 1 + 2 + 28 + 0 ≤ 67; omega, by show 0 + 72 + 2 + 38 + 880 + 2 + 38 + 880 + 0 ≤ 1926; omega⟩) ?_
            intro v hv; subst hv
            refine W.eq (g2 := F0 m 127 ls [.int (bI (freeS (T.drop (c0 + 1)) x_1 rows rows))]) rfl ?_
            refine z_eq (tgt := 134) (v := freeS (T.drop (c0 + 1)) x_1 rows rows) hx hb d_X_move_127 (by decide) (fun c127 => ?_) (fun c127 => ?_)
            · skip
              refine lv_iconst (v := bI false) hx hb d_X_move_134 (by decide) ?_
              have ho1 : oS (T.take c0) rows (-1) = x_1 := ex_1.symm
              have hmy : movC rows (T.take c0) (T.drop (c0 + 1)) who = false := by unfold movC; rw [ho1, c127, Bool.and_false]
              exact absurd hmay (by rw [hmy]; decide)
            · skip
              refine lv_iconst (v := bI true) hx hb d_X_move_130 (by decide) ?_
              refine lv_goto (tgt := 135) hx hb d_X_move_131 (by decide) ?_
              have ho1 : oS (T.take c0) rows (-1) = x_1 := ex_1.symm
              have hmy : movC rows (T.take c0) (T.drop (c0 + 1)) who = true := by unfold movC; rw [ho1, decide_eq_true (p := who = rp (atS rows x_1)) c113, c127]; rfl
              refine aP (rS (As := [.int (bI true)]) (rest := []) C0 (c_X_demandState l g _) (zK_S hZ hS (cX_old hX0)) k_X_move_135 rfl rfl ⟨Nat.le_of_ble_eq_true rfl, Nat.le_of_ble_eq_true rfl⟩ rfl hl.1 rfl (Nat.le_of_ble_eq_true rfl) d_X_move_135 ⟨by show 0 + 3 + 1 + 2 + 28 + 1 + 2 + 28 + 0 ≤ 67; omega, by show 0 + 72 + 2 + 38 + 880 + 2 + 38 + 880 + 0 ≤ 1926; omega⟩) ?_
              intro v hv; subst hv
              refine W.eq (g2 := F0 m 138 ls []) rfl ?_
              refine lv_aload_n hx hb d_X_move_138 rfl (lv_at hl 5 rfl) ?_
              have hadq3 : ∀ j, j < 16 → ad2 j < H.size := fun j hj => cX_lt hX hj
              obtain ⟨z3, hz3⟩ : ∃ z, z = H.size := ⟨_, rfl⟩
              rw [← hz3] at hadq3
              have hzs3 : s.heap.size ≤ z3 := by rw [hz3]; exact hS.1
              have hsl3 := sS_lt hs9
              rw [← hz3] at hsl3
              rw [ho1] at hog
              subst hog
              have hS0 := hS
              refine s_new (ci := 4) (C := R_R) (T := F_R) (N := 8) hx hb hts i_R t_R t_R_ok hown (hts _ (in_4 (List.mem_of_getElem? (i := 102) rfl) rfl)) (hts _ (in_2 (List.mem_of_getElem? (i := 166) rfl) rfl)) (hts _ (in_1 (List.mem_of_getElem? (i := 19) rfl) rfl)) hK hS rfl (fs := [.int 0, .int 0, .null, .null, .int 0, .int 0, .int 0, .long 0]) (by decide) (by show 0 + 3 + 1 + 2 + 28 + 1 + 2 + 28 + 1 ≤ 67; omega) (by show 0 + 72 + 2 + 38 + 880 + 2 + 38 + 880 + 8 ≤ 1926; omega) d_X_move_139 (fun q3 H hq f_q3 hz o1 hS => ?_)
              have hX := cX_mv hX (Z' := fun a => Z a ∧ a ≠ q3) (fun a h1 h2 => ⟨o1 a (by rw [hq]; exact h2), h1, by omega⟩)
              have hE := pS_mv hE (P' := fun a => PX Z ad2 a ∧ a ≠ q3) (fun a h1 h2 => ⟨o1 a (by rw [hq]; exact h2), h1, by omega⟩)
              have hs9 := sS_kept hs9 (o1 _ (by rw [hq]; exact (sS_lt hs9).1)) (o1 _ (by rw [hq]; exact (sS_lt hs9).2))
              have hN9 := pN_mv hN9 (P' := fun a => PX Z ad2 a ∧ a ≠ q3) (fun a h1 h2 => ⟨o1 a (by rw [hq]; exact h2), h1, by omega⟩)
              have hN8 := pN_mv hN8 (P' := fun a => PX Z ad2 a ∧ a ≠ q3) (fun a h1 h2 => ⟨o1 a (by rw [hq]; exact h2), h1, by omega⟩)
              have ge_q3 : s.heap.size ≤ q3 := by rw [hq]; exact hS0.1
              refine lv_dup hx hb d_X_move_142 rfl ?_
              refine lv_iconst (v := nI 3) hx hb d_X_move_143 (by decide) ?_
              refine lv_iload_n hx hb d_X_move_144 rfl (lv_at hl 6 rfl) ?_
              refine lv_aload hx hb d_X_move_145 (lv_at hl 2 rfl) ?_
              refine lv_aload hx hb d_X_move_147 (lv_at hl 1 rfl) ?_
              refine lv_iconst (v := (-1)) hx hb d_X_move_149 (by decide) ?_
              refine lv_iconst (v := nI 0) hx hb d_X_move_150 (by decide) ?_
              refine lv_iload hx hb d_X_move_151 (lv_at hl 0 rfl) ?_
              refine aW (N := (fun a => a = q3)) (rI (As := [.int (nI 3), .int who, .ref q1, .ref q2, .int ((-1)), .int (nI 0), .int x_1]) (rest := [.ref q3, .ref x]) C0 (c_R_init l g _ q3 q1 q2 (nI 3) who ((-1)) (nI 0) x_1 (T.take c0) (T.drop (c0 + 1)) f_q3 (by omega) (pN_P hN9 (fun a h1 _ => h1.2)) (pN_P hN8 (fun a h1 _ => h1.2))) (zK_S hZ hS (cX_old hX0)) k_X_move_153 rfl rfl ⟨Nat.le_of_ble_eq_true rfl, Nat.le_of_ble_eq_true rfl⟩ rfl hl.1 rfl (Nat.le_of_ble_eq_true rfl) d_X_move_153 ⟨by show 0 + 3 + 1 + 2 + 28 + 1 + 2 + 28 + 1 + 0 ≤ 67; omega, by show 0 + 72 + 2 + 38 + 880 + 2 + 38 + 880 + 8 + 0 ≤ 1926; omega⟩) (fun v H L hC1 hp hL => ?_)
              have hS0 := hS
              have hS := hS_call hS hC1 hL (fun a h => by rw [h]; exact Or.inr (by omega))
              obtain ⟨rfl, f_q3⟩ := hp
              have hX := cX_mv (Z' := Z) hX (fun a h1 h2 => ⟨hC_at hC1 h2 (fun z => h1.2 z), h1.1⟩)
              have hN9 := pN_mv (P' := PX Z ad2) hN9 (fun a h1 h2 => ⟨hC_at hC1 h2 (fun z => h1.2 z), h1.1⟩)
              have hN8 := pN_mv (P' := PX Z ad2) hN8 (fun a h1 h2 => ⟨hC_at hC1 h2 (fun z => h1.2 z), h1.1⟩)
              have hR1 : pR (PX Z ad2) g H q3 ((nI 3), who, (T.take c0), (T.drop (c0 + 1)), ((-1)), (nI 0), x_1) := ⟨q1, q2, ⟨fun j hj z => by have := hadq3 j hj; omega, hZb _ (by omega)⟩, f_q3, hN9, hN8⟩
              refine W.eq (g2 := F0 m 156 ls [.ref q3, .ref x]) rfl ?_
              refine rVX (As := [.ref q3]) (rest := []) C0 (x_X_write l g _ htr Z x ad2 ms nm nw rows mir [] f k q f2 k2 hX q3 hge) (zK_S hZ hS (cX_old hX0)) k_X_move_156 rfl rfl ⟨Nat.le_of_ble_eq_true rfl, Nat.le_of_ble_eq_true rfl⟩ (ob_recv hK (cX_ob hX) rfl) rfl hl.1 rfl (Nat.le_of_ble_eq_true rfl) d_X_move_156 ⟨by show 0 + 3 + 1 + 2 + 28 + 1 + 2 + 28 + 1 + 0 + 1 ≤ 67; omega, by show 0 + 72 + 2 + 38 + 880 + 2 + 38 + 880 + 8 + 0 + 6 ≤ 1926; omega⟩ (fun x9 H L st hW9 hq9 hL => ?_)
              obtain ⟨hx1, ⟨ce, hx2, hx3, hx4⟩, hC1, hp⟩ := hq9
              have hS1 := hS_call hS hC1 hL (fun a h => NX_U hv4 (by rw [← had2]; exact h))
              refine WX.widen (k := 67) (n := 1926) (by omega) (by omega) ?_
              refine WX.out hno ⟨Nat.le_trans hS.1 hx1, ⟨ce, hx2, hx3, by rw [← hW9.alike.findClass]; exact hx4⟩, hS_hC hS1, ⟨v2, by rw [← had2]; exact hp⟩⟩ hS1.2.2 hlk
    · skip
      exact absurd hA2 (by rw [c20]; decide)
