set_option maxHeartbeats 4000000 in
set_option maxRecDepth 100000 in
theorem c_L_atP (l : Launch) (g : gG) (H : Heap) (P : Nat → Prop) (a w : Nat) (rows : List Rw) (i : Int32) (h : pL P g H a w rows) : Met l y_L_at (wC y_L_at b_L_at 2 (some (.object "RegistryLog$Row"))) (rmk 0 0 0 0) (pC g H [.ref a, .int i]) (qP H (fun v => ∃ r, v = some (.ref r) ∧ pR P g H r (atS rows i))) 0 0 no_ := by
  refine mB (by decide) (Nat.le_of_ble_eq_true rfl) ?_
  intro p e s m below meth c ls C0 hH hZ hnm hl
  have C0 : cF g p s m _ meth c b_L_at 2 "RegistryLog$Ledger" (some (.object "RegistryLog$Row")) := C0
  obtain ⟨hx, hb, hml, hown, hts, hr, hlk, hK⟩ := id C0
  subst hH
  have hl : lv_has ls 2 [(0, .ref a), (1, .int i)] := hl
  obtain ⟨n, f, f0, f1, hn9, hlen, hrs⟩ := h
  refine lv_iload_n hx hb d_L_at_0 rfl (lv_at hl 1 rfl) ?_
  refine lv_if_lt (tgt := 21) hx hb d_L_at_1 (by decide) (fun c1 => ?_) (fun c1 => ?_)
  · skip
    refine lv_aload_n hx hb d_L_at_21 rfl (lv_at hl 0 rfl) ?_
    refine va_get (D := g.1) (ci := 1) (C := R_L) (T := F_L) (N := 3) hx hb hts i_L hown hK.1 f0 0 rfl rfl 1 (by decide) (hts (.fieldLink "RegistryLog$Ledger" 21 "RegistryLog$Ledger" "noRow" "LRegistryLog$Row;") (in_2 (List.mem_of_getElem? (i := 222) rfl) rfl)) (fun _ h9 => h9) rfl d_L_at_22 ?_
    exact W.aret hx hb hr (Or.inl ⟨_, rfl⟩) (Or.inr ⟨_, rfl⟩) (fun t9 ht hW => ⟨_, rfl, ⟨n, rfl, by rw [atS, if_neg (fun z => absurd z.1 (Int32.not_le.mpr c1))]; exact hn9⟩, ht⟩) (fun q h => by cases h) d_L_at_25 hlk
  · skip
    refine lv_iload_n hx hb d_L_at_4 rfl (lv_at hl 1 rfl) ?_
    refine lv_aload_n hx hb d_L_at_5 rfl (lv_at hl 0 rfl) ?_
    refine va_get (D := g.1) (ci := 1) (C := R_L) (T := F_L) (N := 3) hx hb hts i_L hown hK.1 f0 0 rfl rfl 2 (by decide) (hts (.fieldLink "RegistryLog$Ledger" 31 "RegistryLog$Ledger" "count" "I") (in_2 (List.mem_of_getElem? (i := 223) rfl) rfl)) (fun _ h9 => h9) rfl d_L_at_6 ?_
    refine lv_icmp_ge (tgt := 21) hx hb d_L_at_9 (by decide) (fun c9 => ?_) (fun c9 => ?_)
    · skip
      refine lv_aload_n hx hb d_L_at_21 rfl (lv_at hl 0 rfl) ?_
      refine va_get (D := g.1) (ci := 1) (C := R_L) (T := F_L) (N := 3) hx hb hts i_L hown hK.1 f0 0 rfl rfl 1 (by decide) (hts (.fieldLink "RegistryLog$Ledger" 21 "RegistryLog$Ledger" "noRow" "LRegistryLog$Row;") (in_2 (List.mem_of_getElem? (i := 222) rfl) rfl)) (fun _ h9 => h9) rfl d_L_at_22 ?_
      exact W.aret hx hb hr (Or.inl ⟨_, rfl⟩) (Or.inr ⟨_, rfl⟩) (fun t9 ht hW => ⟨_, rfl, ⟨n, rfl, by rw [atS, if_neg (fun z => absurd z.2 (Int32.not_lt.mpr c9))]; exact hn9⟩, ht⟩) (fun q h => by cases h) d_L_at_25 hlk
    · skip
      refine lv_aload_n hx hb d_L_at_12 rfl (lv_at hl 0 rfl) ?_
      refine va_get (D := g.1) (ci := 1) (C := R_L) (T := F_L) (N := 3) hx hb hts i_L hown hK.1 f0 0 rfl rfl 0 (by decide) (hts (.fieldLink "RegistryLog$Ledger" 27 "RegistryLog$Ledger" "written" "[LRegistryLog$Row;") (in_2 (List.mem_of_getElem? (i := 221) rfl) rfl)) (fun _ h9 => h9) rfl d_L_at_13 ?_
      refine lv_iload_n hx hb d_L_at_16 rfl (lv_at hl 1 rfl) ?_
      have hin : 0 ≤ i ∧ i < nI rows.length := ⟨Int32.not_lt.mp c1, Int32.not_le.mp c9⟩
      obtain ⟨k, hk, ek⟩ : ∃ k : Nat, k < rows.length ∧ i = nI k := by
        obtain ⟨k, h1, h2⟩ := nI_of c1
        subst h2
        exact ⟨k, (nI_ltI h1 (by omega)).mp hin.2, rfl⟩
      subst ek
      obtain ⟨r, hf, hr9⟩ := hrs k hk
      refine va_aldq (D := g.1) hx hb hK.1 f1 0 2 rfl rfl (vp_in_nI (by omega) (by omega)) d_L_at_17 ?_
      rw [nI_clamp (by omega), hf]
      refine W.eq (g2 := F0 m 18 ls [.ref r]) rfl ?_
      refine lv_goto (tgt := 25) hx hb d_L_at_18 (by decide) ?_
      exact W.aret hx hb hr (Or.inl ⟨_, rfl⟩) (Or.inr ⟨_, rfl⟩) (fun t9 ht hW => ⟨_, rfl, ⟨r, rfl, by rw [atS_in hk hlen]; exact hr9⟩, ht⟩) (fun q h => by cases h) d_L_at_25 hlk
theorem k_X_takeText_4 : kV "RegistryLog" 224 "java/lang/StringBuilder" y_B_toString b_B_toString 1 (some (.object "java/lang/String")) 0 := ⟨(in_3 (List.mem_of_getElem? (i := 207) rfl) rfl), (in_1 (List.mem_of_getElem? (i := 208) rfl) rfl), (in_1 (List.mem_of_getElem? (i := 209) rfl) rfl), (in_1 (List.mem_of_getElem? (i := 3) rfl) rfl), (in_1 (List.mem_of_getElem? (i := 210) rfl) rfl), ⟨by decide, by decide, by decide +kernel⟩⟩
theorem k_X_takeText_13 : kV "RegistryLog" 227 "java/lang/StringBuilder" y_B_setLength b_B_setLength 2 none 1 := ⟨(in_3 (List.mem_of_getElem? (i := 208) rfl) rfl), (in_3 (List.mem_of_getElem? (i := 209) rfl) rfl), (in_3 (List.mem_of_getElem? (i := 210) rfl) rfl), (in_1 (List.mem_of_getElem? (i := 3) rfl) rfl), (in_3 (List.mem_of_getElem? (i := 211) rfl) rfl), ⟨by decide, by decide, by decide +kernel⟩⟩
set_option maxHeartbeats 4000000 in
set_option maxRecDepth 100000 in
/-- takeText -/
theorem c_X_takeText (l : Launch) (g : gG) (H : Heap) (Z : Nat → Prop) (x : Nat) (ad : Nat → Nat) (ms nm nw : Nat) (rows : List Rw) (mir : Nat → List Rw) (T : List Nat) (f : Nat → Int64) (k q : Nat) (f2 : Nat → Int64) (k2 : Nat) (hX : cX Z g H x ad ms nm nw rows mir T f k q f2 k2 0) (hsz : g.2.2.1 ≤ H.size) (hZb : ∀ a, H.size ≤ a → Z a) : Met l y_X_takeText (wC y_X_takeText b_X_takeText 2 (some (.object "java/lang/String"))) (rmk 6 3 72 133) (pC g H [.ref x]) (qW H (NX ad) (fun r H1 => ∃ sa w9 v2, H.size ≤ sa ∧ H.size ≤ w9 ∧ r = some (.ref sa) ∧ sS g H1 sa w9 T ∧ cX Z g H1 x (adU ad v2) ms nm nw rows mir ([]) f k q f2 k2 0 ∧ (v2 = ad 1 ∨ H.size ≤ v2) ∧ sa ≠ v2 ∧ w9 ≠ v2)) 3 72 (fW H (NX ad)) := by
  refine mB (by decide) (Nat.le_of_ble_eq_true rfl) ?_
  intro p e s m below meth c ls C0 hH hZ hnm hl
  have C0 : cF g p s m _ meth c b_X_takeText 2 "RegistryLog" (some (.object "java/lang/String")) := C0
  obtain ⟨hx, hb, hml, hown, hts, hr, hlk, hK⟩ := id C0
  subst hH
  have hl : lv_has ls 2 [(0, .ref x)] := hl
  have hS : va_S (fW s.heap (NX ad)) s.heap s.heap [] := hS_rf
  have hX0 := hX
  have ad0 := cX_lt hX0 (j := 0) (by decide)
  have ad1 := cX_lt hX0 (j := 1) (by decide)
  refine lv_aload_n hx hb d_X_takeText_0 rfl (lv_at hl 0 rfl) ?_
  refine va_get (D := g.1) (ci := 0) (C := R_X) (T := F_X) (N := 6) hx hb hts i_X hown hK.1 (cX_ob hX) 0 rfl rfl 0 (by decide) (hts (.fieldLink "RegistryLog" 10 "RegistryLog" "text" "Ljava/lang/StringBuilder;") (in_3 (List.mem_of_getElem? (i := 9) rfl) rfl)) (fun _ h9 => h9) rfl d_X_takeText_1 ?_
  refine aW (N := no_) (rV (As := []) (rest := []) C0 (c_B_toString l g _ (ad 0) (ad 1) T (cX_9 hX (by decide)) (cX_sb hX)) (zK_S hZ hS (cX_old hX0)) k_X_takeText_4 rfl rfl ⟨Nat.le_of_ble_eq_true rfl, Nat.le_of_ble_eq_true rfl⟩ (by obtain ⟨_, _, _, z0, _⟩ := id (cX_sb hX); exact ob_recv hK z0 rfl) rfl hl.1 rfl (Nat.le_of_ble_eq_true rfl) d_X_takeText_4 ⟨by show 0 + 2 ≤ 3; omega, by show 0 + 38 ≤ 72; omega⟩) (fun v H L hC1 hp hL => ?_)
  have hS0 := hS
  have hS := hS_call hS hC1 hL (fun q h => h.elim)
  obtain ⟨sa, w9, hsa, hw9, rfl, hs9⟩ := hp
  have hX := cX_new hX hC1
  have hsl := sS_lt hs9
  refine W.eq (g2 := F0 m 7 ls [.ref sa]) rfl ?_
  refine lv_astore_n (lv' := [(1, .ref sa), (0, .ref x)]) hx hb d_X_takeText_7 rfl hl (by decide) rfl (fun ls hl => ?_)
  refine lv_aload_n hx hb d_X_takeText_8 rfl (lv_at hl 1 rfl) ?_
  refine va_get (D := g.1) (ci := 0) (C := R_X) (T := F_X) (N := 6) hx hb hts i_X hown hK.1 (cX_ob hX) 0 rfl rfl 0 (by decide) (hts (.fieldLink "RegistryLog" 10 "RegistryLog" "text" "Ljava/lang/StringBuilder;") (in_3 (List.mem_of_getElem? (i := 9) rfl) rfl)) (fun _ h9 => h9) rfl d_X_takeText_9 ?_
  refine lv_iconst (v := nI 0) hx hb d_X_takeText_12 (by decide) ?_
  refine aW (N := (fun a => a = ad 0)) (rV (As := [.int (nI 0)]) (rest := []) C0 (c_B_setLength l g _ (ad 0) (ad 1) T (cX_9 hX (by decide)) (cX_ne hX (by decide) (by decide) (by decide)) (cX_sb hX)) (zK_S hZ hS (cX_old hX0)) k_X_takeText_13 rfl rfl ⟨Nat.le_of_ble_eq_true rfl, Nat.le_of_ble_eq_true rfl⟩ (by obtain ⟨_, _, _, z0, _⟩ := id (cX_sb hX); exact ob_recv hK z0 rfl) rfl hl.1 rfl (Nat.le_of_ble_eq_true rfl) d_X_takeText_13 ⟨by show 0 + 2 + 1 ≤ 3; omega, by show 0 + 38 + 34 ≤ 72; omega⟩) (fun v H L hC1 hp hL => ?_)
  have hS0 := hS
  have hS := hS_call hS hC1 hL (fun a h => Or.inl ⟨0, by decide, h⟩)
  obtain ⟨rfl, v2, hB2, hv2⟩ := hp
  have hs9 := sS_kept hs9 (hC_at hC1 hsl.1 (fun z => absurd z (by omega))) (hC_at hC1 hsl.2 (fun z => absurd z (by omega)))
  have hX := cX_setT hX (fun a h1 h2 => hC_at hC1 h1 (fun z => h2 (Or.inl z))) hv2 (fun a h => hZb a (Nat.le_trans hS0.1 h)) (Nat.le_trans hsz hS0.1) hB2 ⟨Nat.zero_le _, nil_c⟩
  have hv3 : sa ≠ v2 ∧ w9 ≠ v2 := hv2.elim (fun z => by omega) (fun z => by omega)
  have hv4 : v2 = ad 1 ∨ s.heap.size ≤ v2 := hv2.imp id (fun z => Nat.le_trans hS0.1 z)
  refine W.eq (g2 := F0 m 16 ls []) rfl ?_
  refine lv_aload_n hx hb d_X_takeText_16 rfl (lv_at hl 0 rfl) ?_
  refine W.widen (k := 3) (n := 72) (by omega) (by omega) ?_
  exact W.aret hx hb hr (Or.inl ⟨_, rfl⟩) (Or.inr ⟨_, rfl⟩) (fun t9 ht hW => ⟨_, rfl, by rw [ht]; exact hS_hC hS, by rw [ht]; exact ⟨sa, w9, v2, hsa, hw9, rfl, hs9, hX, hv4, hv3.1, hv3.2⟩⟩) hS.2.2 d_X_takeText_17 hlk
theorem k_X_takeName_5 : kV "RegistryLog" 111 "RegistryLog" y_X_takeText b_X_takeText 2 (some (.object "java/lang/String")) 0 := ⟨(in_3 (List.mem_of_getElem? (i := 203) rfl) rfl), (in_3 (List.mem_of_getElem? (i := 205) rfl) rfl), (in_0 (List.mem_of_getElem? (i := 4) rfl) rfl), (in_1 (List.mem_of_getElem? (i := 1) rfl) rfl), (in_3 (List.mem_of_getElem? (i := 206) rfl) rfl), ⟨by decide, by decide, by decide +kernel⟩⟩
theorem k_X_takeName_8 : kI "RegistryLog" 131 y_N_init b_N_init 2 1 := ⟨(in_3 (List.mem_of_getElem? (i := 231) rfl) rfl), (in_1 (List.mem_of_getElem? (i := 77) rfl) rfl), (in_1 (List.mem_of_getElem? (i := 7) rfl) rfl), (in_1 (List.mem_of_getElem? (i := 78) rfl) rfl), rfl, ⟨by decide, by decide, by decide +kernel⟩⟩
set_option maxHeartbeats 4000000 in
set_option maxRecDepth 100000 in
/-- takeName -/
theorem c_X_takeName (l : Launch) (g : gG) (H : Heap) (Z : Nat → Prop) (x : Nat) (ad : Nat → Nat) (ms nm nw : Nat) (rows : List Rw) (mir : Nat → List Rw) (T : List Nat) (f : Nat → Int64) (k q : Nat) (f2 : Nat → Int64) (k2 : Nat) (hX : cX Z g H x ad ms nm nw rows mir T f k q f2 k2 0) (hsz : g.2.2.1 ≤ H.size) (hZb : ∀ a, H.size ≤ a → Z a) : Met l y_X_takeName (wC y_X_takeName b_X_takeName 1 (some (.object "RegistryLog$Name"))) (rmk 8 32 954 177) (pC g H [.ref x]) (qW H (NX ad) (fun r H1 => ∃ na v2, r = some (.ref na) ∧ H.size ≤ na ∧ pN (PX Z (adU ad v2)) g H1 na T ∧ cX Z g H1 x (adU ad v2) ms nm nw rows mir ([]) f k q f2 k2 0 ∧ (v2 = ad 1 ∨ H.size ≤ v2))) 32 954 (fW H (NX ad)) := by
  refine mB (by decide) (Nat.le_of_ble_eq_true rfl) ?_
  intro p e s m below meth c ls C0 hH hZ hnm hl
  have C0 : cF g p s m _ meth c b_X_takeName 1 "RegistryLog" (some (.object "RegistryLog$Name")) := C0
  obtain ⟨hx, hb, hml, hown, hts, hr, hlk, hK⟩ := id C0
  subst hH
  have hl : lv_has ls 1 [(0, .ref x)] := hl
  have hS : va_S (fW s.heap (NX ad)) s.heap s.heap [] := hS_rf
  have hX0 := hX
  have ad0 := cX_lt hX0 (j := 0) (by decide)
  have ad1 := cX_lt hX0 (j := 1) (by decide)
  have hS0 := hS
  refine s_new (ci := 2) (C := R_N) (T := F_N) (N := 2) hx hb hts i_N t_N t_N_ok hown (hts _ (in_3 (List.mem_of_getElem? (i := 202) rfl) rfl)) (hts _ (in_1 (List.mem_of_getElem? (i := 74) rfl) rfl)) (hts _ (in_1 (List.mem_of_getElem? (i := 7) rfl) rfl)) hK hS rfl (fs := [.null, .null]) (by decide) (by show 0 + 1 ≤ 32; omega) (by show 0 + 2 ≤ 954; omega) d_X_takeName_0 (fun q1 H hq f_q1 hz o1 hS => ?_)
  have hX := cX_mv hX (Z' := fun a => Z a ∧ a ≠ q1) (fun a h1 h2 => ⟨o1 a (by rw [hq]; exact h2), h1, by omega⟩)
  have ge_q1 : s.heap.size ≤ q1 := by rw [hq]; exact hS0.1
  refine lv_dup hx hb d_X_takeName_3 rfl ?_
  refine lv_aload_n hx hb d_X_takeName_4 rfl (lv_at hl 0 rfl) ?_
  have hq1l := ob_lt f_q1
  refine aW (N := (NX ad)) (rV (As := []) (rest := [.ref q1, .ref q1]) C0 (c_X_takeText l g _ (fun a => Z a ∧ a ≠ q1) x ad ms nm nw rows mir T f k q f2 k2 hX (Nat.le_trans hsz hS.1) (fun a h => ⟨hZb a (Nat.le_trans hS.1 h), by omega⟩)) (zK_S hZ hS (cX_old hX0)) k_X_takeName_5 rfl rfl ⟨Nat.le_of_ble_eq_true rfl, Nat.le_of_ble_eq_true rfl⟩ (ob_recv hK (cX_ob hX) rfl) rfl hl.1 rfl (Nat.le_of_ble_eq_true rfl) d_X_takeName_5 ⟨by show 0 + 1 + 3 ≤ 32; omega, by show 0 + 2 + 72 ≤ 954; omega⟩) (fun v H L hC1 hp hL => ?_)
  have hS0 := hS
  have hS := hS_call hS hC1 hL (fun a h => Or.inl h)
  have f_q1 := ob_kept f_q1 (hC_at hC1 (ob_lt f_q1) (fun z => by obtain ⟨j, hj, z2⟩ := z; have := cX_lt hX0 hj; omega))
  obtain ⟨sa, w9, v2, hsa, hw9, rfl, hs9, hX, hv4, hv5, hv6⟩ := hp
  have hsl := sS_lt hs9
  have hv4 : v2 = ad 1 ∨ q1 < v2 := hv4.imp id (fun z => by omega)
  have hqv : q1 ≠ v2 := hv4.elim (fun z => by omega) (fun z => by omega)
  have hv2l := (sB_b (cX_sb hX)).2
  rw [adU_1] at hv2l
  refine W.eq (g2 := F0 m 8 ls [.ref sa, .ref q1, .ref q1]) rfl ?_
  refine aW (N := (fun a => a = q1)) (rI (As := [.ref sa]) (rest := [.ref q1]) C0 (c_N_init l g _ q1 sa w9 T (Nat.le_trans hsz hS.1) (by omega) f_q1 hs9.1 (sS_bA hs9) (by omega) (by omega) (cX_T hX0).1 (cX_T hX0).2) (zK_S hZ hS (cX_old hX0)) k_X_takeName_8 rfl rfl ⟨Nat.le_of_ble_eq_true rfl, Nat.le_of_ble_eq_true rfl⟩ rfl hl.1 rfl (Nat.le_of_ble_eq_true rfl) d_X_takeName_8 ⟨by show 0 + 1 + 3 + 28 ≤ 32; omega, by show 0 + 2 + 72 + 880 ≤ 954; omega⟩) (fun v H L hC1 hp hL => ?_)
  have hS0 := hS
  have hS := hS_call hS hC1 hL (fun a h => by rw [h]; exact Or.inr ge_q1)
  obtain ⟨rfl, fa, fw, hfa, hfw, f_q1, hf9⟩ := hp
  have hs9 := sS_kept hs9 (hC_at hC1 hsl.1 (fun z => absurd z (by omega))) (hC_at hC1 hsl.2 (fun z => absurd z (by omega)))
  have hX := cX_mv (Z' := Z) hX (fun a h1 h2 => ⟨hC_at hC1 h2 (fun z => h1.2 z), h1.1⟩)
  have hN9 : pN (PX Z (adU ad v2)) g H q1 T := ⟨sa, fa, PX_new hX0 (by omega) hqv (hZb _ (by omega)), f_q1, sS_pS hs9 (PX_new hX0 (by omega) hv5 (hZb _ (by omega))) (PX_new hX0 (by omega) hv6 (hZb _ (by omega))), sS_pS hf9 (PX_new hX0 (by omega) (by omega) (hZb _ (by omega))) (PX_new hX0 (by omega) (by omega) (hZb _ (by omega)))⟩
  refine W.eq (g2 := F0 m 11 ls [.ref q1]) rfl ?_
  refine W.widen (k := 32) (n := 954) (by omega) (by omega) ?_
  exact W.aret hx hb hr (Or.inl ⟨_, rfl⟩) (Or.inr ⟨_, rfl⟩) (fun t9 ht hW => ⟨_, rfl, by rw [ht]; exact hS_hC hS, by rw [ht]; exact ⟨q1, v2, rfl, ge_q1, hN9, hX, hv4.imp id (fun z => by omega)⟩⟩) hS.2.2 d_X_takeName_11 hlk
theorem ap_c {t : List Nat} {x : Nat} (h : ∀ c, t.getD c 0 < 128) (hx : x < 128) : ∀ c, (t ++ [x]).getD c 0 < 128 := fun c => by
  rcases Nat.lt_trichotomy c t.length with q | q | q
  · rw [getD_ap q]; exact h c
  · rw [q, getD_ap2]; exact hx
  · rw [List.getD_eq_getElem?_getD, List.getElem?_eq_none (by rw [List.length_append]; exact q)]; exact (by decide)
theorem k_X_type_16 : kV "RegistryLog" 40 "java/lang/StringBuilder" y_B_length b_B_length 1 (some .int) 0 := ⟨(in_3 (List.mem_of_getElem? (i := 32) rfl) rfl), (in_1 (List.mem_of_getElem? (i := 229) rfl) rfl), (in_6 (List.mem_of_getElem? (i := 87) rfl) rfl), (in_1 (List.mem_of_getElem? (i := 3) rfl) rfl), (in_1 (List.mem_of_getElem? (i := 230) rfl) rfl), ⟨by decide, by decide, by decide +kernel⟩⟩
theorem k_X_type_31 : kV "RegistryLog" 44 "java/lang/StringBuilder" y_B_append2 b_B_append2 2 (some (.object "java/lang/StringBuilder")) 1 := ⟨(in_3 (List.mem_of_getElem? (i := 33) rfl) rfl), (in_1 (List.mem_of_getElem? (i := 133) rfl) rfl), (in_1 (List.mem_of_getElem? (i := 134) rfl) rfl), (in_1 (List.mem_of_getElem? (i := 3) rfl) rfl), (in_1 (List.mem_of_getElem? (i := 135) rfl) rfl), ⟨by decide, by decide, by decide +kernel⟩⟩
set_option maxHeartbeats 4000000 in
set_option maxRecDepth 100000 in
/-- type -/
theorem c_X_type (l : Launch) (g : gG) (H : Heap) (Z : Nat → Prop) (x : Nat) (ad : Nat → Nat) (ms nm nw : Nat) (rows : List Rw) (mir : Nat → List Rw) (T : List Nat) (f : Nat → Int64) (k q : Nat) (f2 : Nat → Int64) (k2 : Nat) (hX : cX Z g H x ad ms nm nw rows mir T f k q f2 k2 0) (hsz : g.2.2.1 ≤ H.size) (hZb : ∀ a, H.size ≤ a → Z a) (cc : Nat) (hcc : cc < 65536) : Met l y_X_type (wC y_X_type b_X_type 2 (some .boolean)) (rmk 6 1 34 133) (pC g H [.ref x, .int (nI cc)]) (qW H (NX ad) (fun r H1 => ∃ v2, r = some (.int (bI (decide (32 ≤ cc ∧ cc ≤ 126 ∧ T.length < 24)))) ∧ cX Z g H1 x (adU ad v2) ms nm nw rows mir (if (decide (32 ≤ cc ∧ cc ≤ 126 ∧ T.length < 24)) = true then T ++ [cc] else T) f k q f2 k2 0)) 1 34 (fW H (NX ad)) := by
  refine mB (by decide) (Nat.le_of_ble_eq_true rfl) ?_
  intro p e s m below meth c ls C0 hH hZ hnm hl
  have C0 : cF g p s m _ meth c b_X_type 2 "RegistryLog" (some .boolean) := C0
  obtain ⟨hx, hb, hml, hown, hts, hr, hlk, hK⟩ := id C0
  subst hH
  have hl : lv_has ls 2 [(0, .ref x), (1, .int (nI cc))] := hl
  have hS : va_S (fW s.heap (NX ad)) s.heap s.heap [] := hS_rf
  have hX0 := hX
  have hT24 := (cX_T hX).1
  refine lv_iload_n hx hb d_X_type_0 rfl (lv_at hl 1 rfl) ?_
  refine lv_bipush (v := nI 32) hx hb d_X_type_1 (by decide) ?_
  refine n_lt (tgt := 24) (a := cc) (b := 32) hx hb d_X_type_3 (by decide) (by omega) (by omega) (fun c3 => ?_) (fun c3 => ?_)
  · skip
    refine lv_iconst (v := nI 0) hx hb d_X_type_24 (by decide) ?_
    refine W.widen (k := 1) (n := 34) (by omega) (by omega) ?_
    exact W.zret hx hb hr rfl (fun t9 ht hW => ⟨_, rfl, by rw [ht]; exact hS_hC hS, by rw [ht]; exact by (try dsimp only); rw [decide_eq_false (fun z => by omega)]; exact ⟨ad 1, rfl, by rw [adU_id]; exact hX⟩⟩) hS.2.2 d_X_type_25 hlk
  · skip
    refine lv_iload_n hx hb d_X_type_6 rfl (lv_at hl 1 rfl) ?_
    refine lv_bipush (v := nI 126) hx hb d_X_type_7 (by decide) ?_
    refine n_gt (tgt := 24) (a := cc) (b := 126) hx hb d_X_type_9 (by decide) (by omega) (by omega) (fun c9 => ?_) (fun c9 => ?_)
    · skip
      refine lv_iconst (v := nI 0) hx hb d_X_type_24 (by decide) ?_
      refine W.widen (k := 1) (n := 34) (by omega) (by omega) ?_
      exact W.zret hx hb hr rfl (fun t9 ht hW => ⟨_, rfl, by rw [ht]; exact hS_hC hS, by rw [ht]; exact by (try dsimp only); rw [decide_eq_false (fun z => by omega)]; exact ⟨ad 1, rfl, by rw [adU_id]; exact hX⟩⟩) hS.2.2 d_X_type_25 hlk
    · skip
      refine lv_aload_n hx hb d_X_type_12 rfl (lv_at hl 0 rfl) ?_
      refine va_get (D := g.1) (ci := 0) (C := R_X) (T := F_X) (N := 6) hx hb hts i_X hown hK.1 (cX_ob hX) 0 rfl rfl 0 (by decide) (hts (.fieldLink "RegistryLog" 10 "RegistryLog" "text" "Ljava/lang/StringBuilder;") (in_3 (List.mem_of_getElem? (i := 9) rfl) rfl)) (fun _ h9 => h9) rfl d_X_type_13 ?_
      obtain ⟨mb9, cap9, fb9, sb0, -⟩ := id (cX_sb hX)
      refine aP (rV (As := []) (rest := []) C0 (c_B_length l g _ (ad 0) (ad 1) T.length (bI mb9) sb0) (zK_S hZ hS (cX_old hX0)) k_X_type_16 rfl rfl ⟨Nat.le_of_ble_eq_true rfl, Nat.le_of_ble_eq_true rfl⟩ (ob_recv hK sb0 rfl) rfl hl.1 rfl (Nat.le_of_ble_eq_true rfl) d_X_type_16 ⟨by show 0 + 0 ≤ 1; omega, by show 0 + 0 ≤ 34; omega⟩) ?_
      intro v hv; subst hv
      refine W.eq (g2 := F0 m 19 ls [.int (nI T.length)]) rfl ?_
      refine lv_bipush (v := nI 24) hx hb d_X_type_19 (by decide) ?_
      refine n_lt (tgt := 26) (a := T.length) (b := 24) hx hb d_X_type_21 (by decide) (by omega) (by omega) (fun c21 => ?_) (fun c21 => ?_)
      · skip
        refine lv_aload_n hx hb d_X_type_26 rfl (lv_at hl 0 rfl) ?_
        refine va_get (D := g.1) (ci := 0) (C := R_X) (T := F_X) (N := 6) hx hb hts i_X hown hK.1 (cX_ob hX) 0 rfl rfl 0 (by decide) (hts (.fieldLink "RegistryLog" 10 "RegistryLog" "text" "Ljava/lang/StringBuilder;") (in_3 (List.mem_of_getElem? (i := 9) rfl) rfl)) (fun _ h9 => h9) rfl d_X_type_27 ?_
        refine lv_iload_n hx hb d_X_type_30 rfl (lv_at hl 1 rfl) ?_
        refine aW (N := (fun a => a = ad 0 ∨ a = ad 1)) (rV (As := [.int (nI cc)]) (rest := []) C0 (c_B_append2 l g _ (ad 0) (ad 1) cc T (cX_9 hX (by decide)) (cX_9 hX (by decide)) (cX_ne hX (by decide) (by decide) (by decide)) (cX_sb hX) (by omega) (by omega)) (zK_S hZ hS (cX_old hX0)) k_X_type_31 rfl rfl ⟨Nat.le_of_ble_eq_true rfl, Nat.le_of_ble_eq_true rfl⟩ (ob_recv hK sb0 rfl) rfl hl.1 rfl (Nat.le_of_ble_eq_true rfl) d_X_type_31 ⟨by show 0 + 1 ≤ 1; omega, by show 0 + 34 ≤ 34; omega⟩) (fun v H L hC1 hp hL => ?_)
        have hS0 := hS
        have hS := hS_call hS hC1 hL (fun a h => Or.inl (h.elim (fun z => ⟨0, by decide, z⟩) (fun z => ⟨1, by decide, z⟩)))
        obtain ⟨rfl, v2, hB2, hv2⟩ := hp
        have hX := cX_setT hX (fun a h1 h2 => hC_at hC1 h1 h2) hv2 hZb hsz hB2 ⟨by rw [List.length_append]; exact c21, ap_c (cX_T hX).2 (by omega)⟩
        refine W.eq (g2 := F0 m 34 ls [.ref ((ad 0))]) rfl ?_
        refine lv_pop hx hb d_X_type_34 rfl ?_
        refine lv_iconst (v := nI 1) hx hb d_X_type_35 (by decide) ?_
        refine W.widen (k := 1) (n := 34) (by omega) (by omega) ?_
        exact W.zret hx hb hr rfl (fun t9 ht hW => ⟨_, rfl, by rw [ht]; exact hS_hC hS, by rw [ht]; exact by (try dsimp only); rw [decide_eq_true ⟨by omega, by omega, by omega⟩]; exact ⟨v2, rfl, hX⟩⟩) hS.2.2 d_X_type_36 hlk
      · skip
        refine lv_iconst (v := nI 0) hx hb d_X_type_24 (by decide) ?_
        refine W.widen (k := 1) (n := 34) (by omega) (by omega) ?_
        exact W.zret hx hb hr rfl (fun t9 ht hW => ⟨_, rfl, by rw [ht]; exact hS_hC hS, by rw [ht]; exact by (try dsimp only); rw [decide_eq_false (fun z => by omega)]; exact ⟨ad 1, rfl, by rw [adU_id]; exact hX⟩⟩) hS.2.2 d_X_type_25 hlk
theorem k_X_founder_2 : kV "RegistryLog" 221 "RegistryLog" y_X_ledgerOf b_X_ledgerOf 2 (some (.object "RegistryLog$Ledger")) 1 := ⟨(in_3 (List.mem_of_getElem? (i := 194) rfl) rfl), (in_3 (List.mem_of_getElem? (i := 196) rfl) rfl), (in_0 (List.mem_of_getElem? (i := 2) rfl) rfl), (in_1 (List.mem_of_getElem? (i := 1) rfl) rfl), (in_3 (List.mem_of_getElem? (i := 197) rfl) rfl), ⟨by decide, by decide, by decide +kernel⟩⟩
theorem k_X_founder_9 : kV "RegistryLog" 48 "RegistryLog" y_X_takeName b_X_takeName 1 (some (.object "RegistryLog$Name")) 0 := ⟨(in_3 (List.mem_of_getElem? (i := 198) rfl) rfl), (in_3 (List.mem_of_getElem? (i := 200) rfl) rfl), (in_0 (List.mem_of_getElem? (i := 3) rfl) rfl), (in_1 (List.mem_of_getElem? (i := 1) rfl) rfl), (in_3 (List.mem_of_getElem? (i := 201) rfl) rfl), ⟨by decide, by decide, by decide +kernel⟩⟩
theorem k_X_founder_12 : kV "RegistryLog" 69 "RegistryLog$Ledger" y_L_originOf b_L_originOf 5 (some .int) 1 := ⟨(in_3 (List.mem_of_getElem? (i := 232) rfl) rfl), (in_3 (List.mem_of_getElem? (i := 233) rfl) rfl), (in_3 (List.mem_of_getElem? (i := 234) rfl) rfl), (in_1 (List.mem_of_getElem? (i := 6) rfl) rfl), (in_3 (List.mem_of_getElem? (i := 235) rfl) rfl), ⟨by decide, by decide, by decide +kernel⟩⟩
theorem k_X_founder_15 : kV "RegistryLog" 107 "RegistryLog$Ledger" y_L_founderOf b_L_founderOf 2 (some .int) 1 := ⟨(in_4 (List.mem_of_getElem? (i := 9) rfl) rfl), (in_4 (List.mem_of_getElem? (i := 10) rfl) rfl), (in_4 (List.mem_of_getElem? (i := 11) rfl) rfl), (in_1 (List.mem_of_getElem? (i := 6) rfl) rfl), (in_4 (List.mem_of_getElem? (i := 12) rfl) rfl), ⟨by decide, by decide, by decide +kernel⟩⟩
set_option maxHeartbeats 4000000 in
set_option maxRecDepth 100000 in
/-- founder -/
theorem c_X_founder (l : Launch) (g : gG) (H : Heap) (Z : Nat → Prop) (x : Nat) (ad : Nat → Nat) (ms nm nw : Nat) (rows : List Rw) (mir : Nat → List Rw) (T : List Nat) (f : Nat → Int64) (k q : Nat) (f2 : Nat → Int64) (k2 : Nat) (hX : cX Z g H x ad ms nm nw rows mir T f k q f2 k2 0) (hsz : g.2.2.1 ≤ H.size) (hZb : ∀ a, H.size ≤ a → Z a) (i : Int32) : Met l y_X_founder (wC y_X_founder b_X_founder 3 (some .int)) (rmk 9 32 954 197) (pC g H [.ref x, .int i]) (qW H (NX ad) (fun r H1 => ∃ v2, r = some (.int (rp (atS (ledS rows mir i) (oS T (ledS rows mir i) (-1))))) ∧ cX Z g H1 x (adU ad v2) ms nm nw rows mir ([]) f k q f2 k2 0)) 32 954 (fW H (NX ad)) := by
  refine mB (by decide) (Nat.le_of_ble_eq_true rfl) ?_
  intro p e s m below meth c ls C0 hH hZ hnm hl
  have C0 : cF g p s m _ meth c b_X_founder 3 "RegistryLog" (some .int) := C0
  obtain ⟨hx, hb, hml, hown, hts, hr, hlk, hK⟩ := id C0
  subst hH
  have hl : lv_has ls 3 [(0, .ref x), (1, .int i)] := hl
  have hS : va_S (fW s.heap (NX ad)) s.heap s.heap [] := hS_rf
  have hX0 := hX
  have ad0 := cX_lt hX0 (j := 0) (by decide)
  have ad1 := cX_lt hX0 (j := 1) (by decide)
  refine lv_aload_n hx hb d_X_founder_0 rfl (lv_at hl 0 rfl) ?_
  refine lv_iload_n hx hb d_X_founder_1 rfl (lv_at hl 1 rfl) ?_
  obtain ⟨mf, fms, hmf⟩ := id hX.1.2.1
  refine aP (rV (As := [.int i]) (rest := []) C0 (c_X_ledgerOf l g _ x (ad 0) (ad 2) ms nm (ad 12) (ad 14) (cX_ob hX) mf fms mir (cM_isL hX.2.2.1 hmf) i) (zK_S hZ hS (cX_old hX0)) k_X_founder_2 rfl rfl ⟨Nat.le_of_ble_eq_true rfl, Nat.le_of_ble_eq_true rfl⟩ (ob_recv hK (cX_ob hX) rfl) rfl hl.1 rfl (Nat.le_of_ble_eq_true rfl) d_X_founder_2 ⟨by show 0 + 0 ≤ 32; omega, by show 0 + 0 ≤ 954; omega⟩) ?_
  intro v hv
  obtain ⟨lq, rfl, hlq⟩ := hv
  have hlq := led_eq hmf hlq
  subst hlq
  refine W.eq (g2 := F0 m 5 ls [.ref ((ledA ad nm i))]) rfl ?_
  refine lv_astore_n (lv' := [(2, .ref ((ledA ad nm i))), (0, .ref x), (1, .int i)]) hx hb d_X_founder_5 rfl hl (by decide) rfl (fun ls hl => ?_)
  refine lv_aload_n hx hb d_X_founder_6 rfl (lv_at hl 0 rfl) ?_
  refine lv_aload_n hx hb d_X_founder_7 rfl (lv_at hl 0 rfl) ?_
  refine lv_aload_n hx hb d_X_founder_8 rfl (lv_at hl 1 rfl) ?_
  refine aW (N := (NX ad)) (rV (As := []) (rest := [.ref ((ledA ad nm i)), .ref ((ledA ad nm i))]) C0 (c_X_takeName l g _ Z x ad ms nm nw rows mir T f k q f2 k2 hX hsz hZb) (zK_S hZ hS (cX_old hX0)) k_X_founder_9 rfl rfl ⟨Nat.le_of_ble_eq_true rfl, Nat.le_of_ble_eq_true rfl⟩ (ob_recv hK (cX_ob hX) rfl) rfl hl.1 rfl (Nat.le_of_ble_eq_true rfl) d_X_founder_9 ⟨by show 0 + 32 ≤ 32; omega, by show 0 + 954 ≤ 954; omega⟩) (fun v H L hC1 hp hL => ?_)
  have hS0 := hS
  have hS := hS_call hS hC1 hL (fun a h => Or.inl h)
  obtain ⟨na, v2, rfl, hna, hN9, hX, hv4⟩ := hp
  have hLd := cX_led hX i
  rw [ledA_U] at hLd
  refine W.eq (g2 := F0 m 12 ls [.ref na, .ref ((ledA ad nm i)), .ref ((ledA ad nm i))]) rfl ?_
  refine aP (rV (As := [.ref na]) (rest := [.ref ((ledA ad nm i))]) C0 (c_L_originOf l g _ (ledA ad nm i) na (ledS rows mir i) T hLd (pN_isN hN9)) (zK_S hZ hS (cX_old hX0)) k_X_founder_12 rfl rfl ⟨Nat.le_of_ble_eq_true rfl, Nat.le_of_ble_eq_true rfl⟩ (isL_recv hK hLd) rfl hl.1 rfl (Nat.le_of_ble_eq_true rfl) d_X_founder_12 ⟨by show 0 + 32 + 0 ≤ 32; omega, by show 0 + 954 + 0 ≤ 954; omega⟩) ?_
  intro v hv; subst hv
  refine W.eq (g2 := F0 m 15 ls [.int (oS T (ledS rows mir i) (-1)), .ref ((ledA ad nm i))]) rfl ?_
  refine aP (rV (As := [.int (oS T (ledS rows mir i) (-1))]) (rest := []) C0 (c_L_founderOf l g _ (ledA ad nm i) (ledS rows mir i) (oS T (ledS rows mir i) (-1)) hLd) (zK_S hZ hS (cX_old hX0)) k_X_founder_15 rfl rfl ⟨Nat.le_of_ble_eq_true rfl, Nat.le_of_ble_eq_true rfl⟩ (isL_recv hK hLd) rfl hl.1 rfl (Nat.le_of_ble_eq_true rfl) d_X_founder_15 ⟨by show 0 + 32 + 0 ≤ 32; omega, by show 0 + 954 + 0 ≤ 954; omega⟩) ?_
  intro v hv; subst hv
  refine W.eq (g2 := F0 m 18 ls [.int (rp (atS (ledS rows mir i) (oS T (ledS rows mir i) (-1))))]) rfl ?_
  refine W.widen (k := 32) (n := 954) (by omega) (by omega) ?_
  exact W.iret hx hb hr (fun t9 ht hW => ⟨_, rfl, by rw [ht]; exact hS_hC hS, by rw [ht]; exact ⟨v2, rfl, hX⟩⟩) hS.2.2 d_X_founder_18 hlk
theorem k_X_has_2 : kV "RegistryLog" 221 "RegistryLog" y_X_ledgerOf b_X_ledgerOf 2 (some (.object "RegistryLog$Ledger")) 1 := ⟨(in_3 (List.mem_of_getElem? (i := 194) rfl) rfl), (in_3 (List.mem_of_getElem? (i := 196) rfl) rfl), (in_0 (List.mem_of_getElem? (i := 2) rfl) rfl), (in_1 (List.mem_of_getElem? (i := 1) rfl) rfl), (in_3 (List.mem_of_getElem? (i := 197) rfl) rfl), ⟨by decide, by decide, by decide +kernel⟩⟩
theorem k_X_has_8 : kV "RegistryLog" 48 "RegistryLog" y_X_takeName b_X_takeName 1 (some (.object "RegistryLog$Name")) 0 := ⟨(in_3 (List.mem_of_getElem? (i := 198) rfl) rfl), (in_3 (List.mem_of_getElem? (i := 200) rfl) rfl), (in_0 (List.mem_of_getElem? (i := 3) rfl) rfl), (in_1 (List.mem_of_getElem? (i := 1) rfl) rfl), (in_3 (List.mem_of_getElem? (i := 201) rfl) rfl), ⟨by decide, by decide, by decide +kernel⟩⟩
theorem k_X_has_11 : kV "RegistryLog" 69 "RegistryLog$Ledger" y_L_originOf b_L_originOf 5 (some .int) 1 := ⟨(in_3 (List.mem_of_getElem? (i := 232) rfl) rfl), (in_3 (List.mem_of_getElem? (i := 233) rfl) rfl), (in_3 (List.mem_of_getElem? (i := 234) rfl) rfl), (in_1 (List.mem_of_getElem? (i := 6) rfl) rfl), (in_3 (List.mem_of_getElem? (i := 235) rfl) rfl), ⟨by decide, by decide, by decide +kernel⟩⟩
theorem k_X_has_17 : kS "RegistryLog" 58 y_X_isPerson b_X_isPerson 1 (some .boolean) 1 := ⟨(in_4 (List.mem_of_getElem? (i := 17) rfl) rfl), (in_4 (List.mem_of_getElem? (i := 18) rfl) rfl), (in_1 (List.mem_of_getElem? (i := 1) rfl) rfl), (in_4 (List.mem_of_getElem? (i := 19) rfl) rfl), ⟨by decide, by decide, by decide +kernel⟩⟩
theorem k_X_has_27 : kV "RegistryLog" 83 "RegistryLog$Ledger" y_L_hasRight b_L_hasRight 6 (some .boolean) 2 := ⟨(in_4 (List.mem_of_getElem? (i := 20) rfl) rfl), (in_4 (List.mem_of_getElem? (i := 21) rfl) rfl), (in_4 (List.mem_of_getElem? (i := 22) rfl) rfl), (in_1 (List.mem_of_getElem? (i := 6) rfl) rfl), (in_4 (List.mem_of_getElem? (i := 23) rfl) rfl), ⟨by decide, by decide, by decide +kernel⟩⟩
set_option maxHeartbeats 4000000 in
set_option maxRecDepth 100000 in
/-- has -/
theorem c_X_has (l : Launch) (g : gG) (H : Heap) (Z : Nat → Prop) (x : Nat) (ad : Nat → Nat) (ms nm nw : Nat) (rows : List Rw) (mir : Nat → List Rw) (T : List Nat) (f : Nat → Int64) (k q : Nat) (f2 : Nat → Int64) (k2 : Nat) (hX : cX Z g H x ad ms nm nw rows mir T f k q f2 k2 0) (hsz : g.2.2.1 ≤ H.size) (hZb : ∀ a, H.size ≤ a → Z a) (i w0 : Int32) : Met l y_X_has (wC y_X_has b_X_has 5 (some .boolean)) (rmk 9 32 954 197) (pC g H [.ref x, .int i, .int w0]) (qW H (NX ad) (fun r H1 => ∃ v2, r = some (.int (bI (decide (0 ≤ w0 ∧ w0 < 8) && hsS (ledS rows mir i) (oS T (ledS rows mir i) (-1)) w0))) ∧ cX Z g H1 x (adU ad v2) ms nm nw rows mir ([]) f k q f2 k2 0)) 32 954 (fW H (NX ad)) := by
  refine mB (by decide) (Nat.le_of_ble_eq_true rfl) ?_
  intro p e s m below meth c ls C0 hH hZ hnm hl
  have C0 : cF g p s m _ meth c b_X_has 5 "RegistryLog" (some .boolean) := C0
  obtain ⟨hx, hb, hml, hown, hts, hr, hlk, hK⟩ := id C0
  subst hH
  have hl : lv_has ls 5 [(0, .ref x), (1, .int i), (2, .int w0)] := hl
  have hS : va_S (fW s.heap (NX ad)) s.heap s.heap [] := hS_rf
  have hX0 := hX
  have ad0 := cX_lt hX0 (j := 0) (by decide)
  have ad1 := cX_lt hX0 (j := 1) (by decide)
  refine lv_aload_n hx hb d_X_has_0 rfl (lv_at hl 0 rfl) ?_
  refine lv_iload_n hx hb d_X_has_1 rfl (lv_at hl 1 rfl) ?_
  obtain ⟨mf, fms, hmf⟩ := id hX.1.2.1
  refine aP (rV (As := [.int i]) (rest := []) C0 (c_X_ledgerOf l g _ x (ad 0) (ad 2) ms nm (ad 12) (ad 14) (cX_ob hX) mf fms mir (cM_isL hX.2.2.1 hmf) i) (zK_S hZ hS (cX_old hX0)) k_X_has_2 rfl rfl ⟨Nat.le_of_ble_eq_true rfl, Nat.le_of_ble_eq_true rfl⟩ (ob_recv hK (cX_ob hX) rfl) rfl hl.1 rfl (Nat.le_of_ble_eq_true rfl) d_X_has_2 ⟨by show 0 + 0 ≤ 32; omega, by show 0 + 0 ≤ 954; omega⟩) ?_
  intro v hv
  obtain ⟨lq, rfl, hlq⟩ := hv
  have hlq := led_eq hmf hlq
  subst hlq
  refine W.eq (g2 := F0 m 5 ls [.ref ((ledA ad nm i))]) rfl ?_
  refine lv_astore_n (lv' := [(3, .ref ((ledA ad nm i))), (0, .ref x), (1, .int i), (2, .int w0)]) hx hb d_X_has_5 rfl hl (by decide) rfl (fun ls hl => ?_)
  refine lv_aload_n hx hb d_X_has_6 rfl (lv_at hl 0 rfl) ?_
  refine lv_aload_n hx hb d_X_has_7 rfl (lv_at hl 1 rfl) ?_
  refine aW (N := (NX ad)) (rV (As := []) (rest := [.ref ((ledA ad nm i))]) C0 (c_X_takeName l g _ Z x ad ms nm nw rows mir T f k q f2 k2 hX hsz hZb) (zK_S hZ hS (cX_old hX0)) k_X_has_8 rfl rfl ⟨Nat.le_of_ble_eq_true rfl, Nat.le_of_ble_eq_true rfl⟩ (ob_recv hK (cX_ob hX) rfl) rfl hl.1 rfl (Nat.le_of_ble_eq_true rfl) d_X_has_8 ⟨by show 0 + 32 ≤ 32; omega, by show 0 + 954 ≤ 954; omega⟩) (fun v H L hC1 hp hL => ?_)
  have hS0 := hS
  have hS := hS_call hS hC1 hL (fun a h => Or.inl h)
  obtain ⟨na, v2, rfl, hna, hN9, hX, hv4⟩ := hp
  have hLd := cX_led hX i
  rw [ledA_U] at hLd
  refine W.eq (g2 := F0 m 11 ls [.ref na, .ref ((ledA ad nm i))]) rfl ?_
  refine aP (rV (As := [.ref na]) (rest := []) C0 (c_L_originOf l g _ (ledA ad nm i) na (ledS rows mir i) T hLd (pN_isN hN9)) (zK_S hZ hS (cX_old hX0)) k_X_has_11 rfl rfl ⟨Nat.le_of_ble_eq_true rfl, Nat.le_of_ble_eq_true rfl⟩ (isL_recv hK hLd) rfl hl.1 rfl (Nat.le_of_ble_eq_true rfl) d_X_has_11 ⟨by show 0 + 32 + 0 ≤ 32; omega, by show 0 + 954 + 0 ≤ 954; omega⟩) ?_
  intro v hv; subst hv
  refine W.eq (g2 := F0 m 14 ls [.int (oS T (ledS rows mir i) (-1))]) rfl ?_
  refine lv_topi (fun x_1 ex_1 => ?_)
  refine lv_istore (lv' := [(4, .int x_1), (3, .ref ((ledA ad nm i))), (0, .ref x), (1, .int i), (2, .int w0)]) hx hb d_X_has_14 hl (by decide) rfl (fun ls hl => ?_)
  refine lv_iload_n hx hb d_X_has_16 rfl (lv_at hl 4 rfl) ?_
  refine aP (rS (As := [.int w0]) (rest := []) C0 (c_X_isPerson l g _ w0) (zK_S hZ hS (cX_old hX0)) k_X_has_17 rfl rfl ⟨Nat.le_of_ble_eq_true rfl, Nat.le_of_ble_eq_true rfl⟩ rfl hl.1 rfl (Nat.le_of_ble_eq_true rfl) d_X_has_17 ⟨by show 0 + 32 + 0 ≤ 32; omega, by show 0 + 954 + 0 ≤ 954; omega⟩) ?_
  intro v hv; subst hv
  refine W.eq (g2 := F0 m 20 ls [.int (bI (decide (0 ≤ w0 ∧ w0 < 8)))]) rfl ?_
  refine z_eq (tgt := 37) (v := decide (0 ≤ w0 ∧ w0 < 8)) hx hb d_X_has_20 (by decide) (fun c20 => ?_) (fun c20 => ?_)
  · skip
    refine lv_iconst (v := nI 0) hx hb d_X_has_37 (by decide) ?_
    subst ex_1
    refine W.widen (k := 32) (n := 954) (by omega) (by omega) ?_
    exact W.zret hx hb hr rfl (fun t9 ht hW => ⟨_, rfl, by rw [ht]; exact hS_hC hS, by rw [ht]; exact ⟨v2, by rw [c20, Bool.false_and]; rfl, hX⟩⟩) hS.2.2 d_X_has_38 hlk
  · skip
    refine lv_aload_n hx hb d_X_has_23 rfl (lv_at hl 1 rfl) ?_
    refine lv_iload hx hb d_X_has_24 (lv_at hl 0 rfl) ?_
    refine lv_iload_n hx hb d_X_has_26 rfl (lv_at hl 4 rfl) ?_
    refine aP (rV (As := [.int x_1, .int w0]) (rest := []) C0 (c_L_hasRight l g _ (ledA ad nm i) (ledS rows mir i) x_1 w0 hLd) (zK_S hZ hS (cX_old hX0)) k_X_has_27 rfl rfl ⟨Nat.le_of_ble_eq_true rfl, Nat.le_of_ble_eq_true rfl⟩ (isL_recv hK hLd) rfl hl.1 rfl (Nat.le_of_ble_eq_true rfl) d_X_has_27 ⟨by show 0 + 32 + 0 ≤ 32; omega, by show 0 + 954 + 0 ≤ 954; omega⟩) ?_
    intro v hv; subst hv
    refine W.eq (g2 := F0 m 30 ls [.int (bI (hsS (ledS rows mir i) x_1 w0))]) rfl ?_
    refine z_eq (tgt := 37) (v := hsS (ledS rows mir i) x_1 w0) hx hb d_X_has_30 (by decide) (fun c30 => ?_) (fun c30 => ?_)
    · skip
      refine lv_iconst (v := nI 0) hx hb d_X_has_37 (by decide) ?_
      subst ex_1
      refine W.widen (k := 32) (n := 954) (by omega) (by omega) ?_
      exact W.zret hx hb hr rfl (fun t9 ht hW => ⟨_, rfl, by rw [ht]; exact hS_hC hS, by rw [ht]; exact ⟨v2, by rw [c20, c30, Bool.and_false]; rfl, hX⟩⟩) hS.2.2 d_X_has_38 hlk
    · skip
      refine lv_iconst (v := nI 1) hx hb d_X_has_33 (by decide) ?_
      refine lv_goto (tgt := 38) hx hb d_X_has_34 (by decide) ?_
      subst ex_1
      refine W.widen (k := 32) (n := 954) (by omega) (by omega) ?_
      exact W.zret hx hb hr rfl (fun t9 ht hW => ⟨_, rfl, by rw [ht]; exact hS_hC hS, by rw [ht]; exact ⟨v2, by rw [c20, c30, Bool.and_true]; rfl, hX⟩⟩) hS.2.2 d_X_has_38 hlk
theorem k_X_version_2 : kV "RegistryLog" 221 "RegistryLog" y_X_ledgerOf b_X_ledgerOf 2 (some (.object "RegistryLog$Ledger")) 1 := ⟨(in_3 (List.mem_of_getElem? (i := 194) rfl) rfl), (in_3 (List.mem_of_getElem? (i := 196) rfl) rfl), (in_0 (List.mem_of_getElem? (i := 2) rfl) rfl), (in_1 (List.mem_of_getElem? (i := 1) rfl) rfl), (in_3 (List.mem_of_getElem? (i := 197) rfl) rfl), ⟨by decide, by decide, by decide +kernel⟩⟩
theorem k_X_version_8 : kV "RegistryLog" 48 "RegistryLog" y_X_takeName b_X_takeName 1 (some (.object "RegistryLog$Name")) 0 := ⟨(in_3 (List.mem_of_getElem? (i := 198) rfl) rfl), (in_3 (List.mem_of_getElem? (i := 200) rfl) rfl), (in_0 (List.mem_of_getElem? (i := 3) rfl) rfl), (in_1 (List.mem_of_getElem? (i := 1) rfl) rfl), (in_3 (List.mem_of_getElem? (i := 201) rfl) rfl), ⟨by decide, by decide, by decide +kernel⟩⟩
theorem k_X_version_11 : kV "RegistryLog" 69 "RegistryLog$Ledger" y_L_originOf b_L_originOf 5 (some .int) 1 := ⟨(in_3 (List.mem_of_getElem? (i := 232) rfl) rfl), (in_3 (List.mem_of_getElem? (i := 233) rfl) rfl), (in_3 (List.mem_of_getElem? (i := 234) rfl) rfl), (in_1 (List.mem_of_getElem? (i := 6) rfl) rfl), (in_3 (List.mem_of_getElem? (i := 235) rfl) rfl), ⟨by decide, by decide, by decide +kernel⟩⟩
theorem k_X_version_20 : kV "RegistryLog" 87 "RegistryLog$Ledger" y_L_publishOf b_L_publishOf 5 (some .int) 2 := ⟨(in_4 (List.mem_of_getElem? (i := 29) rfl) rfl), (in_4 (List.mem_of_getElem? (i := 30) rfl) rfl), (in_4 (List.mem_of_getElem? (i := 31) rfl) rfl), (in_1 (List.mem_of_getElem? (i := 6) rfl) rfl), (in_4 (List.mem_of_getElem? (i := 32) rfl) rfl), ⟨by decide, by decide, by decide +kernel⟩⟩
theorem k_X_version_33 : kV "RegistryLog" 100 "RegistryLog$Ledger" y_L_isYanked b_L_isYanked 6 (some .boolean) 2 := ⟨(in_4 (List.mem_of_getElem? (i := 33) rfl) rfl), (in_4 (List.mem_of_getElem? (i := 34) rfl) rfl), (in_4 (List.mem_of_getElem? (i := 35) rfl) rfl), (in_1 (List.mem_of_getElem? (i := 6) rfl) rfl), (in_4 (List.mem_of_getElem? (i := 36) rfl) rfl), ⟨by decide, by decide, by decide +kernel⟩⟩
set_option maxHeartbeats 4000000 in
set_option maxRecDepth 100000 in
/-- version -/
theorem c_X_version (l : Launch) (g : gG) (H : Heap) (Z : Nat → Prop) (x : Nat) (ad : Nat → Nat) (ms nm nw : Nat) (rows : List Rw) (mir : Nat → List Rw) (T : List Nat) (f : Nat → Int64) (k q : Nat) (f2 : Nat → Int64) (k2 : Nat) (hX : cX Z g H x ad ms nm nw rows mir T f k q f2 k2 0) (hsz : g.2.2.1 ≤ H.size) (hZb : ∀ a, H.size ≤ a → Z a) (i v0 : Int32) : Met l y_X_version (wC y_X_version b_X_version 5 (some .int)) (rmk 9 32 954 197) (pC g H [.ref x, .int i, .int v0]) (qW H (NX ad) (fun r H1 => ∃ v2, r = some (.int (if (pubS (oS T (ledS rows mir i) (-1)) v0 (ledS rows mir i) 0) = -1 then 0 else if ynS (oS T (ledS rows mir i) (-1)) v0 (ledS rows mir i) false = true then 2 else 1)) ∧ cX Z g H1 x (adU ad v2) ms nm nw rows mir ([]) f k q f2 k2 0)) 32 954 (fW H (NX ad)) := by
  refine mB (by decide) (Nat.le_of_ble_eq_true rfl) ?_
  intro p e s m below meth c ls C0 hH hZ hnm hl
  have C0 : cF g p s m _ meth c b_X_version 5 "RegistryLog" (some .int) := C0
  obtain ⟨hx, hb, hml, hown, hts, hr, hlk, hK⟩ := id C0
  subst hH
  have hl : lv_has ls 5 [(0, .ref x), (1, .int i), (2, .int v0)] := hl
  have hS : va_S (fW s.heap (NX ad)) s.heap s.heap [] := hS_rf
  have hX0 := hX
  have ad0 := cX_lt hX0 (j := 0) (by decide)
  have ad1 := cX_lt hX0 (j := 1) (by decide)
  refine lv_aload_n hx hb d_X_version_0 rfl (lv_at hl 0 rfl) ?_
  refine lv_iload_n hx hb d_X_version_1 rfl (lv_at hl 1 rfl) ?_
  obtain ⟨mf, fms, hmf⟩ := id hX.1.2.1
  refine aP (rV (As := [.int i]) (rest := []) C0 (c_X_ledgerOf l g _ x (ad 0) (ad 2) ms nm (ad 12) (ad 14) (cX_ob hX) mf fms mir (cM_isL hX.2.2.1 hmf) i) (zK_S hZ hS (cX_old hX0)) k_X_version_2 rfl rfl ⟨Nat.le_of_ble_eq_true rfl, Nat.le_of_ble_eq_true rfl⟩ (ob_recv hK (cX_ob hX) rfl) rfl hl.1 rfl (Nat.le_of_ble_eq_true rfl) d_X_version_2 ⟨by show 0 + 0 ≤ 32; omega, by show 0 + 0 ≤ 954; omega⟩) ?_
  intro v hv
  obtain ⟨lq, rfl, hlq⟩ := hv
  have hlq := led_eq hmf hlq
  subst hlq
  refine W.eq (g2 := F0 m 5 ls [.ref ((ledA ad nm i))]) rfl ?_
  refine lv_astore_n (lv' := [(3, .ref ((ledA ad nm i))), (0, .ref x), (1, .int i), (2, .int v0)]) hx hb d_X_version_5 rfl hl (by decide) rfl (fun ls hl => ?_)
  refine lv_aload_n hx hb d_X_version_6 rfl (lv_at hl 0 rfl) ?_
  refine lv_aload_n hx hb d_X_version_7 rfl (lv_at hl 1 rfl) ?_
  refine aW (N := (NX ad)) (rV (As := []) (rest := [.ref ((ledA ad nm i))]) C0 (c_X_takeName l g _ Z x ad ms nm nw rows mir T f k q f2 k2 hX hsz hZb) (zK_S hZ hS (cX_old hX0)) k_X_version_8 rfl rfl ⟨Nat.le_of_ble_eq_true rfl, Nat.le_of_ble_eq_true rfl⟩ (ob_recv hK (cX_ob hX) rfl) rfl hl.1 rfl (Nat.le_of_ble_eq_true rfl) d_X_version_8 ⟨by show 0 + 32 ≤ 32; omega, by show 0 + 954 ≤ 954; omega⟩) (fun v H L hC1 hp hL => ?_)
  have hS0 := hS
  have hS := hS_call hS hC1 hL (fun a h => Or.inl h)
  obtain ⟨na, v2, rfl, hna, hN9, hX, hv4⟩ := hp
  have hLd := cX_led hX i
  rw [ledA_U] at hLd
  refine W.eq (g2 := F0 m 11 ls [.ref na, .ref ((ledA ad nm i))]) rfl ?_
  refine aP (rV (As := [.ref na]) (rest := []) C0 (c_L_originOf l g _ (ledA ad nm i) na (ledS rows mir i) T hLd (pN_isN hN9)) (zK_S hZ hS (cX_old hX0)) k_X_version_11 rfl rfl ⟨Nat.le_of_ble_eq_true rfl, Nat.le_of_ble_eq_true rfl⟩ (isL_recv hK hLd) rfl hl.1 rfl (Nat.le_of_ble_eq_true rfl) d_X_version_11 ⟨by show 0 + 32 + 0 ≤ 32; omega, by show 0 + 954 + 0 ≤ 954; omega⟩) ?_
  intro v hv; subst hv
  refine W.eq (g2 := F0 m 14 ls [.int (oS T (ledS rows mir i) (-1))]) rfl ?_
  refine lv_topi (fun x_1 ex_1 => ?_)
  refine lv_istore (lv' := [(4, .int x_1), (3, .ref ((ledA ad nm i))), (0, .ref x), (1, .int i), (2, .int v0)]) hx hb d_X_version_14 hl (by decide) rfl (fun ls hl => ?_)
  refine lv_aload_n hx hb d_X_version_16 rfl (lv_at hl 1 rfl) ?_
  refine lv_iload hx hb d_X_version_17 (lv_at hl 0 rfl) ?_
  refine lv_iload_n hx hb d_X_version_19 rfl (lv_at hl 4 rfl) ?_
  refine aP (rV (As := [.int x_1, .int v0]) (rest := []) C0 (c_L_publishOf l g _ (ledA ad nm i) (ledS rows mir i) x_1 v0 hLd) (zK_S hZ hS (cX_old hX0)) k_X_version_20 rfl rfl ⟨Nat.le_of_ble_eq_true rfl, Nat.le_of_ble_eq_true rfl⟩ (isL_recv hK hLd) rfl hl.1 rfl (Nat.le_of_ble_eq_true rfl) d_X_version_20 ⟨by show 0 + 32 + 0 ≤ 32; omega, by show 0 + 954 + 0 ≤ 954; omega⟩) ?_
  intro v hv; subst hv
  refine W.eq (g2 := F0 m 23 ls [.int (pubS x_1 v0 (ledS rows mir i) 0)]) rfl ?_
  refine lv_iconst (v := (-1)) hx hb d_X_version_23 (by decide) ?_
  refine lv_icmp_ne (tgt := 29) hx hb d_X_version_24 (by decide) (fun c24 => ?_) (fun c24 => ?_)
  · skip
    refine lv_aload_n hx hb d_X_version_29 rfl (lv_at hl 1 rfl) ?_
    refine lv_iload hx hb d_X_version_30 (lv_at hl 0 rfl) ?_
    refine lv_iload_n hx hb d_X_version_32 rfl (lv_at hl 4 rfl) ?_
    refine aP (rV (As := [.int x_1, .int v0]) (rest := []) C0 (c_L_isYanked l g _ (ledA ad nm i) (ledS rows mir i) x_1 v0 hLd) (zK_S hZ hS (cX_old hX0)) k_X_version_33 rfl rfl ⟨Nat.le_of_ble_eq_true rfl, Nat.le_of_ble_eq_true rfl⟩ (isL_recv hK hLd) rfl hl.1 rfl (Nat.le_of_ble_eq_true rfl) d_X_version_33 ⟨by show 0 + 32 + 0 ≤ 32; omega, by show 0 + 954 + 0 ≤ 954; omega⟩) ?_
    intro v hv; subst hv
    refine W.eq (g2 := F0 m 36 ls [.int (bI (ynS x_1 v0 (ledS rows mir i) false))]) rfl ?_
    refine z_eq (tgt := 43) (v := ynS x_1 v0 (ledS rows mir i) false) hx hb d_X_version_36 (by decide) (fun c36 => ?_) (fun c36 => ?_)
    · skip
      refine lv_iconst (v := nI 1) hx hb d_X_version_43 (by decide) ?_
      subst ex_1
      refine W.widen (k := 32) (n := 954) (by omega) (by omega) ?_
      exact W.iret hx hb hr (fun t9 ht hW => ⟨_, rfl, by rw [ht]; exact hS_hC hS, by rw [ht]; exact ⟨v2, by rw [if_neg c24, c36]; rfl, hX⟩⟩) hS.2.2 d_X_version_44 hlk
    · skip
      refine lv_iconst (v := nI 2) hx hb d_X_version_39 (by decide) ?_
      refine lv_goto (tgt := 44) hx hb d_X_version_40 (by decide) ?_
      subst ex_1
      refine W.widen (k := 32) (n := 954) (by omega) (by omega) ?_
      exact W.iret hx hb hr (fun t9 ht hW => ⟨_, rfl, by rw [ht]; exact hS_hC hS, by rw [ht]; exact ⟨v2, by rw [if_neg c24, c36]; rfl, hX⟩⟩) hS.2.2 d_X_version_44 hlk
  · skip
    refine lv_iconst (v := nI 0) hx hb d_X_version_27 (by decide) ?_
    subst ex_1
    refine W.widen (k := 32) (n := 954) (by omega) (by omega) ?_
    exact W.iret hx hb hr (fun t9 ht hW => ⟨_, rfl, by rw [ht]; exact hS_hC hS, by rw [ht]; exact ⟨v2, by rw [if_pos c24]; rfl, hX⟩⟩) hS.2.2 d_X_version_28 hlk
theorem k_X_sum_2 : kV "RegistryLog" 221 "RegistryLog" y_X_ledgerOf b_X_ledgerOf 2 (some (.object "RegistryLog$Ledger")) 1 := ⟨(in_3 (List.mem_of_getElem? (i := 194) rfl) rfl), (in_3 (List.mem_of_getElem? (i := 196) rfl) rfl), (in_0 (List.mem_of_getElem? (i := 2) rfl) rfl), (in_1 (List.mem_of_getElem? (i := 1) rfl) rfl), (in_3 (List.mem_of_getElem? (i := 197) rfl) rfl), ⟨by decide, by decide, by decide +kernel⟩⟩
theorem k_X_sum_9 : kV "RegistryLog" 48 "RegistryLog" y_X_takeName b_X_takeName 1 (some (.object "RegistryLog$Name")) 0 := ⟨(in_3 (List.mem_of_getElem? (i := 198) rfl) rfl), (in_3 (List.mem_of_getElem? (i := 200) rfl) rfl), (in_0 (List.mem_of_getElem? (i := 3) rfl) rfl), (in_1 (List.mem_of_getElem? (i := 1) rfl) rfl), (in_3 (List.mem_of_getElem? (i := 201) rfl) rfl), ⟨by decide, by decide, by decide +kernel⟩⟩
theorem k_X_sum_12 : kV "RegistryLog" 69 "RegistryLog$Ledger" y_L_originOf b_L_originOf 5 (some .int) 1 := ⟨(in_3 (List.mem_of_getElem? (i := 232) rfl) rfl), (in_3 (List.mem_of_getElem? (i := 233) rfl) rfl), (in_3 (List.mem_of_getElem? (i := 234) rfl) rfl), (in_1 (List.mem_of_getElem? (i := 6) rfl) rfl), (in_3 (List.mem_of_getElem? (i := 235) rfl) rfl), ⟨by decide, by decide, by decide +kernel⟩⟩
theorem k_X_sum_16 : kV "RegistryLog" 87 "RegistryLog$Ledger" y_L_publishOf b_L_publishOf 5 (some .int) 2 := ⟨(in_4 (List.mem_of_getElem? (i := 29) rfl) rfl), (in_4 (List.mem_of_getElem? (i := 30) rfl) rfl), (in_4 (List.mem_of_getElem? (i := 31) rfl) rfl), (in_1 (List.mem_of_getElem? (i := 6) rfl) rfl), (in_4 (List.mem_of_getElem? (i := 32) rfl) rfl), ⟨by decide, by decide, by decide +kernel⟩⟩
theorem k_X_sum_34 : kV "RegistryLog" 133 "RegistryLog$Ledger" y_L_at b_L_at 2 (some (.object "RegistryLog$Row")) 1 := ⟨(in_3 (List.mem_of_getElem? (i := 46) rfl) rfl), (in_3 (List.mem_of_getElem? (i := 47) rfl) rfl), (in_3 (List.mem_of_getElem? (i := 48) rfl) rfl), (in_1 (List.mem_of_getElem? (i := 6) rfl) rfl), (in_3 (List.mem_of_getElem? (i := 49) rfl) rfl), ⟨by decide, by decide, by decide +kernel⟩⟩
set_option maxHeartbeats 4000000 in
set_option maxRecDepth 100000 in
/-- sum -/
theorem c_X_sum (l : Launch) (g : gG) (H : Heap) (Z : Nat → Prop) (x : Nat) (ad : Nat → Nat) (ms nm nw : Nat) (rows : List Rw) (mir : Nat → List Rw) (T : List Nat) (f : Nat → Int64) (k q : Nat) (f2 : Nat → Int64) (k2 : Nat) (hX : cX Z g H x ad ms nm nw rows mir T f k q f2 k2 0) (hsz : g.2.2.1 ≤ H.size) (hZb : ∀ a, H.size ≤ a → Z a) (i v0 : Int32) : Met l y_X_sum (wC y_X_sum b_X_sum 5 (some .int)) (rmk 9 32 954 197) (pC g H [.ref x, .int i, .int v0]) (qW H (NX ad) (fun r H1 => ∃ v2, r = some (.int (if (pubS (oS T (ledS rows mir i) (-1)) v0 (ledS rows mir i) 0) = -1 then 0 else r3 (atS (ledS rows mir i) (pubS (oS T (ledS rows mir i) (-1)) v0 (ledS rows mir i) 0)))) ∧ cX Z g H1 x (adU ad v2) ms nm nw rows mir ([]) f k q f2 k2 0)) 32 954 (fW H (NX ad)) := by
  refine mB (by decide) (Nat.le_of_ble_eq_true rfl) ?_
  intro p e s m below meth c ls C0 hH hZ hnm hl
  have C0 : cF g p s m _ meth c b_X_sum 5 "RegistryLog" (some .int) := C0
  obtain ⟨hx, hb, hml, hown, hts, hr, hlk, hK⟩ := id C0
  subst hH
  have hl : lv_has ls 5 [(0, .ref x), (1, .int i), (2, .int v0)] := hl
  have hS : va_S (fW s.heap (NX ad)) s.heap s.heap [] := hS_rf
  have hX0 := hX
  have ad0 := cX_lt hX0 (j := 0) (by decide)
  have ad1 := cX_lt hX0 (j := 1) (by decide)
  refine lv_aload_n hx hb d_X_sum_0 rfl (lv_at hl 0 rfl) ?_
  refine lv_iload_n hx hb d_X_sum_1 rfl (lv_at hl 1 rfl) ?_
  obtain ⟨mf, fms, hmf⟩ := id hX.1.2.1
  refine aP (rV (As := [.int i]) (rest := []) C0 (c_X_ledgerOf l g _ x (ad 0) (ad 2) ms nm (ad 12) (ad 14) (cX_ob hX) mf fms mir (cM_isL hX.2.2.1 hmf) i) (zK_S hZ hS (cX_old hX0)) k_X_sum_2 rfl rfl ⟨Nat.le_of_ble_eq_true rfl, Nat.le_of_ble_eq_true rfl⟩ (ob_recv hK (cX_ob hX) rfl) rfl hl.1 rfl (Nat.le_of_ble_eq_true rfl) d_X_sum_2 ⟨by show 0 + 0 ≤ 32; omega, by show 0 + 0 ≤ 954; omega⟩) ?_
  intro v hv
  obtain ⟨lq, rfl, hlq⟩ := hv
  have hlq := led_eq hmf hlq
  subst hlq
  refine W.eq (g2 := F0 m 5 ls [.ref ((ledA ad nm i))]) rfl ?_
  refine lv_astore_n (lv' := [(3, .ref ((ledA ad nm i))), (0, .ref x), (1, .int i), (2, .int v0)]) hx hb d_X_sum_5 rfl hl (by decide) rfl (fun ls hl => ?_)
  refine lv_aload_n hx hb d_X_sum_6 rfl (lv_at hl 0 rfl) ?_
  refine lv_aload_n hx hb d_X_sum_7 rfl (lv_at hl 0 rfl) ?_
  refine lv_aload_n hx hb d_X_sum_8 rfl (lv_at hl 1 rfl) ?_
  refine aW (N := (NX ad)) (rV (As := []) (rest := [.ref ((ledA ad nm i)), .ref ((ledA ad nm i))]) C0 (c_X_takeName l g _ Z x ad ms nm nw rows mir T f k q f2 k2 hX hsz hZb) (zK_S hZ hS (cX_old hX0)) k_X_sum_9 rfl rfl ⟨Nat.le_of_ble_eq_true rfl, Nat.le_of_ble_eq_true rfl⟩ (ob_recv hK (cX_ob hX) rfl) rfl hl.1 rfl (Nat.le_of_ble_eq_true rfl) d_X_sum_9 ⟨by show 0 + 32 ≤ 32; omega, by show 0 + 954 ≤ 954; omega⟩) (fun v H L hC1 hp hL => ?_)
  have hS0 := hS
  have hS := hS_call hS hC1 hL (fun a h => Or.inl h)
  obtain ⟨na, v2, rfl, hna, hN9, hX, hv4⟩ := hp
  have hLd := cX_led hX i
  rw [ledA_U] at hLd
  refine W.eq (g2 := F0 m 12 ls [.ref na, .ref ((ledA ad nm i)), .ref ((ledA ad nm i))]) rfl ?_
  refine aP (rV (As := [.ref na]) (rest := [.ref ((ledA ad nm i))]) C0 (c_L_originOf l g _ (ledA ad nm i) na (ledS rows mir i) T hLd (pN_isN hN9)) (zK_S hZ hS (cX_old hX0)) k_X_sum_12 rfl rfl ⟨Nat.le_of_ble_eq_true rfl, Nat.le_of_ble_eq_true rfl⟩ (isL_recv hK hLd) rfl hl.1 rfl (Nat.le_of_ble_eq_true rfl) d_X_sum_12 ⟨by show 0 + 32 + 0 ≤ 32; omega, by show 0 + 954 + 0 ≤ 954; omega⟩) ?_
  intro v hv; subst hv
  refine W.eq (g2 := F0 m 15 ls [.int (oS T (ledS rows mir i) (-1)), .ref ((ledA ad nm i))]) rfl ?_
  refine lv_iload_n hx hb d_X_sum_15 rfl (lv_at hl 3 rfl) ?_
  refine aP (rV (As := [.int (oS T (ledS rows mir i) (-1)), .int v0]) (rest := []) C0 (c_L_publishOf l g _ (ledA ad nm i) (ledS rows mir i) (oS T (ledS rows mir i) (-1)) v0 hLd) (zK_S hZ hS (cX_old hX0)) k_X_sum_16 rfl rfl ⟨Nat.le_of_ble_eq_true rfl, Nat.le_of_ble_eq_true rfl⟩ (isL_recv hK hLd) rfl hl.1 rfl (Nat.le_of_ble_eq_true rfl) d_X_sum_16 ⟨by show 0 + 32 + 0 ≤ 32; omega, by show 0 + 954 + 0 ≤ 954; omega⟩) ?_
  intro v hv; subst hv
  refine W.eq (g2 := F0 m 19 ls [.int (pubS (oS T (ledS rows mir i) (-1)) v0 (ledS rows mir i) 0)]) rfl ?_
  refine lv_topi (fun x_1 ex_1 => ?_)
  refine lv_istore (lv' := [(4, .int x_1), (3, .ref ((ledA ad nm i))), (0, .ref x), (1, .int i), (2, .int v0)]) hx hb d_X_sum_19 hl (by decide) rfl (fun ls hl => ?_)
  refine lv_iload hx hb d_X_sum_21 (lv_at hl 0 rfl) ?_
  refine lv_iconst (v := (-1)) hx hb d_X_sum_23 (by decide) ?_
  refine lv_icmp_ne (tgt := 31) hx hb d_X_sum_24 (by decide) (fun c24 => ?_) (fun c24 => ?_)
  · skip
    refine lv_aload_n hx hb d_X_sum_31 rfl (lv_at hl 1 rfl) ?_
    refine lv_iload hx hb d_X_sum_32 (lv_at hl 0 rfl) ?_
    refine aP (rV (As := [.int x_1]) (rest := []) C0 (c_L_at l g _ (ledA ad nm i) (ledS rows mir i) x_1 hLd) (zK_S hZ hS (cX_old hX0)) k_X_sum_34 rfl rfl ⟨Nat.le_of_ble_eq_true rfl, Nat.le_of_ble_eq_true rfl⟩ (isL_recv hK hLd) rfl hl.1 rfl (Nat.le_of_ble_eq_true rfl) d_X_sum_34 ⟨by show 0 + 32 + 0 ≤ 32; omega, by show 0 + 954 + 0 ≤ 954; omega⟩) ?_
    intro v hv
    obtain ⟨rr, rfl, na2, nb2, hr0, -⟩ := hv
    refine W.eq (g2 := F0 m 37 ls [.ref rr]) rfl ?_
    refine va_get (D := g.1) (ci := 4) (C := R_R) (T := F_R) (N := 8) hx hb hts i_R hown hK.1 hr0 0 rfl rfl 5 (by decide) (hts (.fieldLink "RegistryLog" 147 "RegistryLog$Row" "third" "I") (in_2 (List.mem_of_getElem? (i := 196) rfl) rfl)) (fun _ h9 => h9) rfl d_X_sum_37 ?_
    subst ex_1
    refine W.widen (k := 32) (n := 954) (by omega) (by omega) ?_
    exact W.iret hx hb hr (fun t9 ht hW => ⟨_, rfl, by rw [ht]; exact hS_hC hS, by rw [ht]; exact ⟨v2, by rw [if_neg c24], hX⟩⟩) hS.2.2 d_X_sum_40 hlk
  · skip
    refine lv_iconst (v := nI 0) hx hb d_X_sum_27 (by decide) ?_
    refine lv_goto (tgt := 40) hx hb d_X_sum_28 (by decide) ?_
    subst ex_1
    refine W.widen (k := 32) (n := 954) (by omega) (by omega) ?_
    exact W.iret hx hb hr (fun t9 ht hW => ⟨_, rfl, by rw [ht]; exact hS_hC hS, by rw [ht]; exact ⟨v2, by rw [if_pos c24]; rfl, hX⟩⟩) hS.2.2 d_X_sum_40 hlk
