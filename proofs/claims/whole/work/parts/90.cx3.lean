set_option maxHeartbeats 4000000 in
set_option maxRecDepth 100000 in
/-- demandArguments, where it is so -/
theorem c_X_demandArguments (l : Launch) (g : gG) (H : Heap)  : Met l y_X_demandArguments (wC y_X_demandArguments b_X_demandArguments 1 none) (rmk 0 0 0 0) (pC g H [.int (bI true)]) (qP H (fun v => v = none)) 0 0 no_ := by
  refine mB (by decide) (Nat.le_of_ble_eq_true rfl) ?_
  intro p e s m below meth c ls C0 hH hZ hnm hl
  have C0 : cF g p s m _ meth c b_X_demandArguments 1 "RegistryLog" none := C0
  obtain ⟨hx, hb, hml, hown, hts, hr, hlk, hK⟩ := id C0
  subst hH
  have hl : lv_has ls 1 [(0, .int (bI true))] := hl
  have hS : va_S (fW s.heap no_) s.heap s.heap [] := hS_rf
  refine lv_iload_n hx hb d_X_demandArguments_0 rfl (lv_at hl 0 rfl) ?_
  refine z_ne (tgt := 14) (v := true) hx hb d_X_demandArguments_1 (by decide) (fun c1 => ?_) (fun c1 => ?_)
  · skip
    exact W.vret hx hb hr (fun t9 ht hW => ⟨_, rfl, rfl, ht⟩) (fun q h => by cases h) d_X_demandArguments_14 hlk
  · skip
    first | exact absurd c1 (by decide) | exact absurd (by decide) c1
set_option maxHeartbeats 4000000 in
set_option maxRecDepth 100000 in
/-- demandState, where it is so -/
theorem c_X_demandState (l : Launch) (g : gG) (H : Heap)  : Met l y_X_demandState (wC y_X_demandState b_X_demandState 1 none) (rmk 0 0 0 0) (pC g H [.int (bI true)]) (qP H (fun v => v = none)) 0 0 no_ := by
  refine mB (by decide) (Nat.le_of_ble_eq_true rfl) ?_
  intro p e s m below meth c ls C0 hH hZ hnm hl
  have C0 : cF g p s m _ meth c b_X_demandState 1 "RegistryLog" none := C0
  obtain ⟨hx, hb, hml, hown, hts, hr, hlk, hK⟩ := id C0
  subst hH
  have hl : lv_has ls 1 [(0, .int (bI true))] := hl
  have hS : va_S (fW s.heap no_) s.heap s.heap [] := hS_rf
  refine lv_iload_n hx hb d_X_demandState_0 rfl (lv_at hl 0 rfl) ?_
  refine z_ne (tgt := 14) (v := true) hx hb d_X_demandState_1 (by decide) (fun c1 => ?_) (fun c1 => ?_)
  · skip
    exact W.vret hx hb hr (fun t9 ht hW => ⟨_, rfl, rfl, ht⟩) (fun q h => by cases h) d_X_demandState_14 hlk
  · skip
    first | exact absurd c1 (by decide) | exact absurd (by decide) c1
set_option maxHeartbeats 4000000 in
set_option maxRecDepth 100000 in
/-- demandArguments, where it isn't so -/
theorem x_X_demandArguments (l : Launch) (g : gG) (H : Heap) (htr : ∀ e, l.admits e → e.platform.stackTraces = false) : MetX l y_X_demandArguments (wC y_X_demandArguments b_X_demandArguments 1 none) (rmk 6 1 6 90) (pC g H [.int (bI false)]) (qX H no_ iaE (fun _ => True)) 1 6 (fW H no_) := by
  refine mX (by decide) (Nat.le_of_ble_eq_true rfl) ?_
  intro p e s m below meth c ls C0 hH hZ hno hl
  have C0 : cF g p s m _ meth c b_X_demandArguments 1 "RegistryLog" none := C0
  obtain ⟨hx, hb, hml, hown, hts, hr, hlk, hK⟩ := id C0
  subst hH
  have hl : lv_has ls 1 [(0, .int (bI false))] := hl
  refine lv_iload_n hx hb d_X_demandArguments_0 rfl (lv_at hl 0 rfl) ?_
  refine z_ne (tgt := 14) (v := false) hx hb d_X_demandArguments_1 (by decide) (fun c1 => ?_) (fun c1 => ?_)
  · skip
    first | exact absurd c1 (by decide) | exact absurd (by decide) c1
  · skip
    refine w_thr C0 hno htr (in_4 (List.mem_of_getElem? (i := 60) rfl) rfl) (in_2 (List.mem_of_getElem? (i := 4) rfl) rfl) (in_1 (List.mem_of_getElem? (i := 17) rfl) rfl) (by decide) (own_ok own1 (List.mem_of_getElem? (i := 1) rfl) hts hK hZ) hK.2.2.2.2.2.2.1 (fun q h => by cases h) (Nat.le_refl _) d_X_demandArguments_4 d_X_demandArguments_7 d_X_demandArguments_8 d_X_demandArguments_10 d_X_demandArguments_13 hl.1 (Nat.le_of_ble_eq_true rfl) (Nat.le_of_ble_eq_true rfl) (Nat.le_of_ble_eq_true rfl) (Nat.le_of_ble_eq_true rfl) (fun H1 h1 h2 => ⟨Nat.le_refl _, h2, h1, trivial⟩) (fun q h => by cases h)
set_option maxHeartbeats 4000000 in
set_option maxRecDepth 100000 in
/-- demandState, where it isn't so -/
theorem x_X_demandState (l : Launch) (g : gG) (H : Heap) (htr : ∀ e, l.admits e → e.platform.stackTraces = false) : MetX l y_X_demandState (wC y_X_demandState b_X_demandState 1 none) (rmk 6 1 6 90) (pC g H [.int (bI false)]) (qX H no_ isE (fun _ => True)) 1 6 (fW H no_) := by
  refine mX (by decide) (Nat.le_of_ble_eq_true rfl) ?_
  intro p e s m below meth c ls C0 hH hZ hno hl
  have C0 : cF g p s m _ meth c b_X_demandState 1 "RegistryLog" none := C0
  obtain ⟨hx, hb, hml, hown, hts, hr, hlk, hK⟩ := id C0
  subst hH
  have hl : lv_has ls 1 [(0, .int (bI false))] := hl
  refine lv_iload_n hx hb d_X_demandState_0 rfl (lv_at hl 0 rfl) ?_
  refine z_ne (tgt := 14) (v := false) hx hb d_X_demandState_1 (by decide) (fun c1 => ?_) (fun c1 => ?_)
  · skip
    first | exact absurd c1 (by decide) | exact absurd (by decide) c1
  · skip
    refine w_thr C0 hno htr (in_4 (List.mem_of_getElem? (i := 86) rfl) rfl) (in_4 (List.mem_of_getElem? (i := 87) rfl) rfl) (in_1 (List.mem_of_getElem? (i := 23) rfl) rfl) (by decide) (own_ok own2 (List.mem_of_getElem? (i := 2) rfl) hts hK hZ) hK.2.2.2.2.2.2.2.1 (fun q h => by cases h) (Nat.le_refl _) d_X_demandState_4 d_X_demandState_7 d_X_demandState_8 d_X_demandState_10 d_X_demandState_13 hl.1 (Nat.le_of_ble_eq_true rfl) (Nat.le_of_ble_eq_true rfl) (Nat.le_of_ble_eq_true rfl) (Nat.le_of_ble_eq_true rfl) (fun H1 h1 h2 => ⟨Nat.le_refl _, h2, h1, trivial⟩) (fun q h => by cases h)
theorem k_X_write_4 : kV "RegistryLog" 80 "RegistryLog$Ledger" y_L_size b_L_size 1 (some .int) 0 := ⟨(in_3 (List.mem_of_getElem? (i := 38) rfl) rfl), (in_3 (List.mem_of_getElem? (i := 39) rfl) rfl), (in_3 (List.mem_of_getElem? (i := 40) rfl) rfl), (in_1 (List.mem_of_getElem? (i := 6) rfl) rfl), (in_3 (List.mem_of_getElem? (i := 41) rfl) rfl), ⟨by decide, by decide, by decide +kernel⟩⟩
theorem k_X_write_19 : kS "RegistryLog" 77 y_X_demandState b_X_demandState 1 none 1 := ⟨(in_4 (List.mem_of_getElem? (i := 83) rfl) rfl), (in_4 (List.mem_of_getElem? (i := 84) rfl) rfl), (in_1 (List.mem_of_getElem? (i := 1) rfl) rfl), (in_4 (List.mem_of_getElem? (i := 85) rfl) rfl), ⟨by decide, by decide, by decide +kernel⟩⟩
theorem k_X_write_27 : kV "RegistryLog" 211 "RegistryLog$Ledger" y_L_append b_L_append 2 none 1 := ⟨(in_3 (List.mem_of_getElem? (i := 164) rfl) rfl), (in_3 (List.mem_of_getElem? (i := 165) rfl) rfl), (in_3 (List.mem_of_getElem? (i := 166) rfl) rfl), (in_1 (List.mem_of_getElem? (i := 6) rfl) rfl), (in_3 (List.mem_of_getElem? (i := 167) rfl) rfl), ⟨by decide, by decide, by decide +kernel⟩⟩
set_option maxHeartbeats 4000000 in
set_option maxRecDepth 100000 in
/-- write -/
theorem c_X_write (l : Launch) (g : gG) (H : Heap) (Z : Nat → Prop) (x : Nat) (ad : Nat → Nat) (ms nm nw : Nat) (rows : List Rw) (mir : Nat → List Rw) (T : List Nat) (f : Nat → Int64) (k q : Nat) (f2 : Nat → Int64) (k2 : Nat) (hX : cX Z g H x ad ms nm nw rows mir T f k q f2 k2 0) (a9 : Nat) (R1 : Rw) (hR1 : pR (PX Z ad) g H a9 R1) (hlt : rows.length < 120) : Met l y_X_write (wC y_X_write b_X_write 3 (some .int)) (rmk 1 0 0 21) (pC g H [.ref x, .ref a9]) (qW H (NX ad) (fun r H1 => r = some (.int (nI rows.length)) ∧ cX Z g H1 x ad ms nm nw (rows ++ [R1]) mir T f k q f2 k2 0)) 0 0 (fW H (NX ad)) := by
  refine mB (by decide) (Nat.le_of_ble_eq_true rfl) ?_
  intro p e s m below meth c ls C0 hH hZ hnm hl
  have C0 : cF g p s m _ meth c b_X_write 3 "RegistryLog" (some .int) := C0
  obtain ⟨hx, hb, hml, hown, hts, hr, hlk, hK⟩ := id C0
  subst hH
  have hl : lv_has ls 3 [(0, .ref x), (1, .ref a9)] := hl
  have hS : va_S (fW s.heap (NX ad)) s.heap s.heap [] := hS_rf
  have hX0 := hX
  refine lv_aload_n hx hb d_X_write_0 rfl (lv_at hl 0 rfl) ?_
  refine va_get (D := g.1) (ci := 0) (C := R_X) (T := F_X) (N := 6) hx hb hts i_X hown hK.1 (cX_ob hX) 0 rfl rfl 1 (by decide) (hts (.fieldLink "RegistryLog" 19 "RegistryLog" "log" "LRegistryLog$Ledger;") (in_3 (List.mem_of_getElem? (i := 10) rfl) rfl)) (fun _ h9 => h9) rfl d_X_write_1 ?_
  obtain ⟨n9, f9, fl0, fl1, hn9, hr120, hrs9⟩ := id (cX_log hX)
  refine aP (rV (As := []) (rest := []) C0 (c_L_size l g _ (ad 2) (ad 3) n9 (nI rows.length) fl0) (zK_S hZ hS (cX_old hX0)) k_X_write_4 rfl rfl ⟨Nat.le_of_ble_eq_true rfl, Nat.le_of_ble_eq_true rfl⟩ (ob_recv hK fl0 rfl) rfl hl.1 rfl (Nat.le_of_ble_eq_true rfl) d_X_write_4 ⟨by show 0 + 0 ≤ 0; omega, by show 0 + 0 ≤ 0; omega⟩) ?_
  intro v hv; subst hv
  refine W.eq (g2 := F0 m 7 ls [.int (nI rows.length)]) rfl ?_
  refine lv_istore_n (lv' := [(2, .int (nI rows.length)), (0, .ref x), (1, .ref a9)]) hx hb d_X_write_7 rfl hl (by decide) rfl (fun ls hl => ?_)
  refine lv_iload_n hx hb d_X_write_8 rfl (lv_at hl 0 rfl) ?_
  refine lv_bipush (v := nI 120) hx hb d_X_write_9 (by decide) ?_
  refine n_ge (tgt := 18) (a := rows.length) (b := 120) hx hb d_X_write_11 (by decide) (by omega) (by omega) (fun c11 => ?_) (fun c11 => ?_)
  · skip
    exact absurd c11 (by omega)
  · skip
    refine lv_iconst (v := bI true) hx hb d_X_write_14 (by decide) ?_
    refine lv_goto (tgt := 19) hx hb d_X_write_15 (by decide) ?_
    refine aP (rS (As := [.int (bI true)]) (rest := []) C0 (c_X_demandState l g _) (zK_S hZ hS (cX_old hX0)) k_X_write_19 rfl rfl ⟨Nat.le_of_ble_eq_true rfl, Nat.le_of_ble_eq_true rfl⟩ rfl hl.1 rfl (Nat.le_of_ble_eq_true rfl) d_X_write_19 ⟨by show 0 + 0 ≤ 0; omega, by show 0 + 0 ≤ 0; omega⟩) ?_
    intro v hv; subst hv
    refine W.eq (g2 := F0 m 22 ls []) rfl ?_
    refine lv_aload_n hx hb d_X_write_22 rfl (lv_at hl 1 rfl) ?_
    refine va_get (D := g.1) (ci := 0) (C := R_X) (T := F_X) (N := 6) hx hb hts i_X hown hK.1 (cX_ob hX) 0 rfl rfl 1 (by decide) (hts (.fieldLink "RegistryLog" 19 "RegistryLog" "log" "LRegistryLog$Ledger;") (in_3 (List.mem_of_getElem? (i := 10) rfl) rfl)) (fun _ h9 => h9) rfl d_X_write_23 ?_
    refine lv_aload_n hx hb d_X_write_26 rfl (lv_at hl 2 rfl) ?_
    obtain ⟨na9, nb9, hP9, hob9, hnn1, hnn2⟩ := id hR1
    refine aW (N := (fun a => a = ad 2 ∨ a = ad 3)) (rV (As := [.ref a9]) (rest := []) C0 (c_L_append l g _ (ad 2) (ad 3) n9 rows.length a9 f9 _ fl0 fl1 hob9 (cX_ne hX (by decide) (by decide) (by decide)) (hP9.1 2 (by decide)) (hP9.1 3 (by decide)) hlt) (zK_S hZ hS (cX_old hX0)) k_X_write_27 rfl rfl ⟨Nat.le_of_ble_eq_true rfl, Nat.le_of_ble_eq_true rfl⟩ (ob_recv hK fl0 rfl) rfl hl.1 rfl (Nat.le_of_ble_eq_true rfl) d_X_write_27 ⟨by show 0 + 0 ≤ 0; omega, by show 0 + 0 ≤ 0; omega⟩) (fun v H L hC1 hp hL => ?_)
    have hS0 := hS
    have hS := hS_call hS hC1 hL (fun a h => Or.inl (h.elim (fun z => ⟨2, by decide, z⟩) (fun z => ⟨3, by decide, z⟩)))
    obtain ⟨rfl, g0, g1⟩ := hp
    have hpm : ∀ a, PX Z ad a → a < s.heap.size → H[a]? = s.heap[a]? := fun a b c => hC_at hC1 c (fun z => z.elim (b.1 2 (by decide)) (b.1 3 (by decide)))
    have hX := cX_setL hX (fun a h1 h2 => hC_at hC1 h1 h2) (pL_app hn9 hrs9 hpm g0 g1 (pR_mv hR1 (fun a b c => ⟨hpm a b c, b⟩)) hlt)
    refine W.eq (g2 := F0 m 30 ls []) rfl ?_
    refine lv_iload_n hx hb d_X_write_30 rfl (lv_at hl 0 rfl) ?_
    refine W.widen (k := 0) (n := 0) (by omega) (by omega) ?_
    exact W.iret hx hb hr (fun t9 ht hW => ⟨_, rfl, by rw [ht]; exact hS_hC hS, by rw [ht]; exact ⟨rfl, hX⟩⟩) hS.2.2 d_X_write_31 hlk
set_option maxHeartbeats 4000000 in
set_option maxRecDepth 100000 in
/-- write, where the log is full -/
theorem x_X_write (l : Launch) (g : gG) (H : Heap) (htr : ∀ e, l.admits e → e.platform.stackTraces = false) (Z : Nat → Prop) (x : Nat) (ad : Nat → Nat) (ms nm nw : Nat) (rows : List Rw) (mir : Nat → List Rw) (T : List Nat) (f : Nat → Int64) (k q : Nat) (f2 : Nat → Int64) (k2 : Nat) (hX : cX Z g H x ad ms nm nw rows mir T f k q f2 k2 0) (a9 : Nat) (hge : ¬ rows.length < 120) : MetX l y_X_write (wC y_X_write b_X_write 3 (some .int)) (rmk 7 1 6 110) (pC g H [.ref x, .ref a9]) (qX H (NX ad) isE (fun H1 => cX Z g H1 x ad ms nm nw rows mir T f k q f2 k2 0)) 1 6 (fW H (NX ad)) := by
  refine mX (by decide) (Nat.le_of_ble_eq_true rfl) ?_
  intro p e s m below meth c ls C0 hH hZ hno hl
  have C0 : cF g p s m _ meth c b_X_write 3 "RegistryLog" (some .int) := C0
  obtain ⟨hx, hb, hml, hown, hts, hr, hlk, hK⟩ := id C0
  subst hH
  have hl : lv_has ls 3 [(0, .ref x), (1, .ref a9)] := hl
  have hS : va_S (fW s.heap (NX ad)) s.heap s.heap [] := hS_rf
  have hX0 := hX
  refine lv_aload_n hx hb d_X_write_0 rfl (lv_at hl 0 rfl) ?_
  refine va_get (D := g.1) (ci := 0) (C := R_X) (T := F_X) (N := 6) hx hb hts i_X hown hK.1 (cX_ob hX) 0 rfl rfl 1 (by decide) (hts (.fieldLink "RegistryLog" 19 "RegistryLog" "log" "LRegistryLog$Ledger;") (in_3 (List.mem_of_getElem? (i := 10) rfl) rfl)) (fun _ h9 => h9) rfl d_X_write_1 ?_
  obtain ⟨n9, f9, fl0, fl1, hn9, hr120, hrs9⟩ := id (cX_log hX)
  refine aP (rV (As := []) (rest := []) C0 (c_L_size l g _ (ad 2) (ad 3) n9 (nI rows.length) fl0) (zK_S hZ hS (cX_old hX0)) k_X_write_4 rfl rfl ⟨Nat.le_of_ble_eq_true rfl, Nat.le_of_ble_eq_true rfl⟩ (ob_recv hK fl0 rfl) rfl hl.1 rfl (Nat.le_of_ble_eq_true rfl) d_X_write_4 ⟨by show 0 + 0 ≤ 1; omega, by show 0 + 0 ≤ 6; omega⟩) ?_
  intro v hv; subst hv
  refine W.eq (g2 := F0 m 7 ls [.int (nI rows.length)]) rfl ?_
  refine lv_istore_n (lv' := [(2, .int (nI rows.length)), (0, .ref x), (1, .ref a9)]) hx hb d_X_write_7 rfl hl (by decide) rfl (fun ls hl => ?_)
  refine lv_iload_n hx hb d_X_write_8 rfl (lv_at hl 0 rfl) ?_
  refine lv_bipush (v := nI 120) hx hb d_X_write_9 (by decide) ?_
  refine n_ge (tgt := 18) (a := rows.length) (b := 120) hx hb d_X_write_11 (by decide) (by omega) (by omega) (fun c11 => ?_) (fun c11 => ?_)
  · skip
    refine lv_iconst (v := bI false) hx hb d_X_write_18 (by decide) ?_
    refine rSX (As := [.int (bI false)]) (rest := []) C0 (x_X_demandState l g _ htr) (zK_S hZ hS (cX_old hX0)) k_X_write_19 rfl rfl ⟨Nat.le_of_ble_eq_true rfl, Nat.le_of_ble_eq_true rfl⟩ rfl hl.1 rfl (Nat.le_of_ble_eq_true rfl) d_X_write_19 ⟨by show 0 + 1 ≤ 1; omega, by show 0 + 6 ≤ 6; omega⟩ (fun x9 H L st hW9 hq9 hL => ?_)
    obtain ⟨hx1, ⟨ce, hx2, hx3, hx4⟩, hC1, hp⟩ := hq9
    have hS1 := hS_call hS hC1 hL (fun q h => h.elim)
    refine WX.widen (k := 1) (n := 6) (by omega) (by omega) ?_
    refine WX.out hno ⟨Nat.le_trans hS.1 hx1, ⟨ce, hx2, hx3, by rw [← hW9.alike.findClass]; exact hx4⟩, hS_hC hS1, cX_new hX hC1⟩ hS1.2.2 hlk
  · skip
    exact absurd c11 (by omega)
