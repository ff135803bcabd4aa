abbrev b_W_publish : ByteArray := method_3_code
def y_W_publish : MethodName := ⟨"RegistryLogLaw", "publish", "(LRegistryLog;III[J)I"⟩
theorem d_W_publish_0 : decode b_W_publish 0 = .ok (.aload 4, 2) := by decide +kernel
theorem d_W_publish_2 : decode b_W_publish 2 = .ok (.iconst 0, 1) := by decide +kernel
theorem d_W_publish_3 : decode b_W_publish 3 = .ok (.aload_n 0, 1) := by decide +kernel
theorem d_W_publish_4 : decode b_W_publish 4 = .ok (.iload_n 1, 1) := by decide +kernel
theorem d_W_publish_5 : decode b_W_publish 5 = .ok (.iload_n 2, 1) := by decide +kernel
theorem d_W_publish_6 : decode b_W_publish 6 = .ok (.iload_n 3, 1) := by decide +kernel
theorem d_W_publish_7 : decode b_W_publish 7 = .ok (.invokevirtual 7, 3) := by decide +kernel
theorem d_W_publish_10 : decode b_W_publish 10 = .ok (.i2l, 1) := by decide +kernel
theorem d_W_publish_11 : decode b_W_publish 11 = .ok (.lastore, 1) := by decide +kernel
theorem d_W_publish_12 : decode b_W_publish 12 = .ok (.goto 11, 3) := by decide +kernel
theorem d_W_publish_15 : decode b_W_publish 15 = .ok (.astore 5, 2) := by decide +kernel
theorem d_W_publish_17 : decode b_W_publish 17 = .ok (.iconst 1, 1) := by decide +kernel
theorem d_W_publish_18 : decode b_W_publish 18 = .ok (.ireturn, 1) := by decide +kernel
theorem d_W_publish_19 : decode b_W_publish 19 = .ok (.astore 5, 2) := by decide +kernel
theorem d_W_publish_21 : decode b_W_publish 21 = .ok (.iconst 2, 1) := by decide +kernel
theorem d_W_publish_22 : decode b_W_publish 22 = .ok (.ireturn, 1) := by decide +kernel
theorem d_W_publish_23 : decode b_W_publish 23 = .ok (.iconst 0, 1) := by decide +kernel
theorem d_W_publish_24 : decode b_W_publish 24 = .ok (.ireturn, 1) := by decide +kernel

theorem k_W_publish_7 : kV "RegistryLogLaw" 7 "RegistryLog" y_X_publish b_X_publish 6 (some .int) 3 := ⟨(in_4 (List.mem_of_getElem? (i := 46) rfl) rfl), (in_4 (List.mem_of_getElem? (i := 47) rfl) rfl), (in_4 (List.mem_of_getElem? (i := 48) rfl) rfl), (in_1 (List.mem_of_getElem? (i := 1) rfl) rfl), (in_4 (List.mem_of_getElem? (i := 49) rfl) rfl), ⟨by decide, by decide, by decide +kernel⟩⟩
set_option maxHeartbeats 4000000 in
set_option maxRecDepth 100000 in
theorem c_W_publish_0 (l : Launch) (g : gG) (H : Heap) (htr : ∀ e, l.admits e → e.platform.stackTraces = false) (Z : Nat → Prop) (x : Nat) (ad : Nat → Nat) (ms nm nw : Nat) (rows : List Rw) (mir : Nat → List Rw) (T : List Nat) (f : Nat → Int64) (k q : Nat) (f2 : Nat → Int64) (k2 : Nat) (hX : cX Z g H x ad ms nm nw rows mir T f k q f2 k2 0) (hsz : g.2.2.1 ≤ H.size) (hZb : ∀ a, H.size ≤ a → Z a) (o9 : Nat) (fo : Nat → Int64) (fo1 : ar g 1 H o9 (1, .inr (.inl fo))) (ho2 : ∀ j, j < 16 → o9 ≠ ad j) (ho9 : g.2.2.1 ≤ o9) (hoz : ¬ Z o9) (who v0 sm : Int32) (og0 : Int32) (hA1 : nameS T = true) (hA2 : decide (0 ≤ who ∧ who < 8) = true) (hA3 : decide (0 ≤ v0 ∧ v0 < 1000) = true) (hmay : pubC rows T who v0 = true) (hog : (if oS T rows (-1) = -1 then nI rows.length else oS T rows (-1)) = og0) (hlt : rows.length < 120) : Met l y_W_publish (wCW y_W_publish b_W_publish 6 (some .int) [(0, 12, 15, 13), (0, 12, 19, 15)]) (rmk 10 34 968 222) (pC g H [.ref x, .int who, .int v0, .int sm, .ref o9]) (qW H (fun a => NX ad a ∨ a = o9) (fun r H1 => r = some (.int (nI 0)) ∧ (∃ v2, cX Z g H1 x (adU ad v2) ms nm nw (rows ++ [(0, who, T, T, v0, sm, og0)]) mir ([]) f k q f2 k2 0) ∧ ar g 1 H1 o9 (1, .inr (.inl (vp_updL fo 0 (nI rows.length).toInt64))))) 34 968 (fW H (fun a => NX ad a ∨ a = o9)) := by
  refine mBW (by decide) (Nat.le_of_ble_eq_true rfl) ?_
  intro p e s m below meth c ls C0 hH hZ hrows hl
  have C0 : cF g p s m _ meth c b_W_publish 6 "RegistryLogLaw" (some .int) := C0
  obtain ⟨hx, hb, hml, hown, hts, hr, hlk, hK⟩ := id C0
  subst hH
  have hl : lv_has ls 6 [(0, .ref x), (1, .int who), (2, .int v0), (3, .int sm), (4, .ref o9)] := hl
  have hS : va_S (fW s.heap (fun a => NX ad a ∨ a = o9)) s.heap s.heap [] := hS_rf
  have hX0 := hX
  refine lv_aload hx hb d_W_publish_0 (lv_at hl 4 rfl) ?_
  refine lv_iconst (v := nI 0) hx hb d_W_publish_2 (by decide) ?_
  refine lv_aload_n hx hb d_W_publish_3 rfl (lv_at hl 0 rfl) ?_
  refine lv_iload_n hx hb d_W_publish_4 rfl (lv_at hl 1 rfl) ?_
  refine lv_iload_n hx hb d_W_publish_5 rfl (lv_at hl 2 rfl) ?_
  refine lv_iload_n hx hb d_W_publish_6 rfl (lv_at hl 3 rfl) ?_
  refine aW (N := (NX ad)) (rV (As := [.int who, .int v0, .int sm]) (rest := [.int (nI 0), .ref o9]) C0 (c_X_publish l g _ Z x ad ms nm nw rows mir T f k q f2 k2 hX hsz hZb who v0 sm og0 hA1 hA2 hA3 hmay hog hlt) (zK_S hZ hS (fun q9 h => h.elim (fun z => cX_old hX0 q9 z) (fun z => by rw [z]; exact ho9))) k_W_publish_7 rfl rfl ⟨Nat.le_of_ble_eq_true rfl, Nat.le_of_ble_eq_true rfl⟩ (ob_recv hK (cX_ob hX) rfl) rfl hl.1 rfl (Nat.le_of_ble_eq_true rfl) d_W_publish_7 ⟨by show 0 + 33 ≤ 34; omega, by show 0 + 962 ≤ 968; omega⟩) (fun v H L hC1 hp hL => ?_)
  have hS0 := hS
  have hS := hS_call hS hC1 hL (fun a h => Or.inl (Or.inl h))
  have fo1 := ar_kept fo1 (hC_at hC1 (ar_lt fo1) (fun z => by obtain ⟨j, hj, z2⟩ := z; exact ho2 j hj z2))
  obtain ⟨v2, rfl, hX⟩ := hp
  refine W.eq (g2 := F0 m 10 ls [.int (nI rows.length), .int (nI 0), .ref o9]) rfl ?_
  refine lv_i2l hx hb d_W_publish_10 rfl ?_
  refine s_last hx hb hK hS (Or.inl (Or.inr rfl)) fo1 0 rfl (by omega) (by omega) d_W_publish_11 (fun H locs fo1 hz oq hS => ?_)
  have hX := cX_mv (Z' := Z) hX (fun a h1 h2 => ⟨oq a (fun z => hoz (z ▸ h1)), h1⟩)
  refine lv_goto (tgt := 23) hx hb d_W_publish_12 (by decide) ?_
  refine lv_iconst (v := nI 0) hx hb d_W_publish_23 (by decide) ?_
  refine W.widen (k := 34) (n := 968) (by omega) (by omega) ?_
  exact W.iret hx hb hr (fun t9 ht hW => ⟨_, rfl, by rw [ht]; exact hS_hC hS, by rw [ht]; exact ⟨rfl, ⟨v2, hX⟩, fo1⟩⟩) hS.2.2 d_W_publish_24 hlk
set_option maxHeartbeats 4000000 in
set_option maxRecDepth 100000 in
theorem c_W_publish_B (l : Launch) (g : gG) (H : Heap) (htr : ∀ e, l.admits e → e.platform.stackTraces = false) (Z : Nat → Prop) (x : Nat) (ad : Nat → Nat) (ms nm nw : Nat) (rows : List Rw) (mir : Nat → List Rw) (T : List Nat) (f : Nat → Int64) (k q : Nat) (f2 : Nat → Int64) (k2 : Nat) (hX : cX Z g H x ad ms nm nw rows mir T f k q f2 k2 0) (hsz : g.2.2.1 ≤ H.size) (hZb : ∀ a, H.size ≤ a → Z a) (o9 : Nat) (fo : Nat → Int64) (fo1 : ar g 1 H o9 (1, .inr (.inl fo))) (ho2 : ∀ j, j < 16 → o9 ≠ ad j) (ho9 : g.2.2.1 ≤ o9) (hoz : ¬ Z o9) (who v0 sm : Int32) (hbad : (nameS T && (decide (0 ≤ who ∧ who < 8) && decide (0 ≤ v0 ∧ v0 < 1000))) = false) : Met l y_W_publish (wCW y_W_publish b_W_publish 6 (some .int) [(0, 12, 15, 13), (0, 12, 19, 15)]) (rmk 10 34 968 222) (pC g H [.ref x, .int who, .int v0, .int sm, .ref o9]) (qW H (fun a => NX ad a ∨ a = o9) (fun r H1 => r = some (.int (nI 1)) ∧ (∃ v2, cX Z g H1 x (adU ad v2) ms nm nw rows mir ([]) f k q f2 k2 0) ∧ ar g 1 H1 o9 (1, .inr (.inl fo)))) 34 968 (fW H (fun a => NX ad a ∨ a = o9)) := by
  refine mBW (by decide) (Nat.le_of_ble_eq_true rfl) ?_
  intro p e s m below meth c ls C0 hH hZ hrows hl
  have C0 : cF g p s m _ meth c b_W_publish 6 "RegistryLogLaw" (some .int) := C0
  obtain ⟨hx, hb, hml, hown, hts, hr, hlk, hK⟩ := id C0
  subst hH
  have hl : lv_has ls 6 [(0, .ref x), (1, .int who), (2, .int v0), (3, .int sm), (4, .ref o9)] := hl
  have hS : va_S (fW s.heap (fun a => NX ad a ∨ a = o9)) s.heap s.heap [] := hS_rf
  have hX0 := hX
  refine lv_aload hx hb d_W_publish_0 (lv_at hl 4 rfl) ?_
  refine lv_iconst (v := nI 0) hx hb d_W_publish_2 (by decide) ?_
  refine lv_aload_n hx hb d_W_publish_3 rfl (lv_at hl 0 rfl) ?_
  refine lv_iload_n hx hb d_W_publish_4 rfl (lv_at hl 1 rfl) ?_
  refine lv_iload_n hx hb d_W_publish_5 rfl (lv_at hl 2 rfl) ?_
  refine lv_iload_n hx hb d_W_publish_6 rfl (lv_at hl 3 rfl) ?_
  refine rVX (As := [.int who, .int v0, .int sm]) (rest := [.int (nI 0), .ref o9]) C0 (x_X_publishB l g _ htr Z x ad ms nm nw rows mir T f k q f2 k2 hX hsz hZb who v0 sm hbad) (zK_S hZ hS (fun q9 h => h.elim (fun z => cX_old hX0 q9 z) (fun z => by rw [z]; exact ho9))) k_W_publish_7 rfl rfl ⟨Nat.le_of_ble_eq_true rfl, Nat.le_of_ble_eq_true rfl⟩ (ob_recv hK (cX_ob hX) rfl) rfl hl.1 rfl (Nat.le_of_ble_eq_true rfl) d_W_publish_7 ⟨Nat.le_of_ble_eq_true rfl, Nat.le_of_ble_eq_true rfl⟩ (fun x9 H L st hW9 hq9 hL => ?_)
  obtain ⟨hx1, ⟨ce, hx2, hx3, hx4⟩, hC1, hp⟩ := hq9
  obtain ⟨v2, hX⟩ := hp
  have hS := hS_call hS hC1 hL (fun a h => Or.inl (Or.inl h))
  have fo1 := ar_kept fo1 (hC_at hC1 (ar_lt fo1) (fun z => by obtain ⟨j, hj, z2⟩ := z; exact ho2 j hj z2))
  refine WX.c1 C0 ⟨ce, hx2, hx3, by rw [← hW9.alike.findClass]; exact hx4⟩ hrows (by decide) (in_4 (List.mem_of_getElem? (i := 44) rfl) rfl) ?_
  refine lv_astore (lv' := [(5, .ref x9), (0, .ref x), (1, .int who), (2, .int v0), (3, .int sm), (4, .ref o9)]) hx hb d_W_publish_15 hl (by decide) rfl (fun ls hl => ?_)
  refine lv_iconst (v := nI 1) hx hb d_W_publish_17 (by decide) ?_
  refine W.widen (k := 34) (n := 968) (by omega) (by omega) ?_
  exact W.iret hx hb hr (fun t9 ht hW => ⟨_, rfl, by rw [ht]; exact hS_hC hS, by rw [ht]; exact ⟨rfl, ⟨v2, hX⟩, fo1⟩⟩) hS.2.2 d_W_publish_18 hlk
set_option maxHeartbeats 4000000 in
set_option maxRecDepth 100000 in
theorem c_W_publish_S (l : Launch) (g : gG) (H : Heap) (htr : ∀ e, l.admits e → e.platform.stackTraces = false) (Z : Nat → Prop) (x : Nat) (ad : Nat → Nat) (ms nm nw : Nat) (rows : List Rw) (mir : Nat → List Rw) (T : List Nat) (f : Nat → Int64) (k q : Nat) (f2 : Nat → Int64) (k2 : Nat) (hX : cX Z g H x ad ms nm nw rows mir T f k q f2 k2 0) (hsz : g.2.2.1 ≤ H.size) (hZb : ∀ a, H.size ≤ a → Z a) (o9 : Nat) (fo : Nat → Int64) (fo1 : ar g 1 H o9 (1, .inr (.inl fo))) (ho2 : ∀ j, j < 16 → o9 ≠ ad j) (ho9 : g.2.2.1 ≤ o9) (hoz : ¬ Z o9) (who v0 sm : Int32) (hA1 : nameS T = true) (hA2 : decide (0 ≤ who ∧ who < 8) = true) (hA3 : decide (0 ≤ v0 ∧ v0 < 1000) = true) (hst : pubC rows T who v0 = false) : Met l y_W_publish (wCW y_W_publish b_W_publish 6 (some .int) [(0, 12, 15, 13), (0, 12, 19, 15)]) (rmk 10 34 968 222) (pC g H [.ref x, .int who, .int v0, .int sm, .ref o9]) (qW H (fun a => NX ad a ∨ a = o9) (fun r H1 => r = some (.int (nI 2)) ∧ (∃ v2, cX Z g H1 x (adU ad v2) ms nm nw rows mir ([]) f k q f2 k2 0) ∧ ar g 1 H1 o9 (1, .inr (.inl fo)))) 34 968 (fW H (fun a => NX ad a ∨ a = o9)) := by
  refine mBW (by decide) (Nat.le_of_ble_eq_true rfl) ?_
  intro p e s m below meth c ls C0 hH hZ hrows hl
  have C0 : cF g p s m _ meth c b_W_publish 6 "RegistryLogLaw" (some .int) := C0
  obtain ⟨hx, hb, hml, hown, hts, hr, hlk, hK⟩ := id C0
  subst hH
  have hl : lv_has ls 6 [(0, .ref x), (1, .int who), (2, .int v0), (3, .int sm), (4, .ref o9)] := hl
  have hS : va_S (fW s.heap (fun a => NX ad a ∨ a = o9)) s.heap s.heap [] := hS_rf
  have hX0 := hX
  refine lv_aload hx hb d_W_publish_0 (lv_at hl 4 rfl) ?_
  refine lv_iconst (v := nI 0) hx hb d_W_publish_2 (by decide) ?_
  refine lv_aload_n hx hb d_W_publish_3 rfl (lv_at hl 0 rfl) ?_
  refine lv_iload_n hx hb d_W_publish_4 rfl (lv_at hl 1 rfl) ?_
  refine lv_iload_n hx hb d_W_publish_5 rfl (lv_at hl 2 rfl) ?_
  refine lv_iload_n hx hb d_W_publish_6 rfl (lv_at hl 3 rfl) ?_
  refine rVX (As := [.int who, .int v0, .int sm]) (rest := [.int (nI 0), .ref o9]) C0 (x_X_publishS l g _ htr Z x ad ms nm nw rows mir T f k q f2 k2 hX hsz hZb who v0 sm hA1 hA2 hA3 hst) (zK_S hZ hS (fun q9 h => h.elim (fun z => cX_old hX0 q9 z) (fun z => by rw [z]; exact ho9))) k_W_publish_7 rfl rfl ⟨Nat.le_of_ble_eq_true rfl, Nat.le_of_ble_eq_true rfl⟩ (ob_recv hK (cX_ob hX) rfl) rfl hl.1 rfl (Nat.le_of_ble_eq_true rfl) d_W_publish_7 ⟨Nat.le_of_ble_eq_true rfl, Nat.le_of_ble_eq_true rfl⟩ (fun x9 H L st hW9 hq9 hL => ?_)
  obtain ⟨hx1, ⟨ce, hx2, hx3, hx4⟩, hC1, hp⟩ := hq9
  obtain ⟨v2, hX⟩ := hp
  have hS := hS_call hS hC1 hL (fun a h => Or.inl (Or.inl h))
  have fo1 := ar_kept fo1 (hC_at hC1 (ar_lt fo1) (fun z => by obtain ⟨j, hj, z2⟩ := z; exact ho2 j hj z2))
  refine WX.c2 C0 ⟨ce, hx2, hx3, by rw [← hW9.alike.findClass]; exact hx4⟩ hrows (by decide) (in_4 (List.mem_of_getElem? (i := 44) rfl) rfl) (in_4 (List.mem_of_getElem? (i := 45) rfl) rfl) ?_
  refine lv_astore (lv' := [(5, .ref x9), (0, .ref x), (1, .int who), (2, .int v0), (3, .int sm), (4, .ref o9)]) hx hb d_W_publish_19 hl (by decide) rfl (fun ls hl => ?_)
  refine lv_iconst (v := nI 2) hx hb d_W_publish_21 (by decide) ?_
  refine W.widen (k := 34) (n := 968) (by omega) (by omega) ?_
  exact W.iret hx hb hr (fun t9 ht hW => ⟨_, rfl, by rw [ht]; exact hS_hC hS, by rw [ht]; exact ⟨rfl, ⟨v2, hX⟩, fo1⟩⟩) hS.2.2 d_W_publish_22 hlk
set_option maxHeartbeats 4000000 in
set_option maxRecDepth 100000 in
theorem c_W_publish_F (l : Launch) (g : gG) (H : Heap) (htr : ∀ e, l.admits e → e.platform.stackTraces = false) (Z : Nat → Prop) (x : Nat) (ad : Nat → Nat) (ms nm nw : Nat) (rows : List Rw) (mir : Nat → List Rw) (T : List Nat) (f : Nat → Int64) (k q : Nat) (f2 : Nat → Int64) (k2 : Nat) (hX : cX Z g H x ad ms nm nw rows mir T f k q f2 k2 0) (hsz : g.2.2.1 ≤ H.size) (hZb : ∀ a, H.size ≤ a → Z a) (o9 : Nat) (fo : Nat → Int64) (fo1 : ar g 1 H o9 (1, .inr (.inl fo))) (ho2 : ∀ j, j < 16 → o9 ≠ ad j) (ho9 : g.2.2.1 ≤ o9) (hoz : ¬ Z o9) (who v0 sm : Int32) (og0 : Int32) (hA1 : nameS T = true) (hA2 : decide (0 ≤ who ∧ who < 8) = true) (hA3 : decide (0 ≤ v0 ∧ v0 < 1000) = true) (hmay : pubC rows T who v0 = true) (hog : (if oS T rows (-1) = -1 then nI rows.length else oS T rows (-1)) = og0) (hge : ¬ rows.length < 120) : Met l y_W_publish (wCW y_W_publish b_W_publish 6 (some .int) [(0, 12, 15, 13), (0, 12, 19, 15)]) (rmk 10 34 968 222) (pC g H [.ref x, .int who, .int v0, .int sm, .ref o9]) (qW H (fun a => NX ad a ∨ a = o9) (fun r H1 => r = some (.int (nI 2)) ∧ (∃ v2, cX Z g H1 x (adU ad v2) ms nm nw rows mir ([]) f k q f2 k2 0) ∧ ar g 1 H1 o9 (1, .inr (.inl fo)))) 34 968 (fW H (fun a => NX ad a ∨ a = o9)) := by
  refine mBW (by decide) (Nat.le_of_ble_eq_true rfl) ?_
  intro p e s m below meth c ls C0 hH hZ hrows hl
  have C0 : cF g p s m _ meth c b_W_publish 6 "RegistryLogLaw" (some .int) := C0
  obtain ⟨hx, hb, hml, hown, hts, hr, hlk, hK⟩ := id C0
  subst hH
  have hl : lv_has ls 6 [(0, .ref x), (1, .int who), (2, .int v0), (3, .int sm), (4, .ref o9)] := hl
  have hS : va_S (fW s.heap (fun a => NX ad a ∨ a = o9)) s.heap s.heap [] := hS_rf
  have hX0 := hX
  refine lv_aload hx hb d_W_publish_0 (lv_at hl 4 rfl) ?_
  refine lv_iconst (v := nI 0) hx hb d_W_publish_2 (by decide) ?_
  refine lv_aload_n hx hb d_W_publish_3 rfl (lv_at hl 0 rfl) ?_
  refine lv_iload_n hx hb d_W_publish_4 rfl (lv_at hl 1 rfl) ?_
  refine lv_iload_n hx hb d_W_publish_5 rfl (lv_at hl 2 rfl) ?_
  refine lv_iload_n hx hb d_W_publish_6 rfl (lv_at hl 3 rfl) ?_
  refine rVX (As := [.int who, .int v0, .int sm]) (rest := [.int (nI 0), .ref o9]) C0 (x_X_publishF l g _ htr Z x ad ms nm nw rows mir T f k q f2 k2 hX hsz hZb who v0 sm og0 hA1 hA2 hA3 hmay hog hge) (zK_S hZ hS (fun q9 h => h.elim (fun z => cX_old hX0 q9 z) (fun z => by rw [z]; exact ho9))) k_W_publish_7 rfl rfl ⟨Nat.le_of_ble_eq_true rfl, Nat.le_of_ble_eq_true rfl⟩ (ob_recv hK (cX_ob hX) rfl) rfl hl.1 rfl (Nat.le_of_ble_eq_true rfl) d_W_publish_7 ⟨Nat.le_of_ble_eq_true rfl, Nat.le_of_ble_eq_true rfl⟩ (fun x9 H L st hW9 hq9 hL => ?_)
  obtain ⟨hx1, ⟨ce, hx2, hx3, hx4⟩, hC1, hp⟩ := hq9
  obtain ⟨v2, hX⟩ := hp
  have hS := hS_call hS hC1 hL (fun a h => Or.inl (Or.inl h))
  have fo1 := ar_kept fo1 (hC_at hC1 (ar_lt fo1) (fun z => by obtain ⟨j, hj, z2⟩ := z; exact ho2 j hj z2))
  refine WX.c2 C0 ⟨ce, hx2, hx3, by rw [← hW9.alike.findClass]; exact hx4⟩ hrows (by decide) (in_4 (List.mem_of_getElem? (i := 44) rfl) rfl) (in_4 (List.mem_of_getElem? (i := 45) rfl) rfl) ?_
  refine lv_astore (lv' := [(5, .ref x9), (0, .ref x), (1, .int who), (2, .int v0), (3, .int sm), (4, .ref o9)]) hx hb d_W_publish_19 hl (by decide) rfl (fun ls hl => ?_)
  refine lv_iconst (v := nI 2) hx hb d_W_publish_21 (by decide) ?_
  refine W.widen (k := 34) (n := 968) (by omega) (by omega) ?_
  exact W.iret hx hb hr (fun t9 ht hW => ⟨_, rfl, by rw [ht]; exact hS_hC hS, by rw [ht]; exact ⟨rfl, ⟨v2, hX⟩, fo1⟩⟩) hS.2.2 d_W_publish_22 hlk
set_option maxHeartbeats 4000000 in
set_option maxRecDepth 100000 in
theorem c_W_publish (l : Launch) (g : gG) (H : Heap) (htr : ∀ e, l.admits e → e.platform.stackTraces = false) (Z : Nat → Prop) (x : Nat) (ad : Nat → Nat) (ms nm nw : Nat) (rows : List Rw) (mir : Nat → List Rw) (T : List Nat) (f : Nat → Int64) (k q : Nat) (f2 : Nat → Int64) (k2 : Nat) (hX : cX Z g H x ad ms nm nw rows mir T f k q f2 k2 0) (hsz : g.2.2.1 ≤ H.size) (hZb : ∀ a, H.size ≤ a → Z a) (o9 : Nat) (fo : Nat → Int64) (fo1 : ar g 1 H o9 (1, .inr (.inl fo))) (ho2 : ∀ j, j < 16 → o9 ≠ ad j) (ho9 : g.2.2.1 ≤ o9) (who v0 sm : Int32) (hoz : ¬ Z o9) (og0 : Int32) (hog : (if oS T rows (-1) = -1 then nI rows.length else oS T rows (-1)) = og0) (cd : Nat) (hcd : endC (!(nameS T && (decide (0 ≤ who ∧ who < 8) && decide (0 ≤ v0 ∧ v0 < 1000)))) (pubC rows T who v0) rows.length = cd) : Met l y_W_publish (wCW y_W_publish b_W_publish 6 (some .int) [(0, 12, 15, 13), (0, 12, 19, 15)]) (rmk 10 34 968 222) (pC g H [.ref x, .int who, .int v0, .int sm, .ref o9]) (qW H (fun a => NX ad a ∨ a = o9) (fun r H1 => r = some (.int (nI cd)) ∧ (∃ v2, cX Z g H1 x (adU ad v2) ms nm nw (if cd = 0 then rows ++ [(0, who, T, T, v0, sm, og0)] else rows) mir ([]) f k q f2 k2 0) ∧ ar g 1 H1 o9 (1, .inr (.inl (if cd = 0 then vp_updL fo 0 (nI rows.length).toInt64 else fo))))) 34 968 (fW H (fun a => NX ad a ∨ a = o9)) := by
  have hl9 : rows.length ≤ 120 := (cX_log hX).choose_spec.choose_spec.2.2.2.1
  rcases hb : (nameS T && (decide (0 ≤ who ∧ who < 8) && decide (0 ≤ v0 ∧ v0 < 1000))) with _ | _
  · rw [hb] at hcd
    have hcd : 1 = cd := hcd
    subst hcd
    exact c_W_publish_B l g H htr Z x ad ms nm nw rows mir T f k q f2 k2 hX hsz hZb o9 fo fo1 ho2 ho9 hoz who v0 sm hb
  · rw [hb] at hcd
    have hb1 := and2 hb
    have hb2 := and2 hb1.2
    have hA1 := hb1.1
    have hA2 := hb2.1
    have hA3 := hb2.2
    rcases hm : pubC rows T who v0 with _ | _
    · rw [hm] at hcd
      have hcd : 2 = cd := hcd
      subst hcd
      exact c_W_publish_S l g H htr Z x ad ms nm nw rows mir T f k q f2 k2 hX hsz hZb o9 fo fo1 ho2 ho9 hoz who v0 sm hA1 hA2 hA3 hm
    · rw [hm] at hcd
      by_cases hq : rows.length = 120
      · have hcd : 2 = cd := by rw [← hcd, endC, decide_eq_true hq]; rfl
        subst hcd
        exact c_W_publish_F l g H htr Z x ad ms nm nw rows mir T f k q f2 k2 hX hsz hZb o9 fo fo1 ho2 ho9 hoz who v0 sm og0 hA1 hA2 hA3 hm hog (by omega)
      · have hcd : 0 = cd := by rw [← hcd, endC, decide_eq_false hq]; rfl
        subst hcd
        exact c_W_publish_0 l g H htr Z x ad ms nm nw rows mir T f k q f2 k2 hX hsz hZb o9 fo fo1 ho2 ho9 hoz who v0 sm og0 hA1 hA2 hA3 hm hog (by omega)
abbrev b_W_yank : ByteArray := method_4_code
def y_W_yank : MethodName := ⟨"RegistryLogLaw", "yank", "(LRegistryLog;IIZ[J)I"⟩
theorem d_W_yank_0 : decode b_W_yank 0 = .ok (.aload 4, 2) := by decide +kernel
theorem d_W_yank_2 : decode b_W_yank 2 = .ok (.iconst 0, 1) := by decide +kernel
theorem d_W_yank_3 : decode b_W_yank 3 = .ok (.aload_n 0, 1) := by decide +kernel
theorem d_W_yank_4 : decode b_W_yank 4 = .ok (.iload_n 1, 1) := by decide +kernel
theorem d_W_yank_5 : decode b_W_yank 5 = .ok (.iload_n 2, 1) := by decide +kernel
theorem d_W_yank_6 : decode b_W_yank 6 = .ok (.iload_n 3, 1) := by decide +kernel
theorem d_W_yank_7 : decode b_W_yank 7 = .ok (.invokevirtual 17, 3) := by decide +kernel
theorem d_W_yank_10 : decode b_W_yank 10 = .ok (.i2l, 1) := by decide +kernel
theorem d_W_yank_11 : decode b_W_yank 11 = .ok (.lastore, 1) := by decide +kernel
theorem d_W_yank_12 : decode b_W_yank 12 = .ok (.goto 11, 3) := by decide +kernel
theorem d_W_yank_15 : decode b_W_yank 15 = .ok (.astore 5, 2) := by decide +kernel
theorem d_W_yank_17 : decode b_W_yank 17 = .ok (.iconst 1, 1) := by decide +kernel
theorem d_W_yank_18 : decode b_W_yank 18 = .ok (.ireturn, 1) := by decide +kernel
theorem d_W_yank_19 : decode b_W_yank 19 = .ok (.astore 5, 2) := by decide +kernel
theorem d_W_yank_21 : decode b_W_yank 21 = .ok (.iconst 2, 1) := by decide +kernel
theorem d_W_yank_22 : decode b_W_yank 22 = .ok (.ireturn, 1) := by decide +kernel
theorem d_W_yank_23 : decode b_W_yank 23 = .ok (.iconst 0, 1) := by decide +kernel
theorem d_W_yank_24 : decode b_W_yank 24 = .ok (.ireturn, 1) := by decide +kernel

theorem k_W_yank_7 : kV "RegistryLogLaw" 17 "RegistryLog" y_X_yank b_X_yank 6 (some .int) 3 := ⟨(in_4 (List.mem_of_getElem? (i := 111) rfl) rfl), (in_4 (List.mem_of_getElem? (i := 112) rfl) rfl), (in_4 (List.mem_of_getElem? (i := 113) rfl) rfl), (in_1 (List.mem_of_getElem? (i := 1) rfl) rfl), (in_4 (List.mem_of_getElem? (i := 114) rfl) rfl), ⟨by decide, by decide, by decide +kernel⟩⟩
set_option maxHeartbeats 4000000 in
set_option maxRecDepth 100000 in
theorem c_W_yank_0 (l : Launch) (g : gG) (H : Heap) (htr : ∀ e, l.admits e → e.platform.stackTraces = false) (Z : Nat → Prop) (x : Nat) (ad : Nat → Nat) (ms nm nw : Nat) (rows : List Rw) (mir : Nat → List Rw) (T : List Nat) (f : Nat → Int64) (k q : Nat) (f2 : Nat → Int64) (k2 : Nat) (hX : cX Z g H x ad ms nm nw rows mir T f k q f2 k2 0) (hsz : g.2.2.1 ≤ H.size) (hZb : ∀ a, H.size ≤ a → Z a) (o9 : Nat) (fo : Nat → Int64) (fo1 : ar g 1 H o9 (1, .inr (.inl fo))) (ho2 : ∀ j, j < 16 → o9 ≠ ad j) (ho9 : g.2.2.1 ≤ o9) (hoz : ¬ Z o9) (who v0 : Int32) (on : Bool) (og0 : Int32) (hA1 : nameS T = true) (hA2 : decide (0 ≤ who ∧ who < 8) = true) (hA3 : decide (0 ≤ v0 ∧ v0 < 1000) = true) (hmay : yanC rows T who v0 on = true) (hog : oS T rows (-1) = og0) (hlt : rows.length < 120) : Met l y_W_yank (wCW y_W_yank b_W_yank 6 (some .int) [(0, 12, 15, 13), (0, 12, 19, 15)]) (rmk 10 34 968 222) (pC g H [.ref x, .int who, .int v0, .int (bI on), .ref o9]) (qW H (fun a => NX ad a ∨ a = o9) (fun r H1 => r = some (.int (nI 0)) ∧ (∃ v2, cX Z g H1 x (adU ad v2) ms nm nw (rows ++ [(1, who, T, T, v0, bI on, og0)]) mir ([]) f k q f2 k2 0) ∧ ar g 1 H1 o9 (1, .inr (.inl (vp_updL fo 0 (nI rows.length).toInt64))))) 34 968 (fW H (fun a => NX ad a ∨ a = o9)) := by
  refine mBW (by decide) (Nat.le_of_ble_eq_true rfl) ?_
  intro p e s m below meth c ls C0 hH hZ hrows hl
  have C0 : cF g p s m _ meth c b_W_yank 6 "RegistryLogLaw" (some .int) := C0
  obtain ⟨hx, hb, hml, hown, hts, hr, hlk, hK⟩ := id C0
  subst hH
  have hl : lv_has ls 6 [(0, .ref x), (1, .int who), (2, .int v0), (3, .int (bI on)), (4, .ref o9)] := hl
  have hS : va_S (fW s.heap (fun a => NX ad a ∨ a = o9)) s.heap s.heap [] := hS_rf
  have hX0 := hX
  refine lv_aload hx hb d_W_yank_0 (lv_at hl 4 rfl) ?_
  refine lv_iconst (v := nI 0) hx hb d_W_yank_2 (by decide) ?_
  refine lv_aload_n hx hb d_W_yank_3 rfl (lv_at hl 0 rfl) ?_
  refine lv_iload_n hx hb d_W_yank_4 rfl (lv_at hl 1 rfl) ?_
  refine lv_iload_n hx hb d_W_yank_5 rfl (lv_at hl 2 rfl) ?_
  refine lv_iload_n hx hb d_W_yank_6 rfl (lv_at hl 3 rfl) ?_
  refine aW (N := (NX ad)) (rV (As := [.int who, .int v0, .int (bI on)]) (rest := [.int (nI 0), .ref o9]) C0 (c_X_yank l g _ Z x ad ms nm nw rows mir T f k q f2 k2 hX hsz hZb who v0 on og0 hA1 hA2 hA3 hmay hog hlt) (zK_S hZ hS (fun q9 h => h.elim (fun z => cX_old hX0 q9 z) (fun z => by rw [z]; exact ho9))) k_W_yank_7 rfl rfl ⟨Nat.le_of_ble_eq_true rfl, Nat.le_of_ble_eq_true rfl⟩ (ob_recv hK (cX_ob hX) rfl) rfl hl.1 rfl (Nat.le_of_ble_eq_true rfl) d_W_yank_7 ⟨by show 0 + 33 ≤ 34; omega, by show 0 + 962 ≤ 968; omega⟩) (fun v H L hC1 hp hL => ?_)
  have hS0 := hS
  have hS := hS_call hS hC1 hL (fun a h => Or.inl (Or.inl h))
  have fo1 := ar_kept fo1 (hC_at hC1 (ar_lt fo1) (fun z => by obtain ⟨j, hj, z2⟩ := z; exact ho2 j hj z2))
  obtain ⟨v2, rfl, hX⟩ := hp
  refine W.eq (g2 := F0 m 10 ls [.int (nI rows.length), .int (nI 0), .ref o9]) rfl ?_
  refine lv_i2l hx hb d_W_yank_10 rfl ?_
  refine s_last hx hb hK hS (Or.inl (Or.inr rfl)) fo1 0 rfl (by omega) (by omega) d_W_yank_11 (fun H locs fo1 hz oq hS => ?_)
  have hX := cX_mv (Z' := Z) hX (fun a h1 h2 => ⟨oq a (fun z => hoz (z ▸ h1)), h1⟩)
  refine lv_goto (tgt := 23) hx hb d_W_yank_12 (by decide) ?_
  refine lv_iconst (v := nI 0) hx hb d_W_yank_23 (by decide) ?_
  refine W.widen (k := 34) (n := 968) (by omega) (by omega) ?_
  exact W.iret hx hb hr (fun t9 ht hW => ⟨_, rfl, by rw [ht]; exact hS_hC hS, by rw [ht]; exact ⟨rfl, ⟨v2, hX⟩, fo1⟩⟩) hS.2.2 d_W_yank_24 hlk
set_option maxHeartbeats 4000000 in
set_option maxRecDepth 100000 in
theorem c_W_yank_B (l : Launch) (g : gG) (H : Heap) (htr : ∀ e, l.admits e → e.platform.stackTraces = false) (Z : Nat → Prop) (x : Nat) (ad : Nat → Nat) (ms nm nw : Nat) (rows : List Rw) (mir : Nat → List Rw) (T : List Nat) (f : Nat → Int64) (k q : Nat) (f2 : Nat → Int64) (k2 : Nat) (hX : cX Z g H x ad ms nm nw rows mir T f k q f2 k2 0) (hsz : g.2.2.1 ≤ H.size) (hZb : ∀ a, H.size ≤ a → Z a) (o9 : Nat) (fo : Nat → Int64) (fo1 : ar g 1 H o9 (1, .inr (.inl fo))) (ho2 : ∀ j, j < 16 → o9 ≠ ad j) (ho9 : g.2.2.1 ≤ o9) (hoz : ¬ Z o9) (who v0 : Int32) (on : Bool) (hbad : (nameS T && (decide (0 ≤ who ∧ who < 8) && decide (0 ≤ v0 ∧ v0 < 1000))) = false) : Met l y_W_yank (wCW y_W_yank b_W_yank 6 (some .int) [(0, 12, 15, 13), (0, 12, 19, 15)]) (rmk 10 34 968 222) (pC g H [.ref x, .int who, .int v0, .int (bI on), .ref o9]) (qW H (fun a => NX ad a ∨ a = o9) (fun r H1 => r = some (.int (nI 1)) ∧ (∃ v2, cX Z g H1 x (adU ad v2) ms nm nw rows mir ([]) f k q f2 k2 0) ∧ ar g 1 H1 o9 (1, .inr (.inl fo)))) 34 968 (fW H (fun a => NX ad a ∨ a = o9)) := by
  refine mBW (by decide) (Nat.le_of_ble_eq_true rfl) ?_
  intro p e s m below meth c ls C0 hH hZ hrows hl
  have C0 : cF g p s m _ meth c b_W_yank 6 "RegistryLogLaw" (some .int) := C0
  obtain ⟨hx, hb, hml, hown, hts, hr, hlk, hK⟩ := id C0
  subst hH
  have hl : lv_has ls 6 [(0, .ref x), (1, .int who), (2, .int v0), (3, .int (bI on)), (4, .ref o9)] := hl
  have hS : va_S (fW s.heap (fun a => NX ad a ∨ a = o9)) s.heap s.heap [] := hS_rf
  have hX0 := hX
  refine lv_aload hx hb d_W_yank_0 (lv_at hl 4 rfl) ?_
  refine lv_iconst (v := nI 0) hx hb d_W_yank_2 (by decide) ?_
  refine lv_aload_n hx hb d_W_yank_3 rfl (lv_at hl 0 rfl) ?_
  refine lv_iload_n hx hb d_W_yank_4 rfl (lv_at hl 1 rfl) ?_
  refine lv_iload_n hx hb d_W_yank_5 rfl (lv_at hl 2 rfl) ?_
  refine lv_iload_n hx hb d_W_yank_6 rfl (lv_at hl 3 rfl) ?_
  refine rVX (As := [.int who, .int v0, .int (bI on)]) (rest := [.int (nI 0), .ref o9]) C0 (x_X_yankB l g _ htr Z x ad ms nm nw rows mir T f k q f2 k2 hX hsz hZb who v0 on hbad) (zK_S hZ hS (fun q9 h => h.elim (fun z => cX_old hX0 q9 z) (fun z => by rw [z]; exact ho9))) k_W_yank_7 rfl rfl ⟨Nat.le_of_ble_eq_true rfl, Nat.le_of_ble_eq_true rfl⟩ (ob_recv hK (cX_ob hX) rfl) rfl hl.1 rfl (Nat.le_of_ble_eq_true rfl) d_W_yank_7 ⟨Nat.le_of_ble_eq_true rfl, Nat.le_of_ble_eq_true rfl⟩ (fun x9 H L st hW9 hq9 hL => ?_)
  obtain ⟨hx1, ⟨ce, hx2, hx3, hx4⟩, hC1, hp⟩ := hq9
  obtain ⟨v2, hX⟩ := hp
  have hS := hS_call hS hC1 hL (fun a h => Or.inl (Or.inl h))
  have fo1 := ar_kept fo1 (hC_at hC1 (ar_lt fo1) (fun z => by obtain ⟨j, hj, z2⟩ := z; exact ho2 j hj z2))
  refine WX.c1 C0 ⟨ce, hx2, hx3, by rw [← hW9.alike.findClass]; exact hx4⟩ hrows (by decide) (in_4 (List.mem_of_getElem? (i := 44) rfl) rfl) ?_
  refine lv_astore (lv' := [(5, .ref x9), (0, .ref x), (1, .int who), (2, .int v0), (3, .int (bI on)), (4, .ref o9)]) hx hb d_W_yank_15 hl (by decide) rfl (fun ls hl => ?_)
  refine lv_iconst (v := nI 1) hx hb d_W_yank_17 (by decide) ?_
  refine W.widen (k := 34) (n := 968) (by omega) (by omega) ?_
  exact W.iret hx hb hr (fun t9 ht hW => ⟨_, rfl, by rw [ht]; exact hS_hC hS, by rw [ht]; exact ⟨rfl, ⟨v2, hX⟩, fo1⟩⟩) hS.2.2 d_W_yank_18 hlk
set_option maxHeartbeats 4000000 in
set_option maxRecDepth 100000 in
theorem c_W_yank_S (l : Launch) (g : gG) (H : Heap) (htr : ∀ e, l.admits e → e.platform.stackTraces = false) (Z : Nat → Prop) (x : Nat) (ad : Nat → Nat) (ms nm nw : Nat) (rows : List Rw) (mir : Nat → List Rw) (T : List Nat) (f : Nat → Int64) (k q : Nat) (f2 : Nat → Int64) (k2 : Nat) (hX : cX Z g H x ad ms nm nw rows mir T f k q f2 k2 0) (hsz : g.2.2.1 ≤ H.size) (hZb : ∀ a, H.size ≤ a → Z a) (o9 : Nat) (fo : Nat → Int64) (fo1 : ar g 1 H o9 (1, .inr (.inl fo))) (ho2 : ∀ j, j < 16 → o9 ≠ ad j) (ho9 : g.2.2.1 ≤ o9) (hoz : ¬ Z o9) (who v0 : Int32) (on : Bool) (hA1 : nameS T = true) (hA2 : decide (0 ≤ who ∧ who < 8) = true) (hA3 : decide (0 ≤ v0 ∧ v0 < 1000) = true) (hst : yanC rows T who v0 on = false) : Met l y_W_yank (wCW y_W_yank b_W_yank 6 (some .int) [(0, 12, 15, 13), (0, 12, 19, 15)]) (rmk 10 34 968 222) (pC g H [.ref x, .int who, .int v0, .int (bI on), .ref o9]) (qW H (fun a => NX ad a ∨ a = o9) (fun r H1 => r = some (.int (nI 2)) ∧ (∃ v2, cX Z g H1 x (adU ad v2) ms nm nw rows mir ([]) f k q f2 k2 0) ∧ ar g 1 H1 o9 (1, .inr (.inl fo)))) 34 968 (fW H (fun a => NX ad a ∨ a = o9)) := by
  refine mBW (by decide) (Nat.le_of_ble_eq_true rfl) ?_
  intro p e s m below meth c ls C0 hH hZ hrows hl
  have C0 : cF g p s m _ meth c b_W_yank 6 "RegistryLogLaw" (some .int) := C0
  obtain ⟨hx, hb, hml, hown, hts, hr, hlk, hK⟩ := id C0
  subst hH
  have hl : lv_has ls 6 [(0, .ref x), (1, .int who), (2, .int v0), (3, .int (bI on)), (4, .ref o9)] := hl
  have hS : va_S (fW s.heap (fun a => NX ad a ∨ a = o9)) s.heap s.heap [] := hS_rf
  have hX0 := hX
  refine lv_aload hx hb d_W_yank_0 (lv_at hl 4 rfl) ?_
  refine lv_iconst (v := nI 0) hx hb d_W_yank_2 (by decide) ?_
  refine lv_aload_n hx hb d_W_yank_3 rfl (lv_at hl 0 rfl) ?_
  refine lv_iload_n hx hb d_W_yank_4 rfl (lv_at hl 1 rfl) ?_
  refine lv_iload_n hx hb d_W_yank_5 rfl (lv_at hl 2 rfl) ?_
  refine lv_iload_n hx hb d_W_yank_6 rfl (lv_at hl 3 rfl) ?_
  refine rVX (As := [.int who, .int v0, .int (bI on)]) (rest := [.int (nI 0), .ref o9]) C0 (x_X_yankS l g _ htr Z x ad ms nm nw rows mir T f k q f2 k2 hX hsz hZb who v0 on hA1 hA2 hA3 hst) (zK_S hZ hS (fun q9 h => h.elim (fun z => cX_old hX0 q9 z) (fun z => by rw [z]; exact ho9))) k_W_yank_7 rfl rfl ⟨Nat.le_of_ble_eq_true rfl, Nat.le_of_ble_eq_true rfl⟩ (ob_recv hK (cX_ob hX) rfl) rfl hl.1 rfl (Nat.le_of_ble_eq_true rfl) d_W_yank_7 ⟨Nat.le_of_ble_eq_true rfl, Nat.le_of_ble_eq_true rfl⟩ (fun x9 H L st hW9 hq9 hL => ?_)
  obtain ⟨hx1, ⟨ce, hx2, hx3, hx4⟩, hC1, hp⟩ := hq9
  obtain ⟨v2, hX⟩ := hp
  have hS := hS_call hS hC1 hL (fun a h => Or.inl (Or.inl h))
  have fo1 := ar_kept fo1 (hC_at hC1 (ar_lt fo1) (fun z => by obtain ⟨j, hj, z2⟩ := z; exact ho2 j hj z2))
  refine WX.c2 C0 ⟨ce, hx2, hx3, by rw [← hW9.alike.findClass]; exact hx4⟩ hrows (by decide) (in_4 (List.mem_of_getElem? (i := 44) rfl) rfl) (in_4 (List.mem_of_getElem? (i := 45) rfl) rfl) ?_
  refine lv_astore (lv' := [(5, .ref x9), (0, .ref x), (1, .int who), (2, .int v0), (3, .int (bI on)), (4, .ref o9)]) hx hb d_W_yank_19 hl (by decide) rfl (fun ls hl => ?_)
  refine lv_iconst (v := nI 2) hx hb d_W_yank_21 (by decide) ?_
  refine W.widen (k := 34) (n := 968) (by omega) (by omega) ?_
  exact W.iret hx hb hr (fun t9 ht hW => ⟨_, rfl, by rw [ht]; exact hS_hC hS, by rw [ht]; exact ⟨rfl, ⟨v2, hX⟩, fo1⟩⟩) hS.2.2 d_W_yank_22 hlk
set_option maxHeartbeats 4000000 in
set_option maxRecDepth 100000 in
theorem c_W_yank_F (l : Launch) (g : gG) (H : Heap) (htr : ∀ e, l.admits e → e.platform.stackTraces = false) (Z : Nat → Prop) (x : Nat) (ad : Nat → Nat) (ms nm nw : Nat) (rows : List Rw) (mir : Nat → List Rw) (T : List Nat) (f : Nat → Int64) (k q : Nat) (f2 : Nat → Int64) (k2 : Nat) (hX : cX Z g H x ad ms nm nw rows mir T f k q f2 k2 0) (hsz : g.2.2.1 ≤ H.size) (hZb : ∀ a, H.size ≤ a → Z a) (o9 : Nat) (fo : Nat → Int64) (fo1 : ar g 1 H o9 (1, .inr (.inl fo))) (ho2 : ∀ j, j < 16 → o9 ≠ ad j) (ho9 : g.2.2.1 ≤ o9) (hoz : ¬ Z o9) (who v0 : Int32) (on : Bool) (og0 : Int32) (hA1 : nameS T = true) (hA2 : decide (0 ≤ who ∧ who < 8) = true) (hA3 : decide (0 ≤ v0 ∧ v0 < 1000) = true) (hmay : yanC rows T who v0 on = true) (hog : oS T rows (-1) = og0) (hge : ¬ rows.length < 120) : Met l y_W_yank (wCW y_W_yank b_W_yank 6 (some .int) [(0, 12, 15, 13), (0, 12, 19, 15)]) (rmk 10 34 968 222) (pC g H [.ref x, .int who, .int v0, .int (bI on), .ref o9]) (qW H (fun a => NX ad a ∨ a = o9) (fun r H1 => r = some (.int (nI 2)) ∧ (∃ v2, cX Z g H1 x (adU ad v2) ms nm nw rows mir ([]) f k q f2 k2 0) ∧ ar g 1 H1 o9 (1, .inr (.inl fo)))) 34 968 (fW H (fun a => NX ad a ∨ a = o9)) := by
  refine mBW (by decide) (Nat.le_of_ble_eq_true rfl) ?_
  intro p e s m below meth c ls C0 hH hZ hrows hl
  have C0 : cF g p s m _ meth c b_W_yank 6 "RegistryLogLaw" (some .int) := C0
  obtain ⟨hx, hb, hml, hown, hts, hr, hlk, hK⟩ := id C0
  subst hH
  have hl : lv_has ls 6 [(0, .ref x), (1, .int who), (2, .int v0), (3, .int (bI on)), (4, .ref o9)] := hl
  have hS : va_S (fW s.heap (fun a => NX ad a ∨ a = o9)) s.heap s.heap [] := hS_rf
  have hX0 := hX
  refine lv_aload hx hb d_W_yank_0 (lv_at hl 4 rfl) ?_
  refine lv_iconst (v := nI 0) hx hb d_W_yank_2 (by decide) ?_
  refine lv_aload_n hx hb d_W_yank_3 rfl (lv_at hl 0 rfl) ?_
  refine lv_iload_n hx hb d_W_yank_4 rfl (lv_at hl 1 rfl) ?_
  refine lv_iload_n hx hb d_W_yank_5 rfl (lv_at hl 2 rfl) ?_
  refine lv_iload_n hx hb d_W_yank_6 rfl (lv_at hl 3 rfl) ?_
  refine rVX (As := [.int who, .int v0, .int (bI on)]) (rest := [.int (nI 0), .ref o9]) C0 (x_X_yankF l g _ htr Z x ad ms nm nw rows mir T f k q f2 k2 hX hsz hZb who v0 on og0 hA1 hA2 hA3 hmay hog hge) (zK_S hZ hS (fun q9 h => h.elim (fun z => cX_old hX0 q9 z) (fun z => by rw [z]; exact ho9))) k_W_yank_7 rfl rfl ⟨Nat.le_of_ble_eq_true rfl, Nat.le_of_ble_eq_true rfl⟩ (ob_recv hK (cX_ob hX) rfl) rfl hl.1 rfl (Nat.le_of_ble_eq_true rfl) d_W_yank_7 ⟨Nat.le_of_ble_eq_true rfl, Nat.le_of_ble_eq_true rfl⟩ (fun x9 H L st hW9 hq9 hL => ?_)
  obtain ⟨hx1, ⟨ce, hx2, hx3, hx4⟩, hC1, hp⟩ := hq9
  obtain ⟨v2, hX⟩ := hp
  have hS := hS_call hS hC1 hL (fun a h => Or.inl (Or.inl h))
  have fo1 := ar_kept fo1 (hC_at hC1 (ar_lt fo1) (fun z => by obtain ⟨j, hj, z2⟩ := z; exact ho2 j hj z2))
  refine WX.c2 C0 ⟨ce, hx2, hx3, by rw [← hW9.alike.findClass]; exact hx4⟩ hrows (by decide) (in_4 (List.mem_of_getElem? (i := 44) rfl) rfl) (in_4 (List.mem_of_getElem? (i := 45) rfl) rfl) ?_
  refine lv_astore (lv' := [(5, .ref x9), (0, .ref x), (1, .int who), (2, .int v0), (3, .int (bI on)), (4, .ref o9)]) hx hb d_W_yank_19 hl (by decide) rfl (fun ls hl => ?_)
  refine lv_iconst (v := nI 2) hx hb d_W_yank_21 (by decide) ?_
  refine W.widen (k := 34) (n := 968) (by omega) (by omega) ?_
  exact W.iret hx hb hr (fun t9 ht hW => ⟨_, rfl, by rw [ht]; exact hS_hC hS, by rw [ht]; exact ⟨rfl, ⟨v2, hX⟩, fo1⟩⟩) hS.2.2 d_W_yank_22 hlk
set_option maxHeartbeats 4000000 in
set_option maxRecDepth 100000 in
theorem c_W_yank (l : Launch) (g : gG) (H : Heap) (htr : ∀ e, l.admits e → e.platform.stackTraces = false) (Z : Nat → Prop) (x : Nat) (ad : Nat → Nat) (ms nm nw : Nat) (rows : List Rw) (mir : Nat → List Rw) (T : List Nat) (f : Nat → Int64) (k q : Nat) (f2 : Nat → Int64) (k2 : Nat) (hX : cX Z g H x ad ms nm nw rows mir T f k q f2 k2 0) (hsz : g.2.2.1 ≤ H.size) (hZb : ∀ a, H.size ≤ a → Z a) (o9 : Nat) (fo : Nat → Int64) (fo1 : ar g 1 H o9 (1, .inr (.inl fo))) (ho2 : ∀ j, j < 16 → o9 ≠ ad j) (ho9 : g.2.2.1 ≤ o9) (who v0 : Int32) (on : Bool) (hoz : ¬ Z o9) (og0 : Int32) (hog : oS T rows (-1) = og0) (cd : Nat) (hcd : endC (!(nameS T && (decide (0 ≤ who ∧ who < 8) && decide (0 ≤ v0 ∧ v0 < 1000)))) (yanC rows T who v0 on) rows.length = cd) : Met l y_W_yank (wCW y_W_yank b_W_yank 6 (some .int) [(0, 12, 15, 13), (0, 12, 19, 15)]) (rmk 10 34 968 222) (pC g H [.ref x, .int who, .int v0, .int (bI on), .ref o9]) (qW H (fun a => NX ad a ∨ a = o9) (fun r H1 => r = some (.int (nI cd)) ∧ (∃ v2, cX Z g H1 x (adU ad v2) ms nm nw (if cd = 0 then rows ++ [(1, who, T, T, v0, bI on, og0)] else rows) mir ([]) f k q f2 k2 0) ∧ ar g 1 H1 o9 (1, .inr (.inl (if cd = 0 then vp_updL fo 0 (nI rows.length).toInt64 else fo))))) 34 968 (fW H (fun a => NX ad a ∨ a = o9)) := by
  have hl9 : rows.length ≤ 120 := (cX_log hX).choose_spec.choose_spec.2.2.2.1
  rcases hb : (nameS T && (decide (0 ≤ who ∧ who < 8) && decide (0 ≤ v0 ∧ v0 < 1000))) with _ | _
  · rw [hb] at hcd
    have hcd : 1 = cd := hcd
    subst hcd
    exact c_W_yank_B l g H htr Z x ad ms nm nw rows mir T f k q f2 k2 hX hsz hZb o9 fo fo1 ho2 ho9 hoz who v0 on hb
  · rw [hb] at hcd
    have hb1 := and2 hb
    have hb2 := and2 hb1.2
    have hA1 := hb1.1
    have hA2 := hb2.1
    have hA3 := hb2.2
    rcases hm : yanC rows T who v0 on with _ | _
    · rw [hm] at hcd
      have hcd : 2 = cd := hcd
      subst hcd
      exact c_W_yank_S l g H htr Z x ad ms nm nw rows mir T f k q f2 k2 hX hsz hZb o9 fo fo1 ho2 ho9 hoz who v0 on hA1 hA2 hA3 hm
    · rw [hm] at hcd
      by_cases hq : rows.length = 120
      · have hcd : 2 = cd := by rw [← hcd, endC, decide_eq_true hq]; rfl
        subst hcd
        exact c_W_yank_F l g H htr Z x ad ms nm nw rows mir T f k q f2 k2 hX hsz hZb o9 fo fo1 ho2 ho9 hoz who v0 on og0 hA1 hA2 hA3 hm hog (by omega)
      · have hcd : 0 = cd := by rw [← hcd, endC, decide_eq_false hq]; rfl
        subst hcd
        exact c_W_yank_0 l g H htr Z x ad ms nm nw rows mir T f k q f2 k2 hX hsz hZb o9 fo fo1 ho2 ho9 hoz who v0 on og0 hA1 hA2 hA3 hm hog (by omega)
abbrev b_W_grant : ByteArray := method_5_code
def y_W_grant : MethodName := ⟨"RegistryLogLaw", "grant", "(LRegistryLog;IIZ[J)I"⟩
theorem d_W_grant_0 : decode b_W_grant 0 = .ok (.aload 4, 2) := by decide +kernel
theorem d_W_grant_2 : decode b_W_grant 2 = .ok (.iconst 0, 1) := by decide +kernel
theorem d_W_grant_3 : decode b_W_grant 3 = .ok (.aload_n 0, 1) := by decide +kernel
theorem d_W_grant_4 : decode b_W_grant 4 = .ok (.iload_n 1, 1) := by decide +kernel
theorem d_W_grant_5 : decode b_W_grant 5 = .ok (.iload_n 2, 1) := by decide +kernel
theorem d_W_grant_6 : decode b_W_grant 6 = .ok (.iload_n 3, 1) := by decide +kernel
theorem d_W_grant_7 : decode b_W_grant 7 = .ok (.invokevirtual 21, 3) := by decide +kernel
theorem d_W_grant_10 : decode b_W_grant 10 = .ok (.i2l, 1) := by decide +kernel
theorem d_W_grant_11 : decode b_W_grant 11 = .ok (.lastore, 1) := by decide +kernel
theorem d_W_grant_12 : decode b_W_grant 12 = .ok (.goto 11, 3) := by decide +kernel
theorem d_W_grant_15 : decode b_W_grant 15 = .ok (.astore 5, 2) := by decide +kernel
theorem d_W_grant_17 : decode b_W_grant 17 = .ok (.iconst 1, 1) := by decide +kernel
theorem d_W_grant_18 : decode b_W_grant 18 = .ok (.ireturn, 1) := by decide +kernel
theorem d_W_grant_19 : decode b_W_grant 19 = .ok (.astore 5, 2) := by decide +kernel
theorem d_W_grant_21 : decode b_W_grant 21 = .ok (.iconst 2, 1) := by decide +kernel
theorem d_W_grant_22 : decode b_W_grant 22 = .ok (.ireturn, 1) := by decide +kernel
theorem d_W_grant_23 : decode b_W_grant 23 = .ok (.iconst 0, 1) := by decide +kernel
theorem d_W_grant_24 : decode b_W_grant 24 = .ok (.ireturn, 1) := by decide +kernel

theorem k_W_grant_7 : kV "RegistryLogLaw" 21 "RegistryLog" y_X_grant b_X_grant 7 (some .int) 3 := ⟨(in_4 (List.mem_of_getElem? (i := 121) rfl) rfl), (in_4 (List.mem_of_getElem? (i := 122) rfl) rfl), (in_4 (List.mem_of_getElem? (i := 123) rfl) rfl), (in_1 (List.mem_of_getElem? (i := 1) rfl) rfl), (in_4 (List.mem_of_getElem? (i := 124) rfl) rfl), ⟨by decide, by decide, by decide +kernel⟩⟩
set_option maxHeartbeats 4000000 in
set_option maxRecDepth 100000 in
theorem c_W_grant_0 (l : Launch) (g : gG) (H : Heap) (htr : ∀ e, l.admits e → e.platform.stackTraces = false) (Z : Nat → Prop) (x : Nat) (ad : Nat → Nat) (ms nm nw : Nat) (rows : List Rw) (mir : Nat → List Rw) (T : List Nat) (f : Nat → Int64) (k q : Nat) (f2 : Nat → Int64) (k2 : Nat) (hX : cX Z g H x ad ms nm nw rows mir T f k q f2 k2 0) (hsz : g.2.2.1 ≤ H.size) (hZb : ∀ a, H.size ≤ a → Z a) (o9 : Nat) (fo : Nat → Int64) (fo1 : ar g 1 H o9 (1, .inr (.inl fo))) (ho2 : ∀ j, j < 16 → o9 ≠ ad j) (ho9 : g.2.2.1 ≤ o9) (hoz : ¬ Z o9) (who oth : Int32) (on : Bool) (og0 : Int32) (hA1 : nameS T = true) (hA2 : decide (0 ≤ who ∧ who < 8) = true) (hA3 : decide (0 ≤ oth ∧ oth < 8) = true) (hmay : graC rows T who oth on = true) (hog : oS T rows (-1) = og0) (hlt : rows.length < 120) : Met l y_W_grant (wCW y_W_grant b_W_grant 6 (some .int) [(0, 12, 15, 13), (0, 12, 19, 15)]) (rmk 10 34 968 223) (pC g H [.ref x, .int who, .int oth, .int (bI on), .ref o9]) (qW H (fun a => NX ad a ∨ a = o9) (fun r H1 => r = some (.int (nI 0)) ∧ (∃ v2, cX Z g H1 x (adU ad v2) ms nm nw (rows ++ [(2, who, T, T, oth, bI on, og0)]) mir ([]) f k q f2 k2 0) ∧ ar g 1 H1 o9 (1, .inr (.inl (vp_updL fo 0 (nI rows.length).toInt64))))) 34 968 (fW H (fun a => NX ad a ∨ a = o9)) := by
  refine mBW (by decide) (Nat.le_of_ble_eq_true rfl) ?_
  intro p e s m below meth c ls C0 hH hZ hrows hl
  have C0 : cF g p s m _ meth c b_W_grant 6 "RegistryLogLaw" (some .int) := C0
  obtain ⟨hx, hb, hml, hown, hts, hr, hlk, hK⟩ := id C0
  subst hH
  have hl : lv_has ls 6 [(0, .ref x), (1, .int who), (2, .int oth), (3, .int (bI on)), (4, .ref o9)] := hl
  have hS : va_S (fW s.heap (fun a => NX ad a ∨ a = o9)) s.heap s.heap [] := hS_rf
  have hX0 := hX
  refine lv_aload hx hb d_W_grant_0 (lv_at hl 4 rfl) ?_
  refine lv_iconst (v := nI 0) hx hb d_W_grant_2 (by decide) ?_
  refine lv_aload_n hx hb d_W_grant_3 rfl (lv_at hl 0 rfl) ?_
  refine lv_iload_n hx hb d_W_grant_4 rfl (lv_at hl 1 rfl) ?_
  refine lv_iload_n hx hb d_W_grant_5 rfl (lv_at hl 2 rfl) ?_
  refine lv_iload_n hx hb d_W_grant_6 rfl (lv_at hl 3 rfl) ?_
  refine aW (N := (NX ad)) (rV (As := [.int who, .int oth, .int (bI on)]) (rest := [.int (nI 0), .ref o9]) C0 (c_X_grant l g _ Z x ad ms nm nw rows mir T f k q f2 k2 hX hsz hZb who oth on og0 hA1 hA2 hA3 hmay hog hlt) (zK_S hZ hS (fun q9 h => h.elim (fun z => cX_old hX0 q9 z) (fun z => by rw [z]; exact ho9))) k_W_grant_7 rfl rfl ⟨Nat.le_of_ble_eq_true rfl, Nat.le_of_ble_eq_true rfl⟩ (ob_recv hK (cX_ob hX) rfl) rfl hl.1 rfl (Nat.le_of_ble_eq_true rfl) d_W_grant_7 ⟨by show 0 + 33 ≤ 34; omega, by show 0 + 962 ≤ 968; omega⟩) (fun v H L hC1 hp hL => ?_)
  have hS0 := hS
  have hS := hS_call hS hC1 hL (fun a h => Or.inl (Or.inl h))
  have fo1 := ar_kept fo1 (hC_at hC1 (ar_lt fo1) (fun z => by obtain ⟨j, hj, z2⟩ := z; exact ho2 j hj z2))
  obtain ⟨v2, rfl, hX⟩ := hp
  refine W.eq (g2 := F0 m 10 ls [.int (nI rows.length), .int (nI 0), .ref o9]) rfl ?_
  refine lv_i2l hx hb d_W_grant_10 rfl ?_
  refine s_last hx hb hK hS (Or.inl (Or.inr rfl)) fo1 0 rfl (by omega) (by omega) d_W_grant_11 (fun H locs fo1 hz oq hS => ?_)
  have hX := cX_mv (Z' := Z) hX (fun a h1 h2 => ⟨oq a (fun z => hoz (z ▸ h1)), h1⟩)
  refine lv_goto (tgt := 23) hx hb d_W_grant_12 (by decide) ?_
  refine lv_iconst (v := nI 0) hx hb d_W_grant_23 (by decide) ?_
  refine W.widen (k := 34) (n := 968) (by omega) (by omega) ?_
  exact W.iret hx hb hr (fun t9 ht hW => ⟨_, rfl, by rw [ht]; exact hS_hC hS, by rw [ht]; exact ⟨rfl, ⟨v2, hX⟩, fo1⟩⟩) hS.2.2 d_W_grant_24 hlk
set_option maxHeartbeats 4000000 in
set_option maxRecDepth 100000 in
theorem c_W_grant_B (l : Launch) (g : gG) (H : Heap) (htr : ∀ e, l.admits e → e.platform.stackTraces = false) (Z : Nat → Prop) (x : Nat) (ad : Nat → Nat) (ms nm nw : Nat) (rows : List Rw) (mir : Nat → List Rw) (T : List Nat) (f : Nat → Int64) (k q : Nat) (f2 : Nat → Int64) (k2 : Nat) (hX : cX Z g H x ad ms nm nw rows mir T f k q f2 k2 0) (hsz : g.2.2.1 ≤ H.size) (hZb : ∀ a, H.size ≤ a → Z a) (o9 : Nat) (fo : Nat → Int64) (fo1 : ar g 1 H o9 (1, .inr (.inl fo))) (ho2 : ∀ j, j < 16 → o9 ≠ ad j) (ho9 : g.2.2.1 ≤ o9) (hoz : ¬ Z o9) (who oth : Int32) (on : Bool) (hbad : (nameS T && (decide (0 ≤ who ∧ who < 8) && decide (0 ≤ oth ∧ oth < 8))) = false) : Met l y_W_grant (wCW y_W_grant b_W_grant 6 (some .int) [(0, 12, 15, 13), (0, 12, 19, 15)]) (rmk 10 34 968 223) (pC g H [.ref x, .int who, .int oth, .int (bI on), .ref o9]) (qW H (fun a => NX ad a ∨ a = o9) (fun r H1 => r = some (.int (nI 1)) ∧ (∃ v2, cX Z g H1 x (adU ad v2) ms nm nw rows mir ([]) f k q f2 k2 0) ∧ ar g 1 H1 o9 (1, .inr (.inl fo)))) 34 968 (fW H (fun a => NX ad a ∨ a = o9)) := by
  refine mBW (by decide) (Nat.le_of_ble_eq_true rfl) ?_
  intro p e s m below meth c ls C0 hH hZ hrows hl
  have C0 : cF g p s m _ meth c b_W_grant 6 "RegistryLogLaw" (some .int) := C0
  obtain ⟨hx, hb, hml, hown, hts, hr, hlk, hK⟩ := id C0
  subst hH
  have hl : lv_has ls 6 [(0, .ref x), (1, .int who), (2, .int oth), (3, .int (bI on)), (4, .ref o9)] := hl
  have hS : va_S (fW s.heap (fun a => NX ad a ∨ a = o9)) s.heap s.heap [] := hS_rf
  have hX0 := hX
  refine lv_aload hx hb d_W_grant_0 (lv_at hl 4 rfl) ?_
  refine lv_iconst (v := nI 0) hx hb d_W_grant_2 (by decide) ?_
  refine lv_aload_n hx hb d_W_grant_3 rfl (lv_at hl 0 rfl) ?_
  refine lv_iload_n hx hb d_W_grant_4 rfl (lv_at hl 1 rfl) ?_
  refine lv_iload_n hx hb d_W_grant_5 rfl (lv_at hl 2 rfl) ?_
  refine lv_iload_n hx hb d_W_grant_6 rfl (lv_at hl 3 rfl) ?_
  refine rVX (As := [.int who, .int oth, .int (bI on)]) (rest := [.int (nI 0), .ref o9]) C0 (x_X_grantB l g _ htr Z x ad ms nm nw rows mir T f k q f2 k2 hX hsz hZb who oth on hbad) (zK_S hZ hS (fun q9 h => h.elim (fun z => cX_old hX0 q9 z) (fun z => by rw [z]; exact ho9))) k_W_grant_7 rfl rfl ⟨Nat.le_of_ble_eq_true rfl, Nat.le_of_ble_eq_true rfl⟩ (ob_recv hK (cX_ob hX) rfl) rfl hl.1 rfl (Nat.le_of_ble_eq_true rfl) d_W_grant_7 ⟨Nat.le_of_ble_eq_true rfl, Nat.le_of_ble_eq_true rfl⟩ (fun x9 H L st hW9 hq9 hL => ?_)
  obtain ⟨hx1, ⟨ce, hx2, hx3, hx4⟩, hC1, hp⟩ := hq9
  obtain ⟨v2, hX⟩ := hp
  have hS := hS_call hS hC1 hL (fun a h => Or.inl (Or.inl h))
  have fo1 := ar_kept fo1 (hC_at hC1 (ar_lt fo1) (fun z => by obtain ⟨j, hj, z2⟩ := z; exact ho2 j hj z2))
  refine WX.c1 C0 ⟨ce, hx2, hx3, by rw [← hW9.alike.findClass]; exact hx4⟩ hrows (by decide) (in_4 (List.mem_of_getElem? (i := 44) rfl) rfl) ?_
  refine lv_astore (lv' := [(5, .ref x9), (0, .ref x), (1, .int who), (2, .int oth), (3, .int (bI on)), (4, .ref o9)]) hx hb d_W_grant_15 hl (by decide) rfl (fun ls hl => ?_)
  refine lv_iconst (v := nI 1) hx hb d_W_grant_17 (by decide) ?_
  refine W.widen (k := 34) (n := 968) (by omega) (by omega) ?_
  exact W.iret hx hb hr (fun t9 ht hW => ⟨_, rfl, by rw [ht]; exact hS_hC hS, by rw [ht]; exact ⟨rfl, ⟨v2, hX⟩, fo1⟩⟩) hS.2.2 d_W_grant_18 hlk
set_option maxHeartbeats 4000000 in
set_option maxRecDepth 100000 in
theorem c_W_grant_S (l : Launch) (g : gG) (H : Heap) (htr : ∀ e, l.admits e → e.platform.stackTraces = false) (Z : Nat → Prop) (x : Nat) (ad : Nat → Nat) (ms nm nw : Nat) (rows : List Rw) (mir : Nat → List Rw) (T : List Nat) (f : Nat → Int64) (k q : Nat) (f2 : Nat → Int64) (k2 : Nat) (hX : cX Z g H x ad ms nm nw rows mir T f k q f2 k2 0) (hsz : g.2.2.1 ≤ H.size) (hZb : ∀ a, H.size ≤ a → Z a) (o9 : Nat) (fo : Nat → Int64) (fo1 : ar g 1 H o9 (1, .inr (.inl fo))) (ho2 : ∀ j, j < 16 → o9 ≠ ad j) (ho9 : g.2.2.1 ≤ o9) (hoz : ¬ Z o9) (who oth : Int32) (on : Bool) (hA1 : nameS T = true) (hA2 : decide (0 ≤ who ∧ who < 8) = true) (hA3 : decide (0 ≤ oth ∧ oth < 8) = true) (hst : graC rows T who oth on = false) : Met l y_W_grant (wCW y_W_grant b_W_grant 6 (some .int) [(0, 12, 15, 13), (0, 12, 19, 15)]) (rmk 10 34 968 223) (pC g H [.ref x, .int who, .int oth, .int (bI on), .ref o9]) (qW H (fun a => NX ad a ∨ a = o9) (fun r H1 => r = some (.int (nI 2)) ∧ (∃ v2, cX Z g H1 x (adU ad v2) ms nm nw rows mir ([]) f k q f2 k2 0) ∧ ar g 1 H1 o9 (1, .inr (.inl fo)))) 34 968 (fW H (fun a => NX ad a ∨ a = o9)) := by
  refine mBW (by decide) (Nat.le_of_ble_eq_true rfl) ?_
  intro p e s m below meth c ls C0 hH hZ hrows hl
  have C0 : cF g p s m _ meth c b_W_grant 6 "RegistryLogLaw" (some .int) := C0
  obtain ⟨hx, hb, hml, hown, hts, hr, hlk, hK⟩ := id C0
  subst hH
  have hl : lv_has ls 6 [(0, .ref x), (1, .int who), (2, .int oth), (3, .int (bI on)), (4, .ref o9)] := hl
  have hS : va_S (fW s.heap (fun a => NX ad a ∨ a = o9)) s.heap s.heap [] := hS_rf
  have hX0 := hX
  refine lv_aload hx hb d_W_grant_0 (lv_at hl 4 rfl) ?_
  refine lv_iconst (v := nI 0) hx hb d_W_grant_2 (by decide) ?_
  refine lv_aload_n hx hb d_W_grant_3 rfl (lv_at hl 0 rfl) ?_
  refine lv_iload_n hx hb d_W_grant_4 rfl (lv_at hl 1 rfl) ?_
  refine lv_iload_n hx hb d_W_grant_5 rfl (lv_at hl 2 rfl) ?_
  refine lv_iload_n hx hb d_W_grant_6 rfl (lv_at hl 3 rfl) ?_
  refine rVX (As := [.int who, .int oth, .int (bI on)]) (rest := [.int (nI 0), .ref o9]) C0 (x_X_grantS l g _ htr Z x ad ms nm nw rows mir T f k q f2 k2 hX hsz hZb who oth on hA1 hA2 hA3 hst) (zK_S hZ hS (fun q9 h => h.elim (fun z => cX_old hX0 q9 z) (fun z => by rw [z]; exact ho9))) k_W_grant_7 rfl rfl ⟨Nat.le_of_ble_eq_true rfl, Nat.le_of_ble_eq_true rfl⟩ (ob_recv hK (cX_ob hX) rfl) rfl hl.1 rfl (Nat.le_of_ble_eq_true rfl) d_W_grant_7 ⟨Nat.le_of_ble_eq_true rfl, Nat.le_of_ble_eq_true rfl⟩ (fun x9 H L st hW9 hq9 hL => ?_)
  obtain ⟨hx1, ⟨ce, hx2, hx3, hx4⟩, hC1, hp⟩ := hq9
  obtain ⟨v2, hX⟩ := hp
  have hS := hS_call hS hC1 hL (fun a h => Or.inl (Or.inl h))
  have fo1 := ar_kept fo1 (hC_at hC1 (ar_lt fo1) (fun z => by obtain ⟨j, hj, z2⟩ := z; exact ho2 j hj z2))
  refine WX.c2 C0 ⟨ce, hx2, hx3, by rw [← hW9.alike.findClass]; exact hx4⟩ hrows (by decide) (in_4 (List.mem_of_getElem? (i := 44) rfl) rfl) (in_4 (List.mem_of_getElem? (i := 45) rfl) rfl) ?_
  refine lv_astore (lv' := [(5, .ref x9), (0, .ref x), (1, .int who), (2, .int oth), (3, .int (bI on)), (4, .ref o9)]) hx hb d_W_grant_19 hl (by decide) rfl (fun ls hl => ?_)
  refine lv_iconst (v := nI 2) hx hb d_W_grant_21 (by decide) ?_
  refine W.widen (k := 34) (n := 968) (by omega) (by omega) ?_
  exact W.iret hx hb hr (fun t9 ht hW => ⟨_, rfl, by rw [ht]; exact hS_hC hS, by rw [ht]; exact ⟨rfl, ⟨v2, hX⟩, fo1⟩⟩) hS.2.2 d_W_grant_22 hlk
set_option maxHeartbeats 4000000 in
set_option maxRecDepth 100000 in
theorem c_W_grant_F (l : Launch) (g : gG) (H : Heap) (htr : ∀ e, l.admits e → e.platform.stackTraces = false) (Z : Nat → Prop) (x : Nat) (ad : Nat → Nat) (ms nm nw : Nat) (rows : List Rw) (mir : Nat → List Rw) (T : List Nat) (f : Nat → Int64) (k q : Nat) (f2 : Nat → Int64) (k2 : Nat) (hX : cX Z g H x ad ms nm nw rows mir T f k q f2 k2 0) (hsz : g.2.2.1 ≤ H.size) (hZb : ∀ a, H.size ≤ a → Z a) (o9 : Nat) (fo : Nat → Int64) (fo1 : ar g 1 H o9 (1, .inr (.inl fo))) (ho2 : ∀ j, j < 16 → o9 ≠ ad j) (ho9 : g.2.2.1 ≤ o9) (hoz : ¬ Z o9) (who oth : Int32) (on : Bool) (og0 : Int32) (hA1 : nameS T = true) (hA2 : decide (0 ≤ who ∧ who < 8) = true) (hA3 : decide (0 ≤ oth ∧ oth < 8) = true) (hmay : graC rows T who oth on = true) (hog : oS T rows (-1) = og0) (hge : ¬ rows.length < 120) : Met l y_W_grant (wCW y_W_grant b_W_grant 6 (some .int) [(0, 12, 15, 13), (0, 12, 19, 15)]) (rmk 10 34 968 223) (pC g H [.ref x, .int who, .int oth, .int (bI on), .ref o9]) (qW H (fun a => NX ad a ∨ a = o9) (fun r H1 => r = some (.int (nI 2)) ∧ (∃ v2, cX Z g H1 x (adU ad v2) ms nm nw rows mir ([]) f k q f2 k2 0) ∧ ar g 1 H1 o9 (1, .inr (.inl fo)))) 34 968 (fW H (fun a => NX ad a ∨ a = o9)) := by
  refine mBW (by decide) (Nat.le_of_ble_eq_true rfl) ?_
  intro p e s m below meth c ls C0 hH hZ hrows hl
  have C0 : cF g p s m _ meth c b_W_grant 6 "RegistryLogLaw" (some .int) := C0
  obtain ⟨hx, hb, hml, hown, hts, hr, hlk, hK⟩ := id C0
  subst hH
  have hl : lv_has ls 6 [(0, .ref x), (1, .int who), (2, .int oth), (3, .int (bI on)), (4, .ref o9)] := hl
  have hS : va_S (fW s.heap (fun a => NX ad a ∨ a = o9)) s.heap s.heap [] := hS_rf
  have hX0 := hX
  refine lv_aload hx hb d_W_grant_0 (lv_at hl 4 rfl) ?_
  refine lv_iconst (v := nI 0) hx hb d_W_grant_2 (by decide) ?_
  refine lv_aload_n hx hb d_W_grant_3 rfl (lv_at hl 0 rfl) ?_
  refine lv_iload_n hx hb d_W_grant_4 rfl (lv_at hl 1 rfl) ?_
  refine lv_iload_n hx hb d_W_grant_5 rfl (lv_at hl 2 rfl) ?_
  refine lv_iload_n hx hb d_W_grant_6 rfl (lv_at hl 3 rfl) ?_
  refine rVX (As := [.int who, .int oth, .int (bI on)]) (rest := [.int (nI 0), .ref o9]) C0 (x_X_grantF l g _ htr Z x ad ms nm nw rows mir T f k q f2 k2 hX hsz hZb who oth on og0 hA1 hA2 hA3 hmay hog hge) (zK_S hZ hS (fun q9 h => h.elim (fun z => cX_old hX0 q9 z) (fun z => by rw [z]; exact ho9))) k_W_grant_7 rfl rfl ⟨Nat.le_of_ble_eq_true rfl, Nat.le_of_ble_eq_true rfl⟩ (ob_recv hK (cX_ob hX) rfl) rfl hl.1 rfl (Nat.le_of_ble_eq_true rfl) d_W_grant_7 ⟨Nat.le_of_ble_eq_true rfl, Nat.le_of_ble_eq_true rfl⟩ (fun x9 H L st hW9 hq9 hL => ?_)
  obtain ⟨hx1, ⟨ce, hx2, hx3, hx4⟩, hC1, hp⟩ := hq9
  obtain ⟨v2, hX⟩ := hp
  have hS := hS_call hS hC1 hL (fun a h => Or.inl (Or.inl h))
  have fo1 := ar_kept fo1 (hC_at hC1 (ar_lt fo1) (fun z => by obtain ⟨j, hj, z2⟩ := z; exact ho2 j hj z2))
  refine WX.c2 C0 ⟨ce, hx2, hx3, by rw [← hW9.alike.findClass]; exact hx4⟩ hrows (by decide) (in_4 (List.mem_of_getElem? (i := 44) rfl) rfl) (in_4 (List.mem_of_getElem? (i := 45) rfl) rfl) ?_
  refine lv_astore (lv' := [(5, .ref x9), (0, .ref x), (1, .int who), (2, .int oth), (3, .int (bI on)), (4, .ref o9)]) hx hb d_W_grant_19 hl (by decide) rfl (fun ls hl => ?_)
  refine lv_iconst (v := nI 2) hx hb d_W_grant_21 (by decide) ?_
  refine W.widen (k := 34) (n := 968) (by omega) (by omega) ?_
  exact W.iret hx hb hr (fun t9 ht hW => ⟨_, rfl, by rw [ht]; exact hS_hC hS, by rw [ht]; exact ⟨rfl, ⟨v2, hX⟩, fo1⟩⟩) hS.2.2 d_W_grant_22 hlk
set_option maxHeartbeats 4000000 in
set_option maxRecDepth 100000 in
theorem c_W_grant (l : Launch) (g : gG) (H : Heap) (htr : ∀ e, l.admits e → e.platform.stackTraces = false) (Z : Nat → Prop) (x : Nat) (ad : Nat → Nat) (ms nm nw : Nat) (rows : List Rw) (mir : Nat → List Rw) (T : List Nat) (f : Nat → Int64) (k q : Nat) (f2 : Nat → Int64) (k2 : Nat) (hX : cX Z g H x ad ms nm nw rows mir T f k q f2 k2 0) (hsz : g.2.2.1 ≤ H.size) (hZb : ∀ a, H.size ≤ a → Z a) (o9 : Nat) (fo : Nat → Int64) (fo1 : ar g 1 H o9 (1, .inr (.inl fo))) (ho2 : ∀ j, j < 16 → o9 ≠ ad j) (ho9 : g.2.2.1 ≤ o9) (who oth : Int32) (on : Bool) (hoz : ¬ Z o9) (og0 : Int32) (hog : oS T rows (-1) = og0) (cd : Nat) (hcd : endC (!(nameS T && (decide (0 ≤ who ∧ who < 8) && decide (0 ≤ oth ∧ oth < 8)))) (graC rows T who oth on) rows.length = cd) : Met l y_W_grant (wCW y_W_grant b_W_grant 6 (some .int) [(0, 12, 15, 13), (0, 12, 19, 15)]) (rmk 10 34 968 223) (pC g H [.ref x, .int who, .int oth, .int (bI on), .ref o9]) (qW H (fun a => NX ad a ∨ a = o9) (fun r H1 => r = some (.int (nI cd)) ∧ (∃ v2, cX Z g H1 x (adU ad v2) ms nm nw (if cd = 0 then rows ++ [(2, who, T, T, oth, bI on, og0)] else rows) mir ([]) f k q f2 k2 0) ∧ ar g 1 H1 o9 (1, .inr (.inl (if cd = 0 then vp_updL fo 0 (nI rows.length).toInt64 else fo))))) 34 968 (fW H (fun a => NX ad a ∨ a = o9)) := by
  have hl9 : rows.length ≤ 120 := (cX_log hX).choose_spec.choose_spec.2.2.2.1
  rcases hb : (nameS T && (decide (0 ≤ who ∧ who < 8) && decide (0 ≤ oth ∧ oth < 8))) with _ | _
  · rw [hb] at hcd
    have hcd : 1 = cd := hcd
    subst hcd
    exact c_W_grant_B l g H htr Z x ad ms nm nw rows mir T f k q f2 k2 hX hsz hZb o9 fo fo1 ho2 ho9 hoz who oth on hb
  · rw [hb] at hcd
    have hb1 := and2 hb
    have hb2 := and2 hb1.2
    have hA1 := hb1.1
    have hA2 := hb2.1
    have hA3 := hb2.2
    rcases hm : graC rows T who oth on with _ | _
    · rw [hm] at hcd
      have hcd : 2 = cd := hcd
      subst hcd
      exact c_W_grant_S l g H htr Z x ad ms nm nw rows mir T f k q f2 k2 hX hsz hZb o9 fo fo1 ho2 ho9 hoz who oth on hA1 hA2 hA3 hm
    · rw [hm] at hcd
      by_cases hq : rows.length = 120
      · have hcd : 2 = cd := by rw [← hcd, endC, decide_eq_true hq]; rfl
        subst hcd
        exact c_W_grant_F l g H htr Z x ad ms nm nw rows mir T f k q f2 k2 hX hsz hZb o9 fo fo1 ho2 ho9 hoz who oth on og0 hA1 hA2 hA3 hm hog (by omega)
      · have hcd : 0 = cd := by rw [← hcd, endC, decide_eq_false hq]; rfl
        subst hcd
        exact c_W_grant_0 l g H htr Z x ad ms nm nw rows mir T f k q f2 k2 hX hsz hZb o9 fo fo1 ho2 ho9 hoz who oth on og0 hA1 hA2 hA3 hm hog (by omega)
abbrev b_W_move : ByteArray := method_6_code
def y_W_move : MethodName := ⟨"RegistryLogLaw", "move", "(LRegistryLog;I[J)I"⟩
theorem d_W_move_0 : decode b_W_move 0 = .ok (.aload_n 2, 1) := by decide +kernel
theorem d_W_move_1 : decode b_W_move 1 = .ok (.iconst 0, 1) := by decide +kernel
theorem d_W_move_2 : decode b_W_move 2 = .ok (.aload_n 0, 1) := by decide +kernel
theorem d_W_move_3 : decode b_W_move 3 = .ok (.iload_n 1, 1) := by decide +kernel
theorem d_W_move_4 : decode b_W_move 4 = .ok (.invokevirtual 24, 3) := by decide +kernel
theorem d_W_move_7 : decode b_W_move 7 = .ok (.i2l, 1) := by decide +kernel
theorem d_W_move_8 : decode b_W_move 8 = .ok (.lastore, 1) := by decide +kernel
theorem d_W_move_9 : decode b_W_move 9 = .ok (.goto 9, 3) := by decide +kernel
theorem d_W_move_12 : decode b_W_move 12 = .ok (.astore_n 3, 1) := by decide +kernel
theorem d_W_move_13 : decode b_W_move 13 = .ok (.iconst 1, 1) := by decide +kernel
theorem d_W_move_14 : decode b_W_move 14 = .ok (.ireturn, 1) := by decide +kernel
theorem d_W_move_15 : decode b_W_move 15 = .ok (.astore_n 3, 1) := by decide +kernel
theorem d_W_move_16 : decode b_W_move 16 = .ok (.iconst 2, 1) := by decide +kernel
theorem d_W_move_17 : decode b_W_move 17 = .ok (.ireturn, 1) := by decide +kernel
theorem d_W_move_18 : decode b_W_move 18 = .ok (.iconst 0, 1) := by decide +kernel
theorem d_W_move_19 : decode b_W_move 19 = .ok (.ireturn, 1) := by decide +kernel

theorem k_W_move_4 : kV "RegistryLogLaw" 24 "RegistryLog" y_X_move b_X_move 7 (some .int) 1 := ⟨(in_4 (List.mem_of_getElem? (i := 128) rfl) rfl), (in_4 (List.mem_of_getElem? (i := 129) rfl) rfl), (in_4 (List.mem_of_getElem? (i := 130) rfl) rfl), (in_1 (List.mem_of_getElem? (i := 1) rfl) rfl), (in_4 (List.mem_of_getElem? (i := 131) rfl) rfl), ⟨by decide, by decide, by decide +kernel⟩⟩
set_option maxHeartbeats 4000000 in
set_option maxRecDepth 100000 in
theorem c_W_move_0 (l : Launch) (g : gG) (H : Heap) (htr : ∀ e, l.admits e → e.platform.stackTraces = false) (Z : Nat → Prop) (x : Nat) (ad : Nat → Nat) (ms nm nw : Nat) (rows : List Rw) (mir : Nat → List Rw) (T : List Nat) (f : Nat → Int64) (k q : Nat) (f2 : Nat → Int64) (k2 : Nat) (hX : cX Z g H x ad ms nm nw rows mir T f k q f2 k2 0) (hsz : g.2.2.1 ≤ H.size) (hZb : ∀ a, H.size ≤ a → Z a) (hE : pS (PX Z ad) g H (g.2.2.2 1) []) (o9 : Nat) (fo : Nat → Int64) (fo1 : ar g 1 H o9 (1, .inr (.inl fo))) (ho2 : ∀ j, j < 16 → o9 ≠ ad j) (ho9 : g.2.2.1 ≤ o9) (hoz : ¬ Z o9) (who : Int32) (c0 : Nat) (hc0 : ixL 62 T 0 = nI c0) (hc1 : c0 < T.length) (hA2 : decide (0 ≤ who ∧ who < 8) = true) (hA1 : nameS (T.take c0) = true) (hA3 : nameS (T.drop (c0 + 1)) = true) (og0 : Int32) (hmay : movC rows (T.take c0) (T.drop (c0 + 1)) who = true) (hog : oS (T.take c0) rows (-1) = og0) (hlt : rows.length < 120) : Met l y_W_move (wCW y_W_move b_W_move 4 (some .int) [(0, 9, 12, 13), (0, 9, 15, 15)]) (rmk 9 67 1926 203) (pC g H [.ref x, .int who, .ref o9]) (qW H (fun a => NX ad a ∨ a = o9) (fun r H1 => r = some (.int (nI 0)) ∧ (∃ v2, cX Z g H1 x (adU ad v2) ms nm nw (rows ++ [(3, who, (T.take c0), (T.drop (c0 + 1)), -1, 0, og0)]) mir ([]) f k q f2 k2 0) ∧ ar g 1 H1 o9 (1, .inr (.inl (vp_updL fo 0 (nI rows.length).toInt64))))) 67 1926 (fW H (fun a => NX ad a ∨ a = o9)) := by
  refine mBW (by decide) (Nat.le_of_ble_eq_true rfl) ?_
  intro p e s m below meth c ls C0 hH hZ hrows hl
  have C0 : cF g p s m _ meth c b_W_move 4 "RegistryLogLaw" (some .int) := C0
  obtain ⟨hx, hb, hml, hown, hts, hr, hlk, hK⟩ := id C0
  subst hH
  have hl : lv_has ls 4 [(0, .ref x), (1, .int who), (2, .ref o9)] := hl
  have hS : va_S (fW s.heap (fun a => NX ad a ∨ a = o9)) s.heap s.heap [] := hS_rf
  have hX0 := hX
  refine lv_aload_n hx hb d_W_move_0 rfl (lv_at hl 2 rfl) ?_
  refine lv_iconst (v := nI 0) hx hb d_W_move_1 (by decide) ?_
  refine lv_aload_n hx hb d_W_move_2 rfl (lv_at hl 0 rfl) ?_
  refine lv_iload_n hx hb d_W_move_3 rfl (lv_at hl 1 rfl) ?_
  refine aW (N := (NX ad)) (rV (As := [.int who]) (rest := [.int (nI 0), .ref o9]) C0 (c_X_move l g _ Z x ad ms nm nw rows mir T f k q f2 k2 hX hsz hZb hE who c0 hc0 hc1 hA2 hA1 hA3 og0 hmay hog hlt) (zK_S hZ hS (fun q9 h => h.elim (fun z => cX_old hX0 q9 z) (fun z => by rw [z]; exact ho9))) k_W_move_4 rfl rfl ⟨Nat.le_of_ble_eq_true rfl, Nat.le_of_ble_eq_true rfl⟩ (ob_recv hK (cX_ob hX) rfl) rfl hl.1 rfl (Nat.le_of_ble_eq_true rfl) d_W_move_4 ⟨by show 0 + 66 ≤ 67; omega, by show 0 + 1920 ≤ 1926; omega⟩) (fun v H L hC1 hp hL => ?_)
  have hS0 := hS
  have hS := hS_call hS hC1 hL (fun a h => Or.inl (Or.inl h))
  have fo1 := ar_kept fo1 (hC_at hC1 (ar_lt fo1) (fun z => by obtain ⟨j, hj, z2⟩ := z; exact ho2 j hj z2))
  obtain ⟨v2, rfl, hX⟩ := hp
  refine W.eq (g2 := F0 m 7 ls [.int (nI rows.length), .int (nI 0), .ref o9]) rfl ?_
  refine lv_i2l hx hb d_W_move_7 rfl ?_
  refine s_last hx hb hK hS (Or.inl (Or.inr rfl)) fo1 0 rfl (by omega) (by omega) d_W_move_8 (fun H locs fo1 hz oq hS => ?_)
  have hX := cX_mv (Z' := Z) hX (fun a h1 h2 => ⟨oq a (fun z => hoz (z ▸ h1)), h1⟩)
  refine lv_goto (tgt := 18) hx hb d_W_move_9 (by decide) ?_
  refine lv_iconst (v := nI 0) hx hb d_W_move_18 (by decide) ?_
  refine W.widen (k := 67) (n := 1926) (by omega) (by omega) ?_
  exact W.iret hx hb hr (fun t9 ht hW => ⟨_, rfl, by rw [ht]; exact hS_hC hS, by rw [ht]; exact ⟨rfl, ⟨v2, hX⟩, fo1⟩⟩) hS.2.2 d_W_move_19 hlk
set_option maxHeartbeats 4000000 in
set_option maxRecDepth 100000 in
theorem c_W_move_D (l : Launch) (g : gG) (H : Heap) (htr : ∀ e, l.admits e → e.platform.stackTraces = false) (Z : Nat → Prop) (x : Nat) (ad : Nat → Nat) (ms nm nw : Nat) (rows : List Rw) (mir : Nat → List Rw) (T : List Nat) (f : Nat → Int64) (k q : Nat) (f2 : Nat → Int64) (k2 : Nat) (hX : cX Z g H x ad ms nm nw rows mir T f k q f2 k2 0) (hsz : g.2.2.1 ≤ H.size) (hZb : ∀ a, H.size ≤ a → Z a) (hE : pS (PX Z ad) g H (g.2.2.2 1) []) (o9 : Nat) (fo : Nat → Int64) (fo1 : ar g 1 H o9 (1, .inr (.inl fo))) (ho2 : ∀ j, j < 16 → o9 ≠ ad j) (ho9 : g.2.2.1 ≤ o9) (hoz : ¬ Z o9) (who : Int32) (hbad : ixL 62 T 0 < 0 ∨ decide (0 ≤ who ∧ who < 8) = false) : Met l y_W_move (wCW y_W_move b_W_move 4 (some .int) [(0, 9, 12, 13), (0, 9, 15, 15)]) (rmk 9 67 1926 203) (pC g H [.ref x, .int who, .ref o9]) (qW H (fun a => NX ad a ∨ a = o9) (fun r H1 => r = some (.int (nI 1)) ∧ (∃ v2, cX Z g H1 x (adU ad v2) ms nm nw rows mir ([]) f k q f2 k2 0) ∧ ar g 1 H1 o9 (1, .inr (.inl fo)))) 67 1926 (fW H (fun a => NX ad a ∨ a = o9)) := by
  refine mBW (by decide) (Nat.le_of_ble_eq_true rfl) ?_
  intro p e s m below meth c ls C0 hH hZ hrows hl
  have C0 : cF g p s m _ meth c b_W_move 4 "RegistryLogLaw" (some .int) := C0
  obtain ⟨hx, hb, hml, hown, hts, hr, hlk, hK⟩ := id C0
  subst hH
  have hl : lv_has ls 4 [(0, .ref x), (1, .int who), (2, .ref o9)] := hl
  have hS : va_S (fW s.heap (fun a => NX ad a ∨ a = o9)) s.heap s.heap [] := hS_rf
  have hX0 := hX
  refine lv_aload_n hx hb d_W_move_0 rfl (lv_at hl 2 rfl) ?_
  refine lv_iconst (v := nI 0) hx hb d_W_move_1 (by decide) ?_
  refine lv_aload_n hx hb d_W_move_2 rfl (lv_at hl 0 rfl) ?_
  refine lv_iload_n hx hb d_W_move_3 rfl (lv_at hl 1 rfl) ?_
  refine rVX (As := [.int who]) (rest := [.int (nI 0), .ref o9]) C0 (x_X_moveD l g _ htr Z x ad ms nm nw rows mir T f k q f2 k2 hX hsz hZb hE who hbad) (zK_S hZ hS (fun q9 h => h.elim (fun z => cX_old hX0 q9 z) (fun z => by rw [z]; exact ho9))) k_W_move_4 rfl rfl ⟨Nat.le_of_ble_eq_true rfl, Nat.le_of_ble_eq_true rfl⟩ (ob_recv hK (cX_ob hX) rfl) rfl hl.1 rfl (Nat.le_of_ble_eq_true rfl) d_W_move_4 ⟨Nat.le_of_ble_eq_true rfl, Nat.le_of_ble_eq_true rfl⟩ (fun x9 H L st hW9 hq9 hL => ?_)
  obtain ⟨hx1, ⟨ce, hx2, hx3, hx4⟩, hC1, hp⟩ := hq9
  obtain ⟨v2, hX⟩ := hp
  have hS := hS_call hS hC1 hL (fun a h => Or.inl (Or.inl h))
  have fo1 := ar_kept fo1 (hC_at hC1 (ar_lt fo1) (fun z => by obtain ⟨j, hj, z2⟩ := z; exact ho2 j hj z2))
  refine WX.c1 C0 ⟨ce, hx2, hx3, by rw [← hW9.alike.findClass]; exact hx4⟩ hrows (by decide) (in_4 (List.mem_of_getElem? (i := 44) rfl) rfl) ?_
  refine lv_astore_n (lv' := [(3, .ref x9), (0, .ref x), (1, .int who), (2, .ref o9)]) hx hb d_W_move_12 rfl hl (by decide) rfl (fun ls hl => ?_)
  refine lv_iconst (v := nI 1) hx hb d_W_move_13 (by decide) ?_
  refine W.widen (k := 67) (n := 1926) (by omega) (by omega) ?_
  exact W.iret hx hb hr (fun t9 ht hW => ⟨_, rfl, by rw [ht]; exact hS_hC hS, by rw [ht]; exact ⟨rfl, ⟨v2, hX⟩, fo1⟩⟩) hS.2.2 d_W_move_14 hlk
set_option maxHeartbeats 4000000 in
set_option maxRecDepth 100000 in
theorem c_W_move_B (l : Launch) (g : gG) (H : Heap) (htr : ∀ e, l.admits e → e.platform.stackTraces = false) (Z : Nat → Prop) (x : Nat) (ad : Nat → Nat) (ms nm nw : Nat) (rows : List Rw) (mir : Nat → List Rw) (T : List Nat) (f : Nat → Int64) (k q : Nat) (f2 : Nat → Int64) (k2 : Nat) (hX : cX Z g H x ad ms nm nw rows mir T f k q f2 k2 0) (hsz : g.2.2.1 ≤ H.size) (hZb : ∀ a, H.size ≤ a → Z a) (hE : pS (PX Z ad) g H (g.2.2.2 1) []) (o9 : Nat) (fo : Nat → Int64) (fo1 : ar g 1 H o9 (1, .inr (.inl fo))) (ho2 : ∀ j, j < 16 → o9 ≠ ad j) (ho9 : g.2.2.1 ≤ o9) (hoz : ¬ Z o9) (who : Int32) (c0 : Nat) (hc0 : ixL 62 T 0 = nI c0) (hc1 : c0 < T.length) (hA2 : decide (0 ≤ who ∧ who < 8) = true) (hbad : (nameS (T.take c0) && nameS (T.drop (c0 + 1))) = false) : Met l y_W_move (wCW y_W_move b_W_move 4 (some .int) [(0, 9, 12, 13), (0, 9, 15, 15)]) (rmk 9 67 1926 203) (pC g H [.ref x, .int who, .ref o9]) (qW H (fun a => NX ad a ∨ a = o9) (fun r H1 => r = some (.int (nI 1)) ∧ (∃ v2, cX Z g H1 x (adU ad v2) ms nm nw rows mir ([]) f k q f2 k2 0) ∧ ar g 1 H1 o9 (1, .inr (.inl fo)))) 67 1926 (fW H (fun a => NX ad a ∨ a = o9)) := by
  refine mBW (by decide) (Nat.le_of_ble_eq_true rfl) ?_
  intro p e s m below meth c ls C0 hH hZ hrows hl
  have C0 : cF g p s m _ meth c b_W_move 4 "RegistryLogLaw" (some .int) := C0
  obtain ⟨hx, hb, hml, hown, hts, hr, hlk, hK⟩ := id C0
  subst hH
  have hl : lv_has ls 4 [(0, .ref x), (1, .int who), (2, .ref o9)] := hl
  have hS : va_S (fW s.heap (fun a => NX ad a ∨ a = o9)) s.heap s.heap [] := hS_rf
  have hX0 := hX
  refine lv_aload_n hx hb d_W_move_0 rfl (lv_at hl 2 rfl) ?_
  refine lv_iconst (v := nI 0) hx hb d_W_move_1 (by decide) ?_
  refine lv_aload_n hx hb d_W_move_2 rfl (lv_at hl 0 rfl) ?_
  refine lv_iload_n hx hb d_W_move_3 rfl (lv_at hl 1 rfl) ?_
  refine rVX (As := [.int who]) (rest := [.int (nI 0), .ref o9]) C0 (x_X_moveB l g _ htr Z x ad ms nm nw rows mir T f k q f2 k2 hX hsz hZb hE who c0 hc0 hc1 hA2 hbad) (zK_S hZ hS (fun q9 h => h.elim (fun z => cX_old hX0 q9 z) (fun z => by rw [z]; exact ho9))) k_W_move_4 rfl rfl ⟨Nat.le_of_ble_eq_true rfl, Nat.le_of_ble_eq_true rfl⟩ (ob_recv hK (cX_ob hX) rfl) rfl hl.1 rfl (Nat.le_of_ble_eq_true rfl) d_W_move_4 ⟨Nat.le_of_ble_eq_true rfl, Nat.le_of_ble_eq_true rfl⟩ (fun x9 H L st hW9 hq9 hL => ?_)
  obtain ⟨hx1, ⟨ce, hx2, hx3, hx4⟩, hC1, hp⟩ := hq9
  obtain ⟨v2, hX⟩ := hp
  have hS := hS_call hS hC1 hL (fun a h => Or.inl (Or.inl h))
  have fo1 := ar_kept fo1 (hC_at hC1 (ar_lt fo1) (fun z => by obtain ⟨j, hj, z2⟩ := z; exact ho2 j hj z2))
  refine WX.c1 C0 ⟨ce, hx2, hx3, by rw [← hW9.alike.findClass]; exact hx4⟩ hrows (by decide) (in_4 (List.mem_of_getElem? (i := 44) rfl) rfl) ?_
  refine lv_astore_n (lv' := [(3, .ref x9), (0, .ref x), (1, .int who), (2, .ref o9)]) hx hb d_W_move_12 rfl hl (by decide) rfl (fun ls hl => ?_)
  refine lv_iconst (v := nI 1) hx hb d_W_move_13 (by decide) ?_
  refine W.widen (k := 67) (n := 1926) (by omega) (by omega) ?_
  exact W.iret hx hb hr (fun t9 ht hW => ⟨_, rfl, by rw [ht]; exact hS_hC hS, by rw [ht]; exact ⟨rfl, ⟨v2, hX⟩, fo1⟩⟩) hS.2.2 d_W_move_14 hlk
set_option maxHeartbeats 4000000 in
set_option maxRecDepth 100000 in
theorem c_W_move_S (l : Launch) (g : gG) (H : Heap) (htr : ∀ e, l.admits e → e.platform.stackTraces = false) (Z : Nat → Prop) (x : Nat) (ad : Nat → Nat) (ms nm nw : Nat) (rows : List Rw) (mir : Nat → List Rw) (T : List Nat) (f : Nat → Int64) (k q : Nat) (f2 : Nat → Int64) (k2 : Nat) (hX : cX Z g H x ad ms nm nw rows mir T f k q f2 k2 0) (hsz : g.2.2.1 ≤ H.size) (hZb : ∀ a, H.size ≤ a → Z a) (hE : pS (PX Z ad) g H (g.2.2.2 1) []) (o9 : Nat) (fo : Nat → Int64) (fo1 : ar g 1 H o9 (1, .inr (.inl fo))) (ho2 : ∀ j, j < 16 → o9 ≠ ad j) (ho9 : g.2.2.1 ≤ o9) (hoz : ¬ Z o9) (who : Int32) (c0 : Nat) (hc0 : ixL 62 T 0 = nI c0) (hc1 : c0 < T.length) (hA2 : decide (0 ≤ who ∧ who < 8) = true) (hA1 : nameS (T.take c0) = true) (hA3 : nameS (T.drop (c0 + 1)) = true) (hst : movC rows (T.take c0) (T.drop (c0 + 1)) who = false) : Met l y_W_move (wCW y_W_move b_W_move 4 (some .int) [(0, 9, 12, 13), (0, 9, 15, 15)]) (rmk 9 67 1926 203) (pC g H [.ref x, .int who, .ref o9]) (qW H (fun a => NX ad a ∨ a = o9) (fun r H1 => r = some (.int (nI 2)) ∧ (∃ v2, cX Z g H1 x (adU ad v2) ms nm nw rows mir ([]) f k q f2 k2 0) ∧ ar g 1 H1 o9 (1, .inr (.inl fo)))) 67 1926 (fW H (fun a => NX ad a ∨ a = o9)) := by
  refine mBW (by decide) (Nat.le_of_ble_eq_true rfl) ?_
  intro p e s m below meth c ls C0 hH hZ hrows hl
  have C0 : cF g p s m _ meth c b_W_move 4 "RegistryLogLaw" (some .int) := C0
  obtain ⟨hx, hb, hml, hown, hts, hr, hlk, hK⟩ := id C0
  subst hH
  have hl : lv_has ls 4 [(0, .ref x), (1, .int who), (2, .ref o9)] := hl
  have hS : va_S (fW s.heap (fun a => NX ad a ∨ a = o9)) s.heap s.heap [] := hS_rf
  have hX0 := hX
  refine lv_aload_n hx hb d_W_move_0 rfl (lv_at hl 2 rfl) ?_
  refine lv_iconst (v := nI 0) hx hb d_W_move_1 (by decide) ?_
  refine lv_aload_n hx hb d_W_move_2 rfl (lv_at hl 0 rfl) ?_
  refine lv_iload_n hx hb d_W_move_3 rfl (lv_at hl 1 rfl) ?_
  refine rVX (As := [.int who]) (rest := [.int (nI 0), .ref o9]) C0 (x_X_moveS l g _ htr Z x ad ms nm nw rows mir T f k q f2 k2 hX hsz hZb hE who c0 hc0 hc1 hA2 hA1 hA3 hst) (zK_S hZ hS (fun q9 h => h.elim (fun z => cX_old hX0 q9 z) (fun z => by rw [z]; exact ho9))) k_W_move_4 rfl rfl ⟨Nat.le_of_ble_eq_true rfl, Nat.le_of_ble_eq_true rfl⟩ (ob_recv hK (cX_ob hX) rfl) rfl hl.1 rfl (Nat.le_of_ble_eq_true rfl) d_W_move_4 ⟨Nat.le_of_ble_eq_true rfl, Nat.le_of_ble_eq_true rfl⟩ (fun x9 H L st hW9 hq9 hL => ?_)
  obtain ⟨hx1, ⟨ce, hx2, hx3, hx4⟩, hC1, hp⟩ := hq9
  obtain ⟨v2, hX⟩ := hp
  have hS := hS_call hS hC1 hL (fun a h => Or.inl (Or.inl h))
  have fo1 := ar_kept fo1 (hC_at hC1 (ar_lt fo1) (fun z => by obtain ⟨j, hj, z2⟩ := z; exact ho2 j hj z2))
  refine WX.c2 C0 ⟨ce, hx2, hx3, by rw [← hW9.alike.findClass]; exact hx4⟩ hrows (by decide) (in_4 (List.mem_of_getElem? (i := 44) rfl) rfl) (in_4 (List.mem_of_getElem? (i := 45) rfl) rfl) ?_
  refine lv_astore_n (lv' := [(3, .ref x9), (0, .ref x), (1, .int who), (2, .ref o9)]) hx hb d_W_move_15 rfl hl (by decide) rfl (fun ls hl => ?_)
  refine lv_iconst (v := nI 2) hx hb d_W_move_16 (by decide) ?_
  refine W.widen (k := 67) (n := 1926) (by omega) (by omega) ?_
  exact W.iret hx hb hr (fun t9 ht hW => ⟨_, rfl, by rw [ht]; exact hS_hC hS, by rw [ht]; exact ⟨rfl, ⟨v2, hX⟩, fo1⟩⟩) hS.2.2 d_W_move_17 hlk
set_option maxHeartbeats 4000000 in
set_option maxRecDepth 100000 in
theorem c_W_move_F (l : Launch) (g : gG) (H : Heap) (htr : ∀ e, l.admits e → e.platform.stackTraces = false) (Z : Nat → Prop) (x : Nat) (ad : Nat → Nat) (ms nm nw : Nat) (rows : List Rw) (mir : Nat → List Rw) (T : List Nat) (f : Nat → Int64) (k q : Nat) (f2 : Nat → Int64) (k2 : Nat) (hX : cX Z g H x ad ms nm nw rows mir T f k q f2 k2 0) (hsz : g.2.2.1 ≤ H.size) (hZb : ∀ a, H.size ≤ a → Z a) (hE : pS (PX Z ad) g H (g.2.2.2 1) []) (o9 : Nat) (fo : Nat → Int64) (fo1 : ar g 1 H o9 (1, .inr (.inl fo))) (ho2 : ∀ j, j < 16 → o9 ≠ ad j) (ho9 : g.2.2.1 ≤ o9) (hoz : ¬ Z o9) (who : Int32) (c0 : Nat) (hc0 : ixL 62 T 0 = nI c0) (hc1 : c0 < T.length) (hA2 : decide (0 ≤ who ∧ who < 8) = true) (hA1 : nameS (T.take c0) = true) (hA3 : nameS (T.drop (c0 + 1)) = true) (og0 : Int32) (hmay : movC rows (T.take c0) (T.drop (c0 + 1)) who = true) (hog : oS (T.take c0) rows (-1) = og0) (hge : ¬ rows.length < 120) : Met l y_W_move (wCW y_W_move b_W_move 4 (some .int) [(0, 9, 12, 13), (0, 9, 15, 15)]) (rmk 9 67 1926 203) (pC g H [.ref x, .int who, .ref o9]) (qW H (fun a => NX ad a ∨ a = o9) (fun r H1 => r = some (.int (nI 2)) ∧ (∃ v2, cX Z g H1 x (adU ad v2) ms nm nw rows mir ([]) f k q f2 k2 0) ∧ ar g 1 H1 o9 (1, .inr (.inl fo)))) 67 1926 (fW H (fun a => NX ad a ∨ a = o9)) := by
  refine mBW (by decide) (Nat.le_of_ble_eq_true rfl) ?_
  intro p e s m below meth c ls C0 hH hZ hrows hl
  have C0 : cF g p s m _ meth c b_W_move 4 "RegistryLogLaw" (some .int) := C0
  obtain ⟨hx, hb, hml, hown, hts, hr, hlk, hK⟩ := id C0
  subst hH
  have hl : lv_has ls 4 [(0, .ref x), (1, .int who), (2, .ref o9)] := hl
  have hS : va_S (fW s.heap (fun a => NX ad a ∨ a = o9)) s.heap s.heap [] := hS_rf
  have hX0 := hX
  refine lv_aload_n hx hb d_W_move_0 rfl (lv_at hl 2 rfl) ?_
  refine lv_iconst (v := nI 0) hx hb d_W_move_1 (by decide) ?_
  refine lv_aload_n hx hb d_W_move_2 rfl (lv_at hl 0 rfl) ?_
  refine lv_iload_n hx hb d_W_move_3 rfl (lv_at hl 1 rfl) ?_
  refine rVX (As := [.int who]) (rest := [.int (nI 0), .ref o9]) C0 (x_X_moveF l g _ htr Z x ad ms nm nw rows mir T f k q f2 k2 hX hsz hZb hE who c0 hc0 hc1 hA2 hA1 hA3 og0 hmay hog hge) (zK_S hZ hS (fun q9 h => h.elim (fun z => cX_old hX0 q9 z) (fun z => by rw [z]; exact ho9))) k_W_move_4 rfl rfl ⟨Nat.le_of_ble_eq_true rfl, Nat.le_of_ble_eq_true rfl⟩ (ob_recv hK (cX_ob hX) rfl) rfl hl.1 rfl (Nat.le_of_ble_eq_true rfl) d_W_move_4 ⟨Nat.le_of_ble_eq_true rfl, Nat.le_of_ble_eq_true rfl⟩ (fun x9 H L st hW9 hq9 hL => ?_)
  obtain ⟨hx1, ⟨ce, hx2, hx3, hx4⟩, hC1, hp⟩ := hq9
  obtain ⟨v2, hX⟩ := hp
  have hS := hS_call hS hC1 hL (fun a h => Or.inl (Or.inl h))
  have fo1 := ar_kept fo1 (hC_at hC1 (ar_lt fo1) (fun z => by obtain ⟨j, hj, z2⟩ := z; exact ho2 j hj z2))
  refine WX.c2 C0 ⟨ce, hx2, hx3, by rw [← hW9.alike.findClass]; exact hx4⟩ hrows (by decide) (in_4 (List.mem_of_getElem? (i := 44) rfl) rfl) (in_4 (List.mem_of_getElem? (i := 45) rfl) rfl) ?_
  refine lv_astore_n (lv' := [(3, .ref x9), (0, .ref x), (1, .int who), (2, .ref o9)]) hx hb d_W_move_15 rfl hl (by decide) rfl (fun ls hl => ?_)
  refine lv_iconst (v := nI 2) hx hb d_W_move_16 (by decide) ?_
  refine W.widen (k := 67) (n := 1926) (by omega) (by omega) ?_
  exact W.iret hx hb hr (fun t9 ht hW => ⟨_, rfl, by rw [ht]; exact hS_hC hS, by rw [ht]; exact ⟨rfl, ⟨v2, hX⟩, fo1⟩⟩) hS.2.2 d_W_move_17 hlk
set_option maxHeartbeats 4000000 in
set_option maxRecDepth 100000 in
theorem c_W_move (l : Launch) (g : gG) (H : Heap) (htr : ∀ e, l.admits e → e.platform.stackTraces = false) (Z : Nat → Prop) (x : Nat) (ad : Nat → Nat) (ms nm nw : Nat) (rows : List Rw) (mir : Nat → List Rw) (T : List Nat) (f : Nat → Int64) (k q : Nat) (f2 : Nat → Int64) (k2 : Nat) (hX : cX Z g H x ad ms nm nw rows mir T f k q f2 k2 0) (hsz : g.2.2.1 ≤ H.size) (hZb : ∀ a, H.size ≤ a → Z a) (hE : pS (PX Z ad) g H (g.2.2.2 1) []) (o9 : Nat) (fo : Nat → Int64) (fo1 : ar g 1 H o9 (1, .inr (.inl fo))) (ho2 : ∀ j, j < 16 → o9 ≠ ad j) (ho9 : g.2.2.1 ≤ o9) (who : Int32) (hoz : ¬ Z o9) (og0 : Int32) (hog : oS (T.take (cutM T)) rows (-1) = og0) (cd : Nat) (hcd : endC (!((decide (cutM T < T.length) && (nameS (T.take (cutM T)) && nameS (T.drop (cutM T + 1)))) && decide (0 ≤ who ∧ who < 8))) (movC rows (T.take (cutM T)) (T.drop ((cutM T) + 1)) who) rows.length = cd) : Met l y_W_move (wCW y_W_move b_W_move 4 (some .int) [(0, 9, 12, 13), (0, 9, 15, 15)]) (rmk 9 67 1926 203) (pC g H [.ref x, .int who, .ref o9]) (qW H (fun a => NX ad a ∨ a = o9) (fun r H1 => r = some (.int (nI cd)) ∧ (∃ v2, cX Z g H1 x (adU ad v2) ms nm nw (if cd = 0 then rows ++ [(3, who, (T.take (cutM T)), (T.drop ((cutM T) + 1)), -1, 0, og0)] else rows) mir ([]) f k q f2 k2 0) ∧ ar g 1 H1 o9 (1, .inr (.inl (if cd = 0 then vp_updL fo 0 (nI rows.length).toInt64 else fo))))) 67 1926 (fW H (fun a => NX ad a ∨ a = o9)) := by
  have hl9 : rows.length ≤ 120 := (cX_log hX).choose_spec.choose_spec.2.2.2.1
  have hix := ix_eq T T.length 0 (by omega) (fun j hj => absurd hj (Nat.not_lt_zero _))
  rw [List.drop_zero] at hix
  have hD : (ixL 62 T 0 < 0 ∨ decide (0 ≤ who ∧ who < 8) = false) → endC (!((decide (cutM T < T.length) && (nameS (T.take (cutM T)) && nameS (T.drop (cutM T + 1)))) && decide (0 ≤ who ∧ who < 8))) (movC rows (T.take (cutM T)) (T.drop (cutM T + 1)) who) rows.length = 1 → 1 = cd := fun _ h9 => h9.symm.trans hcd
  rcases hp : decide (0 ≤ who ∧ who < 8) with _ | _
  · have hcd : 1 = cd := by rw [← hcd, hp, Bool.and_false]; rfl
    subst hcd
    exact c_W_move_D l g H htr Z x ad ms nm nw rows mir T f k q f2 k2 hX hsz hZb hE o9 fo fo1 ho2 ho9 hoz who (Or.inr hp)
  · by_cases hc : cutM T < T.length
    · rw [if_pos hc] at hix
      rw [hp, decide_eq_true hc, Bool.true_and, Bool.and_true] at hcd
      rcases hn : (nameS (T.take (cutM T)) && nameS (T.drop (cutM T + 1))) with _ | _
      · rw [hn] at hcd
        have hcd : 1 = cd := hcd
        subst hcd
        exact c_W_move_B l g H htr Z x ad ms nm nw rows mir T f k q f2 k2 hX hsz hZb hE o9 fo fo1 ho2 ho9 hoz who (cutM T) hix hc hp hn
      · rw [hn] at hcd
        obtain ⟨hA1, hA3⟩ := and2 hn
        rcases hm : movC rows (T.take (cutM T)) (T.drop (cutM T + 1)) who with _ | _
        · rw [hm] at hcd
          have hcd : 2 = cd := hcd
          subst hcd
          exact c_W_move_S l g H htr Z x ad ms nm nw rows mir T f k q f2 k2 hX hsz hZb hE o9 fo fo1 ho2 ho9 hoz who (cutM T) hix hc hp hA1 hA3 hm
        · rw [hm] at hcd
          by_cases hq : rows.length = 120
          · have hcd : 2 = cd := by rw [← hcd, endC, decide_eq_true hq]; rfl
            subst hcd
            exact c_W_move_F l g H htr Z x ad ms nm nw rows mir T f k q f2 k2 hX hsz hZb hE o9 fo fo1 ho2 ho9 hoz who (cutM T) hix hc hp hA1 hA3 og0 hm hog (by omega)
          · have hcd : 0 = cd := by rw [← hcd, endC, decide_eq_false hq]; rfl
            subst hcd
            exact c_W_move_0 l g H htr Z x ad ms nm nw rows mir T f k q f2 k2 hX hsz hZb hE o9 fo fo1 ho2 ho9 hoz who (cutM T) hix hc hp hA1 hA3 og0 hm hog (by omega)
    · rw [if_neg hc] at hix
      have hcd : 1 = cd := by rw [← hcd, decide_eq_false hc, Bool.false_and, Bool.false_and]; rfl
      subst hcd
      exact c_W_move_D l g H htr Z x ad ms nm nw rows mir T f k q f2 k2 hX hsz hZb hE o9 fo fo1 ho2 ho9 hoz who (Or.inl (by rw [hix]; decide))
