theorem k_X_spoil_2 : kV "RegistryLog" 202 "RegistryLog" y_X_mirrorOf b_X_mirrorOf 2 (some (.object "RegistryLog$Ledger")) 1 := ⟨(in_3 (List.mem_of_getElem? (i := 159) rfl) rfl), (in_3 (List.mem_of_getElem? (i := 161) rfl) rfl), (in_0 (List.mem_of_getElem? (i := 1) rfl) rfl), (in_1 (List.mem_of_getElem? (i := 1) rfl) rfl), (in_3 (List.mem_of_getElem? (i := 162) rfl) rfl), ⟨by decide, by decide, by decide +kernel⟩⟩
theorem k_X_spoil_10 : kV "RegistryLog" 133 "RegistryLog$Ledger" y_L_at b_L_at 2 (some (.object "RegistryLog$Row")) 1 := ⟨(in_3 (List.mem_of_getElem? (i := 46) rfl) rfl), (in_3 (List.mem_of_getElem? (i := 47) rfl) rfl), (in_3 (List.mem_of_getElem? (i := 48) rfl) rfl), (in_1 (List.mem_of_getElem? (i := 6) rfl) rfl), (in_3 (List.mem_of_getElem? (i := 49) rfl) rfl), ⟨by decide, by decide, by decide +kernel⟩⟩
theorem k_X_spoil_31 : kV "RegistryLog" 214 "RegistryLog$Row" y_R_withSum b_R_withSum 2 (some (.object "RegistryLog$Row")) 1 := ⟨(in_3 (List.mem_of_getElem? (i := 172) rfl) rfl), (in_3 (List.mem_of_getElem? (i := 173) rfl) rfl), (in_3 (List.mem_of_getElem? (i := 174) rfl) rfl), (in_1 (List.mem_of_getElem? (i := 19) rfl) rfl), (in_3 (List.mem_of_getElem? (i := 175) rfl) rfl), ⟨by decide, by decide, by decide +kernel⟩⟩
theorem k_X_spoil_34 : kV "RegistryLog" 217 "RegistryLog$Ledger" y_L_replace b_L_replace 3 none 2 := ⟨(in_3 (List.mem_of_getElem? (i := 178) rfl) rfl), (in_3 (List.mem_of_getElem? (i := 179) rfl) rfl), (in_3 (List.mem_of_getElem? (i := 180) rfl) rfl), (in_1 (List.mem_of_getElem? (i := 6) rfl) rfl), (in_3 (List.mem_of_getElem? (i := 181) rfl) rfl), ⟨by decide, by decide, by decide +kernel⟩⟩
set_option maxHeartbeats 4000000 in
set_option maxRecDepth 100000 in
/-- spoil: no such row -/
theorem c_X_spoil0 (l : Launch) (g : gG) (H : Heap) (Z : Nat → Prop) (x : Nat) (ad : Nat → Nat) (ms nm nw : Nat) (rows : List Rw) (mir : Nat → List Rw) (T : List Nat) (f : Nat → Int64) (k q : Nat) (f2 : Nat → Int64) (k2 : Nat) (hX : cX Z g H x ad ms nm nw rows mir T f k q f2 k2 0) (i j sm : Int32) (hk0 : ¬ rk (atS (mirS mir i) j) = 0) : Met l y_X_spoil (wC y_X_spoil b_X_spoil 6 (some .boolean)) (rmk 7 0 0 160) (pC g H [.ref x, .int i, .int j, .int sm]) (qW H (NX ad) (fun r H1 => r = some (.int 0) ∧ cX Z g H1 x ad ms nm nw rows mir T f k q f2 k2 0)) 0 0 (fW H (NX ad)) := by
  refine mB (by decide) (Nat.le_of_ble_eq_true rfl) ?_
  intro p e s m below meth c ls C0 hH hZ hnm hl
  have C0 : cF g p s m _ meth c b_X_spoil 6 "RegistryLog" (some .boolean) := C0
  obtain ⟨hx, hb, hml, hown, hts, hr, hlk, hK⟩ := id C0
  subst hH
  have hl : lv_has ls 6 [(0, .ref x), (1, .int i), (2, .int j), (3, .int sm)] := hl
  have hS : va_S (fW s.heap (NX ad)) s.heap s.heap [] := hS_rf
  have hX0 := hX
  refine lv_aload_n hx hb d_X_spoil_0 rfl (lv_at hl 0 rfl) ?_
  refine lv_iload_n hx hb d_X_spoil_1 rfl (lv_at hl 1 rfl) ?_
  obtain ⟨mf, fms, hmf⟩ := id hX.1.2.1
  refine aP (rV (As := [.int i]) (rest := []) C0 (c_X_mirrorOf l g _ x (ad 0) (ad 2) ms nm (ad 12) (ad 14) (cX_ob hX) mf fms mir (cM_isL hX.2.2.1 hmf) i) (zK_S hZ hS (cX_old hX0)) k_X_spoil_2 rfl rfl ⟨Nat.le_of_ble_eq_true rfl, Nat.le_of_ble_eq_true rfl⟩ (ob_recv hK (cX_ob hX) rfl) rfl hl.1 rfl (Nat.le_of_ble_eq_true rfl) d_X_spoil_2 ⟨by show 0 + 0 ≤ 0; omega, by show 0 + 0 ≤ 0; omega⟩) ?_
  intro v hv
  obtain ⟨lq, rfl, hlq⟩ := hv
  have hlq := mirA_eq hmf hlq
  have hlq : lq = mirB ad nm i := hlq
  subst hlq
  refine W.eq (g2 := F0 m 5 ls [.ref ((mirB ad nm i))]) rfl ?_
  refine lv_astore (lv' := [(4, .ref ((mirB ad nm i))), (0, .ref x), (1, .int i), (2, .int j), (3, .int sm)]) hx hb d_X_spoil_5 hl (by decide) rfl (fun ls hl => ?_)
  refine lv_aload hx hb d_X_spoil_7 (lv_at hl 0 rfl) ?_
  refine lv_iload_n hx hb d_X_spoil_9 rfl (lv_at hl 3 rfl) ?_
  refine aP (rV (As := [.int j]) (rest := []) C0 (c_L_at l g _ (mirB ad nm i) (mirS mir i) j (cX_mirB hX i)) (zK_S hZ hS (cX_old hX0)) k_X_spoil_10 rfl rfl ⟨Nat.le_of_ble_eq_true rfl, Nat.le_of_ble_eq_true rfl⟩ (isL_recv hK (cX_mirB hX i)) rfl hl.1 rfl (Nat.le_of_ble_eq_true rfl) d_X_spoil_10 ⟨by show 0 + 0 ≤ 0; omega, by show 0 + 0 ≤ 0; omega⟩) ?_
  intro v hv
  obtain ⟨rr, rfl, na2, nb2, hr0, -⟩ := hv
  refine W.eq (g2 := F0 m 13 ls [.ref rr]) rfl ?_
  refine lv_astore (lv' := [(5, .ref rr), (4, .ref ((mirB ad nm i))), (0, .ref x), (1, .int i), (2, .int j), (3, .int sm)]) hx hb d_X_spoil_13 hl (by decide) rfl (fun ls hl => ?_)
  refine lv_aload hx hb d_X_spoil_15 (lv_at hl 0 rfl) ?_
  refine va_get (D := g.1) (ci := 4) (C := R_R) (T := F_R) (N := 8) hx hb hts i_R hown hK.1 hr0 0 rfl rfl 0 (by decide) (hts (.fieldLink "RegistryLog" 137 "RegistryLog$Row" "kind" "I") (in_2 (List.mem_of_getElem? (i := 184) rfl) rfl)) (fun _ h9 => h9) rfl d_X_spoil_17 ?_
  refine lv_if_eq (tgt := 25) hx hb d_X_spoil_20 (by decide) (fun c20 => ?_) (fun c20 => ?_)
  · skip
    exact absurd c20 hk0
  · skip
    refine lv_iconst (v := nI 0) hx hb d_X_spoil_23 (by decide) ?_
    refine W.widen (k := 0) (n := 0) (by omega) (by omega) ?_
    exact W.zret hx hb hr rfl (fun t9 ht hW => ⟨_, rfl, by rw [ht]; exact hS_hC hS, by rw [ht]; exact ⟨rfl, hX⟩⟩) hS.2.2 d_X_spoil_24 hlk
set_option maxHeartbeats 4000000 in
set_option maxRecDepth 100000 in
/-- spoil -/
theorem c_X_spoil1 (l : Launch) (g : gG) (H : Heap) (Z : Nat → Prop) (x : Nat) (ad : Nat → Nat) (ms nm nw : Nat) (rows : List Rw) (mir : Nat → List Rw) (T : List Nat) (f : Nat → Int64) (k q : Nat) (f2 : Nat → Int64) (k2 : Nat) (hX : cX Z g H x ad ms nm nw rows mir T f k q f2 k2 0) (hsz : g.2.2.1 ≤ H.size) (hZb : ∀ a, H.size ≤ a → Z a) (i1 j1 : Nat) (sm : Int32) (hi1 : i1 < 4) (hj1 : j1 < (mir i1).length) (hm120 : (mir i1).length ≤ 120) (hk0 : rk ((mir i1).getD j1 noRw) = 0) : Met l y_X_spoil (wC y_X_spoil b_X_spoil 6 (some .boolean)) (rmk 7 1 8 160) (pC g H [.ref x, .int (nI i1), .int (nI j1), .int sm]) (qW H (NX ad) (fun r H1 => r = some (.int 1) ∧ cX Z g H1 x ad ms nm nw rows (miU mir i1 ((mir i1).set j1 (rk ((mir i1).getD j1 noRw), rp ((mir i1).getD j1 noRw), rn ((mir i1).getD j1 noRw), ra ((mir i1).getD j1 noRw), r2 ((mir i1).getD j1 noRw), sm, ro ((mir i1).getD j1 noRw)))) T f k q f2 k2 0)) 1 8 (fW H (NX ad)) := by
  refine mB (by decide) (Nat.le_of_ble_eq_true rfl) ?_
  intro p e s m below meth c ls C0 hH hZ hnm hl
  have C0 : cF g p s m _ meth c b_X_spoil 6 "RegistryLog" (some .boolean) := C0
  obtain ⟨hx, hb, hml, hown, hts, hr, hlk, hK⟩ := id C0
  subst hH
  have hl : lv_has ls 6 [(0, .ref x), (1, .int (nI i1)), (2, .int (nI j1)), (3, .int sm)] := hl
  have hS : va_S (fW s.heap (NX ad)) s.heap s.heap [] := hS_rf
  have hX0 := hX
  have hi4 : 0 ≤ nI i1 ∧ nI i1 < 4 := ⟨nI_pos' (by omega), (nI_ltI (by omega) (by decide)).mpr hi1⟩
  refine lv_aload_n hx hb d_X_spoil_0 rfl (lv_at hl 0 rfl) ?_
  refine lv_iload_n hx hb d_X_spoil_1 rfl (lv_at hl 1 rfl) ?_
  obtain ⟨mf, fms, hmf⟩ := id hX.1.2.1
  refine aP (rV (As := [.int (nI i1)]) (rest := []) C0 (c_X_mirrorOf l g _ x (ad 0) (ad 2) ms nm (ad 12) (ad 14) (cX_ob hX) mf fms mir (cM_isL hX.2.2.1 hmf) (nI i1)) (zK_S hZ hS (cX_old hX0)) k_X_spoil_2 rfl rfl ⟨Nat.le_of_ble_eq_true rfl, Nat.le_of_ble_eq_true rfl⟩ (ob_recv hK (cX_ob hX) rfl) rfl hl.1 rfl (Nat.le_of_ble_eq_true rfl) d_X_spoil_2 ⟨by show 0 + 0 ≤ 1; omega, by show 0 + 0 ≤ 8; omega⟩) ?_
  intro v hv
  obtain ⟨lq, rfl, hlq⟩ := hv
  have hlq := mirA_eq hmf hlq
  rw [if_pos hi4, nI_clamp (by omega)] at hlq
  subst hlq
  refine W.eq (g2 := F0 m 5 ls [.ref ((ad (4 + i1)))]) rfl ?_
  refine lv_astore (lv' := [(4, .ref ((ad (4 + i1)))), (0, .ref x), (1, .int (nI i1)), (2, .int (nI j1)), (3, .int sm)]) hx hb d_X_spoil_5 hl (by decide) rfl (fun ls hl => ?_)
  refine lv_aload hx hb d_X_spoil_7 (lv_at hl 0 rfl) ?_
  refine lv_iload_n hx hb d_X_spoil_9 rfl (lv_at hl 3 rfl) ?_
  refine aP (rV (As := [.int (nI j1)]) (rest := []) C0 (c_L_atP l g _ (PX Z ad) (ad (4 + i1)) (ad (8 + i1)) (mir i1) (nI j1) (cX_mir hX hi1)) (zK_S hZ hS (cX_old hX0)) k_X_spoil_10 rfl rfl ⟨Nat.le_of_ble_eq_true rfl, Nat.le_of_ble_eq_true rfl⟩ (isL_recv hK (pL_isL (cX_mir hX hi1))) rfl hl.1 rfl (Nat.le_of_ble_eq_true rfl) d_X_spoil_10 ⟨by show 0 + 0 ≤ 1; omega, by show 0 + 0 ≤ 8; omega⟩) ?_
  intro v hv
  obtain ⟨rr, rfl, hrr⟩ := hv
  rw [atS_in hj1 hm120] at hrr
  obtain ⟨na, nb, hP9, hr0, hn, hn2⟩ := id hrr
  refine W.eq (g2 := F0 m 13 ls [.ref rr]) rfl ?_
  refine lv_astore (lv' := [(5, .ref rr), (4, .ref ((ad (4 + i1)))), (0, .ref x), (1, .int (nI i1)), (2, .int (nI j1)), (3, .int sm)]) hx hb d_X_spoil_13 hl (by decide) rfl (fun ls hl => ?_)
  refine lv_aload hx hb d_X_spoil_15 (lv_at hl 0 rfl) ?_
  refine va_get (D := g.1) (ci := 4) (C := R_R) (T := F_R) (N := 8) hx hb hts i_R hown hK.1 hr0 0 rfl rfl 0 (by decide) (hts (.fieldLink "RegistryLog" 137 "RegistryLog$Row" "kind" "I") (in_2 (List.mem_of_getElem? (i := 184) rfl) rfl)) (fun _ h9 => h9) rfl d_X_spoil_17 ?_
  refine lv_if_eq (tgt := 25) hx hb d_X_spoil_20 (by decide) (fun c20 => ?_) (fun c20 => ?_)
  · skip
    refine lv_aload hx hb d_X_spoil_25 (lv_at hl 1 rfl) ?_
    refine lv_iload_n hx hb d_X_spoil_27 rfl (lv_at hl 4 rfl) ?_
    refine lv_aload hx hb d_X_spoil_28 (lv_at hl 0 rfl) ?_
    refine lv_iload_n hx hb d_X_spoil_30 rfl (lv_at hl 5 rfl) ?_
    refine aW (N := no_) (rV (As := [.int sm]) (rest := [.int (nI j1), .ref ((ad (4 + i1)))]) C0 (c_R_withSum l g _ (PX Z ad) rr na nb ((mir i1).getD j1 noRw) sm hsz hr0 hn hn2) (zK_S hZ hS (cX_old hX0)) k_X_spoil_31 rfl rfl ⟨Nat.le_of_ble_eq_true rfl, Nat.le_of_ble_eq_true rfl⟩ (ob_recv hK hr0 rfl) rfl hl.1 rfl (Nat.le_of_ble_eq_true rfl) d_X_spoil_31 ⟨by show 0 + 1 ≤ 1; omega, by show 0 + 8 ≤ 8; omega⟩) (fun v H L hC1 hp hL => ?_)
    have hS0 := hS
    have hS := hS_call hS hC1 hL (fun q h => h.elim)
    obtain ⟨q9, hq9, rfl, f9⟩ := hp
    have hX := cX_new hX hC1
    have hn := pN_mv (P' := PX Z ad) hn (fun a h1 h2 => ⟨hC_at hC1 h2 (fun z => z), h1⟩)
    have hn2 := pN_mv (P' := PX Z ad) hn2 (fun a h1 h2 => ⟨hC_at hC1 h2 (fun z => z), h1⟩)
    have hRn : pR (PX Z ad) g H q9 (rk ((mir i1).getD j1 noRw), rp ((mir i1).getD j1 noRw), rn ((mir i1).getD j1 noRw), ra ((mir i1).getD j1 noRw), r2 ((mir i1).getD j1 noRw), sm, ro ((mir i1).getD j1 noRw)) := ⟨na, nb, ⟨fun j hj z => by have := cX_lt hX0 hj; omega, hZb _ hq9⟩, f9, hn, hn2⟩
    refine W.eq (g2 := F0 m 34 ls [.ref q9, .int (nI j1), .ref ((ad (4 + i1)))]) rfl ?_
    obtain ⟨n8, f8, fl0, fl1, hn8, hl8, hrs8⟩ := id (cX_mir hX hi1)
    have hnei : ∀ j, j < 16 → q9 ≠ ad j := fun j hj z => by have := cX_lt hX0 hj; omega
    refine aW (N := (fun a => a = ad (4 + i1) ∨ a = ad (8 + i1))) (rV (As := [.int (nI j1), .ref q9]) (rest := []) C0 (c_L_replace l g _ (ad (4 + i1)) (ad (8 + i1)) n8 (mir i1).length q9 f8 _ fl0 fl1 f9 (cX_ne hX (by omega) (by omega) (by omega)) (hnei _ (by omega)) (hnei _ (by omega)) j1 hj1 hl8) (zK_S hZ hS (cX_old hX0)) k_X_spoil_34 rfl rfl ⟨Nat.le_of_ble_eq_true rfl, Nat.le_of_ble_eq_true rfl⟩ (ob_recv hK fl0 rfl) rfl hl.1 rfl (Nat.le_of_ble_eq_true rfl) d_X_spoil_34 ⟨by show 0 + 1 + 0 ≤ 1; omega, by show 0 + 8 + 0 ≤ 8; omega⟩) (fun v H L hC1 hp hL => ?_)
    have hS0 := hS
    have hS := hS_call hS hC1 hL (fun a h => Or.inl (h.elim (fun z => ⟨4 + i1, by omega, z⟩) (fun z => ⟨8 + i1, by omega, z⟩)))
    obtain ⟨rfl, g0, g1⟩ := hp
    have hpm := fun a (b : PX Z ad a) c => hC_at hC1 (a := a) c (fun z => z.elim (b.1 _ (by omega)) (b.1 _ (by omega)))
    have hX := cX_setM hX hi1 (fun a h1 h2 => hC_at hC1 h1 h2) (pL_rep hn8 hrs8 hpm g0 g1 (pR_mv hRn (fun a b c => ⟨hpm a b c, b⟩)) hj1 hl8)
    refine W.eq (g2 := F0 m 37 ls []) rfl ?_
    refine lv_iconst (v := nI 1) hx hb d_X_spoil_37 (by decide) ?_
    refine W.widen (k := 1) (n := 8) (by omega) (by omega) ?_
    exact W.zret hx hb hr rfl (fun t9 ht hW => ⟨_, rfl, by rw [ht]; exact hS_hC hS, by rw [ht]; exact ⟨rfl, hX⟩⟩) hS.2.2 d_X_spoil_38 hlk
  · skip
    exact absurd hk0 c20
theorem k_X_follow_1 : kS "RegistryLog" 199 y_X_isMirror b_X_isMirror 1 (some .boolean) 1 := ⟨(in_3 (List.mem_of_getElem? (i := 156) rfl) rfl), (in_3 (List.mem_of_getElem? (i := 157) rfl) rfl), (in_1 (List.mem_of_getElem? (i := 1) rfl) rfl), (in_3 (List.mem_of_getElem? (i := 158) rfl) rfl), ⟨by decide, by decide, by decide +kernel⟩⟩
theorem k_X_follow_15 : kV "RegistryLog" 202 "RegistryLog" y_X_mirrorOf b_X_mirrorOf 2 (some (.object "RegistryLog$Ledger")) 1 := ⟨(in_3 (List.mem_of_getElem? (i := 159) rfl) rfl), (in_3 (List.mem_of_getElem? (i := 161) rfl) rfl), (in_0 (List.mem_of_getElem? (i := 1) rfl) rfl), (in_1 (List.mem_of_getElem? (i := 1) rfl) rfl), (in_3 (List.mem_of_getElem? (i := 162) rfl) rfl), ⟨by decide, by decide, by decide +kernel⟩⟩
theorem k_X_follow_20 : kV "RegistryLog" 80 "RegistryLog$Ledger" y_L_size b_L_size 1 (some .int) 0 := ⟨(in_3 (List.mem_of_getElem? (i := 38) rfl) rfl), (in_3 (List.mem_of_getElem? (i := 39) rfl) rfl), (in_3 (List.mem_of_getElem? (i := 40) rfl) rfl), (in_1 (List.mem_of_getElem? (i := 6) rfl) rfl), (in_3 (List.mem_of_getElem? (i := 41) rfl) rfl), ⟨by decide, by decide, by decide +kernel⟩⟩
theorem k_X_follow_30 : kV "RegistryLog" 80 "RegistryLog$Ledger" y_L_size b_L_size 1 (some .int) 0 := ⟨(in_3 (List.mem_of_getElem? (i := 38) rfl) rfl), (in_3 (List.mem_of_getElem? (i := 39) rfl) rfl), (in_3 (List.mem_of_getElem? (i := 40) rfl) rfl), (in_1 (List.mem_of_getElem? (i := 6) rfl) rfl), (in_3 (List.mem_of_getElem? (i := 41) rfl) rfl), ⟨by decide, by decide, by decide +kernel⟩⟩
theorem k_X_follow_61 : kV "RegistryLog" 133 "RegistryLog$Ledger" y_L_at b_L_at 2 (some (.object "RegistryLog$Row")) 1 := ⟨(in_3 (List.mem_of_getElem? (i := 46) rfl) rfl), (in_3 (List.mem_of_getElem? (i := 47) rfl) rfl), (in_3 (List.mem_of_getElem? (i := 48) rfl) rfl), (in_1 (List.mem_of_getElem? (i := 6) rfl) rfl), (in_3 (List.mem_of_getElem? (i := 49) rfl) rfl), ⟨by decide, by decide, by decide +kernel⟩⟩
theorem k_X_follow_64 : kV "RegistryLog" 211 "RegistryLog$Ledger" y_L_append b_L_append 2 none 1 := ⟨(in_3 (List.mem_of_getElem? (i := 164) rfl) rfl), (in_3 (List.mem_of_getElem? (i := 165) rfl) rfl), (in_3 (List.mem_of_getElem? (i := 166) rfl) rfl), (in_1 (List.mem_of_getElem? (i := 6) rfl) rfl), (in_3 (List.mem_of_getElem? (i := 167) rfl) rfl), ⟨by decide, by decide, by decide +kernel⟩⟩
set_option maxHeartbeats 4000000 in
set_option maxRecDepth 100000 in
/-- follow: no such mirror -/
theorem c_X_follow0 (l : Launch) (g : gG) (H : Heap) (Z : Nat → Prop) (x : Nat) (ad : Nat → Nat) (ms nm nw : Nat) (rows : List Rw) (mir : Nat → List Rw) (T : List Nat) (f : Nat → Int64) (k q : Nat) (f2 : Nat → Int64) (k2 : Nat) (hX : cX Z g H x ad ms nm nw rows mir T f k q f2 k2 0) (i n : Int32) (hbad : decide (0 ≤ i ∧ i < 4) = false ∨ n < 0) : Met l y_X_follow (wC y_X_follow b_X_follow 7 (some .int)) (rmk 2 0 0 41) (pC g H [.ref x, .int i, .int n]) (qW H (NX ad) (fun r H1 => r = some (.int (-1)) ∧ cX Z g H1 x ad ms nm nw rows mir T f k q f2 k2 0)) 0 0 (fW H (NX ad)) := by
  refine mB (by decide) (Nat.le_of_ble_eq_true rfl) ?_
  intro p e s m below meth c ls C0 hH hZ hnm hl
  have C0 : cF g p s m _ meth c b_X_follow 7 "RegistryLog" (some .int) := C0
  obtain ⟨hx, hb, hml, hown, hts, hr, hlk, hK⟩ := id C0
  subst hH
  have hl : lv_has ls 7 [(0, .ref x), (1, .int i), (2, .int n)] := hl
  have hS : va_S (fW s.heap (NX ad)) s.heap s.heap [] := hS_rf
  have hX0 := hX
  refine lv_iload_n hx hb d_X_follow_0 rfl (lv_at hl 1 rfl) ?_
  refine aP (rS (As := [.int i]) (rest := []) C0 (c_X_isMirror l g _ i) (zK_S hZ hS (cX_old hX0)) k_X_follow_1 rfl rfl ⟨Nat.le_of_ble_eq_true rfl, Nat.le_of_ble_eq_true rfl⟩ rfl hl.1 rfl (Nat.le_of_ble_eq_true rfl) d_X_follow_1 ⟨by show 0 + 0 ≤ 0; omega, by show 0 + 0 ≤ 0; omega⟩) ?_
  intro v hv; subst hv
  refine W.eq (g2 := F0 m 4 ls [.int (bI (decide (0 ≤ i ∧ i < 4)))]) rfl ?_
  refine z_eq (tgt := 11) (v := decide (0 ≤ i ∧ i < 4)) hx hb d_X_follow_4 (by decide) (fun c4 => ?_) (fun c4 => ?_)
  · skip
    refine lv_iconst (v := (-1)) hx hb d_X_follow_11 (by decide) ?_
    refine W.widen (k := 0) (n := 0) (by omega) (by omega) ?_
    exact W.iret hx hb hr (fun t9 ht hW => ⟨_, rfl, by rw [ht]; exact hS_hC hS, by rw [ht]; exact ⟨rfl, hX⟩⟩) hS.2.2 d_X_follow_12 hlk
  · skip
    refine lv_iload_n hx hb d_X_follow_7 rfl (lv_at hl 2 rfl) ?_
    refine lv_if_ge (tgt := 13) hx hb d_X_follow_8 (by decide) (fun c8 => ?_) (fun c8 => ?_)
    · skip
      exact absurd hbad (fun z => z.elim (fun z => by rw [c4] at z; cases z) (fun z => absurd z (Int32.not_lt.mpr c8)))
    · skip
      refine lv_iconst (v := (-1)) hx hb d_X_follow_11 (by decide) ?_
      refine W.widen (k := 0) (n := 0) (by omega) (by omega) ?_
      exact W.iret hx hb hr (fun t9 ht hW => ⟨_, rfl, by rw [ht]; exact hS_hC hS, by rw [ht]; exact ⟨rfl, hX⟩⟩) hS.2.2 d_X_follow_12 hlk
theorem tk_s {rows : List Rw} {c0 j : Nat} (h : c0 + j < rows.length) : (rows.drop c0).take (j + 1) = (rows.drop c0).take j ++ [rows.getD (c0 + j) noRw] := by
  rw [List.take_add_one, List.getElem?_drop, List.getElem?_eq_getElem h, List.getD_eq_getElem?_getD, List.getElem?_eq_getElem h]; rfl
set_option maxHeartbeats 4000000 in
set_option maxRecDepth 100000 in
theorem lp_X_follow {p : Program} {l : Launch} {e : Env} {s : State} {m : MethodId} {args : Array Value} {below : List Frame} {meth : Method} {c : Code} {g : gG} (C0 : cF g p s m args meth c b_X_follow 7 "RegistryLog" (some .int)) (hZ : zK g s s.heap) {Z : Nat → Prop} {x : Nat} {ad : Nat → Nat} {ms nm nw : Nat} {rows : List Rw} {mir : Nat → List Rw} {T : List Nat} {f : Nat → Int64} {k q : Nat} {f2 : Nat → Int64} {k2 i1 cnt : Nat} (hi1 : i1 < 4) (hr9 : rows.length ≤ 120) (hcnt : (mir i1).length + cnt ≤ rows.length) (hX0 : cX Z g s.heap x ad ms nm nw rows mir T f k q f2 k2 0) :
    ∀ (n j : Nat) (H : Heap) (locs : List Loc), j ≤ cnt → cnt + 1 ≤ j + n → cX Z g H x ad ms nm nw rows (miU mir i1 (mir i1 ++ (rows.drop (mir i1).length).take j)) T f k q f2 k2 0 → va_S (fW s.heap (NX ad)) s.heap H locs → ∀ (ls : Array Slot), lv_has ls 7 [(0, .ref x), (3, .ref ((ad (4 + i1)))), (4, .int (nI ((mir i1).length))), (5, .int (nI cnt)), (6, .int (nI j))] → W p l e (rmk 2 0 0 41) s m args below meth c H locs 0 0 (MQ below (qW s.heap (NX ad) (fun r H1 => r = some (.int (nI cnt)) ∧ cX Z g H1 x ad ms nm nw rows (miU mir i1 (mir i1 ++ (rows.drop (mir i1).length).take cnt)) T f k q f2 k2 0)) args s 0 0 (fW s.heap (NX ad))) (F0 m 44 ls []) := by
  obtain ⟨hx, hb, hml, hown, hts, hr, hlk, hK⟩ := id C0
  intro n
  induction n with
  | zero => intro j H locs h1 h2; exact absurd h2 (by omega)
  | succ n ih =>
    intro j H locs hj hjn hX hS ls hl
    refine lv_iload hx hb d_X_follow_44 (lv_at hl 4 rfl) ?_
    refine lv_iload hx hb d_X_follow_46 (lv_at hl 3 rfl) ?_
    refine n_ge (tgt := 73) (a := j) (b := cnt) hx hb d_X_follow_48 (by decide) (by omega) (by omega) (fun c48 => ?_) (fun c48 => ?_)
    · skip
      refine lv_iload hx hb d_X_follow_73 (lv_at hl 3 rfl) ?_
      have e9 : j = cnt := by omega
      subst e9
      refine W.widen (k := 0) (n := 0) (by omega) (by omega) ?_
      exact W.iret hx hb hr (fun t9 ht hW => ⟨_, rfl, by rw [ht]; exact hS_hC hS, by rw [ht]; exact ⟨rfl, hX⟩⟩) hS.2.2 d_X_follow_75 hlk
    · skip
      refine lv_aload_n hx hb d_X_follow_51 rfl (lv_at hl 1 rfl) ?_
      refine lv_aload_n hx hb d_X_follow_52 rfl (lv_at hl 0 rfl) ?_
      refine va_get (D := g.1) (ci := 0) (C := R_X) (T := F_X) (N := 6) hx hb hts i_X hown hK.1 (cX_ob hX) 0 rfl rfl 1 (by decide) (hts (.fieldLink "RegistryLog" 19 "RegistryLog" "log" "LRegistryLog$Ledger;") (in_3 (List.mem_of_getElem? (i := 10) rfl) rfl)) (fun _ h9 => h9) rfl d_X_follow_53 ?_
      refine lv_iload hx hb d_X_follow_56 (lv_at hl 2 rfl) ?_
      refine lv_iload hx hb d_X_follow_58 (lv_at hl 4 rfl) ?_
      refine n_iadd hx hb d_X_follow_60 ?_
      refine aP (rV (As := [.int (nI (((mir i1).length) + j))]) (rest := [.ref ((ad (4 + i1)))]) C0 (c_L_atP l g _ (PX Z ad) (ad 2) (ad 3) rows (nI (((mir i1).length) + j)) (cX_log hX)) (zK_S hZ hS (cX_old hX0)) k_X_follow_61 rfl rfl ⟨Nat.le_of_ble_eq_true rfl, Nat.le_of_ble_eq_true rfl⟩ (isL_recv hK (pL_isL (cX_log hX))) rfl hl.1 rfl (Nat.le_of_ble_eq_true rfl) d_X_follow_61 ⟨by show 0 + 0 ≤ 0; omega, by show 0 + 0 ≤ 0; omega⟩) ?_
      intro v hv
      obtain ⟨r9, rfl, hrr⟩ := hv
      rw [atS_in (by omega) hr9] at hrr
      obtain ⟨na, nb, hP9, hob9, hn, hn2⟩ := id hrr
      refine W.eq (g2 := F0 m 64 ls [.ref r9, .ref ((ad (4 + i1)))]) rfl ?_
      have hMl := cX_mir hX hi1
      rw [miU_at] at hMl
      have hLn : (mir i1 ++ (rows.drop (mir i1).length).take j).length = (mir i1).length + j := by rw [List.length_append, List.length_take, List.length_drop]; omega
      obtain ⟨n8, f8, fl0, fl1, hn8, hl8, hrs8⟩ := id hMl
      refine aW (N := (fun a => a = ad (4 + i1) ∨ a = ad (8 + i1))) (rV (As := [.ref r9]) (rest := []) C0 (c_L_append l g _ (ad (4 + i1)) (ad (8 + i1)) n8 (mir i1 ++ (rows.drop (mir i1).length).take j).length r9 f8 _ fl0 fl1 hob9 (cX_ne hX (by omega) (by omega) (by omega)) (hP9.1 _ (by omega)) (hP9.1 _ (by omega)) (by omega)) (zK_S hZ hS (cX_old hX0)) k_X_follow_64 rfl rfl ⟨Nat.le_of_ble_eq_true rfl, Nat.le_of_ble_eq_true rfl⟩ (ob_recv hK fl0 rfl) rfl hl.1 rfl (Nat.le_of_ble_eq_true rfl) d_X_follow_64 ⟨by show 0 + 0 ≤ 0; omega, by show 0 + 0 ≤ 0; omega⟩) (fun v H L hC1 hp hL => ?_)
      have hS0 := hS
      have hS := hS_call hS hC1 hL (fun a h => Or.inl (h.elim (fun z => ⟨4 + i1, by omega, z⟩) (fun z => ⟨8 + i1, by omega, z⟩)))
      obtain ⟨rfl, g0, g1⟩ := hp
      have hpm := fun a (b : PX Z ad a) c => hC_at hC1 (a := a) c (fun z => z.elim (b.1 _ (by omega)) (b.1 _ (by omega)))
      have hX := cX_setM hX hi1 (fun a h1 h2 => hC_at hC1 h1 h2) (pL_app hn8 hrs8 hpm g0 g1 (pR_mv hrr (fun a b c => ⟨hpm a b c, b⟩)) (by omega))
      rw [miU_2, List.append_assoc, ← tk_s (by omega)] at hX
      refine W.eq (g2 := F0 m 67 ls []) rfl ?_
      refine n_inc (a := j) (lv' := [(6, .int (nI (j + 1))), (0, .ref x), (3, .ref ((ad (4 + i1)))), (4, .int (nI ((mir i1).length))), (5, .int (nI cnt))]) hx hb d_X_follow_67 hl (k := 4) rfl (by decide) rfl (fun ls hl => ?_)
      refine lv_goto (tgt := 44) hx hb d_X_follow_70 (by decide) ?_
      exact ih (j + 1) H _ (by omega) (by omega) hX hS ls (lv_sub hl [1, 2, 3, 4, 0] rfl)
set_option maxHeartbeats 4000000 in
set_option maxRecDepth 100000 in
/-- follow -/
theorem c_X_follow1 (l : Launch) (g : gG) (H : Heap) (Z : Nat → Prop) (x : Nat) (ad : Nat → Nat) (ms nm nw : Nat) (rows : List Rw) (mir : Nat → List Rw) (T : List Nat) (f : Nat → Int64) (k q : Nat) (f2 : Nat → Int64) (k2 : Nat) (hX : cX Z g H x ad ms nm nw rows mir T f k q f2 k2 0) (i1 n1 : Nat) (hi1 : i1 < 4) (hn1 : n1 < 2 ^ 31) (hle : (mir i1).length ≤ rows.length) : Met l y_X_follow (wC y_X_follow b_X_follow 7 (some .int)) (rmk 2 0 0 41) (pC g H [.ref x, .int (nI i1), .int (nI n1)]) (qW H (NX ad) (fun r H1 => r = some (.int (nI (min n1 (rows.length - (mir i1).length)))) ∧ cX Z g H1 x ad ms nm nw rows (miU mir i1 (mir i1 ++ (rows.drop (mir i1).length).take (min n1 (rows.length - (mir i1).length)))) T f k q f2 k2 0)) 0 0 (fW H (NX ad)) := by
  refine mB (by decide) (Nat.le_of_ble_eq_true rfl) ?_
  intro p e s m below meth c ls C0 hH hZ hnm hl
  have C0 : cF g p s m _ meth c b_X_follow 7 "RegistryLog" (some .int) := C0
  obtain ⟨hx, hb, hml, hown, hts, hr, hlk, hK⟩ := id C0
  subst hH
  have hl : lv_has ls 7 [(0, .ref x), (1, .int (nI i1)), (2, .int (nI n1))] := hl
  have hS : va_S (fW s.heap (NX ad)) s.heap s.heap [] := hS_rf
  have hX0 := hX
  have hi4 : 0 ≤ nI i1 ∧ nI i1 < 4 := ⟨nI_pos' (by omega), (nI_ltI (by omega) (by decide)).mpr hi1⟩
  refine lv_iload_n hx hb d_X_follow_0 rfl (lv_at hl 1 rfl) ?_
  refine aP (rS (As := [.int (nI i1)]) (rest := []) C0 (c_X_isMirror l g _ (nI i1)) (zK_S hZ hS (cX_old hX0)) k_X_follow_1 rfl rfl ⟨Nat.le_of_ble_eq_true rfl, Nat.le_of_ble_eq_true rfl⟩ rfl hl.1 rfl (Nat.le_of_ble_eq_true rfl) d_X_follow_1 ⟨by show 0 + 0 ≤ 0; omega, by show 0 + 0 ≤ 0; omega⟩) ?_
  intro v hv; subst hv
  refine W.eq (g2 := F0 m 4 ls [.int (bI (decide (0 ≤ nI i1 ∧ nI i1 < 4)))]) rfl ?_
  refine z_eq (tgt := 11) (v := decide (0 ≤ nI i1 ∧ nI i1 < 4)) hx hb d_X_follow_4 (by decide) (fun c4 => ?_) (fun c4 => ?_)
  · skip
    exact absurd c4 (by rw [decide_eq_true hi4]; decide)
  · skip
    refine lv_iload_n hx hb d_X_follow_7 rfl (lv_at hl 2 rfl) ?_
    refine lv_if_ge (tgt := 13) hx hb d_X_follow_8 (by decide) (fun c8 => ?_) (fun c8 => ?_)
    · skip
      refine lv_aload_n hx hb d_X_follow_13 rfl (lv_at hl 0 rfl) ?_
      refine lv_iload_n hx hb d_X_follow_14 rfl (lv_at hl 1 rfl) ?_
      obtain ⟨mf, fms, hmf⟩ := id hX.1.2.1
      refine aP (rV (As := [.int (nI i1)]) (rest := []) C0 (c_X_mirrorOf l g _ x (ad 0) (ad 2) ms nm (ad 12) (ad 14) (cX_ob hX) mf fms mir (cM_isL hX.2.2.1 hmf) (nI i1)) (zK_S hZ hS (cX_old hX0)) k_X_follow_15 rfl rfl ⟨Nat.le_of_ble_eq_true rfl, Nat.le_of_ble_eq_true rfl⟩ (ob_recv hK (cX_ob hX) rfl) rfl hl.1 rfl (Nat.le_of_ble_eq_true rfl) d_X_follow_15 ⟨by show 0 + 0 ≤ 0; omega, by show 0 + 0 ≤ 0; omega⟩) ?_
      intro v hv
      obtain ⟨lq, rfl, hlq⟩ := hv
      have hlq := mirA_eq hmf hlq
      rw [if_pos hi4, nI_clamp (by omega)] at hlq
      subst hlq
      refine W.eq (g2 := F0 m 18 ls [.ref ((ad (4 + i1)))]) rfl ?_
      refine lv_astore_n (lv' := [(3, .ref ((ad (4 + i1)))), (0, .ref x), (1, .int (nI i1)), (2, .int (nI n1))]) hx hb d_X_follow_18 rfl hl (by decide) rfl (fun ls hl => ?_)
      refine lv_aload_n hx hb d_X_follow_19 rfl (lv_at hl 0 rfl) ?_
      obtain ⟨n8, f8, fl0, fl1, hn8, hl8, hrs8⟩ := id (cX_mir hX hi1)
      refine aP (rV (As := []) (rest := []) C0 (c_L_size l g _ (ad (4 + i1)) (ad (8 + i1)) n8 (nI (mir i1).length) fl0) (zK_S hZ hS (cX_old hX0)) k_X_follow_20 rfl rfl ⟨Nat.le_of_ble_eq_true rfl, Nat.le_of_ble_eq_true rfl⟩ (ob_recv hK fl0 rfl) rfl hl.1 rfl (Nat.le_of_ble_eq_true rfl) d_X_follow_20 ⟨by show 0 + 0 ≤ 0; omega, by show 0 + 0 ≤ 0; omega⟩) ?_
      intro v hv; subst hv
      refine W.eq (g2 := F0 m 23 ls [.int (nI ((mir i1).length))]) rfl ?_
      refine lv_istore (lv' := [(4, .int (nI ((mir i1).length))), (3, .ref ((ad (4 + i1)))), (0, .ref x), (1, .int (nI i1)), (2, .int (nI n1))]) hx hb d_X_follow_23 hl (by decide) rfl (fun ls hl => ?_)
      refine lv_iload_n hx hb d_X_follow_25 rfl (lv_at hl 4 rfl) ?_
      refine lv_aload_n hx hb d_X_follow_26 rfl (lv_at hl 2 rfl) ?_
      refine va_get (D := g.1) (ci := 0) (C := R_X) (T := F_X) (N := 6) hx hb hts i_X hown hK.1 (cX_ob hX) 0 rfl rfl 1 (by decide) (hts (.fieldLink "RegistryLog" 19 "RegistryLog" "log" "LRegistryLog$Ledger;") (in_3 (List.mem_of_getElem? (i := 10) rfl) rfl)) (fun _ h9 => h9) rfl d_X_follow_27 ?_
      obtain ⟨n7, f7, fm0, fm1, hn7, hl7, hrs7⟩ := id (cX_log hX)
      refine aP (rV (As := []) (rest := [.int (nI n1)]) C0 (c_L_size l g _ (ad 2) (ad 3) n7 (nI rows.length) fm0) (zK_S hZ hS (cX_old hX0)) k_X_follow_30 rfl rfl ⟨Nat.le_of_ble_eq_true rfl, Nat.le_of_ble_eq_true rfl⟩ (ob_recv hK fm0 rfl) rfl hl.1 rfl (Nat.le_of_ble_eq_true rfl) d_X_follow_30 ⟨by show 0 + 0 ≤ 0; omega, by show 0 + 0 ≤ 0; omega⟩) ?_
      intro v hv; subst hv
      refine W.eq (g2 := F0 m 33 ls [.int (nI rows.length), .int (nI n1)]) rfl ?_
      refine lv_iload hx hb d_X_follow_33 (lv_at hl 0 rfl) ?_
      refine n_isub hx hb (by omega) d_X_follow_35 ?_
      refine va_mmin hx hb (by rw [hml]; exact hl.1.symm) hown (hts _ (in_3 (List.mem_of_getElem? (i := 163) rfl) rfl)) (hts _ (in_1 (List.mem_of_getElem? (i := 169) rfl) rfl)) (hts _ (in_1 (List.mem_of_getElem? (i := 11) rfl) rfl)) (hts _ (in_1 (List.mem_of_getElem? (i := 170) rfl) rfl)) (Nat.le_of_ble_eq_true rfl) (Nat.le_of_ble_eq_true rfl) (by show 0 ≤ 0; omega) (by show 0 ≤ 0; omega) d_X_follow_36 ?_
      refine W.eq (g2 := F0 m 39 ls [.int (nI (min n1 (rows.length - ((mir i1).length))))]) (by rw [mn_ (by omega) (by omega)]) ?_
      refine lv_istore (lv' := [(5, .int (nI (min n1 (rows.length - ((mir i1).length))))), (4, .int (nI ((mir i1).length))), (3, .ref ((ad (4 + i1)))), (0, .ref x), (1, .int (nI i1)), (2, .int (nI n1))]) hx hb d_X_follow_39 hl (by decide) rfl (fun ls hl => ?_)
      refine lv_iconst (v := nI 0) hx hb d_X_follow_41 (by decide) ?_
      refine lv_istore (lv' := [(6, .int (nI 0)), (5, .int (nI (min n1 (rows.length - ((mir i1).length))))), (4, .int (nI ((mir i1).length))), (3, .ref ((ad (4 + i1)))), (0, .ref x), (1, .int (nI i1)), (2, .int (nI n1))]) hx hb d_X_follow_42 hl (by decide) rfl (fun ls hl => ?_)
      obtain ⟨cnt, hcn⟩ : ∃ cnt, cnt = min n1 (rows.length - (mir i1).length) := ⟨_, rfl⟩
      rw [← hcn] at hl ⊢
      exact lp_X_follow C0 hZ hi1 hl7 (by omega) hX0 (cnt + 1) 0 _ _ (Nat.zero_le _) (by omega) (by rw [List.take_zero, List.append_nil, miU_id]; exact hX) hS ls (lv_sub hl [4, 3, 2, 1, 0] rfl)
    · skip
      exact absurd (nI_pos' (by omega)) c8
