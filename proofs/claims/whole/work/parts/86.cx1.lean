theorem k_X_take_5 : kV "RegistryLog" 176 "RegistryLog$Numbers" y_U_add b_U_add 3 (some .boolean) 1 := ⟨(in_3 (List.mem_of_getElem? (i := 109) rfl) rfl), (in_3 (List.mem_of_getElem? (i := 82) rfl) rfl), (in_3 (List.mem_of_getElem? (i := 83) rfl) rfl), (in_1 (List.mem_of_getElem? (i := 21) rfl) rfl), (in_3 (List.mem_of_getElem? (i := 84) rfl) rfl), ⟨by decide, by decide, by decide +kernel⟩⟩
set_option maxHeartbeats 4000000 in
set_option maxRecDepth 100000 in
/-- take -/
theorem c_X_take (l : Launch) (g : gG) (H : Heap) (Z : Nat → Prop) (x : Nat) (ad : Nat → Nat) (ms nm nw : Nat) (rows : List Rw) (mir : Nat → List Rw) (T : List Nat) (f : Nat → Int64) (k q : Nat) (f2 : Nat → Int64) (k2 : Nat) (hX : cX Z g H x ad ms nm nw rows mir T f k q f2 k2 0) (y : Int64) : Met l y_X_take (wC y_X_take b_X_take 3 (some .boolean)) (rmk 1 0 0 22) (pC g H [.ref x, .long y]) (qW H (NX ad) (fun r H1 => r = some (.int (bI (decide (k2 < 16)))) ∧ cX Z g H1 x ad ms nm nw rows mir T f k q (if k2 < 16 then vp_updL f2 k2 y else f2) (if k2 < 16 then k2 + 1 else k2) 0)) 0 0 (fW H (NX ad)) := by
  refine mB (by decide) (Nat.le_of_ble_eq_true rfl) ?_
  intro p e s m below meth c ls C0 hH hZ hnm hl
  have C0 : cF g p s m _ meth c b_X_take 3 "RegistryLog" (some .boolean) := C0
  obtain ⟨hx, hb, hml, hown, hts, hr, hlk, hK⟩ := id C0
  subst hH
  have hl : lv_has ls 3 [(0, .ref x), (1, .long y)] := hl
  have hS : va_S (fW s.heap (NX ad)) s.heap s.heap [] := hS_rf
  have hX0 := hX
  refine lv_aload_n hx hb d_X_take_0 rfl (lv_at hl 0 rfl) ?_
  refine va_get (D := g.1) (ci := 0) (C := R_X) (T := F_X) (N := 6) hx hb hts i_X hown hK.1 (cX_ob hX) 0 rfl rfl 5 (by decide) (hts (.fieldLink "RegistryLog" 37 "RegistryLog" "hand" "LRegistryLog$Numbers;") (in_3 (List.mem_of_getElem? (i := 14) rfl) rfl)) (fun _ h9 => h9) rfl d_X_take_1 ?_
  refine lv_lload_n hx hb d_X_take_4 rfl (lv_at hl 1 rfl) ?_
  refine aW (N := (fun a => a = ad 14 ∨ a = ad 15)) (rV (As := [.long y]) (rest := []) C0 (c_U_add l g _ (ad 14) (ad 15) k2 0 f2 (cX_hd hX) (cX_ne hX (by decide) (by decide) (by decide)) y) (zK_S hZ hS (cX_old hX0)) k_X_take_5 rfl rfl ⟨Nat.le_of_ble_eq_true rfl, Nat.le_of_ble_eq_true rfl⟩ (ob_recv hK (cX_hd hX).1 rfl) rfl hl.1 rfl (Nat.le_of_ble_eq_true rfl) d_X_take_5 ⟨by show 0 + 0 ≤ 0; omega, by show 0 + 0 ≤ 0; omega⟩) (fun v H L hC1 hp hL => ?_)
  have hS0 := hS
  have hS := hS_call hS hC1 hL (fun a h => Or.inl (h.elim (fun z => ⟨14, by decide, z⟩) (fun z => ⟨15, by decide, z⟩)))
  have hp := add_u hp
  obtain ⟨rfl, hU⟩ := hp
  have hX := cX_setH hX (fun a h1 h2 => hC_at hC1 h1 h2) hU
  refine W.eq (g2 := F0 m 8 ls [.int (bI (decide (k2 < 16)))]) rfl ?_
  refine W.widen (k := 0) (n := 0) (by omega) (by omega) ?_
  exact W.zret hx hb hr (by cases decide (k2 < 16) <;> rfl) (fun t9 ht hW => ⟨_, rfl, by rw [ht]; exact hS_hC hS, by rw [ht]; exact ⟨rfl, hX⟩⟩) hS.2.2 d_X_take_8 hlk
theorem k_X_inside_4 : kV "RegistryLog" 160 "RegistryLog$Numbers" y_U_clear b_U_clear 1 none 0 := ⟨(in_3 (List.mem_of_getElem? (i := 73) rfl) rfl), (in_3 (List.mem_of_getElem? (i := 74) rfl) rfl), (in_3 (List.mem_of_getElem? (i := 75) rfl) rfl), (in_1 (List.mem_of_getElem? (i := 21) rfl) rfl), (in_3 (List.mem_of_getElem? (i := 76) rfl) rfl), ⟨by decide, by decide, by decide +kernel⟩⟩
theorem k_X_inside_12 : kV "RegistryLog" 80 "RegistryLog$Ledger" y_L_size b_L_size 1 (some .int) 0 := ⟨(in_3 (List.mem_of_getElem? (i := 38) rfl) rfl), (in_3 (List.mem_of_getElem? (i := 39) rfl) rfl), (in_3 (List.mem_of_getElem? (i := 40) rfl) rfl), (in_1 (List.mem_of_getElem? (i := 6) rfl) rfl), (in_3 (List.mem_of_getElem? (i := 41) rfl) rfl), ⟨by decide, by decide, by decide +kernel⟩⟩
theorem k_X_inside_40 : kN "RegistryLog" 163 y_T_proveInside "RegistryLog" b_T_proveInside 6 none 5 := ⟨List.mem_of_getElem? (i := 1) rfl, (in_3 (List.mem_of_getElem? (i := 78) rfl) rfl), (in_1 (List.mem_of_getElem? (i := 20) rfl) rfl), (in_3 (List.mem_of_getElem? (i := 79) rfl) rfl), ⟨by decide, by decide, by decide +kernel⟩⟩
theorem k_X_inside_47 : kV "RegistryLog" 167 "RegistryLog$Numbers" y_U_size b_U_size 1 (some .int) 0 := ⟨(in_3 (List.mem_of_getElem? (i := 85) rfl) rfl), (in_3 (List.mem_of_getElem? (i := 86) rfl) rfl), (in_3 (List.mem_of_getElem? (i := 87) rfl) rfl), (in_1 (List.mem_of_getElem? (i := 21) rfl) rfl), (in_3 (List.mem_of_getElem? (i := 88) rfl) rfl), ⟨by decide, by decide, by decide +kernel⟩⟩
set_option maxHeartbeats 4000000 in
set_option maxRecDepth 100000 in
/-- inside -/
theorem c_X_inside (l : Launch) (g : gG) (H : Heap) (Z : Nat → Prop) (x : Nat) (ad : Nat → Nat) (ms nm nw : Nat) (rows : List Rw) (mir : Nat → List Rw) (T : List Nat) (f : Nat → Int64) (k q : Nat) (f2 : Nat → Int64) (k2 : Nat) (hX : cX Z g H x ad ms nm nw rows mir T f k q f2 k2 0) (i n : Int32) : Met l y_X_inside (wC y_X_inside b_X_inside 3 (some .int)) (rmk 18 0 0 432) (pC g H [.ref x, .int i, .int n]) (qW H (NX ad) (fun r H1 => if (0 ≤ i ∧ i < n ∧ n ≤ nI rows.length) then (r = some (.int (nI (prS (dS rows) (gdR false 7 0 n.toNatClampNeg i.toNatClampNeg true).1).length)) ∧ cX Z g H1 x ad ms nm nw rows mir T (psh f 0 (prS (dS rows) (gdR false 7 0 n.toNatClampNeg i.toNatClampNeg true).1)) (prS (dS rows) (gdR false 7 0 n.toNatClampNeg i.toNatClampNeg true).1).length 0 f2 k2 0) else (r = some (.int (-1)) ∧ cX Z g H1 x ad ms nm nw rows mir T f 0 0 f2 k2 0))) 0 0 (fW H (NX ad)) := by
  refine mB (by decide) (Nat.le_of_ble_eq_true rfl) ?_
  intro p e s m below meth c ls C0 hH hZ hnm hl
  have C0 : cF g p s m _ meth c b_X_inside 3 "RegistryLog" (some .int) := C0
  obtain ⟨hx, hb, hml, hown, hts, hr, hlk, hK⟩ := id C0
  subst hH
  have hl : lv_has ls 3 [(0, .ref x), (1, .int i), (2, .int n)] := hl
  have hS : va_S (fW s.heap (NX ad)) s.heap s.heap [] := hS_rf
  have hX0 := hX
  refine lv_aload_n hx hb d_X_inside_0 rfl (lv_at hl 0 rfl) ?_
  refine va_get (D := g.1) (ci := 0) (C := R_X) (T := F_X) (N := 6) hx hb hts i_X hown hK.1 (cX_ob hX) 0 rfl rfl 4 (by decide) (hts (.fieldLink "RegistryLog" 33 "RegistryLog" "latestProof" "LRegistryLog$Numbers;") (in_3 (List.mem_of_getElem? (i := 13) rfl) rfl)) (fun _ h9 => h9) rfl d_X_inside_1 ?_
  refine aW (N := (fun a => a = ad 12)) (rV (As := []) (rest := []) C0 (c_U_clear l g _ (ad 12) (ad 13) k q f (cX_pr hX) (cX_ne hX (by decide) (by decide) (by decide))) (zK_S hZ hS (cX_old hX0)) k_X_inside_4 rfl rfl ⟨Nat.le_of_ble_eq_true rfl, Nat.le_of_ble_eq_true rfl⟩ (ob_recv hK (cX_pr hX).1 rfl) rfl hl.1 rfl (Nat.le_of_ble_eq_true rfl) d_X_inside_4 ⟨by show 0 + 0 ≤ 0; omega, by show 0 + 0 ≤ 0; omega⟩) (fun v H L hC1 hp hL => ?_)
  have hS0 := hS
  have hS := hS_call hS hC1 hL (fun a h => Or.inl ⟨12, by decide, h⟩)
  obtain ⟨rfl, hU⟩ := hp
  have hX := cX_setP hX (fun a h1 h2 => hC_at hC1 h1 (fun z => h2 (Or.inl z))) hU
  refine W.eq (g2 := F0 m 7 ls []) rfl ?_
  refine lv_iload_n hx hb d_X_inside_7 rfl (lv_at hl 2 rfl) ?_
  refine lv_aload_n hx hb d_X_inside_8 rfl (lv_at hl 0 rfl) ?_
  refine va_get (D := g.1) (ci := 0) (C := R_X) (T := F_X) (N := 6) hx hb hts i_X hown hK.1 (cX_ob hX) 0 rfl rfl 1 (by decide) (hts (.fieldLink "RegistryLog" 19 "RegistryLog" "log" "LRegistryLog$Ledger;") (in_3 (List.mem_of_getElem? (i := 10) rfl) rfl)) (fun _ h9 => h9) rfl d_X_inside_9 ?_
  obtain ⟨n9, f9, fl0, -, -, hr120, -⟩ := id (cX_log hX)
  refine aP (rV (As := []) (rest := [.int n]) C0 (c_L_size l g _ (ad 2) (ad 3) n9 (nI rows.length) fl0) (zK_S hZ hS (cX_old hX0)) k_X_inside_12 rfl rfl ⟨Nat.le_of_ble_eq_true rfl, Nat.le_of_ble_eq_true rfl⟩ (ob_recv hK fl0 rfl) rfl hl.1 rfl (Nat.le_of_ble_eq_true rfl) d_X_inside_12 ⟨by show 0 + 0 + 0 ≤ 0; omega, by show 0 + 0 + 0 ≤ 0; omega⟩) ?_
  intro v hv; subst hv
  refine W.eq (g2 := F0 m 15 ls [.int (nI rows.length), .int n]) rfl ?_
  refine lv_icmp_gt (tgt := 27) hx hb d_X_inside_15 (by decide) (fun c15 => ?_) (fun c15 => ?_)
  · skip
    refine lv_iconst (v := (-1)) hx hb d_X_inside_27 (by decide) ?_
    refine W.widen (k := 0) (n := 0) (by omega) (by omega) ?_
    exact W.iret hx hb hr (fun t9 ht hW => ⟨_, rfl, by rw [ht]; exact hS_hC hS, by rw [ht]; exact by (try dsimp only); rw [if_neg (fun z => absurd c15 (Int32.not_lt.mpr z.2.2))]; exact ⟨rfl, hX⟩⟩) hS.2.2 d_X_inside_28 hlk
  · skip
    refine lv_iload_n hx hb d_X_inside_18 rfl (lv_at hl 1 rfl) ?_
    refine lv_if_lt (tgt := 27) hx hb d_X_inside_19 (by decide) (fun c19 => ?_) (fun c19 => ?_)
    · skip
      refine lv_iconst (v := (-1)) hx hb d_X_inside_27 (by decide) ?_
      refine W.widen (k := 0) (n := 0) (by omega) (by omega) ?_
      exact W.iret hx hb hr (fun t9 ht hW => ⟨_, rfl, by rw [ht]; exact hS_hC hS, by rw [ht]; exact by (try dsimp only); rw [if_neg (fun z => absurd c19 (Int32.not_lt.mpr z.1))]; exact ⟨rfl, hX⟩⟩) hS.2.2 d_X_inside_28 hlk
    · skip
      refine lv_iload_n hx hb d_X_inside_22 rfl (lv_at hl 1 rfl) ?_
      refine lv_iload_n hx hb d_X_inside_23 rfl (lv_at hl 2 rfl) ?_
      refine lv_icmp_lt (tgt := 29) hx hb d_X_inside_24 (by decide) (fun c24 => ?_) (fun c24 => ?_)
      · skip
        refine lv_aload_n hx hb d_X_inside_29 rfl (lv_at hl 0 rfl) ?_
        refine va_get (D := g.1) (ci := 0) (C := R_X) (T := F_X) (N := 6) hx hb hts i_X hown hK.1 (cX_ob hX) 0 rfl rfl 1 (by decide) (hts (.fieldLink "RegistryLog" 19 "RegistryLog" "log" "LRegistryLog$Ledger;") (in_3 (List.mem_of_getElem? (i := 10) rfl) rfl)) (fun _ h9 => h9) rfl d_X_inside_30 ?_
        refine lv_iconst (v := nI 0) hx hb d_X_inside_33 (by decide) ?_
        refine lv_iload_n hx hb d_X_inside_34 rfl (lv_at hl 2 rfl) ?_
        refine lv_iload_n hx hb d_X_inside_35 rfl (lv_at hl 1 rfl) ?_
        refine lv_aload_n hx hb d_X_inside_36 rfl (lv_at hl 0 rfl) ?_
        refine va_get (D := g.1) (ci := 0) (C := R_X) (T := F_X) (N := 6) hx hb hts i_X hown hK.1 (cX_ob hX) 0 rfl rfl 4 (by decide) (hts (.fieldLink "RegistryLog" 33 "RegistryLog" "latestProof" "LRegistryLog$Numbers;") (in_3 (List.mem_of_getElem? (i := 13) rfl) rfl)) (fun _ h9 => h9) rfl d_X_inside_37 ?_
        obtain ⟨i1, hi1, ei⟩ := nI_of (c19)
        subst ei
        obtain ⟨n1, hn1, en⟩ := nI_of (fun z => c19 (Int32.lt_trans c24 z))
        subst en
        have hin := (nI_ltI hi1 hn1).mp c24
        have hrl := (cX_log hX).choose_spec.choose_spec.2.2.2.1
        have hnr : n1 ≤ rows.length := Nat.le_of_not_lt (fun z => c15 ((nI_ltI (by omega) hn1).mpr z))
        refine aW (N := (fun a => a = ad 12 ∨ a = ad 13)) (rN (As := [.ref ((ad 2)), .int (nI 0), .int (nI n1), .int (nI i1), .ref ((ad 12))]) (rest := []) C0 (c_T_proveInside l g (PX Z ad) (ad 2) (ad 3) (ad 12) (ad 13) rows (fun h => h.1 12 (by decide) rfl) (fun h => h.1 13 (by decide) rfl) (cX_ne hX (by decide) (by decide) (by decide)) (cX_ne hX (by decide) (by decide) (by decide)) (cX_ne hX (by decide) (by decide) (by decide)) (cX_ne hX (by decide) (by decide) (by decide)) (cX_ne hX (by decide) (by decide) (by decide)) (cX_9 hX (by decide)) (cX_9 hX (by decide)) 7 0 n1 i1 true f 0 0 _ (cX_log hX) (cX_pr hX) (by omega) (by omega) (by omega) (by omega) (by omega) (by omega) (by omega)) (zK_S hZ hS (cX_old hX0)) k_X_inside_40 rfl rfl ⟨Nat.le_of_ble_eq_true rfl, Nat.le_of_ble_eq_true rfl⟩ rfl hl.1 rfl (Nat.le_of_ble_eq_true rfl) d_X_inside_40 ⟨by show 0 + 0 + 0 ≤ 0; omega, by show 0 + 0 + 0 ≤ 0; omega⟩) (fun v H L hC1 hp hL => ?_)
        have hS0 := hS
        have hS := hS_call hS hC1 hL (fun a h => Or.inl (h.elim (fun z => ⟨12, by decide, z⟩) (fun z => ⟨13, by decide, z⟩)))
        obtain ⟨rfl, hU⟩ := hp
        have hX := cX_setP hX (fun a h1 h2 => hC_at hC1 h1 h2) hU
        refine W.eq (g2 := F0 m 43 ls []) rfl ?_
        refine lv_aload_n hx hb d_X_inside_43 rfl (lv_at hl 0 rfl) ?_
        refine va_get (D := g.1) (ci := 0) (C := R_X) (T := F_X) (N := 6) hx hb hts i_X hown hK.1 (cX_ob hX) 0 rfl rfl 4 (by decide) (hts (.fieldLink "RegistryLog" 33 "RegistryLog" "latestProof" "LRegistryLog$Numbers;") (in_3 (List.mem_of_getElem? (i := 13) rfl) rfl)) (fun _ h9 => h9) rfl d_X_inside_44 ?_
        refine aP (rV (As := []) (rest := []) C0 (c_U_size l g _ (ad 12) (ad 13) _ _ _ (cX_pr hX)) (zK_S hZ hS (cX_old hX0)) k_X_inside_47 rfl rfl ⟨Nat.le_of_ble_eq_true rfl, Nat.le_of_ble_eq_true rfl⟩ (ob_recv hK (cX_pr hX).1 rfl) rfl hl.1 rfl (Nat.le_of_ble_eq_true rfl) d_X_inside_47 ⟨by show 0 + 0 + 0 + 0 ≤ 0; omega, by show 0 + 0 + 0 + 0 ≤ 0; omega⟩) ?_
        intro v hv; subst hv
        refine W.eq (g2 := F0 m 50 ls [.int (nI (0 + (prS (dS rows) (gdR false 7 0 n1 i1 true).1).length))]) rfl ?_
        refine W.widen (k := 0) (n := 0) (by omega) (by omega) ?_
        exact W.iret hx hb hr (fun t9 ht hW => ⟨_, rfl, by rw [ht]; exact hS_hC hS, by rw [ht]; exact by (try dsimp only); rw [nI_clamp hi1, nI_clamp hn1, if_pos ⟨Int32.not_lt.mp c19, c24, Int32.not_lt.mp c15⟩]; rw [Nat.zero_add] at hX; exact ⟨by rw [Nat.zero_add], hX⟩⟩) hS.2.2 d_X_inside_50 hlk
      · skip
        refine lv_iconst (v := (-1)) hx hb d_X_inside_27 (by decide) ?_
        refine W.widen (k := 0) (n := 0) (by omega) (by omega) ?_
        exact W.iret hx hb hr (fun t9 ht hW => ⟨_, rfl, by rw [ht]; exact hS_hC hS, by rw [ht]; exact by (try dsimp only); rw [if_neg (fun z => c24 z.2.1)]; exact ⟨rfl, hX⟩⟩) hS.2.2 d_X_inside_28 hlk
theorem k_X_growth_4 : kV "RegistryLog" 160 "RegistryLog$Numbers" y_U_clear b_U_clear 1 none 0 := ⟨(in_3 (List.mem_of_getElem? (i := 73) rfl) rfl), (in_3 (List.mem_of_getElem? (i := 74) rfl) rfl), (in_3 (List.mem_of_getElem? (i := 75) rfl) rfl), (in_1 (List.mem_of_getElem? (i := 21) rfl) rfl), (in_3 (List.mem_of_getElem? (i := 76) rfl) rfl), ⟨by decide, by decide, by decide +kernel⟩⟩
theorem k_X_growth_12 : kV "RegistryLog" 80 "RegistryLog$Ledger" y_L_size b_L_size 1 (some .int) 0 := ⟨(in_3 (List.mem_of_getElem? (i := 38) rfl) rfl), (in_3 (List.mem_of_getElem? (i := 39) rfl) rfl), (in_3 (List.mem_of_getElem? (i := 40) rfl) rfl), (in_1 (List.mem_of_getElem? (i := 6) rfl) rfl), (in_3 (List.mem_of_getElem? (i := 41) rfl) rfl), ⟨by decide, by decide, by decide +kernel⟩⟩
theorem k_X_growth_42 : kN "RegistryLog" 168 y_T_proveGrowth "RegistryLog" b_T_proveGrowth 7 none 6 := ⟨List.mem_of_getElem? (i := 2) rfl, (in_3 (List.mem_of_getElem? (i := 94) rfl) rfl), (in_1 (List.mem_of_getElem? (i := 20) rfl) rfl), (in_3 (List.mem_of_getElem? (i := 95) rfl) rfl), ⟨by decide, by decide, by decide +kernel⟩⟩
theorem k_X_growth_49 : kV "RegistryLog" 167 "RegistryLog$Numbers" y_U_size b_U_size 1 (some .int) 0 := ⟨(in_3 (List.mem_of_getElem? (i := 85) rfl) rfl), (in_3 (List.mem_of_getElem? (i := 86) rfl) rfl), (in_3 (List.mem_of_getElem? (i := 87) rfl) rfl), (in_1 (List.mem_of_getElem? (i := 21) rfl) rfl), (in_3 (List.mem_of_getElem? (i := 88) rfl) rfl), ⟨by decide, by decide, by decide +kernel⟩⟩
set_option maxHeartbeats 4000000 in
set_option maxRecDepth 100000 in
/-- growth -/
theorem c_X_growth (l : Launch) (g : gG) (H : Heap) (Z : Nat → Prop) (x : Nat) (ad : Nat → Nat) (ms nm nw : Nat) (rows : List Rw) (mir : Nat → List Rw) (T : List Nat) (f : Nat → Int64) (k q : Nat) (f2 : Nat → Int64) (k2 : Nat) (hX : cX Z g H x ad ms nm nw rows mir T f k q f2 k2 0) (i n : Int32) : Met l y_X_growth (wC y_X_growth b_X_growth 3 (some .int)) (rmk 18 0 0 440) (pC g H [.ref x, .int i, .int n]) (qW H (NX ad) (fun r H1 => if (1 ≤ i ∧ i ≤ n ∧ n ≤ nI rows.length) then (r = some (.int (nI (grL (dS rows) (gdR true 7 0 n.toNatClampNeg i.toNatClampNeg true)).length)) ∧ cX Z g H1 x ad ms nm nw rows mir T (psh f 0 (grL (dS rows) (gdR true 7 0 n.toNatClampNeg i.toNatClampNeg true))) (grL (dS rows) (gdR true 7 0 n.toNatClampNeg i.toNatClampNeg true)).length 0 f2 k2 0) else (r = some (.int (-1)) ∧ cX Z g H1 x ad ms nm nw rows mir T f 0 0 f2 k2 0))) 0 0 (fW H (NX ad)) := by
  refine mB (by decide) (Nat.le_of_ble_eq_true rfl) ?_
  intro p e s m below meth c ls C0 hH hZ hnm hl
  have C0 : cF g p s m _ meth c b_X_growth 3 "RegistryLog" (some .int) := C0
  obtain ⟨hx, hb, hml, hown, hts, hr, hlk, hK⟩ := id C0
  subst hH
  have hl : lv_has ls 3 [(0, .ref x), (1, .int i), (2, .int n)] := hl
  have hS : va_S (fW s.heap (NX ad)) s.heap s.heap [] := hS_rf
  have hX0 := hX
  refine lv_aload_n hx hb d_X_growth_0 rfl (lv_at hl 0 rfl) ?_
  refine va_get (D := g.1) (ci := 0) (C := R_X) (T := F_X) (N := 6) hx hb hts i_X hown hK.1 (cX_ob hX) 0 rfl rfl 4 (by decide) (hts (.fieldLink "RegistryLog" 33 "RegistryLog" "latestProof" "LRegistryLog$Numbers;") (in_3 (List.mem_of_getElem? (i := 13) rfl) rfl)) (fun _ h9 => h9) rfl d_X_growth_1 ?_
  refine aW (N := (fun a => a = ad 12)) (rV (As := []) (rest := []) C0 (c_U_clear l g _ (ad 12) (ad 13) k q f (cX_pr hX) (cX_ne hX (by decide) (by decide) (by decide))) (zK_S hZ hS (cX_old hX0)) k_X_growth_4 rfl rfl ⟨Nat.le_of_ble_eq_true rfl, Nat.le_of_ble_eq_true rfl⟩ (ob_recv hK (cX_pr hX).1 rfl) rfl hl.1 rfl (Nat.le_of_ble_eq_true rfl) d_X_growth_4 ⟨by show 0 + 0 ≤ 0; omega, by show 0 + 0 ≤ 0; omega⟩) (fun v H L hC1 hp hL => ?_)
  have hS0 := hS
  have hS := hS_call hS hC1 hL (fun a h => Or.inl ⟨12, by decide, h⟩)
  obtain ⟨rfl, hU⟩ := hp
  have hX := cX_setP hX (fun a h1 h2 => hC_at hC1 h1 (fun z => h2 (Or.inl z))) hU
  refine W.eq (g2 := F0 m 7 ls []) rfl ?_
  refine lv_iload_n hx hb d_X_growth_7 rfl (lv_at hl 2 rfl) ?_
  refine lv_aload_n hx hb d_X_growth_8 rfl (lv_at hl 0 rfl) ?_
  refine va_get (D := g.1) (ci := 0) (C := R_X) (T := F_X) (N := 6) hx hb hts i_X hown hK.1 (cX_ob hX) 0 rfl rfl 1 (by decide) (hts (.fieldLink "RegistryLog" 19 "RegistryLog" "log" "LRegistryLog$Ledger;") (in_3 (List.mem_of_getElem? (i := 10) rfl) rfl)) (fun _ h9 => h9) rfl d_X_growth_9 ?_
  obtain ⟨n9, f9, fl0, -, -, hr120, -⟩ := id (cX_log hX)
  refine aP (rV (As := []) (rest := [.int n]) C0 (c_L_size l g _ (ad 2) (ad 3) n9 (nI rows.length) fl0) (zK_S hZ hS (cX_old hX0)) k_X_growth_12 rfl rfl ⟨Nat.le_of_ble_eq_true rfl, Nat.le_of_ble_eq_true rfl⟩ (ob_recv hK fl0 rfl) rfl hl.1 rfl (Nat.le_of_ble_eq_true rfl) d_X_growth_12 ⟨by show 0 + 0 + 0 ≤ 0; omega, by show 0 + 0 + 0 ≤ 0; omega⟩) ?_
  intro v hv; subst hv
  refine W.eq (g2 := F0 m 15 ls [.int (nI rows.length), .int n]) rfl ?_
  refine lv_icmp_gt (tgt := 28) hx hb d_X_growth_15 (by decide) (fun c15 => ?_) (fun c15 => ?_)
  · skip
    refine lv_iconst (v := (-1)) hx hb d_X_growth_28 (by decide) ?_
    refine W.widen (k := 0) (n := 0) (by omega) (by omega) ?_
    exact W.iret hx hb hr (fun t9 ht hW => ⟨_, rfl, by rw [ht]; exact hS_hC hS, by rw [ht]; exact by (try dsimp only); rw [if_neg (fun z => absurd c15 (Int32.not_lt.mpr z.2.2))]; exact ⟨rfl, hX⟩⟩) hS.2.2 d_X_growth_29 hlk
  · skip
    refine lv_iload_n hx hb d_X_growth_18 rfl (lv_at hl 1 rfl) ?_
    refine lv_iconst (v := nI 1) hx hb d_X_growth_19 (by decide) ?_
    refine lv_icmp_lt (tgt := 28) hx hb d_X_growth_20 (by decide) (fun c20 => ?_) (fun c20 => ?_)
    · skip
      refine lv_iconst (v := (-1)) hx hb d_X_growth_28 (by decide) ?_
      refine W.widen (k := 0) (n := 0) (by omega) (by omega) ?_
      exact W.iret hx hb hr (fun t9 ht hW => ⟨_, rfl, by rw [ht]; exact hS_hC hS, by rw [ht]; exact by (try dsimp only); rw [if_neg (fun z => absurd c20 (Int32.not_lt.mpr z.1))]; exact ⟨rfl, hX⟩⟩) hS.2.2 d_X_growth_29 hlk
    · skip
      refine lv_iload_n hx hb d_X_growth_23 rfl (lv_at hl 1 rfl) ?_
      refine lv_iload_n hx hb d_X_growth_24 rfl (lv_at hl 2 rfl) ?_
      refine lv_icmp_le (tgt := 30) hx hb d_X_growth_25 (by decide) (fun c25 => ?_) (fun c25 => ?_)
      · skip
        refine lv_aload_n hx hb d_X_growth_30 rfl (lv_at hl 0 rfl) ?_
        refine va_get (D := g.1) (ci := 0) (C := R_X) (T := F_X) (N := 6) hx hb hts i_X hown hK.1 (cX_ob hX) 0 rfl rfl 1 (by decide) (hts (.fieldLink "RegistryLog" 19 "RegistryLog" "log" "LRegistryLog$Ledger;") (in_3 (List.mem_of_getElem? (i := 10) rfl) rfl)) (fun _ h9 => h9) rfl d_X_growth_31 ?_
        refine lv_iconst (v := nI 0) hx hb d_X_growth_34 (by decide) ?_
        refine lv_iload_n hx hb d_X_growth_35 rfl (lv_at hl 2 rfl) ?_
        refine lv_iload_n hx hb d_X_growth_36 rfl (lv_at hl 1 rfl) ?_
        refine lv_iconst (v := bI true) hx hb d_X_growth_37 (by decide) ?_
        refine lv_aload_n hx hb d_X_growth_38 rfl (lv_at hl 0 rfl) ?_
        refine va_get (D := g.1) (ci := 0) (C := R_X) (T := F_X) (N := 6) hx hb hts i_X hown hK.1 (cX_ob hX) 0 rfl rfl 4 (by decide) (hts (.fieldLink "RegistryLog" 33 "RegistryLog" "latestProof" "LRegistryLog$Numbers;") (in_3 (List.mem_of_getElem? (i := 13) rfl) rfl)) (fun _ h9 => h9) rfl d_X_growth_39 ?_
        obtain ⟨i1, hi1, ei⟩ := nI_of (not_lt1 c20)
        subst ei
        obtain ⟨n1, hn1, en⟩ := nI_of (fun z => absurd (Int32.lt_of_le_of_lt c25 z) (nI_pos (by omega)))
        subst en
        have hin := (nI_leI hi1 hn1).mp c25
        have hi0 : 1 ≤ i1 := (nI_leI (by decide) hi1).mp (Int32.not_lt.mp c20)
        have hrl := (cX_log hX).choose_spec.choose_spec.2.2.2.1
        have hnr : n1 ≤ rows.length := Nat.le_of_not_lt (fun z => c15 ((nI_ltI (by omega) hn1).mpr z))
        refine aW (N := (fun a => a = ad 12 ∨ a = ad 13)) (rN (As := [.ref ((ad 2)), .int (nI 0), .int (nI n1), .int (nI i1), .int (bI true), .ref ((ad 12))]) (rest := []) C0 (c_T_proveGrowth l g (PX Z ad) (ad 2) (ad 3) (ad 12) (ad 13) rows (fun h => h.1 12 (by decide) rfl) (fun h => h.1 13 (by decide) rfl) (cX_ne hX (by decide) (by decide) (by decide)) (cX_ne hX (by decide) (by decide) (by decide)) (cX_ne hX (by decide) (by decide) (by decide)) (cX_ne hX (by decide) (by decide) (by decide)) (cX_ne hX (by decide) (by decide) (by decide)) (cX_9 hX (by decide)) (cX_9 hX (by decide)) 7 0 n1 i1 true f 0 0 _ (cX_log hX) (cX_pr hX) (by omega) (by omega) (by omega) (by omega) (by omega) (by omega) (by omega) (by omega)) (zK_S hZ hS (cX_old hX0)) k_X_growth_42 rfl rfl ⟨Nat.le_of_ble_eq_true rfl, Nat.le_of_ble_eq_true rfl⟩ rfl hl.1 rfl (Nat.le_of_ble_eq_true rfl) d_X_growth_42 ⟨by show 0 + 0 + 0 ≤ 0; omega, by show 0 + 0 + 0 ≤ 0; omega⟩) (fun v H L hC1 hp hL => ?_)
        have hS0 := hS
        have hS := hS_call hS hC1 hL (fun a h => Or.inl (h.elim (fun z => ⟨12, by decide, z⟩) (fun z => ⟨13, by decide, z⟩)))
        obtain ⟨rfl, hU⟩ := hp
        have hX := cX_setP hX (fun a h1 h2 => hC_at hC1 h1 h2) hU
        refine W.eq (g2 := F0 m 45 ls []) rfl ?_
        refine lv_aload_n hx hb d_X_growth_45 rfl (lv_at hl 0 rfl) ?_
        refine va_get (D := g.1) (ci := 0) (C := R_X) (T := F_X) (N := 6) hx hb hts i_X hown hK.1 (cX_ob hX) 0 rfl rfl 4 (by decide) (hts (.fieldLink "RegistryLog" 33 "RegistryLog" "latestProof" "LRegistryLog$Numbers;") (in_3 (List.mem_of_getElem? (i := 13) rfl) rfl)) (fun _ h9 => h9) rfl d_X_growth_46 ?_
        refine aP (rV (As := []) (rest := []) C0 (c_U_size l g _ (ad 12) (ad 13) _ _ _ (cX_pr hX)) (zK_S hZ hS (cX_old hX0)) k_X_growth_49 rfl rfl ⟨Nat.le_of_ble_eq_true rfl, Nat.le_of_ble_eq_true rfl⟩ (ob_recv hK (cX_pr hX).1 rfl) rfl hl.1 rfl (Nat.le_of_ble_eq_true rfl) d_X_growth_49 ⟨by show 0 + 0 + 0 + 0 ≤ 0; omega, by show 0 + 0 + 0 + 0 ≤ 0; omega⟩) ?_
        intro v hv; subst hv
        refine W.eq (g2 := F0 m 52 ls [.int (nI (0 + (grL (dS rows) (gdR true 7 0 n1 i1 true)).length))]) rfl ?_
        refine W.widen (k := 0) (n := 0) (by omega) (by omega) ?_
        exact W.iret hx hb hr (fun t9 ht hW => ⟨_, rfl, by rw [ht]; exact hS_hC hS, by rw [ht]; exact by (try dsimp only); rw [nI_clamp hi1, nI_clamp hn1, if_pos ⟨Int32.not_lt.mp c20, c25, Int32.not_lt.mp c15⟩]; rw [Nat.zero_add] at hX; exact ⟨by rw [Nat.zero_add], hX⟩⟩) hS.2.2 d_X_growth_52 hlk
      · skip
        refine lv_iconst (v := (-1)) hx hb d_X_growth_28 (by decide) ?_
        refine W.widen (k := 0) (n := 0) (by omega) (by omega) ?_
        exact W.iret hx hb hr (fun t9 ht hW => ⟨_, rfl, by rw [ht]; exact hS_hC hS, by rw [ht]; exact by (try dsimp only); rw [if_neg (fun z => c25 z.2.1)]; exact ⟨rfl, hX⟩⟩) hS.2.2 d_X_growth_29 hlk
/-- isInside, by the program: the hand's numbers f2, k2 of them -/
def iiC (f2 : Nat → Int64) (k2 : Nat) (i n : Int32) (dg h0 : Int64) : Bool := if 0 ≤ i ∧ i < n ∧ n ≤ 120 then decide (iiL (fun j => getS f2 k2 (nI j)) (gdR false 7 0 n.toNatClampNeg i.toNatClampNeg true).1.reverse 0 dg = h0) && decide (0 + (gdR false 7 0 n.toNatClampNeg i.toNatClampNeg true).1.length = k2) else false
def igC (f2 : Nat → Int64) (k2 : Nat) (i n : Int32) (h1 h2 : Int64) : Bool := if 1 ≤ i ∧ i ≤ n ∧ n ≤ 120 then decide ((hgV (fun j => getS f2 k2 (nI j)) (gdR true 7 0 n.toNatClampNeg i.toNatClampNeg true) 0 h1).1 = h1) && (decide ((hgV (fun j => getS f2 k2 (nI j)) (gdR true 7 0 n.toNatClampNeg i.toNatClampNeg true) 0 h1).2 = h2) && decide (0 + hgN (gdR true 7 0 n.toNatClampNeg i.toNatClampNeg true) = k2)) else false
theorem k_X_isInside_25 : kN "RegistryLog" 180 y_T_headFromInside "RegistryLog" b_T_headFromInside 8 (some .long) 4 := ⟨List.mem_of_getElem? (i := 3) rfl, (in_3 (List.mem_of_getElem? (i := 115) rfl) rfl), (in_1 (List.mem_of_getElem? (i := 20) rfl) rfl), (in_3 (List.mem_of_getElem? (i := 116) rfl) rfl), ⟨by decide, by decide, by decide +kernel⟩⟩
theorem k_X_isInside_42 : kV "RegistryLog" 184 "RegistryLog$Numbers" y_U_isReadToTheEnd b_U_isReadToTheEnd 1 (some .boolean) 0 := ⟨(in_3 (List.mem_of_getElem? (i := 123) rfl) rfl), (in_3 (List.mem_of_getElem? (i := 124) rfl) rfl), (in_3 (List.mem_of_getElem? (i := 125) rfl) rfl), (in_1 (List.mem_of_getElem? (i := 21) rfl) rfl), (in_3 (List.mem_of_getElem? (i := 126) rfl) rfl), ⟨by decide, by decide, by decide +kernel⟩⟩
theorem k_X_isInside_59 : kV "RegistryLog" 160 "RegistryLog$Numbers" y_U_clear b_U_clear 1 none 0 := ⟨(in_3 (List.mem_of_getElem? (i := 73) rfl) rfl), (in_3 (List.mem_of_getElem? (i := 74) rfl) rfl), (in_3 (List.mem_of_getElem? (i := 75) rfl) rfl), (in_1 (List.mem_of_getElem? (i := 21) rfl) rfl), (in_3 (List.mem_of_getElem? (i := 76) rfl) rfl), ⟨by decide, by decide, by decide +kernel⟩⟩
set_option maxHeartbeats 4000000 in
set_option maxRecDepth 100000 in
/-- isInside -/
theorem c_X_isInside (l : Launch) (g : gG) (H : Heap) (Z : Nat → Prop) (x : Nat) (ad : Nat → Nat) (ms nm nw : Nat) (rows : List Rw) (mir : Nat → List Rw) (T : List Nat) (f : Nat → Int64) (k q : Nat) (f2 : Nat → Int64) (k2 : Nat) (hX : cX Z g H x ad ms nm nw rows mir T f k q f2 k2 0) (i n : Int32) (dg h0 : Int64) : Met l y_X_isInside (wC y_X_isInside b_X_isInside 10 (some .boolean)) (rmk 10 0 0 264) (pC g H [.ref x, .int i, .int n, .long dg, .long h0]) (qW H (NX ad) (fun r H1 => r = some (.int (bI (iiC f2 k2 i n dg h0))) ∧ cX Z g H1 x ad ms nm nw rows mir T f k q f2 0 0)) 0 0 (fW H (NX ad)) := by
  refine mB (by decide) (Nat.le_of_ble_eq_true rfl) ?_
  intro p e s m below meth c ls C0 hH hZ hnm hl
  have C0 : cF g p s m _ meth c b_X_isInside 10 "RegistryLog" (some .boolean) := C0
  obtain ⟨hx, hb, hml, hown, hts, hr, hlk, hK⟩ := id C0
  subst hH
  have hl : lv_has ls 10 [(0, .ref x), (1, .int i), (2, .int n), (3, .long dg), (5, .long h0)] := hl
  have hS : va_S (fW s.heap (NX ad)) s.heap s.heap [] := hS_rf
  have hX0 := hX
  refine lv_iconst (v := nI 0) hx hb d_X_isInside_0 (by decide) ?_
  refine lv_istore (lv' := [(7, .int (nI 0)), (0, .ref x), (1, .int i), (2, .int n), (3, .long dg), (5, .long h0)]) hx hb d_X_isInside_1 hl (by decide) rfl (fun ls hl => ?_)
  refine lv_iload_n hx hb d_X_isInside_3 rfl (lv_at hl 3 rfl) ?_
  refine lv_bipush (v := nI 120) hx hb d_X_isInside_4 (by decide) ?_
  refine lv_icmp_gt (tgt := 55) hx hb d_X_isInside_6 (by decide) (fun c6 => ?_) (fun c6 => ?_)
  · skip
    refine lv_aload_n hx hb d_X_isInside_55 rfl (lv_at hl 1 rfl) ?_
    refine va_get (D := g.1) (ci := 0) (C := R_X) (T := F_X) (N := 6) hx hb hts i_X hown hK.1 (cX_ob hX) 0 rfl rfl 5 (by decide) (hts (.fieldLink "RegistryLog" 37 "RegistryLog" "hand" "LRegistryLog$Numbers;") (in_3 (List.mem_of_getElem? (i := 14) rfl) rfl)) (fun _ h9 => h9) rfl d_X_isInside_56 ?_
    refine aW (N := (fun a => a = ad 14)) (rV (As := []) (rest := []) C0 (c_U_clear l g _ (ad 14) (ad 15) k2 0 f2 (cX_hd hX) (cX_ne hX (by decide) (by decide) (by decide))) (zK_S hZ hS (cX_old hX0)) k_X_isInside_59 rfl rfl ⟨Nat.le_of_ble_eq_true rfl, Nat.le_of_ble_eq_true rfl⟩ (ob_recv hK (cX_hd hX).1 rfl) rfl hl.1 rfl (Nat.le_of_ble_eq_true rfl) d_X_isInside_59 ⟨by show 0 + 0 ≤ 0; omega, by show 0 + 0 ≤ 0; omega⟩) (fun v H L hC1 hp hL => ?_)
    have hS0 := hS
    have hS := hS_call hS hC1 hL (fun a h => Or.inl ⟨14, by decide, h⟩)
    obtain ⟨rfl, hU⟩ := hp
    have hX := cX_setH hX (fun a h1 h2 => hC_at hC1 h1 (fun z => h2 (Or.inl z))) hU
    refine W.eq (g2 := F0 m 62 ls []) rfl ?_
    refine lv_iload hx hb d_X_isInside_62 (lv_at hl 0 rfl) ?_
    refine W.widen (k := 0) (n := 0) (by omega) (by omega) ?_
    exact W.zret hx hb hr rfl (fun t9 ht hW => ⟨_, rfl, by rw [ht]; exact hS_hC hS, by rw [ht]; exact ⟨by rw [iiC, if_neg (fun z => absurd c6 (Int32.not_lt.mpr z.2.2))]; rfl, hX⟩⟩) hS.2.2 d_X_isInside_64 hlk
  · skip
    refine lv_iload_n hx hb d_X_isInside_9 rfl (lv_at hl 2 rfl) ?_
    refine lv_if_lt (tgt := 55) hx hb d_X_isInside_10 (by decide) (fun c10 => ?_) (fun c10 => ?_)
    · skip
      refine lv_aload_n hx hb d_X_isInside_55 rfl (lv_at hl 1 rfl) ?_
      refine va_get (D := g.1) (ci := 0) (C := R_X) (T := F_X) (N := 6) hx hb hts i_X hown hK.1 (cX_ob hX) 0 rfl rfl 5 (by decide) (hts (.fieldLink "RegistryLog" 37 "RegistryLog" "hand" "LRegistryLog$Numbers;") (in_3 (List.mem_of_getElem? (i := 14) rfl) rfl)) (fun _ h9 => h9) rfl d_X_isInside_56 ?_
      refine aW (N := (fun a => a = ad 14)) (rV (As := []) (rest := []) C0 (c_U_clear l g _ (ad 14) (ad 15) k2 0 f2 (cX_hd hX) (cX_ne hX (by decide) (by decide) (by decide))) (zK_S hZ hS (cX_old hX0)) k_X_isInside_59 rfl rfl ⟨Nat.le_of_ble_eq_true rfl, Nat.le_of_ble_eq_true rfl⟩ (ob_recv hK (cX_hd hX).1 rfl) rfl hl.1 rfl (Nat.le_of_ble_eq_true rfl) d_X_isInside_59 ⟨by show 0 + 0 ≤ 0; omega, by show 0 + 0 ≤ 0; omega⟩) (fun v H L hC1 hp hL => ?_)
      have hS0 := hS
      have hS := hS_call hS hC1 hL (fun a h => Or.inl ⟨14, by decide, h⟩)
      obtain ⟨rfl, hU⟩ := hp
      have hX := cX_setH hX (fun a h1 h2 => hC_at hC1 h1 (fun z => h2 (Or.inl z))) hU
      refine W.eq (g2 := F0 m 62 ls []) rfl ?_
      refine lv_iload hx hb d_X_isInside_62 (lv_at hl 0 rfl) ?_
      refine W.widen (k := 0) (n := 0) (by omega) (by omega) ?_
      exact W.zret hx hb hr rfl (fun t9 ht hW => ⟨_, rfl, by rw [ht]; exact hS_hC hS, by rw [ht]; exact ⟨by rw [iiC, if_neg (fun z => absurd c10 (Int32.not_lt.mpr z.1))]; rfl, hX⟩⟩) hS.2.2 d_X_isInside_64 hlk
    · skip
      refine lv_iload_n hx hb d_X_isInside_13 rfl (lv_at hl 2 rfl) ?_
      refine lv_iload_n hx hb d_X_isInside_14 rfl (lv_at hl 3 rfl) ?_
      refine lv_icmp_ge (tgt := 55) hx hb d_X_isInside_15 (by decide) (fun c15 => ?_) (fun c15 => ?_)
      · skip
        refine lv_aload_n hx hb d_X_isInside_55 rfl (lv_at hl 1 rfl) ?_
        refine va_get (D := g.1) (ci := 0) (C := R_X) (T := F_X) (N := 6) hx hb hts i_X hown hK.1 (cX_ob hX) 0 rfl rfl 5 (by decide) (hts (.fieldLink "RegistryLog" 37 "RegistryLog" "hand" "LRegistryLog$Numbers;") (in_3 (List.mem_of_getElem? (i := 14) rfl) rfl)) (fun _ h9 => h9) rfl d_X_isInside_56 ?_
        refine aW (N := (fun a => a = ad 14)) (rV (As := []) (rest := []) C0 (c_U_clear l g _ (ad 14) (ad 15) k2 0 f2 (cX_hd hX) (cX_ne hX (by decide) (by decide) (by decide))) (zK_S hZ hS (cX_old hX0)) k_X_isInside_59 rfl rfl ⟨Nat.le_of_ble_eq_true rfl, Nat.le_of_ble_eq_true rfl⟩ (ob_recv hK (cX_hd hX).1 rfl) rfl hl.1 rfl (Nat.le_of_ble_eq_true rfl) d_X_isInside_59 ⟨by show 0 + 0 ≤ 0; omega, by show 0 + 0 ≤ 0; omega⟩) (fun v H L hC1 hp hL => ?_)
        have hS0 := hS
        have hS := hS_call hS hC1 hL (fun a h => Or.inl ⟨14, by decide, h⟩)
        obtain ⟨rfl, hU⟩ := hp
        have hX := cX_setH hX (fun a h1 h2 => hC_at hC1 h1 (fun z => h2 (Or.inl z))) hU
        refine W.eq (g2 := F0 m 62 ls []) rfl ?_
        refine lv_iload hx hb d_X_isInside_62 (lv_at hl 0 rfl) ?_
        refine W.widen (k := 0) (n := 0) (by omega) (by omega) ?_
        exact W.zret hx hb hr rfl (fun t9 ht hW => ⟨_, rfl, by rw [ht]; exact hS_hC hS, by rw [ht]; exact ⟨by rw [iiC, if_neg (fun z => absurd c15 (Int32.not_le.mpr z.2.1))]; rfl, hX⟩⟩) hS.2.2 d_X_isInside_64 hlk
      · skip
        refine lv_iload_n hx hb d_X_isInside_18 rfl (lv_at hl 2 rfl) ?_
        refine lv_iload_n hx hb d_X_isInside_19 rfl (lv_at hl 3 rfl) ?_
        refine lv_lload_n hx hb d_X_isInside_20 rfl (lv_at hl 4 rfl) ?_
        refine lv_aload_n hx hb d_X_isInside_21 rfl (lv_at hl 1 rfl) ?_
        refine va_get (D := g.1) (ci := 0) (C := R_X) (T := F_X) (N := 6) hx hb hts i_X hown hK.1 (cX_ob hX) 0 rfl rfl 5 (by decide) (hts (.fieldLink "RegistryLog" 37 "RegistryLog" "hand" "LRegistryLog$Numbers;") (in_3 (List.mem_of_getElem? (i := 14) rfl) rfl)) (fun _ h9 => h9) rfl d_X_isInside_22 ?_
        obtain ⟨i1, hi1, ei⟩ := nI_of (c10)
        subst ei
        have c15 := Int32.not_le.mp c15
        obtain ⟨n1, hn1, en⟩ := nI_of (fun z => c10 (Int32.lt_trans c15 z))
        subst en
        have hin := (nI_ltI hi1 hn1).mp c15
        have hnr : n1 ≤ 120 := Nat.le_of_not_lt (fun z => c6 ((nI_ltI (by decide) hn1).mpr z))
        refine aW (N := (fun a => a = ad 14)) (rN (As := [.int (nI i1), .int (nI n1), .long dg, .ref ((ad 14))]) (rest := []) C0 (c_T_headFromInside l g (ad 14) (ad 15) f2 k2 (cX_ne hX (by decide) (by decide) (by decide)) (cX_9 hX (by decide)) dg 7 0 n1 i1 true 0 _ (cX_hd hX) (by omega) (by omega) (by omega) (by omega) (by omega) (by omega)) (zK_S hZ hS (cX_old hX0)) k_X_isInside_25 rfl rfl ⟨Nat.le_of_ble_eq_true rfl, Nat.le_of_ble_eq_true rfl⟩ rfl hl.1 rfl (Nat.le_of_ble_eq_true rfl) d_X_isInside_25 ⟨by show 0 + 0 ≤ 0; omega, by show 0 + 0 ≤ 0; omega⟩) (fun v H L hC1 hp hL => ?_)
        have hS0 := hS
        have hS := hS_call hS hC1 hL (fun a h => Or.inl ⟨14, by decide, h⟩)
        obtain ⟨rfl, hU⟩ := hp
        have hX := cX_setH hX (fun a h1 h2 => hC_at hC1 h1 (fun z => h2 (Or.inl z))) hU
        refine W.eq (g2 := F0 m 28 ls [.long (iiL (fun j => getS f2 k2 (nI j)) (gdR false 7 0 n1 i1 true).1.reverse 0 dg)]) rfl ?_
        refine lv_topl (fun x_1 ex_1 => ?_)
        refine lv_lstore (lv' := [(8, .long x_1), (7, .int (nI 0)), (0, .ref x), (1, .int (nI i1)), (2, .int (nI n1)), (3, .long dg), (5, .long h0)]) hx hb d_X_isInside_28 hl (by decide) rfl (fun ls hl => ?_)
        refine lv_lload hx hb d_X_isInside_30 (lv_at hl 0 rfl) ?_
        refine lv_lload hx hb d_X_isInside_32 (lv_at hl 6 rfl) ?_
        refine W.lcmp hx hb d_X_isInside_34 ?_
        refine lv_if_ne (tgt := 52) hx hb d_X_isInside_35 (by decide) (fun c35 => ?_) (fun c35 => ?_)
        · skip
          refine lv_iconst (v := nI 0) hx hb d_X_isInside_52 (by decide) ?_
          refine lv_istore (lv' := [(7, .int (nI 0)), (8, .long x_1), (0, .ref x), (1, .int (nI i1)), (2, .int (nI n1)), (3, .long dg), (5, .long h0)]) hx hb d_X_isInside_53 hl (by decide) rfl (fun ls hl => ?_)
          refine lv_aload_n hx hb d_X_isInside_55 rfl (lv_at hl 2 rfl) ?_
          refine va_get (D := g.1) (ci := 0) (C := R_X) (T := F_X) (N := 6) hx hb hts i_X hown hK.1 (cX_ob hX) 0 rfl rfl 5 (by decide) (hts (.fieldLink "RegistryLog" 37 "RegistryLog" "hand" "LRegistryLog$Numbers;") (in_3 (List.mem_of_getElem? (i := 14) rfl) rfl)) (fun _ h9 => h9) rfl d_X_isInside_56 ?_
          refine aW (N := (fun a => a = ad 14)) (rV (As := []) (rest := []) C0 (c_U_clear l g _ (ad 14) (ad 15) k2 (0 + (gdR false 7 0 n1 i1 true).1.length) f2 (cX_hd hX) (cX_ne hX (by decide) (by decide) (by decide))) (zK_S hZ hS (cX_old hX0)) k_X_isInside_59 rfl rfl ⟨Nat.le_of_ble_eq_true rfl, Nat.le_of_ble_eq_true rfl⟩ (ob_recv hK (cX_hd hX).1 rfl) rfl hl.1 rfl (Nat.le_of_ble_eq_true rfl) d_X_isInside_59 ⟨by show 0 + 0 + 0 ≤ 0; omega, by show 0 + 0 + 0 ≤ 0; omega⟩) (fun v H L hC1 hp hL => ?_)
          have hS0 := hS
          have hS := hS_call hS hC1 hL (fun a h => Or.inl ⟨14, by decide, h⟩)
          obtain ⟨rfl, hU⟩ := hp
          have hX := cX_setH hX (fun a h1 h2 => hC_at hC1 h1 (fun z => h2 (Or.inl z))) hU
          refine W.eq (g2 := F0 m 62 ls []) rfl ?_
          refine lv_iload hx hb d_X_isInside_62 (lv_at hl 0 rfl) ?_
          refine W.widen (k := 0) (n := 0) (by omega) (by omega) ?_
          exact W.zret hx hb hr rfl (fun t9 ht hW => ⟨_, rfl, by rw [ht]; exact hS_hC hS, by rw [ht]; exact ⟨by rw [iiC, if_pos ⟨Int32.not_lt.mp c10, c15, Int32.not_lt.mp c6⟩, nI_clamp hi1, nI_clamp hn1, ← ex_1, decide_eq_false (fun z => c35 (lg_z.mpr z)), Bool.false_and]; rfl, hX⟩⟩) hS.2.2 d_X_isInside_64 hlk
        · skip
          refine lv_aload_n hx hb d_X_isInside_38 rfl (lv_at hl 2 rfl) ?_
          refine va_get (D := g.1) (ci := 0) (C := R_X) (T := F_X) (N := 6) hx hb hts i_X hown hK.1 (cX_ob hX) 0 rfl rfl 5 (by decide) (hts (.fieldLink "RegistryLog" 37 "RegistryLog" "hand" "LRegistryLog$Numbers;") (in_3 (List.mem_of_getElem? (i := 14) rfl) rfl)) (fun _ h9 => h9) rfl d_X_isInside_39 ?_
          refine aP (rV (As := []) (rest := []) C0 (c_U_isReadToTheEnd l g _ (ad 14) (ad 15) _ _ _ (cX_hd hX)) (zK_S hZ hS (cX_old hX0)) k_X_isInside_42 rfl rfl ⟨Nat.le_of_ble_eq_true rfl, Nat.le_of_ble_eq_true rfl⟩ (ob_recv hK (cX_hd hX).1 rfl) rfl hl.1 rfl (Nat.le_of_ble_eq_true rfl) d_X_isInside_42 ⟨by show 0 + 0 + 0 ≤ 0; omega, by show 0 + 0 + 0 ≤ 0; omega⟩) ?_
          intro v hv; subst hv
          refine W.eq (g2 := F0 m 45 ls [.int (bI (decide (0 + (gdR false 7 0 n1 i1 true).1.length = k2)))]) rfl ?_
          refine z_eq (tgt := 52) (v := decide (0 + (gdR false 7 0 n1 i1 true).1.length = k2)) hx hb d_X_isInside_45 (by decide) (fun c45 => ?_) (fun c45 => ?_)
          · skip
            refine lv_iconst (v := nI 0) hx hb d_X_isInside_52 (by decide) ?_
            refine lv_istore (lv' := [(7, .int (nI 0)), (8, .long x_1), (0, .ref x), (1, .int (nI i1)), (2, .int (nI n1)), (3, .long dg), (5, .long h0)]) hx hb d_X_isInside_53 hl (by decide) rfl (fun ls hl => ?_)
            refine lv_aload_n hx hb d_X_isInside_55 rfl (lv_at hl 2 rfl) ?_
            refine va_get (D := g.1) (ci := 0) (C := R_X) (T := F_X) (N := 6) hx hb hts i_X hown hK.1 (cX_ob hX) 0 rfl rfl 5 (by decide) (hts (.fieldLink "RegistryLog" 37 "RegistryLog" "hand" "LRegistryLog$Numbers;") (in_3 (List.mem_of_getElem? (i := 14) rfl) rfl)) (fun _ h9 => h9) rfl d_X_isInside_56 ?_
            refine aW (N := (fun a => a = ad 14)) (rV (As := []) (rest := []) C0 (c_U_clear l g _ (ad 14) (ad 15) k2 (0 + (gdR false 7 0 n1 i1 true).1.length) f2 (cX_hd hX) (cX_ne hX (by decide) (by decide) (by decide))) (zK_S hZ hS (cX_old hX0)) k_X_isInside_59 rfl rfl ⟨Nat.le_of_ble_eq_true rfl, Nat.le_of_ble_eq_true rfl⟩ (ob_recv hK (cX_hd hX).1 rfl) rfl hl.1 rfl (Nat.le_of_ble_eq_true rfl) d_X_isInside_59 ⟨by show 0 + 0 + 0 ≤ 0; omega, by show 0 + 0 + 0 ≤ 0; omega⟩) (fun v H L hC1 hp hL => ?_)
            have hS0 := hS
            have hS := hS_call hS hC1 hL (fun a h => Or.inl ⟨14, by decide, h⟩)
            obtain ⟨rfl, hU⟩ := hp
            have hX := cX_setH hX (fun a h1 h2 => hC_at hC1 h1 (fun z => h2 (Or.inl z))) hU
            refine W.eq (g2 := F0 m 62 ls []) rfl ?_
            refine lv_iload hx hb d_X_isInside_62 (lv_at hl 0 rfl) ?_
            refine W.widen (k := 0) (n := 0) (by omega) (by omega) ?_
            exact W.zret hx hb hr rfl (fun t9 ht hW => ⟨_, rfl, by rw [ht]; exact hS_hC hS, by rw [ht]; exact ⟨by rw [iiC, if_pos ⟨Int32.not_lt.mp c10, c15, Int32.not_lt.mp c6⟩, nI_clamp hi1, nI_clamp hn1, ← ex_1, decide_eq_true (lg_z.mp c35), Bool.true_and, c45]; rfl, hX⟩⟩) hS.2.2 d_X_isInside_64 hlk
          · skip
            refine lv_iconst (v := nI 1) hx hb d_X_isInside_48 (by decide) ?_
            refine lv_goto (tgt := 53) hx hb d_X_isInside_49 (by decide) ?_
            refine lv_istore (lv' := [(7, .int (nI 1)), (8, .long x_1), (0, .ref x), (1, .int (nI i1)), (2, .int (nI n1)), (3, .long dg), (5, .long h0)]) hx hb d_X_isInside_53 hl (by decide) rfl (fun ls hl => ?_)
            refine lv_aload_n hx hb d_X_isInside_55 rfl (lv_at hl 2 rfl) ?_
            refine va_get (D := g.1) (ci := 0) (C := R_X) (T := F_X) (N := 6) hx hb hts i_X hown hK.1 (cX_ob hX) 0 rfl rfl 5 (by decide) (hts (.fieldLink "RegistryLog" 37 "RegistryLog" "hand" "LRegistryLog$Numbers;") (in_3 (List.mem_of_getElem? (i := 14) rfl) rfl)) (fun _ h9 => h9) rfl d_X_isInside_56 ?_
            refine aW (N := (fun a => a = ad 14)) (rV (As := []) (rest := []) C0 (c_U_clear l g _ (ad 14) (ad 15) k2 (0 + (gdR false 7 0 n1 i1 true).1.length) f2 (cX_hd hX) (cX_ne hX (by decide) (by decide) (by decide))) (zK_S hZ hS (cX_old hX0)) k_X_isInside_59 rfl rfl ⟨Nat.le_of_ble_eq_true rfl, Nat.le_of_ble_eq_true rfl⟩ (ob_recv hK (cX_hd hX).1 rfl) rfl hl.1 rfl (Nat.le_of_ble_eq_true rfl) d_X_isInside_59 ⟨by show 0 + 0 + 0 ≤ 0; omega, by show 0 + 0 + 0 ≤ 0; omega⟩) (fun v H L hC1 hp hL => ?_)
            have hS0 := hS
            have hS := hS_call hS hC1 hL (fun a h => Or.inl ⟨14, by decide, h⟩)
            obtain ⟨rfl, hU⟩ := hp
            have hX := cX_setH hX (fun a h1 h2 => hC_at hC1 h1 (fun z => h2 (Or.inl z))) hU
            refine W.eq (g2 := F0 m 62 ls []) rfl ?_
            refine lv_iload hx hb d_X_isInside_62 (lv_at hl 0 rfl) ?_
            refine W.widen (k := 0) (n := 0) (by omega) (by omega) ?_
            exact W.zret hx hb hr rfl (fun t9 ht hW => ⟨_, rfl, by rw [ht]; exact hS_hC hS, by rw [ht]; exact ⟨by rw [iiC, if_pos ⟨Int32.not_lt.mp c10, c15, Int32.not_lt.mp c6⟩, nI_clamp hi1, nI_clamp hn1, ← ex_1, decide_eq_true (lg_z.mp c35), Bool.true_and, c45]; rfl, hX⟩⟩) hS.2.2 d_X_isInside_64 hlk
theorem k_X_isGrowth_27 : kN "RegistryLog" 187 y_T_headsFromGrowth "RegistryLog" b_T_headsFromGrowth 10 (some (.object "RegistryLog$TwoHeads")) 5 := ⟨List.mem_of_getElem? (i := 4) rfl, (in_3 (List.mem_of_getElem? (i := 132) rfl) rfl), (in_1 (List.mem_of_getElem? (i := 20) rfl) rfl), (in_3 (List.mem_of_getElem? (i := 133) rfl) rfl), ⟨by decide, by decide, by decide +kernel⟩⟩
theorem k_X_isGrowth_57 : kV "RegistryLog" 184 "RegistryLog$Numbers" y_U_isReadToTheEnd b_U_isReadToTheEnd 1 (some .boolean) 0 := ⟨(in_3 (List.mem_of_getElem? (i := 123) rfl) rfl), (in_3 (List.mem_of_getElem? (i := 124) rfl) rfl), (in_3 (List.mem_of_getElem? (i := 125) rfl) rfl), (in_1 (List.mem_of_getElem? (i := 21) rfl) rfl), (in_3 (List.mem_of_getElem? (i := 126) rfl) rfl), ⟨by decide, by decide, by decide +kernel⟩⟩
theorem k_X_isGrowth_74 : kV "RegistryLog" 160 "RegistryLog$Numbers" y_U_clear b_U_clear 1 none 0 := ⟨(in_3 (List.mem_of_getElem? (i := 73) rfl) rfl), (in_3 (List.mem_of_getElem? (i := 74) rfl) rfl), (in_3 (List.mem_of_getElem? (i := 75) rfl) rfl), (in_1 (List.mem_of_getElem? (i := 21) rfl) rfl), (in_3 (List.mem_of_getElem? (i := 76) rfl) rfl), ⟨by decide, by decide, by decide +kernel⟩⟩
set_option maxHeartbeats 4000000 in
set_option maxRecDepth 100000 in
/-- isGrowth -/
theorem c_X_isGrowth (l : Launch) (g : gG) (H : Heap) (Z : Nat → Prop) (x : Nat) (ad : Nat → Nat) (ms nm nw : Nat) (rows : List Rw) (mir : Nat → List Rw) (T : List Nat) (f : Nat → Int64) (k q : Nat) (f2 : Nat → Int64) (k2 : Nat) (hX : cX Z g H x ad ms nm nw rows mir T f k q f2 k2 0) (i n : Int32) (dg h0 : Int64) : Met l y_X_isGrowth (wC y_X_isGrowth b_X_isGrowth 9 (some .boolean)) (rmk 10 8 16 280) (pC g H [.ref x, .int i, .int n, .long dg, .long h0]) (qW H (NX ad) (fun r H1 => r = some (.int (bI (igC f2 k2 i n dg h0))) ∧ cX Z g H1 x ad ms nm nw rows mir T f k q f2 0 0)) 8 16 (fW H (NX ad)) := by
  refine mB (by decide) (Nat.le_of_ble_eq_true rfl) ?_
  intro p e s m below meth c ls C0 hH hZ hnm hl
  have C0 : cF g p s m _ meth c b_X_isGrowth 9 "RegistryLog" (some .boolean) := C0
  obtain ⟨hx, hb, hml, hown, hts, hr, hlk, hK⟩ := id C0
  subst hH
  have hl : lv_has ls 9 [(0, .ref x), (1, .int i), (2, .int n), (3, .long dg), (5, .long h0)] := hl
  have hS : va_S (fW s.heap (NX ad)) s.heap s.heap [] := hS_rf
  have hX0 := hX
  refine lv_iconst (v := nI 0) hx hb d_X_isGrowth_0 (by decide) ?_
  refine lv_istore (lv' := [(7, .int (nI 0)), (0, .ref x), (1, .int i), (2, .int n), (3, .long dg), (5, .long h0)]) hx hb d_X_isGrowth_1 hl (by decide) rfl (fun ls hl => ?_)
  refine lv_iload_n hx hb d_X_isGrowth_3 rfl (lv_at hl 3 rfl) ?_
  refine lv_bipush (v := nI 120) hx hb d_X_isGrowth_4 (by decide) ?_
  refine lv_icmp_gt (tgt := 70) hx hb d_X_isGrowth_6 (by decide) (fun c6 => ?_) (fun c6 => ?_)
  · skip
    refine lv_aload_n hx hb d_X_isGrowth_70 rfl (lv_at hl 1 rfl) ?_
    refine va_get (D := g.1) (ci := 0) (C := R_X) (T := F_X) (N := 6) hx hb hts i_X hown hK.1 (cX_ob hX) 0 rfl rfl 5 (by decide) (hts (.fieldLink "RegistryLog" 37 "RegistryLog" "hand" "LRegistryLog$Numbers;") (in_3 (List.mem_of_getElem? (i := 14) rfl) rfl)) (fun _ h9 => h9) rfl d_X_isGrowth_71 ?_
    refine aW (N := (fun a => a = ad 14)) (rV (As := []) (rest := []) C0 (c_U_clear l g _ (ad 14) (ad 15) k2 0 f2 (cX_hd hX) (cX_ne hX (by decide) (by decide) (by decide))) (zK_S hZ hS (cX_old hX0)) k_X_isGrowth_74 rfl rfl ⟨Nat.le_of_ble_eq_true rfl, Nat.le_of_ble_eq_true rfl⟩ (ob_recv hK (cX_hd hX).1 rfl) rfl hl.1 rfl (Nat.le_of_ble_eq_true rfl) d_X_isGrowth_74 ⟨by show 0 + 0 ≤ 8; omega, by show 0 + 0 ≤ 16; omega⟩) (fun v H L hC1 hp hL => ?_)
    have hS0 := hS
    have hS := hS_call hS hC1 hL (fun a h => Or.inl ⟨14, by decide, h⟩)
    obtain ⟨rfl, hU⟩ := hp
    have hX := cX_setH hX (fun a h1 h2 => hC_at hC1 h1 (fun z => h2 (Or.inl z))) hU
    refine W.eq (g2 := F0 m 77 ls []) rfl ?_
    refine lv_iload hx hb d_X_isGrowth_77 (lv_at hl 0 rfl) ?_
    refine W.widen (k := 8) (n := 16) (by omega) (by omega) ?_
    exact W.zret hx hb hr rfl (fun t9 ht hW => ⟨_, rfl, by rw [ht]; exact hS_hC hS, by rw [ht]; exact ⟨by rw [igC, if_neg (fun z => absurd c6 (Int32.not_lt.mpr z.2.2))]; rfl, hX⟩⟩) hS.2.2 d_X_isGrowth_79 hlk
  · skip
    refine lv_iload_n hx hb d_X_isGrowth_9 rfl (lv_at hl 2 rfl) ?_
    refine lv_iconst (v := nI 1) hx hb d_X_isGrowth_10 (by decide) ?_
    refine lv_icmp_lt (tgt := 70) hx hb d_X_isGrowth_11 (by decide) (fun c11 => ?_) (fun c11 => ?_)
    · skip
      refine lv_aload_n hx hb d_X_isGrowth_70 rfl (lv_at hl 1 rfl) ?_
      refine va_get (D := g.1) (ci := 0) (C := R_X) (T := F_X) (N := 6) hx hb hts i_X hown hK.1 (cX_ob hX) 0 rfl rfl 5 (by decide) (hts (.fieldLink "RegistryLog" 37 "RegistryLog" "hand" "LRegistryLog$Numbers;") (in_3 (List.mem_of_getElem? (i := 14) rfl) rfl)) (fun _ h9 => h9) rfl d_X_isGrowth_71 ?_
      refine aW (N := (fun a => a = ad 14)) (rV (As := []) (rest := []) C0 (c_U_clear l g _ (ad 14) (ad 15) k2 0 f2 (cX_hd hX) (cX_ne hX (by decide) (by decide) (by decide))) (zK_S hZ hS (cX_old hX0)) k_X_isGrowth_74 rfl rfl ⟨Nat.le_of_ble_eq_true rfl, Nat.le_of_ble_eq_true rfl⟩ (ob_recv hK (cX_hd hX).1 rfl) rfl hl.1 rfl (Nat.le_of_ble_eq_true rfl) d_X_isGrowth_74 ⟨by show 0 + 0 ≤ 8; omega, by show 0 + 0 ≤ 16; omega⟩) (fun v H L hC1 hp hL => ?_)
      have hS0 := hS
      have hS := hS_call hS hC1 hL (fun a h => Or.inl ⟨14, by decide, h⟩)
      obtain ⟨rfl, hU⟩ := hp
      have hX := cX_setH hX (fun a h1 h2 => hC_at hC1 h1 (fun z => h2 (Or.inl z))) hU
      refine W.eq (g2 := F0 m 77 ls []) rfl ?_
      refine lv_iload hx hb d_X_isGrowth_77 (lv_at hl 0 rfl) ?_
      refine W.widen (k := 8) (n := 16) (by omega) (by omega) ?_
      exact W.zret hx hb hr rfl (fun t9 ht hW => ⟨_, rfl, by rw [ht]; exact hS_hC hS, by rw [ht]; exact ⟨by rw [igC, if_neg (fun z => absurd c11 (Int32.not_lt.mpr z.1))]; rfl, hX⟩⟩) hS.2.2 d_X_isGrowth_79 hlk
    · skip
      refine lv_iload_n hx hb d_X_isGrowth_14 rfl (lv_at hl 2 rfl) ?_
      refine lv_iload_n hx hb d_X_isGrowth_15 rfl (lv_at hl 3 rfl) ?_
      refine lv_icmp_gt (tgt := 70) hx hb d_X_isGrowth_16 (by decide) (fun c16 => ?_) (fun c16 => ?_)
      · skip
        refine lv_aload_n hx hb d_X_isGrowth_70 rfl (lv_at hl 1 rfl) ?_
        refine va_get (D := g.1) (ci := 0) (C := R_X) (T := F_X) (N := 6) hx hb hts i_X hown hK.1 (cX_ob hX) 0 rfl rfl 5 (by decide) (hts (.fieldLink "RegistryLog" 37 "RegistryLog" "hand" "LRegistryLog$Numbers;") (in_3 (List.mem_of_getElem? (i := 14) rfl) rfl)) (fun _ h9 => h9) rfl d_X_isGrowth_71 ?_
        refine aW (N := (fun a => a = ad 14)) (rV (As := []) (rest := []) C0 (c_U_clear l g _ (ad 14) (ad 15) k2 0 f2 (cX_hd hX) (cX_ne hX (by decide) (by decide) (by decide))) (zK_S hZ hS (cX_old hX0)) k_X_isGrowth_74 rfl rfl ⟨Nat.le_of_ble_eq_true rfl, Nat.le_of_ble_eq_true rfl⟩ (ob_recv hK (cX_hd hX).1 rfl) rfl hl.1 rfl (Nat.le_of_ble_eq_true rfl) d_X_isGrowth_74 ⟨by show 0 + 0 ≤ 8; omega, by show 0 + 0 ≤ 16; omega⟩) (fun v H L hC1 hp hL => ?_)
        have hS0 := hS
        have hS := hS_call hS hC1 hL (fun a h => Or.inl ⟨14, by decide, h⟩)
        obtain ⟨rfl, hU⟩ := hp
        have hX := cX_setH hX (fun a h1 h2 => hC_at hC1 h1 (fun z => h2 (Or.inl z))) hU
        refine W.eq (g2 := F0 m 77 ls []) rfl ?_
        refine lv_iload hx hb d_X_isGrowth_77 (lv_at hl 0 rfl) ?_
        refine W.widen (k := 8) (n := 16) (by omega) (by omega) ?_
        exact W.zret hx hb hr rfl (fun t9 ht hW => ⟨_, rfl, by rw [ht]; exact hS_hC hS, by rw [ht]; exact ⟨by rw [igC, if_neg (fun z => absurd c16 (Int32.not_lt.mpr z.2.1))]; rfl, hX⟩⟩) hS.2.2 d_X_isGrowth_79 hlk
      · skip
        refine lv_iload_n hx hb d_X_isGrowth_19 rfl (lv_at hl 2 rfl) ?_
        refine lv_iload_n hx hb d_X_isGrowth_20 rfl (lv_at hl 3 rfl) ?_
        refine lv_iconst (v := bI true) hx hb d_X_isGrowth_21 (by decide) ?_
        refine lv_lload_n hx hb d_X_isGrowth_22 rfl (lv_at hl 4 rfl) ?_
        refine lv_aload_n hx hb d_X_isGrowth_23 rfl (lv_at hl 1 rfl) ?_
        refine va_get (D := g.1) (ci := 0) (C := R_X) (T := F_X) (N := 6) hx hb hts i_X hown hK.1 (cX_ob hX) 0 rfl rfl 5 (by decide) (hts (.fieldLink "RegistryLog" 37 "RegistryLog" "hand" "LRegistryLog$Numbers;") (in_3 (List.mem_of_getElem? (i := 14) rfl) rfl)) (fun _ h9 => h9) rfl d_X_isGrowth_24 ?_
        have c16 := Int32.not_lt.mp c16
        obtain ⟨i1, hi1, ei⟩ := nI_of (not_lt1 c11)
        subst ei
        obtain ⟨n1, hn1, en⟩ := nI_of (fun z => absurd (Int32.lt_of_le_of_lt c16 z) (nI_pos (by omega)))
        subst en
        have hin := (nI_leI hi1 hn1).mp c16
        have hi0 : 1 ≤ i1 := (nI_leI (by decide) hi1).mp (Int32.not_lt.mp c11)
        have hnr : n1 ≤ 120 := Nat.le_of_not_lt (fun z => c6 ((nI_ltI (by decide) hn1).mpr z))
        refine aW (N := (fun a => a = ad 14)) (rN (As := [.int (nI i1), .int (nI n1), .int (bI true), .long dg, .ref ((ad 14))]) (rest := []) C0 (c_T_headsFromGrowth l g (ad 14) (ad 15) f2 k2 (cX_ne hX (by decide) (by decide) (by decide)) (cX_9 hX (by decide)) dg 7 0 n1 i1 true 0 _ (cX_hd hX) (by omega) (by omega) (by omega) (by omega) (by omega) (by omega) (by omega)) (zK_S hZ hS (cX_old hX0)) k_X_isGrowth_27 rfl rfl ⟨Nat.le_of_ble_eq_true rfl, Nat.le_of_ble_eq_true rfl⟩ rfl hl.1 rfl (Nat.le_of_ble_eq_true rfl) d_X_isGrowth_27 ⟨by show 0 + (7 + 1) ≤ 8; omega, by show 0 + (2 * (7 + 1)) ≤ 16; omega⟩) (fun v H L hC1 hp hL => ?_)
        have hS0 := hS
        have hS := hS_call hS hC1 hL (fun a h => Or.inl ⟨14, by decide, h⟩)
        obtain ⟨ot, hot, rfl, fo9, hU⟩ := hp
        have hX := cX_setH hX (fun a h1 h2 => hC_at hC1 h1 (fun z => h2 (Or.inl z))) hU
        refine W.eq (g2 := F0 m 30 ls [.ref ot]) rfl ?_
        refine lv_astore (lv' := [(8, .ref ot), (7, .int (nI 0)), (0, .ref x), (1, .int (nI i1)), (2, .int (nI n1)), (3, .long dg), (5, .long h0)]) hx hb d_X_isGrowth_30 hl (by decide) rfl (fun ls hl => ?_)
        refine lv_aload hx hb d_X_isGrowth_32 (lv_at hl 0 rfl) ?_
        refine va_get (D := g.1) (ci := 5) (C := R_H) (T := F_H) (N := 2) hx hb hts i_H hown hK.1 fo9 0 rfl rfl 0 (by decide) (hts (.fieldLink "RegistryLog" 191 "RegistryLog$TwoHeads" "shorter" "J") (in_3 (List.mem_of_getElem? (i := 142) rfl) rfl)) (fun _ h9 => h9) rfl d_X_isGrowth_34 ?_
        refine lv_lload_n hx hb d_X_isGrowth_37 rfl (lv_at hl 5 rfl) ?_
        refine W.lcmp hx hb d_X_isGrowth_38 ?_
        refine lv_if_ne (tgt := 67) hx hb d_X_isGrowth_39 (by decide) (fun c39 => ?_) (fun c39 => ?_)
        · skip
          refine lv_iconst (v := nI 0) hx hb d_X_isGrowth_67 (by decide) ?_
          refine lv_istore (lv' := [(7, .int (nI 0)), (8, .ref ot), (0, .ref x), (1, .int (nI i1)), (2, .int (nI n1)), (3, .long dg), (5, .long h0)]) hx hb d_X_isGrowth_68 hl (by decide) rfl (fun ls hl => ?_)
          refine lv_aload_n hx hb d_X_isGrowth_70 rfl (lv_at hl 2 rfl) ?_
          refine va_get (D := g.1) (ci := 0) (C := R_X) (T := F_X) (N := 6) hx hb hts i_X hown hK.1 (cX_ob hX) 0 rfl rfl 5 (by decide) (hts (.fieldLink "RegistryLog" 37 "RegistryLog" "hand" "LRegistryLog$Numbers;") (in_3 (List.mem_of_getElem? (i := 14) rfl) rfl)) (fun _ h9 => h9) rfl d_X_isGrowth_71 ?_
          refine aW (N := (fun a => a = ad 14)) (rV (As := []) (rest := []) C0 (c_U_clear l g _ (ad 14) (ad 15) k2 (0 + hgN (gdR true 7 0 n1 i1 true)) f2 (cX_hd hX) (cX_ne hX (by decide) (by decide) (by decide))) (zK_S hZ hS (cX_old hX0)) k_X_isGrowth_74 rfl rfl ⟨Nat.le_of_ble_eq_true rfl, Nat.le_of_ble_eq_true rfl⟩ (ob_recv hK (cX_hd hX).1 rfl) rfl hl.1 rfl (Nat.le_of_ble_eq_true rfl) d_X_isGrowth_74 ⟨by show 0 + (7 + 1) + 0 ≤ 8; omega, by show 0 + (2 * (7 + 1)) + 0 ≤ 16; omega⟩) (fun v H L hC1 hp hL => ?_)
          have hS0 := hS
          have hS := hS_call hS hC1 hL (fun a h => Or.inl ⟨14, by decide, h⟩)
          obtain ⟨rfl, hU⟩ := hp
          have hX := cX_setH hX (fun a h1 h2 => hC_at hC1 h1 (fun z => h2 (Or.inl z))) hU
          refine W.eq (g2 := F0 m 77 ls []) rfl ?_
          refine lv_iload hx hb d_X_isGrowth_77 (lv_at hl 0 rfl) ?_
          refine W.widen (k := 8) (n := 16) (by omega) (by omega) ?_
          exact W.zret hx hb hr rfl (fun t9 ht hW => ⟨_, rfl, by rw [ht]; exact hS_hC hS, by rw [ht]; exact ⟨by rw [igC, if_pos ⟨Int32.not_lt.mp c11, c16, Int32.not_lt.mp c6⟩, nI_clamp hi1, nI_clamp hn1, decide_eq_false (fun z => c39 (lg_z.mpr z)), Bool.false_and]; rfl, hX⟩⟩) hS.2.2 d_X_isGrowth_79 hlk
        · skip
          refine lv_aload hx hb d_X_isGrowth_42 (lv_at hl 0 rfl) ?_
          refine va_get (D := g.1) (ci := 5) (C := R_H) (T := F_H) (N := 2) hx hb hts i_H hown hK.1 fo9 0 rfl rfl 1 (by decide) (hts (.fieldLink "RegistryLog" 196 "RegistryLog$TwoHeads" "longer" "J") (in_3 (List.mem_of_getElem? (i := 145) rfl) rfl)) (fun _ h9 => h9) rfl d_X_isGrowth_44 ?_
          refine lv_lload hx hb d_X_isGrowth_47 (lv_at hl 6 rfl) ?_
          refine W.lcmp hx hb d_X_isGrowth_49 ?_
          refine lv_if_ne (tgt := 67) hx hb d_X_isGrowth_50 (by decide) (fun c50 => ?_) (fun c50 => ?_)
          · skip
            refine lv_iconst (v := nI 0) hx hb d_X_isGrowth_67 (by decide) ?_
            refine lv_istore (lv' := [(7, .int (nI 0)), (8, .ref ot), (0, .ref x), (1, .int (nI i1)), (2, .int (nI n1)), (3, .long dg), (5, .long h0)]) hx hb d_X_isGrowth_68 hl (by decide) rfl (fun ls hl => ?_)
            refine lv_aload_n hx hb d_X_isGrowth_70 rfl (lv_at hl 2 rfl) ?_
            refine va_get (D := g.1) (ci := 0) (C := R_X) (T := F_X) (N := 6) hx hb hts i_X hown hK.1 (cX_ob hX) 0 rfl rfl 5 (by decide) (hts (.fieldLink "RegistryLog" 37 "RegistryLog" "hand" "LRegistryLog$Numbers;") (in_3 (List.mem_of_getElem? (i := 14) rfl) rfl)) (fun _ h9 => h9) rfl d_X_isGrowth_71 ?_
            refine aW (N := (fun a => a = ad 14)) (rV (As := []) (rest := []) C0 (c_U_clear l g _ (ad 14) (ad 15) k2 (0 + hgN (gdR true 7 0 n1 i1 true)) f2 (cX_hd hX) (cX_ne hX (by decide) (by decide) (by decide))) (zK_S hZ hS (cX_old hX0)) k_X_isGrowth_74 rfl rfl ⟨Nat.le_of_ble_eq_true rfl, Nat.le_of_ble_eq_true rfl⟩ (ob_recv hK (cX_hd hX).1 rfl) rfl hl.1 rfl (Nat.le_of_ble_eq_true rfl) d_X_isGrowth_74 ⟨by show 0 + (7 + 1) + 0 ≤ 8; omega, by show 0 + (2 * (7 + 1)) + 0 ≤ 16; omega⟩) (fun v H L hC1 hp hL => ?_)
            have hS0 := hS
            have hS := hS_call hS hC1 hL (fun a h => Or.inl ⟨14, by decide, h⟩)
            obtain ⟨rfl, hU⟩ := hp
            have hX := cX_setH hX (fun a h1 h2 => hC_at hC1 h1 (fun z => h2 (Or.inl z))) hU
            refine W.eq (g2 := F0 m 77 ls []) rfl ?_
            refine lv_iload hx hb d_X_isGrowth_77 (lv_at hl 0 rfl) ?_
            refine W.widen (k := 8) (n := 16) (by omega) (by omega) ?_
            exact W.zret hx hb hr rfl (fun t9 ht hW => ⟨_, rfl, by rw [ht]; exact hS_hC hS, by rw [ht]; exact ⟨by rw [igC, if_pos ⟨Int32.not_lt.mp c11, c16, Int32.not_lt.mp c6⟩, nI_clamp hi1, nI_clamp hn1, decide_eq_true (lg_z.mp c39), Bool.true_and, decide_eq_false (fun z => c50 (lg_z.mpr z)), Bool.false_and]; rfl, hX⟩⟩) hS.2.2 d_X_isGrowth_79 hlk
          · skip
            refine lv_aload_n hx hb d_X_isGrowth_53 rfl (lv_at hl 2 rfl) ?_
            refine va_get (D := g.1) (ci := 0) (C := R_X) (T := F_X) (N := 6) hx hb hts i_X hown hK.1 (cX_ob hX) 0 rfl rfl 5 (by decide) (hts (.fieldLink "RegistryLog" 37 "RegistryLog" "hand" "LRegistryLog$Numbers;") (in_3 (List.mem_of_getElem? (i := 14) rfl) rfl)) (fun _ h9 => h9) rfl d_X_isGrowth_54 ?_
            refine aP (rV (As := []) (rest := []) C0 (c_U_isReadToTheEnd l g _ (ad 14) (ad 15) _ _ _ (cX_hd hX)) (zK_S hZ hS (cX_old hX0)) k_X_isGrowth_57 rfl rfl ⟨Nat.le_of_ble_eq_true rfl, Nat.le_of_ble_eq_true rfl⟩ (ob_recv hK (cX_hd hX).1 rfl) rfl hl.1 rfl (Nat.le_of_ble_eq_true rfl) d_X_isGrowth_57 ⟨by show 0 + (7 + 1) + 0 ≤ 8; omega, by show 0 + (2 * (7 + 1)) + 0 ≤ 16; omega⟩) ?_
            intro v hv; subst hv
            refine W.eq (g2 := F0 m 60 ls [.int (bI (decide (0 + hgN (gdR true 7 0 n1 i1 true) = k2)))]) rfl ?_
            refine z_eq (tgt := 67) (v := decide (0 + hgN (gdR true 7 0 n1 i1 true) = k2)) hx hb d_X_isGrowth_60 (by decide) (fun c60 => ?_) (fun c60 => ?_)
            · skip
              refine lv_iconst (v := nI 0) hx hb d_X_isGrowth_67 (by decide) ?_
              refine lv_istore (lv' := [(7, .int (nI 0)), (8, .ref ot), (0, .ref x), (1, .int (nI i1)), (2, .int (nI n1)), (3, .long dg), (5, .long h0)]) hx hb d_X_isGrowth_68 hl (by decide) rfl (fun ls hl => ?_)
              refine lv_aload_n hx hb d_X_isGrowth_70 rfl (lv_at hl 2 rfl) ?_
              refine va_get (D := g.1) (ci := 0) (C := R_X) (T := F_X) (N := 6) hx hb hts i_X hown hK.1 (cX_ob hX) 0 rfl rfl 5 (by decide) (hts (.fieldLink "RegistryLog" 37 "RegistryLog" "hand" "LRegistryLog$Numbers;") (in_3 (List.mem_of_getElem? (i := 14) rfl) rfl)) (fun _ h9 => h9) rfl d_X_isGrowth_71 ?_
              refine aW (N := (fun a => a = ad 14)) (rV (As := []) (rest := []) C0 (c_U_clear l g _ (ad 14) (ad 15) k2 (0 + hgN (gdR true 7 0 n1 i1 true)) f2 (cX_hd hX) (cX_ne hX (by decide) (by decide) (by decide))) (zK_S hZ hS (cX_old hX0)) k_X_isGrowth_74 rfl rfl ⟨Nat.le_of_ble_eq_true rfl, Nat.le_of_ble_eq_true rfl⟩ (ob_recv hK (cX_hd hX).1 rfl) rfl hl.1 rfl (Nat.le_of_ble_eq_true rfl) d_X_isGrowth_74 ⟨by show 0 + (7 + 1) + 0 ≤ 8; omega, by show 0 + (2 * (7 + 1)) + 0 ≤ 16; omega⟩) (fun v H L hC1 hp hL => ?_)
              have hS0 := hS
              have hS := hS_call hS hC1 hL (fun a h => Or.inl ⟨14, by decide, h⟩)
              obtain ⟨rfl, hU⟩ := hp
              have hX := cX_setH hX (fun a h1 h2 => hC_at hC1 h1 (fun z => h2 (Or.inl z))) hU
              refine W.eq (g2 := F0 m 77 ls []) rfl ?_
              refine lv_iload hx hb d_X_isGrowth_77 (lv_at hl 0 rfl) ?_
              refine W.widen (k := 8) (n := 16) (by omega) (by omega) ?_
              exact W.zret hx hb hr rfl (fun t9 ht hW => ⟨_, rfl, by rw [ht]; exact hS_hC hS, by rw [ht]; exact ⟨by rw [igC, if_pos ⟨Int32.not_lt.mp c11, c16, Int32.not_lt.mp c6⟩, nI_clamp hi1, nI_clamp hn1, decide_eq_true (lg_z.mp c39), Bool.true_and, decide_eq_true (lg_z.mp c50), Bool.true_and, c60]; rfl, hX⟩⟩) hS.2.2 d_X_isGrowth_79 hlk
            · skip
              refine lv_iconst (v := nI 1) hx hb d_X_isGrowth_63 (by decide) ?_
              refine lv_goto (tgt := 68) hx hb d_X_isGrowth_64 (by decide) ?_
              refine lv_istore (lv' := [(7, .int (nI 1)), (8, .ref ot), (0, .ref x), (1, .int (nI i1)), (2, .int (nI n1)), (3, .long dg), (5, .long h0)]) hx hb d_X_isGrowth_68 hl (by decide) rfl (fun ls hl => ?_)
              refine lv_aload_n hx hb d_X_isGrowth_70 rfl (lv_at hl 2 rfl) ?_
              refine va_get (D := g.1) (ci := 0) (C := R_X) (T := F_X) (N := 6) hx hb hts i_X hown hK.1 (cX_ob hX) 0 rfl rfl 5 (by decide) (hts (.fieldLink "RegistryLog" 37 "RegistryLog" "hand" "LRegistryLog$Numbers;") (in_3 (List.mem_of_getElem? (i := 14) rfl) rfl)) (fun _ h9 => h9) rfl d_X_isGrowth_71 ?_
              refine aW (N := (fun a => a = ad 14)) (rV (As := []) (rest := []) C0 (c_U_clear l g _ (ad 14) (ad 15) k2 (0 + hgN (gdR true 7 0 n1 i1 true)) f2 (cX_hd hX) (cX_ne hX (by decide) (by decide) (by decide))) (zK_S hZ hS (cX_old hX0)) k_X_isGrowth_74 rfl rfl ⟨Nat.le_of_ble_eq_true rfl, Nat.le_of_ble_eq_true rfl⟩ (ob_recv hK (cX_hd hX).1 rfl) rfl hl.1 rfl (Nat.le_of_ble_eq_true rfl) d_X_isGrowth_74 ⟨by show 0 + (7 + 1) + 0 ≤ 8; omega, by show 0 + (2 * (7 + 1)) + 0 ≤ 16; omega⟩) (fun v H L hC1 hp hL => ?_)
              have hS0 := hS
              have hS := hS_call hS hC1 hL (fun a h => Or.inl ⟨14, by decide, h⟩)
              obtain ⟨rfl, hU⟩ := hp
              have hX := cX_setH hX (fun a h1 h2 => hC_at hC1 h1 (fun z => h2 (Or.inl z))) hU
              refine W.eq (g2 := F0 m 77 ls []) rfl ?_
              refine lv_iload hx hb d_X_isGrowth_77 (lv_at hl 0 rfl) ?_
              refine W.widen (k := 8) (n := 16) (by omega) (by omega) ?_
              exact W.zret hx hb hr rfl (fun t9 ht hW => ⟨_, rfl, by rw [ht]; exact hS_hC hS, by rw [ht]; exact ⟨by rw [igC, if_pos ⟨Int32.not_lt.mp c11, c16, Int32.not_lt.mp c6⟩, nI_clamp hi1, nI_clamp hn1, decide_eq_true (lg_z.mp c39), Bool.true_and, decide_eq_true (lg_z.mp c50), Bool.true_and, c60]; rfl, hX⟩⟩) hS.2.2 d_X_isGrowth_79 hlk
