theorem k_X_publish_1 : kV "RegistryLog" 48 "RegistryLog" y_X_takeName b_X_takeName 1 (some (.object "RegistryLog$Name")) 0 := ⟨(in_3 (List.mem_of_getElem? (i := 198) rfl) rfl), (in_3 (List.mem_of_getElem? (i := 200) rfl) rfl), (in_0 (List.mem_of_getElem? (i := 3) rfl) rfl), (in_1 (List.mem_of_getElem? (i := 1) rfl) rfl), (in_3 (List.mem_of_getElem? (i := 201) rfl) rfl), ⟨by decide, by decide, by decide +kernel⟩⟩
theorem k_X_publish_8 : kV "RegistryLog" 52 "RegistryLog$Name" y_N_isName b_N_isName 6 (some .boolean) 0 := ⟨(in_4 (List.mem_of_getElem? (i := 50) rfl) rfl), (in_4 (List.mem_of_getElem? (i := 51) rfl) rfl), (in_4 (List.mem_of_getElem? (i := 52) rfl) rfl), (in_1 (List.mem_of_getElem? (i := 7) rfl) rfl), (in_4 (List.mem_of_getElem? (i := 53) rfl) rfl), ⟨by decide, by decide, by decide +kernel⟩⟩
theorem k_X_publish_15 : kS "RegistryLog" 58 y_X_isPerson b_X_isPerson 1 (some .boolean) 1 := ⟨(in_4 (List.mem_of_getElem? (i := 17) rfl) rfl), (in_4 (List.mem_of_getElem? (i := 18) rfl) rfl), (in_1 (List.mem_of_getElem? (i := 1) rfl) rfl), (in_4 (List.mem_of_getElem? (i := 19) rfl) rfl), ⟨by decide, by decide, by decide +kernel⟩⟩
theorem k_X_publish_22 : kS "RegistryLog" 62 y_X_isVersion b_X_isVersion 1 (some .boolean) 1 := ⟨(in_4 (List.mem_of_getElem? (i := 54) rfl) rfl), (in_4 (List.mem_of_getElem? (i := 55) rfl) rfl), (in_1 (List.mem_of_getElem? (i := 1) rfl) rfl), (in_4 (List.mem_of_getElem? (i := 56) rfl) rfl), ⟨by decide, by decide, by decide +kernel⟩⟩
theorem k_X_publish_33 : kS "RegistryLog" 65 y_X_demandArguments b_X_demandArguments 1 none 1 := ⟨(in_4 (List.mem_of_getElem? (i := 57) rfl) rfl), (in_4 (List.mem_of_getElem? (i := 58) rfl) rfl), (in_1 (List.mem_of_getElem? (i := 1) rfl) rfl), (in_4 (List.mem_of_getElem? (i := 59) rfl) rfl), ⟨by decide, by decide, by decide +kernel⟩⟩
theorem k_X_publish_42 : kV "RegistryLog" 69 "RegistryLog$Ledger" y_L_originOf b_L_originOf 5 (some .int) 1 := ⟨(in_3 (List.mem_of_getElem? (i := 232) rfl) rfl), (in_3 (List.mem_of_getElem? (i := 233) rfl) rfl), (in_3 (List.mem_of_getElem? (i := 234) rfl) rfl), (in_1 (List.mem_of_getElem? (i := 6) rfl) rfl), (in_3 (List.mem_of_getElem? (i := 235) rfl) rfl), ⟨by decide, by decide, by decide +kernel⟩⟩
theorem k_X_publish_60 : kV "RegistryLog" 73 "RegistryLog$Ledger" y_L_isFree b_L_isFree 5 (some .boolean) 2 := ⟨(in_4 (List.mem_of_getElem? (i := 63) rfl) rfl), (in_4 (List.mem_of_getElem? (i := 64) rfl) rfl), (in_4 (List.mem_of_getElem? (i := 65) rfl) rfl), (in_1 (List.mem_of_getElem? (i := 6) rfl) rfl), (in_4 (List.mem_of_getElem? (i := 66) rfl) rfl), ⟨by decide, by decide, by decide +kernel⟩⟩
theorem k_X_publish_63 : kS "RegistryLog" 77 y_X_demandState b_X_demandState 1 none 1 := ⟨(in_4 (List.mem_of_getElem? (i := 83) rfl) rfl), (in_4 (List.mem_of_getElem? (i := 84) rfl) rfl), (in_1 (List.mem_of_getElem? (i := 1) rfl) rfl), (in_4 (List.mem_of_getElem? (i := 85) rfl) rfl), ⟨by decide, by decide, by decide +kernel⟩⟩
theorem k_X_publish_70 : kV "RegistryLog" 80 "RegistryLog$Ledger" y_L_size b_L_size 1 (some .int) 0 := ⟨(in_3 (List.mem_of_getElem? (i := 38) rfl) rfl), (in_3 (List.mem_of_getElem? (i := 39) rfl) rfl), (in_3 (List.mem_of_getElem? (i := 40) rfl) rfl), (in_1 (List.mem_of_getElem? (i := 6) rfl) rfl), (in_3 (List.mem_of_getElem? (i := 41) rfl) rfl), ⟨by decide, by decide, by decide +kernel⟩⟩
theorem k_X_publish_85 : kV "RegistryLog" 83 "RegistryLog$Ledger" y_L_hasRight b_L_hasRight 6 (some .boolean) 2 := ⟨(in_4 (List.mem_of_getElem? (i := 20) rfl) rfl), (in_4 (List.mem_of_getElem? (i := 21) rfl) rfl), (in_4 (List.mem_of_getElem? (i := 22) rfl) rfl), (in_1 (List.mem_of_getElem? (i := 6) rfl) rfl), (in_4 (List.mem_of_getElem? (i := 23) rfl) rfl), ⟨by decide, by decide, by decide +kernel⟩⟩
theorem k_X_publish_98 : kV "RegistryLog" 87 "RegistryLog$Ledger" y_L_publishOf b_L_publishOf 5 (some .int) 2 := ⟨(in_4 (List.mem_of_getElem? (i := 29) rfl) rfl), (in_4 (List.mem_of_getElem? (i := 30) rfl) rfl), (in_4 (List.mem_of_getElem? (i := 31) rfl) rfl), (in_1 (List.mem_of_getElem? (i := 6) rfl) rfl), (in_4 (List.mem_of_getElem? (i := 32) rfl) rfl), ⟨by decide, by decide, by decide +kernel⟩⟩
theorem k_X_publish_110 : kS "RegistryLog" 77 y_X_demandState b_X_demandState 1 none 1 := ⟨(in_4 (List.mem_of_getElem? (i := 83) rfl) rfl), (in_4 (List.mem_of_getElem? (i := 84) rfl) rfl), (in_1 (List.mem_of_getElem? (i := 1) rfl) rfl), (in_4 (List.mem_of_getElem? (i := 85) rfl) rfl), ⟨by decide, by decide, by decide +kernel⟩⟩
theorem k_X_publish_128 : kI "RegistryLog" 93 y_R_init b_R_init 10 7 := ⟨(in_4 (List.mem_of_getElem? (i := 103) rfl) rfl), (in_2 (List.mem_of_getElem? (i := 168) rfl) rfl), (in_1 (List.mem_of_getElem? (i := 19) rfl) rfl), (in_2 (List.mem_of_getElem? (i := 169) rfl) rfl), rfl, ⟨by decide, by decide, by decide +kernel⟩⟩
theorem k_X_publish_131 : kV "RegistryLog" 96 "RegistryLog" y_X_write b_X_write 3 (some .int) 1 := ⟨(in_4 (List.mem_of_getElem? (i := 104) rfl) rfl), (in_4 (List.mem_of_getElem? (i := 106) rfl) rfl), (in_0 (List.mem_of_getElem? (i := 5) rfl) rfl), (in_1 (List.mem_of_getElem? (i := 1) rfl) rfl), (in_4 (List.mem_of_getElem? (i := 107) rfl) rfl), ⟨by decide, by decide, by decide +kernel⟩⟩
set_option maxHeartbeats 4000000 in
set_option maxRecDepth 100000 in
/-- publish -/
theorem c_X_publish (l : Launch) (g : gG) (H : Heap) (Z : Nat → Prop) (x : Nat) (ad : Nat → Nat) (ms nm nw : Nat) (rows : List Rw) (mir : Nat → List Rw) (T : List Nat) (f : Nat → Int64) (k q : Nat) (f2 : Nat → Int64) (k2 : Nat) (hX : cX Z g H x ad ms nm nw rows mir T f k q f2 k2 0) (hsz : g.2.2.1 ≤ H.size) (hZb : ∀ a, H.size ≤ a → Z a) (who v0 sm : Int32) (og0 : Int32) (hA1 : nameS T = true) (hA2 : decide (0 ≤ who ∧ who < 8) = true) (hA3 : decide (0 ≤ v0 ∧ v0 < 1000) = true) (hmay : pubC rows T who v0 = true) (hog : (if oS T rows (-1) = -1 then nI rows.length else oS T rows (-1)) = og0) (hlt : rows.length < 120) : Met l y_X_publish (wC y_X_publish b_X_publish 6 (some .int)) (rmk 9 33 962 197) (pC g H [.ref x, .int who, .int v0, .int sm]) (qW H (NX ad) (fun r H1 => ∃ v2, r = some (.int (nI rows.length)) ∧ cX Z g H1 x (adU ad v2) ms nm nw (rows ++ [(0, who, T, T, v0, sm, og0)]) mir ([]) f k q f2 k2 0)) 33 962 (fW H (NX ad)) := by
  refine mB (by decide) (Nat.le_of_ble_eq_true rfl) ?_
  intro p e s m below meth c ls C0 hH hZ hnm hl
  have C0 : cF g p s m _ meth c b_X_publish 6 "RegistryLog" (some .int) := C0
  obtain ⟨hx, hb, hml, hown, hts, hr, hlk, hK⟩ := id C0
  subst hH
  have hl : lv_has ls 6 [(0, .ref x), (1, .int who), (2, .int v0), (3, .int sm)] := hl
  have hS : va_S (fW s.heap (NX ad)) s.heap s.heap [] := hS_rf
  have hX0 := hX
  have ad0 := cX_lt hX0 (j := 0) (by decide)
  have ad1 := cX_lt hX0 (j := 1) (by decide)
  refine lv_aload_n hx hb d_X_publish_0 rfl (lv_at hl 0 rfl) ?_
  refine aW (N := (NX ad)) (rV (As := []) (rest := []) C0 (c_X_takeName l g _ Z x ad ms nm nw rows mir T f k q f2 k2 hX hsz hZb) (zK_S hZ hS (cX_old hX0)) k_X_publish_1 rfl rfl ⟨Nat.le_of_ble_eq_true rfl, Nat.le_of_ble_eq_true rfl⟩ (ob_recv hK (cX_ob hX) rfl) rfl hl.1 rfl (Nat.le_of_ble_eq_true rfl) d_X_publish_1 ⟨by show 0 + 32 ≤ 33; omega, by show 0 + 954 ≤ 962; omega⟩) (fun v H L hC1 hp hL => ?_)
  have hS0 := hS
  have hS := hS_call hS hC1 hL (fun a h => Or.inl h)
  obtain ⟨na, v2, rfl, hna, hN9, hX, hv4⟩ := hp
  obtain ⟨ad2, had2⟩ : ∃ ad2, ad2 = adU ad v2 := ⟨_, rfl⟩
  rw [← had2] at hX hN9
  have hsz2 := hS.1
  refine W.eq (g2 := F0 m 4 ls [.ref na]) rfl ?_
  refine lv_astore (lv' := [(4, .ref na), (0, .ref x), (1, .int who), (2, .int v0), (3, .int sm)]) hx hb d_X_publish_4 hl (by decide) rfl (fun ls hl => ?_)
  refine lv_aload hx hb d_X_publish_6 (lv_at hl 0 rfl) ?_
  refine aP (rV (As := []) (rest := []) C0 (c_N_isName l g _ na T (pN_isN hN9)) (zK_S hZ hS (cX_old hX0)) k_X_publish_8 rfl rfl ⟨Nat.le_of_ble_eq_true rfl, Nat.le_of_ble_eq_true rfl⟩ (isN_recv hK (pN_isN hN9)) rfl hl.1 rfl (Nat.le_of_ble_eq_true rfl) d_X_publish_8 ⟨by show 0 + 32 + 0 ≤ 33; omega, by show 0 + 954 + 0 ≤ 962; omega⟩) ?_
  intro v hv; subst hv
  refine W.eq (g2 := F0 m 11 ls [.int (bI (nameS T))]) rfl ?_
  refine z_eq (tgt := 32) (v := nameS T) hx hb d_X_publish_11 (by decide) (fun c11 => ?_) (fun c11 => ?_)
  · skip
    exact absurd hA1 (by rw [c11]; decide)
  · skip
    refine lv_iload_n hx hb d_X_publish_14 rfl (lv_at hl 2 rfl) ?_
    refine aP (rS (As := [.int who]) (rest := []) C0 (c_X_isPerson l g _ who) (zK_S hZ hS (cX_old hX0)) k_X_publish_15 rfl rfl ⟨Nat.le_of_ble_eq_true rfl, Nat.le_of_ble_eq_true rfl⟩ rfl hl.1 rfl (Nat.le_of_ble_eq_true rfl) d_X_publish_15 ⟨by show 0 + 32 + 0 ≤ 33; omega, by show 0 + 954 + 0 ≤ 962; omega⟩) ?_
    intro v hv; subst hv
    refine W.eq (g2 := F0 m 18 ls [.int (bI (decide (0 ≤ who ∧ who < 8)))]) rfl ?_
    refine z_eq (tgt := 32) (v := decide (0 ≤ who ∧ who < 8)) hx hb d_X_publish_18 (by decide) (fun c18 => ?_) (fun c18 => ?_)
    · skip
      exact absurd hA2 (by rw [c18]; decide)
    · skip
      refine lv_iload_n hx hb d_X_publish_21 rfl (lv_at hl 3 rfl) ?_
      refine aP (rS (As := [.int v0]) (rest := []) C0 (c_X_isVersion l g _ v0) (zK_S hZ hS (cX_old hX0)) k_X_publish_22 rfl rfl ⟨Nat.le_of_ble_eq_true rfl, Nat.le_of_ble_eq_true rfl⟩ rfl hl.1 rfl (Nat.le_of_ble_eq_true rfl) d_X_publish_22 ⟨by show 0 + 32 + 0 ≤ 33; omega, by show 0 + 954 + 0 ≤ 962; omega⟩) ?_
      intro v hv; subst hv
      refine W.eq (g2 := F0 m 25 ls [.int (bI (decide (0 ≤ v0 ∧ v0 < 1000)))]) rfl ?_
      refine z_eq (tgt := 32) (v := decide (0 ≤ v0 ∧ v0 < 1000)) hx hb d_X_publish_25 (by decide) (fun c25 => ?_) (fun c25 => ?_)
      · skip
        exact absurd hA3 (by rw [c25]; decide)
      · skip
        refine lv_iconst (v := bI true) hx hb d_X_publish_28 (by decide) ?_
        refine lv_goto (tgt := 33) hx hb d_X_publish_29 (by decide) ?_
        refine aP (rS (As := [.int (bI true)]) (rest := []) C0 (c_X_demandArguments l g _) (zK_S hZ hS (cX_old hX0)) k_X_publish_33 rfl rfl ⟨Nat.le_of_ble_eq_true rfl, Nat.le_of_ble_eq_true rfl⟩ rfl hl.1 rfl (Nat.le_of_ble_eq_true rfl) d_X_publish_33 ⟨by show 0 + 32 + 0 ≤ 33; omega, by show 0 + 954 + 0 ≤ 962; omega⟩) ?_
        intro v hv; subst hv
        refine W.eq (g2 := F0 m 36 ls []) rfl ?_
        refine lv_aload_n hx hb d_X_publish_36 rfl (lv_at hl 1 rfl) ?_
        refine va_get (D := g.1) (ci := 0) (C := R_X) (T := F_X) (N := 6) hx hb hts i_X hown hK.1 (cX_ob hX) 0 rfl rfl 1 (by decide) (hts (.fieldLink "RegistryLog" 19 "RegistryLog" "log" "LRegistryLog$Ledger;") (in_3 (List.mem_of_getElem? (i := 10) rfl) rfl)) (fun _ h9 => h9) rfl d_X_publish_37 ?_
        refine lv_aload hx hb d_X_publish_40 (lv_at hl 0 rfl) ?_
        refine aP (rV (As := [.ref na]) (rest := []) C0 (c_L_originOf l g _ (ad2 2) na rows T (pL_isL (cX_log hX)) (pN_isN hN9)) (zK_S hZ hS (cX_old hX0)) k_X_publish_42 rfl rfl ⟨Nat.le_of_ble_eq_true rfl, Nat.le_of_ble_eq_true rfl⟩ (isL_recv hK (pL_isL (cX_log hX))) rfl hl.1 rfl (Nat.le_of_ble_eq_true rfl) d_X_publish_42 ⟨by show 0 + 32 + 0 ≤ 33; omega, by show 0 + 954 + 0 ≤ 962; omega⟩) ?_
        intro v hv; subst hv
        refine W.eq (g2 := F0 m 45 ls [.int (oS T rows (-1))]) rfl ?_
        refine lv_topi (fun x_1 ex_1 => ?_)
        refine lv_istore (lv' := [(5, .int x_1), (4, .ref na), (0, .ref x), (1, .int who), (2, .int v0), (3, .int sm)]) hx hb d_X_publish_45 hl (by decide) rfl (fun ls hl => ?_)
        refine lv_iload hx hb d_X_publish_47 (lv_at hl 0 rfl) ?_
        refine lv_iconst (v := (-1)) hx hb d_X_publish_49 (by decide) ?_
        refine lv_icmp_ne (tgt := 78) hx hb d_X_publish_50 (by decide) (fun c50 => ?_) (fun c50 => ?_)
        · skip
          refine lv_aload_n hx hb d_X_publish_78 rfl (lv_at hl 2 rfl) ?_
          refine va_get (D := g.1) (ci := 0) (C := R_X) (T := F_X) (N := 6) hx hb hts i_X hown hK.1 (cX_ob hX) 0 rfl rfl 1 (by decide) (hts (.fieldLink "RegistryLog" 19 "RegistryLog" "log" "LRegistryLog$Ledger;") (in_3 (List.mem_of_getElem? (i := 10) rfl) rfl)) (fun _ h9 => h9) rfl d_X_publish_79 ?_
          refine lv_iload hx hb d_X_publish_82 (lv_at hl 0 rfl) ?_
          refine lv_iload_n hx hb d_X_publish_84 rfl (lv_at hl 3 rfl) ?_
          refine aP (rV (As := [.int x_1, .int who]) (rest := []) C0 (c_L_hasRight l g _ (ad2 2) rows x_1 who (pL_isL (cX_log hX))) (zK_S hZ hS (cX_old hX0)) k_X_publish_85 rfl rfl ⟨Nat.le_of_ble_eq_true rfl, Nat.le_of_ble_eq_true rfl⟩ (isL_recv hK (pL_isL (cX_log hX))) rfl hl.1 rfl (Nat.le_of_ble_eq_true rfl) d_X_publish_85 ⟨by show 0 + 32 + 0 ≤ 33; omega, by show 0 + 954 + 0 ≤ 962; omega⟩) ?_
          intro v hv; subst hv
          refine W.eq (g2 := F0 m 88 ls [.int (bI (hsS rows x_1 who))]) rfl ?_
          refine z_eq (tgt := 109) (v := hsS rows x_1 who) hx hb d_X_publish_88 (by decide) (fun c88 => ?_) (fun c88 => ?_)
          · skip
            refine lv_iconst (v := bI false) hx hb d_X_publish_109 (by decide) ?_
            have ho1 : oS T rows (-1) = x_1 := ex_1.symm
            have hmy : pubC rows T who v0 = false := by unfold pubC; rw [ho1, if_neg c50, c88, Bool.false_and]
            exact absurd hmay (by rw [hmy]; decide)
          · skip
            refine lv_aload_n hx hb d_X_publish_91 rfl (lv_at hl 2 rfl) ?_
            refine va_get (D := g.1) (ci := 0) (C := R_X) (T := F_X) (N := 6) hx hb hts i_X hown hK.1 (cX_ob hX) 0 rfl rfl 1 (by decide) (hts (.fieldLink "RegistryLog" 19 "RegistryLog" "log" "LRegistryLog$Ledger;") (in_3 (List.mem_of_getElem? (i := 10) rfl) rfl)) (fun _ h9 => h9) rfl d_X_publish_92 ?_
            refine lv_iload hx hb d_X_publish_95 (lv_at hl 0 rfl) ?_
            refine lv_iload_n hx hb d_X_publish_97 rfl (lv_at hl 4 rfl) ?_
            refine aP (rV (As := [.int x_1, .int v0]) (rest := []) C0 (c_L_publishOf l g _ (ad2 2) rows x_1 v0 (pL_isL (cX_log hX))) (zK_S hZ hS (cX_old hX0)) k_X_publish_98 rfl rfl ⟨Nat.le_of_ble_eq_true rfl, Nat.le_of_ble_eq_true rfl⟩ (isL_recv hK (pL_isL (cX_log hX))) rfl hl.1 rfl (Nat.le_of_ble_eq_true rfl) d_X_publish_98 ⟨by show 0 + 32 + 0 ≤ 33; omega, by show 0 + 954 + 0 ≤ 962; omega⟩) ?_
            intro v hv; subst hv
            refine W.eq (g2 := F0 m 101 ls [.int (pubS x_1 v0 rows 0)]) rfl ?_
            refine lv_iconst (v := (-1)) hx hb d_X_publish_101 (by decide) ?_
            refine lv_icmp_ne (tgt := 109) hx hb d_X_publish_102 (by decide) (fun c102 => ?_) (fun c102 => ?_)
            · skip
              refine lv_iconst (v := bI false) hx hb d_X_publish_109 (by decide) ?_
              have ho1 : oS T rows (-1) = x_1 := ex_1.symm
              have hmy : pubC rows T who v0 = false := by unfold pubC; rw [ho1, if_neg c50, c88, decide_eq_false c102]; rfl
              exact absurd hmay (by rw [hmy]; decide)
            · skip
              refine lv_iconst (v := bI true) hx hb d_X_publish_105 (by decide) ?_
              refine lv_goto (tgt := 110) hx hb d_X_publish_106 (by decide) ?_
              have ho1 : oS T rows (-1) = x_1 := ex_1.symm
              have hmy : pubC rows T who v0 = true := by unfold pubC; rw [ho1, if_neg c50, c88, decide_eq_true c102]; rfl
              refine aP (rS (As := [.int (bI true)]) (rest := []) C0 (c_X_demandState l g _) (zK_S hZ hS (cX_old hX0)) k_X_publish_110 rfl rfl ⟨Nat.le_of_ble_eq_true rfl, Nat.le_of_ble_eq_true rfl⟩ rfl hl.1 rfl (Nat.le_of_ble_eq_true rfl) d_X_publish_110 ⟨by show 0 + 32 + 0 ≤ 33; omega, by show 0 + 954 + 0 ≤ 962; omega⟩) ?_
              intro v hv; subst hv
              refine W.eq (g2 := F0 m 113 ls []) rfl ?_
              refine lv_aload_n hx hb d_X_publish_113 rfl (lv_at hl 2 rfl) ?_
              rw [ho1, if_neg c50] at hog
              subst hog
              have hadq : ∀ j, j < 16 → ad2 j < H.size := fun j hj => cX_lt hX hj
              obtain ⟨z9, hz9⟩ : ∃ z9, z9 = H.size := ⟨_, rfl⟩
              rw [← hz9] at hadq
              have hzs : s.heap.size ≤ z9 := by rw [hz9]; exact hS.1
              have hS0 := hS
              refine s_new (ci := 4) (C := R_R) (T := F_R) (N := 8) hx hb hts i_R t_R t_R_ok hown (hts _ (in_4 (List.mem_of_getElem? (i := 102) rfl) rfl)) (hts _ (in_2 (List.mem_of_getElem? (i := 166) rfl) rfl)) (hts _ (in_1 (List.mem_of_getElem? (i := 19) rfl) rfl)) hK hS rfl (fs := [.int 0, .int 0, .null, .null, .int 0, .int 0, .int 0, .long 0]) (by decide) (by show 0 + 32 + 1 ≤ 33; omega) (by show 0 + 954 + 8 ≤ 962; omega) d_X_publish_114 (fun q1 H hq f_q1 hz o1 hS => ?_)
              have hX := cX_mv hX (Z' := fun a => Z a ∧ a ≠ q1) (fun a h1 h2 => ⟨o1 a (by rw [hq]; exact h2), h1, by omega⟩)
              have hN9 := pN_mv hN9 (P' := fun a => PX Z ad2 a ∧ a ≠ q1) (fun a h1 h2 => ⟨o1 a (by rw [hq]; exact h2), h1, by omega⟩)
              have ge_q1 : s.heap.size ≤ q1 := by rw [hq]; exact hS0.1
              refine lv_dup hx hb d_X_publish_117 rfl ?_
              refine lv_iconst (v := nI 0) hx hb d_X_publish_118 (by decide) ?_
              refine lv_iload_n hx hb d_X_publish_119 rfl (lv_at hl 3 rfl) ?_
              refine lv_aload hx hb d_X_publish_120 (lv_at hl 1 rfl) ?_
              refine lv_aload hx hb d_X_publish_122 (lv_at hl 1 rfl) ?_
              refine lv_iload_n hx hb d_X_publish_124 rfl (lv_at hl 4 rfl) ?_
              refine lv_iload_n hx hb d_X_publish_125 rfl (lv_at hl 5 rfl) ?_
              refine lv_iload hx hb d_X_publish_126 (lv_at hl 0 rfl) ?_
              refine aW (N := (fun a => a = q1)) (rI (As := [.int (nI 0), .int who, .ref na, .ref na, .int v0, .int sm, .int x_1]) (rest := [.ref q1, .ref x]) C0 (c_R_init l g _ q1 na na (nI 0) who v0 sm x_1 T T f_q1 (by omega) (pN_P hN9 (fun a h1 _ => h1.2)) (pN_P hN9 (fun a h1 _ => h1.2))) (zK_S hZ hS (cX_old hX0)) k_X_publish_128 rfl rfl ⟨Nat.le_of_ble_eq_true rfl, Nat.le_of_ble_eq_true rfl⟩ rfl hl.1 rfl (Nat.le_of_ble_eq_true rfl) d_X_publish_128 ⟨by show 0 + 32 + 1 + 0 ≤ 33; omega, by show 0 + 954 + 8 + 0 ≤ 962; omega⟩) (fun v H L hC1 hp hL => ?_)
              have hS0 := hS
              have hS := hS_call hS hC1 hL (fun a h => by rw [h]; exact Or.inr (by omega))
              obtain ⟨rfl, f_q1⟩ := hp
              have hX := cX_mv (Z' := Z) hX (fun a h1 h2 => ⟨hC_at hC1 h2 (fun z => h1.2 z), h1.1⟩)
              have hN9 := pN_mv (P' := PX Z ad2) hN9 (fun a h1 h2 => ⟨hC_at hC1 h2 (fun z => h1.2 z), h1.1⟩)
              have hR1 : pR (PX Z ad2) g H q1 ((nI 0), who, T, T, v0, sm, x_1) := ⟨na, na, ⟨fun j hj z => by have := hadq j hj; omega, hZb _ (by omega)⟩, f_q1, hN9, hN9⟩
              refine W.eq (g2 := F0 m 131 ls [.ref q1, .ref x]) rfl ?_
              refine aW (N := (NX ad2)) (rV (As := [.ref q1]) (rest := []) C0 (c_X_write l g _ Z x ad2 ms nm nw rows mir [] f k q f2 k2 hX q1 ((nI 0), who, T, T, v0, sm, x_1) hR1 hlt) (zK_S hZ hS (cX_old hX0)) k_X_publish_131 rfl rfl ⟨Nat.le_of_ble_eq_true rfl, Nat.le_of_ble_eq_true rfl⟩ (ob_recv hK (cX_ob hX) rfl) rfl hl.1 rfl (Nat.le_of_ble_eq_true rfl) d_X_publish_131 ⟨by show 0 + 32 + 1 + 0 + 0 ≤ 33; omega, by show 0 + 954 + 8 + 0 + 0 ≤ 962; omega⟩) (fun v H L hC1 hp hL => ?_)
              have hS0 := hS
              have hS := hS_call hS hC1 hL (fun a h => NX_U hv4 (by rw [← had2]; exact h))
              obtain ⟨rfl, hX⟩ := hp
              rw [had2] at hX
              refine W.eq (g2 := F0 m 134 ls [.int (nI rows.length)]) rfl ?_
              refine W.widen (k := 33) (n := 962) (by omega) (by omega) ?_
              exact W.iret hx hb hr (fun t9 ht hW => ⟨_, rfl, by rw [ht]; exact hS_hC hS, by rw [ht]; exact ⟨v2, rfl, hX⟩⟩) hS.2.2 d_X_publish_134 hlk
        · skip
          refine lv_aload_n hx hb d_X_publish_53 rfl (lv_at hl 2 rfl) ?_
          refine va_get (D := g.1) (ci := 0) (C := R_X) (T := F_X) (N := 6) hx hb hts i_X hown hK.1 (cX_ob hX) 0 rfl rfl 1 (by decide) (hts (.fieldLink "RegistryLog" 19 "RegistryLog" "log" "LRegistryLog$Ledger;") (in_3 (List.mem_of_getElem? (i := 10) rfl) rfl)) (fun _ h9 => h9) rfl d_X_publish_54 ?_
          refine lv_aload hx hb d_X_publish_57 (lv_at hl 1 rfl) ?_
          refine lv_iconst (v := (-1)) hx hb d_X_publish_59 (by decide) ?_
          refine aP (rV (As := [.ref na, .int ((-1))]) (rest := []) C0 (c_L_isFree l g _ (ad2 2) na rows T ((-1)) (pL_isL (cX_log hX)) (pN_isN hN9)) (zK_S hZ hS (cX_old hX0)) k_X_publish_60 rfl rfl ⟨Nat.le_of_ble_eq_true rfl, Nat.le_of_ble_eq_true rfl⟩ (isL_recv hK (pL_isL (cX_log hX))) rfl hl.1 rfl (Nat.le_of_ble_eq_true rfl) d_X_publish_60 ⟨by show 0 + 32 + 0 ≤ 33; omega, by show 0 + 954 + 0 ≤ 962; omega⟩) ?_
          intro v hv; subst hv
          refine W.eq (g2 := F0 m 63 ls [.int (bI (freeS T ((-1)) rows rows))]) rfl ?_
          have ho1 : oS T rows (-1) = x_1 := ex_1.symm
          have hmy : pubC rows T who v0 = freeS T ((-1)) rows rows := by unfold pubC; rw [ho1, if_pos c50]
          have hvv : freeS T ((-1)) rows rows = true := by rw [← hmy]; exact hmay
          refine W.eq (g2 := F0 m 63 ls [.int (bI true)]) (by rw [hvv]) ?_
          refine aP (rS (As := [.int (bI true)]) (rest := []) C0 (c_X_demandState l g _) (zK_S hZ hS (cX_old hX0)) k_X_publish_63 rfl rfl ⟨Nat.le_of_ble_eq_true rfl, Nat.le_of_ble_eq_true rfl⟩ rfl hl.1 rfl (Nat.le_of_ble_eq_true rfl) d_X_publish_63 ⟨by show 0 + 32 + 0 ≤ 33; omega, by show 0 + 954 + 0 ≤ 962; omega⟩) ?_
          intro v hv; subst hv
          refine W.eq (g2 := F0 m 66 ls []) rfl ?_
          refine lv_aload_n hx hb d_X_publish_66 rfl (lv_at hl 2 rfl) ?_
          refine va_get (D := g.1) (ci := 0) (C := R_X) (T := F_X) (N := 6) hx hb hts i_X hown hK.1 (cX_ob hX) 0 rfl rfl 1 (by decide) (hts (.fieldLink "RegistryLog" 19 "RegistryLog" "log" "LRegistryLog$Ledger;") (in_3 (List.mem_of_getElem? (i := 10) rfl) rfl)) (fun _ h9 => h9) rfl d_X_publish_67 ?_
          obtain ⟨n9, f9, fl0, -, -, hr120, -⟩ := id (cX_log hX)
          refine aP (rV (As := []) (rest := []) C0 (c_L_size l g _ (ad2 2) (ad2 3) n9 (nI rows.length) fl0) (zK_S hZ hS (cX_old hX0)) k_X_publish_70 rfl rfl ⟨Nat.le_of_ble_eq_true rfl, Nat.le_of_ble_eq_true rfl⟩ (ob_recv hK fl0 rfl) rfl hl.1 rfl (Nat.le_of_ble_eq_true rfl) d_X_publish_70 ⟨by show 0 + 32 + 0 ≤ 33; omega, by show 0 + 954 + 0 ≤ 962; omega⟩) ?_
          intro v hv; subst hv
          refine W.eq (g2 := F0 m 73 ls [.int (nI rows.length)]) rfl ?_
          refine lv_istore (lv' := [(5, .int (nI rows.length)), (4, .ref na), (0, .ref x), (1, .int who), (2, .int v0), (3, .int sm)]) hx hb d_X_publish_73 hl (by decide) rfl (fun ls hl => ?_)
          refine lv_goto (tgt := 113) hx hb d_X_publish_75 (by decide) ?_
          refine lv_aload_n hx hb d_X_publish_113 rfl (lv_at hl 2 rfl) ?_
          rw [ho1, if_pos c50] at hog
          subst hog
          have hadq : ∀ j, j < 16 → ad2 j < H.size := fun j hj => cX_lt hX hj
          obtain ⟨z9, hz9⟩ : ∃ z9, z9 = H.size := ⟨_, rfl⟩
          rw [← hz9] at hadq
          have hzs : s.heap.size ≤ z9 := by rw [hz9]; exact hS.1
          have hS0 := hS
          refine s_new (ci := 4) (C := R_R) (T := F_R) (N := 8) hx hb hts i_R t_R t_R_ok hown (hts _ (in_4 (List.mem_of_getElem? (i := 102) rfl) rfl)) (hts _ (in_2 (List.mem_of_getElem? (i := 166) rfl) rfl)) (hts _ (in_1 (List.mem_of_getElem? (i := 19) rfl) rfl)) hK hS rfl (fs := [.int 0, .int 0, .null, .null, .int 0, .int 0, .int 0, .long 0]) (by decide) (by show 0 + 32 + 1 ≤ 33; omega) (by show 0 + 954 + 8 ≤ 962; omega) d_X_publish_114 (fun q1 H hq f_q1 hz o1 hS => ?_)
          have hX := cX_mv hX (Z' := fun a => Z a ∧ a ≠ q1) (fun a h1 h2 => ⟨o1 a (by rw [hq]; exact h2), h1, by omega⟩)
          have hN9 := pN_mv hN9 (P' := fun a => PX Z ad2 a ∧ a ≠ q1) (fun a h1 h2 => ⟨o1 a (by rw [hq]; exact h2), h1, by omega⟩)
          have ge_q1 : s.heap.size ≤ q1 := by rw [hq]; exact hS0.1
          refine lv_dup hx hb d_X_publish_117 rfl ?_
          refine lv_iconst (v := nI 0) hx hb d_X_publish_118 (by decide) ?_
          refine lv_iload_n hx hb d_X_publish_119 rfl (lv_at hl 3 rfl) ?_
          refine lv_aload hx hb d_X_publish_120 (lv_at hl 1 rfl) ?_
          refine lv_aload hx hb d_X_publish_122 (lv_at hl 1 rfl) ?_
          refine lv_iload_n hx hb d_X_publish_124 rfl (lv_at hl 4 rfl) ?_
          refine lv_iload_n hx hb d_X_publish_125 rfl (lv_at hl 5 rfl) ?_
          refine lv_iload hx hb d_X_publish_126 (lv_at hl 0 rfl) ?_
          refine aW (N := (fun a => a = q1)) (rI (As := [.int (nI 0), .int who, .ref na, .ref na, .int v0, .int sm, .int (nI rows.length)]) (rest := [.ref q1, .ref x]) C0 (c_R_init l g _ q1 na na (nI 0) who v0 sm (nI rows.length) T T f_q1 (by omega) (pN_P hN9 (fun a h1 _ => h1.2)) (pN_P hN9 (fun a h1 _ => h1.2))) (zK_S hZ hS (cX_old hX0)) k_X_publish_128 rfl rfl ⟨Nat.le_of_ble_eq_true rfl, Nat.le_of_ble_eq_true rfl⟩ rfl hl.1 rfl (Nat.le_of_ble_eq_true rfl) d_X_publish_128 ⟨by show 0 + 32 + 1 + 0 ≤ 33; omega, by show 0 + 954 + 8 + 0 ≤ 962; omega⟩) (fun v H L hC1 hp hL => ?_)
          have hS0 := hS
          have hS := hS_call hS hC1 hL (fun a h => by rw [h]; exact Or.inr (by omega))
          obtain ⟨rfl, f_q1⟩ := hp
          have hX := cX_mv (Z' := Z) hX (fun a h1 h2 => ⟨hC_at hC1 h2 (fun z => h1.2 z), h1.1⟩)
          have hN9 := pN_mv (P' := PX Z ad2) hN9 (fun a h1 h2 => ⟨hC_at hC1 h2 (fun z => h1.2 z), h1.1⟩)
          have hR1 : pR (PX Z ad2) g H q1 ((nI 0), who, T, T, v0, sm, (nI rows.length)) := ⟨na, na, ⟨fun j hj z => by have := hadq j hj; omega, hZb _ (by omega)⟩, f_q1, hN9, hN9⟩
          refine W.eq (g2 := F0 m 131 ls [.ref q1, .ref x]) rfl ?_
          refine aW (N := (NX ad2)) (rV (As := [.ref q1]) (rest := []) C0 (c_X_write l g _ Z x ad2 ms nm nw rows mir [] f k q f2 k2 hX q1 ((nI 0), who, T, T, v0, sm, (nI rows.length)) hR1 hlt) (zK_S hZ hS (cX_old hX0)) k_X_publish_131 rfl rfl ⟨Nat.le_of_ble_eq_true rfl, Nat.le_of_ble_eq_true rfl⟩ (ob_recv hK (cX_ob hX) rfl) rfl hl.1 rfl (Nat.le_of_ble_eq_true rfl) d_X_publish_131 ⟨by show 0 + 32 + 1 + 0 + 0 ≤ 33; omega, by show 0 + 954 + 8 + 0 + 0 ≤ 962; omega⟩) (fun v H L hC1 hp hL => ?_)
          have hS0 := hS
          have hS := hS_call hS hC1 hL (fun a h => NX_U hv4 (by rw [← had2]; exact h))
          obtain ⟨rfl, hX⟩ := hp
          rw [had2] at hX
          refine W.eq (g2 := F0 m 134 ls [.int (nI rows.length)]) rfl ?_
          refine W.widen (k := 33) (n := 962) (by omega) (by omega) ?_
          exact W.iret hx hb hr (fun t9 ht hW => ⟨_, rfl, by rw [ht]; exact hS_hC hS, by rw [ht]; exact ⟨v2, rfl, hX⟩⟩) hS.2.2 d_X_publish_134 hlk
set_option maxHeartbeats 4000000 in
set_option maxRecDepth 100000 in
/-- publish, bad -/
theorem x_X_publishB (l : Launch) (g : gG) (H : Heap) (htr : ∀ e, l.admits e → e.platform.stackTraces = false) (Z : Nat → Prop) (x : Nat) (ad : Nat → Nat) (ms nm nw : Nat) (rows : List Rw) (mir : Nat → List Rw) (T : List Nat) (f : Nat → Int64) (k q : Nat) (f2 : Nat → Int64) (k2 : Nat) (hX : cX Z g H x ad ms nm nw rows mir T f k q f2 k2 0) (hsz : g.2.2.1 ≤ H.size) (hZb : ∀ a, H.size ≤ a → Z a) (who v0 sm : Int32) (hbad : (nameS T && (decide (0 ≤ who ∧ who < 8) && decide (0 ≤ v0 ∧ v0 < 1000))) = false) : MetX l y_X_publish (wC y_X_publish b_X_publish 6 (some .int)) (rmk 9 34 968 197) (pC g H [.ref x, .int who, .int v0, .int sm]) (qX H (NX ad) iaE (fun H1 => ∃ v2, cX Z g H1 x (adU ad v2) ms nm nw rows mir ([]) f k q f2 k2 0)) 34 968 (fW H (NX ad)) := by
  refine mX (by decide) (Nat.le_of_ble_eq_true rfl) ?_
  intro p e s m below meth c ls C0 hH hZ hno hl
  have C0 : cF g p s m _ meth c b_X_publish 6 "RegistryLog" (some .int) := C0
  obtain ⟨hx, hb, hml, hown, hts, hr, hlk, hK⟩ := id C0
  subst hH
  have hl : lv_has ls 6 [(0, .ref x), (1, .int who), (2, .int v0), (3, .int sm)] := hl
  have hS : va_S (fW s.heap (NX ad)) s.heap s.heap [] := hS_rf
  have hX0 := hX
  have ad0 := cX_lt hX0 (j := 0) (by decide)
  have ad1 := cX_lt hX0 (j := 1) (by decide)
  refine lv_aload_n hx hb d_X_publish_0 rfl (lv_at hl 0 rfl) ?_
  refine aW (N := (NX ad)) (rV (As := []) (rest := []) C0 (c_X_takeName l g _ Z x ad ms nm nw rows mir T f k q f2 k2 hX hsz hZb) (zK_S hZ hS (cX_old hX0)) k_X_publish_1 rfl rfl ⟨Nat.le_of_ble_eq_true rfl, Nat.le_of_ble_eq_true rfl⟩ (ob_recv hK (cX_ob hX) rfl) rfl hl.1 rfl (Nat.le_of_ble_eq_true rfl) d_X_publish_1 ⟨by show 0 + 32 ≤ 34; omega, by show 0 + 954 ≤ 968; omega⟩) (fun v H L hC1 hp hL => ?_)
  have hS0 := hS
  have hS := hS_call hS hC1 hL (fun a h => Or.inl h)
  obtain ⟨na, v2, rfl, hna, hN9, hX, hv4⟩ := hp
  obtain ⟨ad2, had2⟩ : ∃ ad2, ad2 = adU ad v2 := ⟨_, rfl⟩
  rw [← had2] at hX hN9
  have hsz2 := hS.1
  refine W.eq (g2 := F0 m 4 ls [.ref na]) rfl ?_
  refine lv_astore (lv' := [(4, .ref na), (0, .ref x), (1, .int who), (2, .int v0), (3, .int sm)]) hx hb d_X_publish_4 hl (by decide) rfl (fun ls hl => ?_)
  refine lv_aload hx hb d_X_publish_6 (lv_at hl 0 rfl) ?_
  refine aP (rV (As := []) (rest := []) C0 (c_N_isName l g _ na T (pN_isN hN9)) (zK_S hZ hS (cX_old hX0)) k_X_publish_8 rfl rfl ⟨Nat.le_of_ble_eq_true rfl, Nat.le_of_ble_eq_true rfl⟩ (isN_recv hK (pN_isN hN9)) rfl hl.1 rfl (Nat.le_of_ble_eq_true rfl) d_X_publish_8 ⟨by show 0 + 32 + 0 ≤ 34; omega, by show 0 + 954 + 0 ≤ 968; omega⟩) ?_
  intro v hv; subst hv
  refine W.eq (g2 := F0 m 11 ls [.int (bI (nameS T))]) rfl ?_
  refine z_eq (tgt := 32) (v := nameS T) hx hb d_X_publish_11 (by decide) (fun c11 => ?_) (fun c11 => ?_)
  · skip
    refine lv_iconst (v := bI false) hx hb d_X_publish_32 (by decide) ?_
    refine rSX (As := [.int (bI false)]) (rest := []) C0 (x_X_demandArguments l g _ htr) (zK_S hZ hS (cX_old hX0)) k_X_publish_33 rfl rfl ⟨Nat.le_of_ble_eq_true rfl, Nat.le_of_ble_eq_true rfl⟩ rfl hl.1 rfl (Nat.le_of_ble_eq_true rfl) d_X_publish_33 ⟨by show 0 + 32 + 1 ≤ 34; omega, by show 0 + 954 + 6 ≤ 968; omega⟩ (fun x9 H L st hW9 hq9 hL => ?_)
    obtain ⟨hx1, ⟨ce, hx2, hx3, hx4⟩, hC1, hp⟩ := hq9
    have hS1 := hS_call hS hC1 hL (fun q h => h.elim)
    refine WX.widen (k := 34) (n := 968) (by omega) (by omega) ?_
    refine WX.out hno ⟨Nat.le_trans hS.1 hx1, ⟨ce, hx2, hx3, by rw [← hW9.alike.findClass]; exact hx4⟩, hS_hC hS1, ⟨v2, by rw [← had2]; exact cX_new hX hC1⟩⟩ hS1.2.2 hlk
  · skip
    refine lv_iload_n hx hb d_X_publish_14 rfl (lv_at hl 2 rfl) ?_
    refine aP (rS (As := [.int who]) (rest := []) C0 (c_X_isPerson l g _ who) (zK_S hZ hS (cX_old hX0)) k_X_publish_15 rfl rfl ⟨Nat.le_of_ble_eq_true rfl, Nat.le_of_ble_eq_true rfl⟩ rfl hl.1 rfl (Nat.le_of_ble_eq_true rfl) d_X_publish_15 ⟨by show 0 + 32 + 0 ≤ 34; omega, by show 0 + 954 + 0 ≤ 968; omega⟩) ?_
    intro v hv; subst hv
    refine W.eq (g2 := F0 m 18 ls [.int (bI (decide (0 ≤ who ∧ who < 8)))]) rfl ?_
    refine z_eq (tgt := 32) (v := decide (0 ≤ who ∧ who < 8)) hx hb d_X_publish_18 (by decide) (fun c18 => ?_) (fun c18 => ?_)
    · skip
      refine lv_iconst (v := bI false) hx hb d_X_publish_32 (by decide) ?_
      refine rSX (As := [.int (bI false)]) (rest := []) C0 (x_X_demandArguments l g _ htr) (zK_S hZ hS (cX_old hX0)) k_X_publish_33 rfl rfl ⟨Nat.le_of_ble_eq_true rfl, Nat.le_of_ble_eq_true rfl⟩ rfl hl.1 rfl (Nat.le_of_ble_eq_true rfl) d_X_publish_33 ⟨by show 0 + 32 + 1 ≤ 34; omega, by show 0 + 954 + 6 ≤ 968; omega⟩ (fun x9 H L st hW9 hq9 hL => ?_)
      obtain ⟨hx1, ⟨ce, hx2, hx3, hx4⟩, hC1, hp⟩ := hq9
      have hS1 := hS_call hS hC1 hL (fun q h => h.elim)
      refine WX.widen (k := 34) (n := 968) (by omega) (by omega) ?_
      refine WX.out hno ⟨Nat.le_trans hS.1 hx1, ⟨ce, hx2, hx3, by rw [← hW9.alike.findClass]; exact hx4⟩, hS_hC hS1, ⟨v2, by rw [← had2]; exact cX_new hX hC1⟩⟩ hS1.2.2 hlk
    · skip
      refine lv_iload_n hx hb d_X_publish_21 rfl (lv_at hl 3 rfl) ?_
      refine aP (rS (As := [.int v0]) (rest := []) C0 (c_X_isVersion l g _ v0) (zK_S hZ hS (cX_old hX0)) k_X_publish_22 rfl rfl ⟨Nat.le_of_ble_eq_true rfl, Nat.le_of_ble_eq_true rfl⟩ rfl hl.1 rfl (Nat.le_of_ble_eq_true rfl) d_X_publish_22 ⟨by show 0 + 32 + 0 ≤ 34; omega, by show 0 + 954 + 0 ≤ 968; omega⟩) ?_
      intro v hv; subst hv
      refine W.eq (g2 := F0 m 25 ls [.int (bI (decide (0 ≤ v0 ∧ v0 < 1000)))]) rfl ?_
      refine z_eq (tgt := 32) (v := decide (0 ≤ v0 ∧ v0 < 1000)) hx hb d_X_publish_25 (by decide) (fun c25 => ?_) (fun c25 => ?_)
      · skip
        refine lv_iconst (v := bI false) hx hb d_X_publish_32 (by decide) ?_
        refine rSX (As := [.int (bI false)]) (rest := []) C0 (x_X_demandArguments l g _ htr) (zK_S hZ hS (cX_old hX0)) k_X_publish_33 rfl rfl ⟨Nat.le_of_ble_eq_true rfl, Nat.le_of_ble_eq_true rfl⟩ rfl hl.1 rfl (Nat.le_of_ble_eq_true rfl) d_X_publish_33 ⟨by show 0 + 32 + 1 ≤ 34; omega, by show 0 + 954 + 6 ≤ 968; omega⟩ (fun x9 H L st hW9 hq9 hL => ?_)
        obtain ⟨hx1, ⟨ce, hx2, hx3, hx4⟩, hC1, hp⟩ := hq9
        have hS1 := hS_call hS hC1 hL (fun q h => h.elim)
        refine WX.widen (k := 34) (n := 968) (by omega) (by omega) ?_
        refine WX.out hno ⟨Nat.le_trans hS.1 hx1, ⟨ce, hx2, hx3, by rw [← hW9.alike.findClass]; exact hx4⟩, hS_hC hS1, ⟨v2, by rw [← had2]; exact cX_new hX hC1⟩⟩ hS1.2.2 hlk
      · skip
        refine lv_iconst (v := bI true) hx hb d_X_publish_28 (by decide) ?_
        refine lv_goto (tgt := 33) hx hb d_X_publish_29 (by decide) ?_
        exact absurd hbad (by rw [c11, c18, c25]; decide)
set_option maxHeartbeats 4000000 in
set_option maxRecDepth 100000 in
/-- publish, st -/
theorem x_X_publishS (l : Launch) (g : gG) (H : Heap) (htr : ∀ e, l.admits e → e.platform.stackTraces = false) (Z : Nat → Prop) (x : Nat) (ad : Nat → Nat) (ms nm nw : Nat) (rows : List Rw) (mir : Nat → List Rw) (T : List Nat) (f : Nat → Int64) (k q : Nat) (f2 : Nat → Int64) (k2 : Nat) (hX : cX Z g H x ad ms nm nw rows mir T f k q f2 k2 0) (hsz : g.2.2.1 ≤ H.size) (hZb : ∀ a, H.size ≤ a → Z a) (who v0 sm : Int32) (hA1 : nameS T = true) (hA2 : decide (0 ≤ who ∧ who < 8) = true) (hA3 : decide (0 ≤ v0 ∧ v0 < 1000) = true) (hst : pubC rows T who v0 = false) : MetX l y_X_publish (wC y_X_publish b_X_publish 6 (some .int)) (rmk 9 34 968 197) (pC g H [.ref x, .int who, .int v0, .int sm]) (qX H (NX ad) isE (fun H1 => ∃ v2, cX Z g H1 x (adU ad v2) ms nm nw rows mir ([]) f k q f2 k2 0)) 34 968 (fW H (NX ad)) := by
  refine mX (by decide) (Nat.le_of_ble_eq_true rfl) ?_
  intro p e s m below meth c ls C0 hH hZ hno hl
  have C0 : cF g p s m _ meth c b_X_publish 6 "RegistryLog" (some .int) := C0
  obtain ⟨hx, hb, hml, hown, hts, hr, hlk, hK⟩ := id C0
  subst hH
  have hl : lv_has ls 6 [(0, .ref x), (1, .int who), (2, .int v0), (3, .int sm)] := hl
  have hS : va_S (fW s.heap (NX ad)) s.heap s.heap [] := hS_rf
  have hX0 := hX
  have ad0 := cX_lt hX0 (j := 0) (by decide)
  have ad1 := cX_lt hX0 (j := 1) (by decide)
  refine lv_aload_n hx hb d_X_publish_0 rfl (lv_at hl 0 rfl) ?_
  refine aW (N := (NX ad)) (rV (As := []) (rest := []) C0 (c_X_takeName l g _ Z x ad ms nm nw rows mir T f k q f2 k2 hX hsz hZb) (zK_S hZ hS (cX_old hX0)) k_X_publish_1 rfl rfl ⟨Nat.le_of_ble_eq_true rfl, Nat.le_of_ble_eq_true rfl⟩ (ob_recv hK (cX_ob hX) rfl) rfl hl.1 rfl (Nat.le_of_ble_eq_true rfl) d_X_publish_1 ⟨by show 0 + 32 ≤ 34; omega, by show 0 + 954 ≤ 968; omega⟩) (fun v H L hC1 hp hL => ?_)
  have hS0 := hS
  have hS := hS_call hS hC1 hL (fun a h => Or.inl h)
  obtain ⟨na, v2, rfl, hna, hN9, hX, hv4⟩ := hp
  obtain ⟨ad2, had2⟩ : ∃ ad2, ad2 = adU ad v2 := ⟨_, rfl⟩
  rw [← had2] at hX hN9
  have hsz2 := hS.1
  refine W.eq (g2 := F0 m 4 ls [.ref na]) rfl ?_
  refine lv_astore (lv' := [(4, .ref na), (0, .ref x), (1, .int who), (2, .int v0), (3, .int sm)]) hx hb d_X_publish_4 hl (by decide) rfl (fun ls hl => ?_)
  refine lv_aload hx hb d_X_publish_6 (lv_at hl 0 rfl) ?_
  refine aP (rV (As := []) (rest := []) C0 (c_N_isName l g _ na T (pN_isN hN9)) (zK_S hZ hS (cX_old hX0)) k_X_publish_8 rfl rfl ⟨Nat.le_of_ble_eq_true rfl, Nat.le_of_ble_eq_true rfl⟩ (isN_recv hK (pN_isN hN9)) rfl hl.1 rfl (Nat.le_of_ble_eq_true rfl) d_X_publish_8 ⟨by show 0 + 32 + 0 ≤ 34; omega, by show 0 + 954 + 0 ≤ 968; omega⟩) ?_
  intro v hv; subst hv
  refine W.eq (g2 := F0 m 11 ls [.int (bI (nameS T))]) rfl ?_
  refine z_eq (tgt := 32) (v := nameS T) hx hb d_X_publish_11 (by decide) (fun c11 => ?_) (fun c11 => ?_)
  · skip
    exact absurd hA1 (by rw [c11]; decide)
  · skip
    refine lv_iload_n hx hb d_X_publish_14 rfl (lv_at hl 2 rfl) ?_
    refine aP (rS (As := [.int who]) (rest := []) C0 (c_X_isPerson l g _ who) (zK_S hZ hS (cX_old hX0)) k_X_publish_15 rfl rfl ⟨Nat.le_of_ble_eq_true rfl, Nat.le_of_ble_eq_true rfl⟩ rfl hl.1 rfl (Nat.le_of_ble_eq_true rfl) d_X_publish_15 ⟨by show 0 + 32 + 0 ≤ 34; omega, by show 0 + 954 + 0 ≤ 968; omega⟩) ?_
    intro v hv; subst hv
    refine W.eq (g2 := F0 m 18 ls [.int (bI (decide (0 ≤ who ∧ who < 8)))]) rfl ?_
    refine z_eq (tgt := 32) (v := decide (0 ≤ who ∧ who < 8)) hx hb d_X_publish_18 (by decide) (fun c18 => ?_) (fun c18 => ?_)
    · skip
      exact absurd hA2 (by rw [c18]; decide)
    · skip
      refine lv_iload_n hx hb d_X_publish_21 rfl (lv_at hl 3 rfl) ?_
      refine aP (rS (As := [.int v0]) (rest := []) C0 (c_X_isVersion l g _ v0) (zK_S hZ hS (cX_old hX0)) k_X_publish_22 rfl rfl ⟨Nat.le_of_ble_eq_true rfl, Nat.le_of_ble_eq_true rfl⟩ rfl hl.1 rfl (Nat.le_of_ble_eq_true rfl) d_X_publish_22 ⟨by show 0 + 32 + 0 ≤ 34; omega, by show 0 + 954 + 0 ≤ 968; omega⟩) ?_
      intro v hv; subst hv
      refine W.eq (g2 := F0 m 25 ls [.int (bI (decide (0 ≤ v0 ∧ v0 < 1000)))]) rfl ?_
      refine z_eq (tgt := 32) (v := decide (0 ≤ v0 ∧ v0 < 1000)) hx hb d_X_publish_25 (by decide) (fun c25 => ?_) (fun c25 => ?_)
      · skip
        exact absurd hA3 (by rw [c25]; decide)
      · skip
        refine lv_iconst (v := bI true) hx hb d_X_publish_28 (by decide) ?_
        refine lv_goto (tgt := 33) hx hb d_X_publish_29 (by decide) ?_
        refine aP (rS (As := [.int (bI true)]) (rest := []) C0 (c_X_demandArguments l g _) (zK_S hZ hS (cX_old hX0)) k_X_publish_33 rfl rfl ⟨Nat.le_of_ble_eq_true rfl, Nat.le_of_ble_eq_true rfl⟩ rfl hl.1 rfl (Nat.le_of_ble_eq_true rfl) d_X_publish_33 ⟨by show 0 + 32 + 0 ≤ 34; omega, by show 0 + 954 + 0 ≤ 968; omega⟩) ?_
        intro v hv; subst hv
        refine W.eq (g2 := F0 m 36 ls []) rfl ?_
        refine lv_aload_n hx hb d_X_publish_36 rfl (lv_at hl 1 rfl) ?_
        refine va_get (D := g.1) (ci := 0) (C := R_X) (T := F_X) (N := 6) hx hb hts i_X hown hK.1 (cX_ob hX) 0 rfl rfl 1 (by decide) (hts (.fieldLink "RegistryLog" 19 "RegistryLog" "log" "LRegistryLog$Ledger;") (in_3 (List.mem_of_getElem? (i := 10) rfl) rfl)) (fun _ h9 => h9) rfl d_X_publish_37 ?_
        refine lv_aload hx hb d_X_publish_40 (lv_at hl 0 rfl) ?_
        refine aP (rV (As := [.ref na]) (rest := []) C0 (c_L_originOf l g _ (ad2 2) na rows T (pL_isL (cX_log hX)) (pN_isN hN9)) (zK_S hZ hS (cX_old hX0)) k_X_publish_42 rfl rfl ⟨Nat.le_of_ble_eq_true rfl, Nat.le_of_ble_eq_true rfl⟩ (isL_recv hK (pL_isL (cX_log hX))) rfl hl.1 rfl (Nat.le_of_ble_eq_true rfl) d_X_publish_42 ⟨by show 0 + 32 + 0 ≤ 34; omega, by show 0 + 954 + 0 ≤ 968; omega⟩) ?_
        intro v hv; subst hv
        refine W.eq (g2 := F0 m 45 ls [.int (oS T rows (-1))]) rfl ?_
        refine lv_topi (fun x_1 ex_1 => ?_)
        refine lv_istore (lv' := [(5, .int x_1), (4, .ref na), (0, .ref x), (1, .int who), (2, .int v0), (3, .int sm)]) hx hb d_X_publish_45 hl (by decide) rfl (fun ls hl => ?_)
        refine lv_iload hx hb d_X_publish_47 (lv_at hl 0 rfl) ?_
        refine lv_iconst (v := (-1)) hx hb d_X_publish_49 (by decide) ?_
        refine lv_icmp_ne (tgt := 78) hx hb d_X_publish_50 (by decide) (fun c50 => ?_) (fun c50 => ?_)
        · skip
          refine lv_aload_n hx hb d_X_publish_78 rfl (lv_at hl 2 rfl) ?_
          refine va_get (D := g.1) (ci := 0) (C := R_X) (T := F_X) (N := 6) hx hb hts i_X hown hK.1 (cX_ob hX) 0 rfl rfl 1 (by decide) (hts (.fieldLink "RegistryLog" 19 "RegistryLog" "log" "LRegistryLog$Ledger;") (in_3 (List.mem_of_getElem? (i := 10) rfl) rfl)) (fun _ h9 => h9) rfl d_X_publish_79 ?_
          refine lv_iload hx hb d_X_publish_82 (lv_at hl 0 rfl) ?_
          refine lv_iload_n hx hb d_X_publish_84 rfl (lv_at hl 3 rfl) ?_
          refine aP (rV (As := [.int x_1, .int who]) (rest := []) C0 (c_L_hasRight l g _ (ad2 2) rows x_1 who (pL_isL (cX_log hX))) (zK_S hZ hS (cX_old hX0)) k_X_publish_85 rfl rfl ⟨Nat.le_of_ble_eq_true rfl, Nat.le_of_ble_eq_true rfl⟩ (isL_recv hK (pL_isL (cX_log hX))) rfl hl.1 rfl (Nat.le_of_ble_eq_true rfl) d_X_publish_85 ⟨by show 0 + 32 + 0 ≤ 34; omega, by show 0 + 954 + 0 ≤ 968; omega⟩) ?_
          intro v hv; subst hv
          refine W.eq (g2 := F0 m 88 ls [.int (bI (hsS rows x_1 who))]) rfl ?_
          refine z_eq (tgt := 109) (v := hsS rows x_1 who) hx hb d_X_publish_88 (by decide) (fun c88 => ?_) (fun c88 => ?_)
          · skip
            refine lv_iconst (v := bI false) hx hb d_X_publish_109 (by decide) ?_
            have ho1 : oS T rows (-1) = x_1 := ex_1.symm
            have hmy : pubC rows T who v0 = false := by unfold pubC; rw [ho1, if_neg c50, c88, Bool.false_and]
            refine rSX (As := [.int (bI false)]) (rest := []) C0 (x_X_demandState l g _ htr) (zK_S hZ hS (cX_old hX0)) k_X_publish_110 rfl rfl ⟨Nat.le_of_ble_eq_true rfl, Nat.le_of_ble_eq_true rfl⟩ rfl hl.1 rfl (Nat.le_of_ble_eq_true rfl) d_X_publish_110 ⟨by show 0 + 32 + 1 ≤ 34; omega, by show 0 + 954 + 6 ≤ 968; omega⟩ (fun x9 H L st hW9 hq9 hL => ?_)
            obtain ⟨hx1, ⟨ce, hx2, hx3, hx4⟩, hC1, hp⟩ := hq9
            have hS1 := hS_call hS hC1 hL (fun q h => h.elim)
            refine WX.widen (k := 34) (n := 968) (by omega) (by omega) ?_
            refine WX.out hno ⟨Nat.le_trans hS.1 hx1, ⟨ce, hx2, hx3, by rw [← hW9.alike.findClass]; exact hx4⟩, hS_hC hS1, ⟨v2, by rw [← had2]; exact cX_new hX hC1⟩⟩ hS1.2.2 hlk
          · skip
            refine lv_aload_n hx hb d_X_publish_91 rfl (lv_at hl 2 rfl) ?_
            refine va_get (D := g.1) (ci := 0) (C := R_X) (T := F_X) (N := 6) hx hb hts i_X hown hK.1 (cX_ob hX) 0 rfl rfl 1 (by decide) (hts (.fieldLink "RegistryLog" 19 "RegistryLog" "log" "LRegistryLog$Ledger;") (in_3 (List.mem_of_getElem? (i := 10) rfl) rfl)) (fun _ h9 => h9) rfl d_X_publish_92 ?_
            refine lv_iload hx hb d_X_publish_95 (lv_at hl 0 rfl) ?_
            refine lv_iload_n hx hb d_X_publish_97 rfl (lv_at hl 4 rfl) ?_
            refine aP (rV (As := [.int x_1, .int v0]) (rest := []) C0 (c_L_publishOf l g _ (ad2 2) rows x_1 v0 (pL_isL (cX_log hX))) (zK_S hZ hS (cX_old hX0)) k_X_publish_98 rfl rfl ⟨Nat.le_of_ble_eq_true rfl, Nat.le_of_ble_eq_true rfl⟩ (isL_recv hK (pL_isL (cX_log hX))) rfl hl.1 rfl (Nat.le_of_ble_eq_true rfl) d_X_publish_98 ⟨by show 0 + 32 + 0 ≤ 34; omega, by show 0 + 954 + 0 ≤ 968; omega⟩) ?_
            intro v hv; subst hv
            refine W.eq (g2 := F0 m 101 ls [.int (pubS x_1 v0 rows 0)]) rfl ?_
            refine lv_iconst (v := (-1)) hx hb d_X_publish_101 (by decide) ?_
            refine lv_icmp_ne (tgt := 109) hx hb d_X_publish_102 (by decide) (fun c102 => ?_) (fun c102 => ?_)
            · skip
              refine lv_iconst (v := bI false) hx hb d_X_publish_109 (by decide) ?_
              have ho1 : oS T rows (-1) = x_1 := ex_1.symm
              have hmy : pubC rows T who v0 = false := by unfold pubC; rw [ho1, if_neg c50, c88, decide_eq_false c102]; rfl
              refine rSX (As := [.int (bI false)]) (rest := []) C0 (x_X_demandState l g _ htr) (zK_S hZ hS (cX_old hX0)) k_X_publish_110 rfl rfl ⟨Nat.le_of_ble_eq_true rfl, Nat.le_of_ble_eq_true rfl⟩ rfl hl.1 rfl (Nat.le_of_ble_eq_true rfl) d_X_publish_110 ⟨by show 0 + 32 + 1 ≤ 34; omega, by show 0 + 954 + 6 ≤ 968; omega⟩ (fun x9 H L st hW9 hq9 hL => ?_)
              obtain ⟨hx1, ⟨ce, hx2, hx3, hx4⟩, hC1, hp⟩ := hq9
              have hS1 := hS_call hS hC1 hL (fun q h => h.elim)
              refine WX.widen (k := 34) (n := 968) (by omega) (by omega) ?_
              refine WX.out hno ⟨Nat.le_trans hS.1 hx1, ⟨ce, hx2, hx3, by rw [← hW9.alike.findClass]; exact hx4⟩, hS_hC hS1, ⟨v2, by rw [← had2]; exact cX_new hX hC1⟩⟩ hS1.2.2 hlk
            · skip
              refine lv_iconst (v := bI true) hx hb d_X_publish_105 (by decide) ?_
              refine lv_goto (tgt := 110) hx hb d_X_publish_106 (by decide) ?_
              have ho1 : oS T rows (-1) = x_1 := ex_1.symm
              have hmy : pubC rows T who v0 = true := by unfold pubC; rw [ho1, if_neg c50, c88, decide_eq_true c102]; rfl
              exact absurd hst (by rw [hmy]; decide)
        · skip
          refine lv_aload_n hx hb d_X_publish_53 rfl (lv_at hl 2 rfl) ?_
          refine va_get (D := g.1) (ci := 0) (C := R_X) (T := F_X) (N := 6) hx hb hts i_X hown hK.1 (cX_ob hX) 0 rfl rfl 1 (by decide) (hts (.fieldLink "RegistryLog" 19 "RegistryLog" "log" "LRegistryLog$Ledger;") (in_3 (List.mem_of_getElem? (i := 10) rfl) rfl)) (fun _ h9 => h9) rfl d_X_publish_54 ?_
          refine lv_aload hx hb d_X_publish_57 (lv_at hl 1 rfl) ?_
          refine lv_iconst (v := (-1)) hx hb d_X_publish_59 (by decide) ?_
          refine aP (rV (As := [.ref na, .int ((-1))]) (rest := []) C0 (c_L_isFree l g _ (ad2 2) na rows T ((-1)) (pL_isL (cX_log hX)) (pN_isN hN9)) (zK_S hZ hS (cX_old hX0)) k_X_publish_60 rfl rfl ⟨Nat.le_of_ble_eq_true rfl, Nat.le_of_ble_eq_true rfl⟩ (isL_recv hK (pL_isL (cX_log hX))) rfl hl.1 rfl (Nat.le_of_ble_eq_true rfl) d_X_publish_60 ⟨by show 0 + 32 + 0 ≤ 34; omega, by show 0 + 954 + 0 ≤ 968; omega⟩) ?_
          intro v hv; subst hv
          refine W.eq (g2 := F0 m 63 ls [.int (bI (freeS T ((-1)) rows rows))]) rfl ?_
          have ho1 : oS T rows (-1) = x_1 := ex_1.symm
          have hmy : pubC rows T who v0 = freeS T ((-1)) rows rows := by unfold pubC; rw [ho1, if_pos c50]
          have hvv : freeS T ((-1)) rows rows = false := by rw [← hmy]; exact hst
          refine W.eq (g2 := F0 m 63 ls [.int (bI false)]) (by rw [hvv]) ?_
          refine rSX (As := [.int (bI false)]) (rest := []) C0 (x_X_demandState l g _ htr) (zK_S hZ hS (cX_old hX0)) k_X_publish_63 rfl rfl ⟨Nat.le_of_ble_eq_true rfl, Nat.le_of_ble_eq_true rfl⟩ rfl hl.1 rfl (Nat.le_of_ble_eq_true rfl) d_X_publish_63 ⟨by show 0 + 32 + 1 ≤ 34; omega, by show 0 + 954 + 6 ≤ 968; omega⟩ (fun x9 H L st hW9 hq9 hL => ?_)
          obtain ⟨hx1, ⟨ce, hx2, hx3, hx4⟩, hC1, hp⟩ := hq9
          have hS1 := hS_call hS hC1 hL (fun q h => h.elim)
          refine WX.widen (k := 34) (n := 968) (by omega) (by omega) ?_
          refine WX.out hno ⟨Nat.le_trans hS.1 hx1, ⟨ce, hx2, hx3, by rw [← hW9.alike.findClass]; exact hx4⟩, hS_hC hS1, ⟨v2, by rw [← had2]; exact cX_new hX hC1⟩⟩ hS1.2.2 hlk
set_option maxHeartbeats 4000000 in
set_option maxRecDepth 100000 in
/-- publish, full -/
theorem x_X_publishF (l : Launch) (g : gG) (H : Heap) (htr : ∀ e, l.admits e → e.platform.stackTraces = false) (Z : Nat → Prop) (x : Nat) (ad : Nat → Nat) (ms nm nw : Nat) (rows : List Rw) (mir : Nat → List Rw) (T : List Nat) (f : Nat → Int64) (k q : Nat) (f2 : Nat → Int64) (k2 : Nat) (hX : cX Z g H x ad ms nm nw rows mir T f k q f2 k2 0) (hsz : g.2.2.1 ≤ H.size) (hZb : ∀ a, H.size ≤ a → Z a) (who v0 sm : Int32) (og0 : Int32) (hA1 : nameS T = true) (hA2 : decide (0 ≤ who ∧ who < 8) = true) (hA3 : decide (0 ≤ v0 ∧ v0 < 1000) = true) (hmay : pubC rows T who v0 = true) (hog : (if oS T rows (-1) = -1 then nI rows.length else oS T rows (-1)) = og0) (hge : ¬ rows.length < 120) : MetX l y_X_publish (wC y_X_publish b_X_publish 6 (some .int)) (rmk 9 34 968 197) (pC g H [.ref x, .int who, .int v0, .int sm]) (qX H (NX ad) isE (fun H1 => ∃ v2, cX Z g H1 x (adU ad v2) ms nm nw rows mir ([]) f k q f2 k2 0)) 34 968 (fW H (NX ad)) := by
  refine mX (by decide) (Nat.le_of_ble_eq_true rfl) ?_
  intro p e s m below meth c ls C0 hH hZ hno hl
  have C0 : cF g p s m _ meth c b_X_publish 6 "RegistryLog" (some .int) := C0
  obtain ⟨hx, hb, hml, hown, hts, hr, hlk, hK⟩ := id C0
  subst hH
  have hl : lv_has ls 6 [(0, .ref x), (1, .int who), (2, .int v0), (3, .int sm)] := hl
  have hS : va_S (fW s.heap (NX ad)) s.heap s.heap [] := hS_rf
  have hX0 := hX
  have ad0 := cX_lt hX0 (j := 0) (by decide)
  have ad1 := cX_lt hX0 (j := 1) (by decide)
  refine lv_aload_n hx hb d_X_publish_0 rfl (lv_at hl 0 rfl) ?_
  refine aW (N := (NX ad)) (rV (As := []) (rest := []) C0 (c_X_takeName l g _ Z x ad ms nm nw rows mir T f k q f2 k2 hX hsz hZb) (zK_S hZ hS (cX_old hX0)) k_X_publish_1 rfl rfl ⟨Nat.le_of_ble_eq_true rfl, Nat.le_of_ble_eq_true rfl⟩ (ob_recv hK (cX_ob hX) rfl) rfl hl.1 rfl (Nat.le_of_ble_eq_true rfl) d_X_publish_1 ⟨by show 0 + 32 ≤ 34; omega, by show 0 + 954 ≤ 968; omega⟩) (fun v H L hC1 hp hL => ?_)
  have hS0 := hS
  have hS := hS_call hS hC1 hL (fun a h => Or.inl h)
  obtain ⟨na, v2, rfl, hna, hN9, hX, hv4⟩ := hp
  obtain ⟨ad2, had2⟩ : ∃ ad2, ad2 = adU ad v2 := ⟨_, rfl⟩
  rw [← had2] at hX hN9
  have hsz2 := hS.1
  refine W.eq (g2 := F0 m 4 ls [.ref na]) rfl ?_
  refine lv_astore (lv' := [(4, .ref na), (0, .ref x), (1, .int who), (2, .int v0), (3, .int sm)]) hx hb d_X_publish_4 hl (by decide) rfl (fun ls hl => ?_)
  refine lv_aload hx hb d_X_publish_6 (lv_at hl 0 rfl) ?_
  refine aP (rV (As := []) (rest := []) C0 (c_N_isName l g _ na T (pN_isN hN9)) (zK_S hZ hS (cX_old hX0)) k_X_publish_8 rfl rfl ⟨Nat.le_of_ble_eq_true rfl, Nat.le_of_ble_eq_true rfl⟩ (isN_recv hK (pN_isN hN9)) rfl hl.1 rfl (Nat.le_of_ble_eq_true rfl) d_X_publish_8 ⟨by show 0 + 32 + 0 ≤ 34; omega, by show 0 + 954 + 0 ≤ 968; omega⟩) ?_
  intro v hv; subst hv
  refine W.eq (g2 := F0 m 11 ls [.int (bI (nameS T))]) rfl ?_
  refine z_eq (tgt := 32) (v := nameS T) hx hb d_X_publish_11 (by decide) (fun c11 => ?_) (fun c11 => ?_)
  · skip
    exact absurd hA1 (by rw [c11]; decide)
  · skip
    refine lv_iload_n hx hb d_X_publish_14 rfl (lv_at hl 2 rfl) ?_
    refine aP (rS (As := [.int who]) (rest := []) C0 (c_X_isPerson l g _ who) (zK_S hZ hS (cX_old hX0)) k_X_publish_15 rfl rfl ⟨Nat.le_of_ble_eq_true rfl, Nat.le_of_ble_eq_true rfl⟩ rfl hl.1 rfl (Nat.le_of_ble_eq_true rfl) d_X_publish_15 ⟨by show 0 + 32 + 0 ≤ 34; omega, by show 0 + 954 + 0 ≤ 968; omega⟩) ?_
    intro v hv; subst hv
    refine W.eq (g2 := F0 m 18 ls [.int (bI (decide (0 ≤ who ∧ who < 8)))]) rfl ?_
    refine z_eq (tgt := 32) (v := decide (0 ≤ who ∧ who < 8)) hx hb d_X_publish_18 (by decide) (fun c18 => ?_) (fun c18 => ?_)
    · skip
      exact absurd hA2 (by rw [c18]; decide)
    · skip
      refine lv_iload_n hx hb d_X_publish_21 rfl (lv_at hl 3 rfl) ?_
      refine aP (rS (As := [.int v0]) (rest := []) C0 (c_X_isVersion l g _ v0) (zK_S hZ hS (cX_old hX0)) k_X_publish_22 rfl rfl ⟨Nat.le_of_ble_eq_true rfl, Nat.le_of_ble_eq_true rfl⟩ rfl hl.1 rfl (Nat.le_of_ble_eq_true rfl) d_X_publish_22 ⟨by show 0 + 32 + 0 ≤ 34; omega, by show 0 + 954 + 0 ≤ 968; omega⟩) ?_
      intro v hv; subst hv
      refine W.eq (g2 := F0 m 25 ls [.int (bI (decide (0 ≤ v0 ∧ v0 < 1000)))]) rfl ?_
      refine z_eq (tgt := 32) (v := decide (0 ≤ v0 ∧ v0 < 1000)) hx hb d_X_publish_25 (by decide) (fun c25 => ?_) (fun c25 => ?_)
      · skip
        exact absurd hA3 (by rw [c25]; decide)
      · skip
        refine lv_iconst (v := bI true) hx hb d_X_publish_28 (by decide) ?_
        refine lv_goto (tgt := 33) hx hb d_X_publish_29 (by decide) ?_
        refine aP (rS (As := [.int (bI true)]) (rest := []) C0 (c_X_demandArguments l g _) (zK_S hZ hS (cX_old hX0)) k_X_publish_33 rfl rfl ⟨Nat.le_of_ble_eq_true rfl, Nat.le_of_ble_eq_true rfl⟩ rfl hl.1 rfl (Nat.le_of_ble_eq_true rfl) d_X_publish_33 ⟨by show 0 + 32 + 0 ≤ 34; omega, by show 0 + 954 + 0 ≤ 968; omega⟩) ?_
        intro v hv; subst hv
        refine W.eq (g2 := F0 m 36 ls []) rfl ?_
        refine lv_aload_n hx hb d_X_publish_36 rfl (lv_at hl 1 rfl) ?_
        refine va_get (D := g.1) (ci := 0) (C := R_X) (T := F_X) (N := 6) hx hb hts i_X hown hK.1 (cX_ob hX) 0 rfl rfl 1 (by decide) (hts (.fieldLink "RegistryLog" 19 "RegistryLog" "log" "LRegistryLog$Ledger;") (in_3 (List.mem_of_getElem? (i := 10) rfl) rfl)) (fun _ h9 => h9) rfl d_X_publish_37 ?_
        refine lv_aload hx hb d_X_publish_40 (lv_at hl 0 rfl) ?_
        refine aP (rV (As := [.ref na]) (rest := []) C0 (c_L_originOf l g _ (ad2 2) na rows T (pL_isL (cX_log hX)) (pN_isN hN9)) (zK_S hZ hS (cX_old hX0)) k_X_publish_42 rfl rfl ⟨Nat.le_of_ble_eq_true rfl, Nat.le_of_ble_eq_true rfl⟩ (isL_recv hK (pL_isL (cX_log hX))) rfl hl.1 rfl (Nat.le_of_ble_eq_true rfl) d_X_publish_42 ⟨by show 0 + 32 + 0 ≤ 34; omega, by show 0 + 954 + 0 ≤ 968; omega⟩) ?_
        intro v hv; subst hv
        refine W.eq (g2 := F0 m 45 ls [.int (oS T rows (-1))]) rfl ?_
        refine lv_topi (fun x_1 ex_1 => ?_)
        refine lv_istore (lv' := [(5, .int x_1), (4, .ref na), (0, .ref x), (1, .int who), (2, .int v0), (3, .int sm)]) hx hb d_X_publish_45 hl (by decide) rfl (fun ls hl => ?_)
        refine lv_iload hx hb d_X_publish_47 (lv_at hl 0 rfl) ?_
        refine lv_iconst (v := (-1)) hx hb d_X_publish_49 (by decide) ?_
        refine lv_icmp_ne (tgt := 78) hx hb d_X_publish_50 (by decide) (fun c50 => ?_) (fun c50 => ?_)
        · skip
          refine lv_aload_n hx hb d_X_publish_78 rfl (lv_at hl 2 rfl) ?_
          refine va_get (D := g.1) (ci := 0) (C := R_X) (T := F_X) (N := 6) hx hb hts i_X hown hK.1 (cX_ob hX) 0 rfl rfl 1 (by decide) (hts (.fieldLink "RegistryLog" 19 "RegistryLog" "log" "LRegistryLog$Ledger;") (in_3 (List.mem_of_getElem? (i := 10) rfl) rfl)) (fun _ h9 => h9) rfl d_X_publish_79 ?_
          refine lv_iload hx hb d_X_publish_82 (lv_at hl 0 rfl) ?_
          refine lv_iload_n hx hb d_X_publish_84 rfl (lv_at hl 3 rfl) ?_
          refine aP (rV (As := [.int x_1, .int who]) (rest := []) C0 (c_L_hasRight l g _ (ad2 2) rows x_1 who (pL_isL (cX_log hX))) (zK_S hZ hS (cX_old hX0)) k_X_publish_85 rfl rfl ⟨Nat.le_of_ble_eq_true rfl, Nat.le_of_ble_eq_true rfl⟩ (isL_recv hK (pL_isL (cX_log hX))) rfl hl.1 rfl (Nat.le_of_ble_eq_true rfl) d_X_publish_85 ⟨by show 0 + 32 + 0 ≤ 34; omega, by show 0 + 954 + 0 ≤ 968; omega⟩) ?_
          intro v hv; subst hv
          refine W.eq (g2 := F0 m 88 ls [.int (bI (hsS rows x_1 who))]) rfl ?_
          refine z_eq (tgt := 109) (v := hsS rows x_1 who) hx hb d_X_publish_88 (by decide) (fun c88 => ?_) (fun c88 => ?_)
          · skip
            refine lv_iconst (v := bI false) hx hb d_X_publish_109 (by decide) ?_
            have ho1 : oS T rows (-1) = x_1 := ex_1.symm
            have hmy : pubC rows T who v0 = false := by unfold pubC; rw [ho1, if_neg c50, c88, Bool.false_and]
            exact absurd hmay (by rw [hmy]; decide)
          · skip
            refine lv_aload_n hx hb d_X_publish_91 rfl (lv_at hl 2 rfl) ?_
            refine va_get (D := g.1) (ci := 0) (C := R_X) (T := F_X) (N := 6) hx hb hts i_X hown hK.1 (cX_ob hX) 0 rfl rfl 1 (by decide) (hts (.fieldLink "RegistryLog" 19 "RegistryLog" "log" "LRegistryLog$Ledger;") (in_3 (List.mem_of_getElem? (i := 10) rfl) rfl)) (fun _ h9 => h9) rfl d_X_publish_92 ?_
            refine lv_iload hx hb d_X_publish_95 (lv_at hl 0 rfl) ?_
            refine lv_iload_n hx hb d_X_publish_97 rfl (lv_at hl 4 rfl) ?_
            refine aP (rV (As := [.int x_1, .int v0]) (rest := []) C0 (c_L_publishOf l g _ (ad2 2) rows x_1 v0 (pL_isL (cX_log hX))) (zK_S hZ hS (cX_old hX0)) k_X_publish_98 rfl rfl ⟨Nat.le_of_ble_eq_true rfl, Nat.le_of_ble_eq_true rfl⟩ (isL_recv hK (pL_isL (cX_log hX))) rfl hl.1 rfl (Nat.le_of_ble_eq_true rfl) d_X_publish_98 ⟨by show 0 + 32 + 0 ≤ 34; omega, by show 0 + 954 + 0 ≤ 968; omega⟩) ?_
            intro v hv; subst hv
            refine W.eq (g2 := F0 m 101 ls [.int (pubS x_1 v0 rows 0)]) rfl ?_
            refine lv_iconst (v := (-1)) hx hb d_X_publish_101 (by decide) ?_
            refine lv_icmp_ne (tgt := 109) hx hb d_X_publish_102 (by decide) (fun c102 => ?_) (fun c102 => ?_)
            · skip
              refine lv_iconst (v := bI false) hx hb d_X_publish_109 (by decide) ?_
              have ho1 : oS T rows (-1) = x_1 := ex_1.symm
              have hmy : pubC rows T who v0 = false := by unfold pubC; rw [ho1, if_neg c50, c88, decide_eq_false c102]; rfl
              exact absurd hmay (by rw [hmy]; decide)
            · skip
              refine lv_iconst (v := bI true) hx hb d_X_publish_105 (by decide) ?_
              refine lv_goto (tgt := 110) hx hb d_X_publish_106 (by decide) ?_
              have ho1 : oS T rows (-1) = x_1 := ex_1.symm
              have hmy : pubC rows T who v0 = true := by unfold pubC; rw [ho1, if_neg c50, c88, decide_eq_true c102]; rfl
              refine aP (rS (As := [.int (bI true)]) (rest := []) C0 (c_X_demandState l g _) (zK_S hZ hS (cX_old hX0)) k_X_publish_110 rfl rfl ⟨Nat.le_of_ble_eq_true rfl, Nat.le_of_ble_eq_true rfl⟩ rfl hl.1 rfl (Nat.le_of_ble_eq_true rfl) d_X_publish_110 ⟨by show 0 + 32 + 0 ≤ 34; omega, by show 0 + 954 + 0 ≤ 968; omega⟩) ?_
              intro v hv; subst hv
              refine W.eq (g2 := F0 m 113 ls []) rfl ?_
              refine lv_aload_n hx hb d_X_publish_113 rfl (lv_at hl 2 rfl) ?_
              rw [ho1, if_neg c50] at hog
              subst hog
              have hadq : ∀ j, j < 16 → ad2 j < H.size := fun j hj => cX_lt hX hj
              obtain ⟨z9, hz9⟩ : ∃ z9, z9 = H.size := ⟨_, rfl⟩
              rw [← hz9] at hadq
              have hzs : s.heap.size ≤ z9 := by rw [hz9]; exact hS.1
              have hS0 := hS
              refine s_new (ci := 4) (C := R_R) (T := F_R) (N := 8) hx hb hts i_R t_R t_R_ok hown (hts _ (in_4 (List.mem_of_getElem? (i := 102) rfl) rfl)) (hts _ (in_2 (List.mem_of_getElem? (i := 166) rfl) rfl)) (hts _ (in_1 (List.mem_of_getElem? (i := 19) rfl) rfl)) hK hS rfl (fs := [.int 0, .int 0, .null, .null, .int 0, .int 0, .int 0, .long 0]) (by decide) (by show 0 + 32 + 1 ≤ 34; omega) (by show 0 + 954 + 8 ≤ 968; omega) d_X_publish_114 (fun q1 H hq f_q1 hz o1 hS => ?_)
              have hX := cX_mv hX (Z' := fun a => Z a ∧ a ≠ q1) (fun a h1 h2 => ⟨o1 a (by rw [hq]; exact h2), h1, by omega⟩)
              have hN9 := pN_mv hN9 (P' := fun a => PX Z ad2 a ∧ a ≠ q1) (fun a h1 h2 => ⟨o1 a (by rw [hq]; exact h2), h1, by omega⟩)
              have ge_q1 : s.heap.size ≤ q1 := by rw [hq]; exact hS0.1
              refine lv_dup hx hb d_X_publish_117 rfl ?_
              refine lv_iconst (v := nI 0) hx hb d_X_publish_118 (by decide) ?_
              refine lv_iload_n hx hb d_X_publish_119 rfl (lv_at hl 3 rfl) ?_
              refine lv_aload hx hb d_X_publish_120 (lv_at hl 1 rfl) ?_
              refine lv_aload hx hb d_X_publish_122 (lv_at hl 1 rfl) ?_
              refine lv_iload_n hx hb d_X_publish_124 rfl (lv_at hl 4 rfl) ?_
              refine lv_iload_n hx hb d_X_publish_125 rfl (lv_at hl 5 rfl) ?_
              refine lv_iload hx hb d_X_publish_126 (lv_at hl 0 rfl) ?_
              refine aW (N := (fun a => a = q1)) (rI (As := [.int (nI 0), .int who, .ref na, .ref na, .int v0, .int sm, .int x_1]) (rest := [.ref q1, .ref x]) C0 (c_R_init l g _ q1 na na (nI 0) who v0 sm x_1 T T f_q1 (by omega) (pN_P hN9 (fun a h1 _ => h1.2)) (pN_P hN9 (fun a h1 _ => h1.2))) (zK_S hZ hS (cX_old hX0)) k_X_publish_128 rfl rfl ⟨Nat.le_of_ble_eq_true rfl, Nat.le_of_ble_eq_true rfl⟩ rfl hl.1 rfl (Nat.le_of_ble_eq_true rfl) d_X_publish_128 ⟨by show 0 + 32 + 1 + 0 ≤ 34; omega, by show 0 + 954 + 8 + 0 ≤ 968; omega⟩) (fun v H L hC1 hp hL => ?_)
              have hS0 := hS
              have hS := hS_call hS hC1 hL (fun a h => by rw [h]; exact Or.inr (by omega))
              obtain ⟨rfl, f_q1⟩ := hp
              have hX := cX_mv (Z' := Z) hX (fun a h1 h2 => ⟨hC_at hC1 h2 (fun z => h1.2 z), h1.1⟩)
              have hN9 := pN_mv (P' := PX Z ad2) hN9 (fun a h1 h2 => ⟨hC_at hC1 h2 (fun z => h1.2 z), h1.1⟩)
              have hR1 : pR (PX Z ad2) g H q1 ((nI 0), who, T, T, v0, sm, x_1) := ⟨na, na, ⟨fun j hj z => by have := hadq j hj; omega, hZb _ (by omega)⟩, f_q1, hN9, hN9⟩
              refine W.eq (g2 := F0 m 131 ls [.ref q1, .ref x]) rfl ?_
              refine rVX (As := [.ref q1]) (rest := []) C0 (x_X_write l g _ htr Z x ad2 ms nm nw rows mir [] f k q f2 k2 hX q1 hge) (zK_S hZ hS (cX_old hX0)) k_X_publish_131 rfl rfl ⟨Nat.le_of_ble_eq_true rfl, Nat.le_of_ble_eq_true rfl⟩ (ob_recv hK (cX_ob hX) rfl) rfl hl.1 rfl (Nat.le_of_ble_eq_true rfl) d_X_publish_131 ⟨by show 0 + 32 + 1 + 0 + 1 ≤ 34; omega, by show 0 + 954 + 8 + 0 + 6 ≤ 968; omega⟩ (fun x9 H L st hW9 hq9 hL => ?_)
              obtain ⟨hx1, ⟨ce, hx2, hx3, hx4⟩, hC1, hp⟩ := hq9
              have hS1 := hS_call hS hC1 hL (fun a h => NX_U hv4 (by rw [← had2]; exact h))
              refine WX.widen (k := 34) (n := 968) (by omega) (by omega) ?_
              refine WX.out hno ⟨Nat.le_trans hS.1 hx1, ⟨ce, hx2, hx3, by rw [← hW9.alike.findClass]; exact hx4⟩, hS_hC hS1, ⟨v2, by rw [← had2]; exact hp⟩⟩ hS1.2.2 hlk
        · skip
          refine lv_aload_n hx hb d_X_publish_53 rfl (lv_at hl 2 rfl) ?_
          refine va_get (D := g.1) (ci := 0) (C := R_X) (T := F_X) (N := 6) hx hb hts i_X hown hK.1 (cX_ob hX) 0 rfl rfl 1 (by decide) (hts (.fieldLink "RegistryLog" 19 "RegistryLog" "log" "LRegistryLog$Ledger;") (in_3 (List.mem_of_getElem? (i := 10) rfl) rfl)) (fun _ h9 => h9) rfl d_X_publish_54 ?_
          refine lv_aload hx hb d_X_publish_57 (lv_at hl 1 rfl) ?_
          refine lv_iconst (v := (-1)) hx hb d_X_publish_59 (by decide) ?_
          refine aP (rV (As := [.ref na, .int ((-1))]) (rest := []) C0 (c_L_isFree l g _ (ad2 2) na rows T ((-1)) (pL_isL (cX_log hX)) (pN_isN hN9)) (zK_S hZ hS (cX_old hX0)) k_X_publish_60 rfl rfl ⟨Nat.le_of_ble_eq_true rfl, Nat.le_of_ble_eq_true rfl⟩ (isL_recv hK (pL_isL (cX_log hX))) rfl hl.1 rfl (Nat.le_of_ble_eq_true rfl) d_X_publish_60 ⟨by show 0 + 32 + 0 ≤ 34; omega, by show 0 + 954 + 0 ≤ 968; omega⟩) ?_
          intro v hv; subst hv
          refine W.eq (g2 := F0 m 63 ls [.int (bI (freeS T ((-1)) rows rows))]) rfl ?_
          have ho1 : oS T rows (-1) = x_1 := ex_1.symm
          have hmy : pubC rows T who v0 = freeS T ((-1)) rows rows := by unfold pubC; rw [ho1, if_pos c50]
          have hvv : freeS T ((-1)) rows rows = true := by rw [← hmy]; exact hmay
          refine W.eq (g2 := F0 m 63 ls [.int (bI true)]) (by rw [hvv]) ?_
          refine aP (rS (As := [.int (bI true)]) (rest := []) C0 (c_X_demandState l g _) (zK_S hZ hS (cX_old hX0)) k_X_publish_63 rfl rfl ⟨Nat.le_of_ble_eq_true rfl, Nat.le_of_ble_eq_true rfl⟩ rfl hl.1 rfl (Nat.le_of_ble_eq_true rfl) d_X_publish_63 ⟨by show 0 + 32 + 0 ≤ 34; omega, by show 0 + 954 + 0 ≤ 968; omega⟩) ?_
          intro v hv; subst hv
          refine W.eq (g2 := F0 m 66 ls []) rfl ?_
          refine lv_aload_n hx hb d_X_publish_66 rfl (lv_at hl 2 rfl) ?_
          refine va_get (D := g.1) (ci := 0) (C := R_X) (T := F_X) (N := 6) hx hb hts i_X hown hK.1 (cX_ob hX) 0 rfl rfl 1 (by decide) (hts (.fieldLink "RegistryLog" 19 "RegistryLog" "log" "LRegistryLog$Ledger;") (in_3 (List.mem_of_getElem? (i := 10) rfl) rfl)) (fun _ h9 => h9) rfl d_X_publish_67 ?_
          obtain ⟨n9, f9, fl0, -, -, hr120, -⟩ := id (cX_log hX)
          refine aP (rV (As := []) (rest := []) C0 (c_L_size l g _ (ad2 2) (ad2 3) n9 (nI rows.length) fl0) (zK_S hZ hS (cX_old hX0)) k_X_publish_70 rfl rfl ⟨Nat.le_of_ble_eq_true rfl, Nat.le_of_ble_eq_true rfl⟩ (ob_recv hK fl0 rfl) rfl hl.1 rfl (Nat.le_of_ble_eq_true rfl) d_X_publish_70 ⟨by show 0 + 32 + 0 ≤ 34; omega, by show 0 + 954 + 0 ≤ 968; omega⟩) ?_
          intro v hv; subst hv
          refine W.eq (g2 := F0 m 73 ls [.int (nI rows.length)]) rfl ?_
          refine lv_istore (lv' := [(5, .int (nI rows.length)), (4, .ref na), (0, .ref x), (1, .int who), (2, .int v0), (3, .int sm)]) hx hb d_X_publish_73 hl (by decide) rfl (fun ls hl => ?_)
          refine lv_goto (tgt := 113) hx hb d_X_publish_75 (by decide) ?_
          refine lv_aload_n hx hb d_X_publish_113 rfl (lv_at hl 2 rfl) ?_
          rw [ho1, if_pos c50] at hog
          subst hog
          have hadq : ∀ j, j < 16 → ad2 j < H.size := fun j hj => cX_lt hX hj
          obtain ⟨z9, hz9⟩ : ∃ z9, z9 = H.size := ⟨_, rfl⟩
          rw [← hz9] at hadq
          have hzs : s.heap.size ≤ z9 := by rw [hz9]; exact hS.1
          have hS0 := hS
          refine s_new (ci := 4) (C := R_R) (T := F_R) (N := 8) hx hb hts i_R t_R t_R_ok hown (hts _ (in_4 (List.mem_of_getElem? (i := 102) rfl) rfl)) (hts _ (in_2 (List.mem_of_getElem? (i := 166) rfl) rfl)) (hts _ (in_1 (List.mem_of_getElem? (i := 19) rfl) rfl)) hK hS rfl (fs := [.int 0, .int 0, .null, .null, .int 0, .int 0, .int 0, .long 0]) (by decide) (by show 0 + 32 + 1 ≤ 34; omega) (by show 0 + 954 + 8 ≤ 968; omega) d_X_publish_114 (fun q1 H hq f_q1 hz o1 hS => ?_)
          have hX := cX_mv hX (Z' := fun a => Z a ∧ a ≠ q1) (fun a h1 h2 => ⟨o1 a (by rw [hq]; exact h2), h1, by omega⟩)
          have hN9 := pN_mv hN9 (P' := fun a => PX Z ad2 a ∧ a ≠ q1) (fun a h1 h2 => ⟨o1 a (by rw [hq]; exact h2), h1, by omega⟩)
          have ge_q1 : s.heap.size ≤ q1 := by rw [hq]; exact hS0.1
          refine lv_dup hx hb d_X_publish_117 rfl ?_
          refine lv_iconst (v := nI 0) hx hb d_X_publish_118 (by decide) ?_
          refine lv_iload_n hx hb d_X_publish_119 rfl (lv_at hl 3 rfl) ?_
          refine lv_aload hx hb d_X_publish_120 (lv_at hl 1 rfl) ?_
          refine lv_aload hx hb d_X_publish_122 (lv_at hl 1 rfl) ?_
          refine lv_iload_n hx hb d_X_publish_124 rfl (lv_at hl 4 rfl) ?_
          refine lv_iload_n hx hb d_X_publish_125 rfl (lv_at hl 5 rfl) ?_
          refine lv_iload hx hb d_X_publish_126 (lv_at hl 0 rfl) ?_
          refine aW (N := (fun a => a = q1)) (rI (As := [.int (nI 0), .int who, .ref na, .ref na, .int v0, .int sm, .int (nI rows.length)]) (rest := [.ref q1, .ref x]) C0 (c_R_init l g _ q1 na na (nI 0) who v0 sm (nI rows.length) T T f_q1 (by omega) (pN_P hN9 (fun a h1 _ => h1.2)) (pN_P hN9 (fun a h1 _ => h1.2))) (zK_S hZ hS (cX_old hX0)) k_X_publish_128 rfl rfl ⟨Nat.le_of_ble_eq_true rfl, Nat.le_of_ble_eq_true rfl⟩ rfl hl.1 rfl (Nat.le_of_ble_eq_true rfl) d_X_publish_128 ⟨by show 0 + 32 + 1 + 0 ≤ 34; omega, by show 0 + 954 + 8 + 0 ≤ 968; omega⟩) (fun v H L hC1 hp hL => ?_)
          have hS0 := hS
          have hS := hS_call hS hC1 hL (fun a h => by rw [h]; exact Or.inr (by omega))
          obtain ⟨rfl, f_q1⟩ := hp
          have hX := cX_mv (Z' := Z) hX (fun a h1 h2 => ⟨hC_at hC1 h2 (fun z => h1.2 z), h1.1⟩)
          have hN9 := pN_mv (P' := PX Z ad2) hN9 (fun a h1 h2 => ⟨hC_at hC1 h2 (fun z => h1.2 z), h1.1⟩)
          have hR1 : pR (PX Z ad2) g H q1 ((nI 0), who, T, T, v0, sm, (nI rows.length)) := ⟨na, na, ⟨fun j hj z => by have := hadq j hj; omega, hZb _ (by omega)⟩, f_q1, hN9, hN9⟩
          refine W.eq (g2 := F0 m 131 ls [.ref q1, .ref x]) rfl ?_
          refine rVX (As := [.ref q1]) (rest := []) C0 (x_X_write l g _ htr Z x ad2 ms nm nw rows mir [] f k q f2 k2 hX q1 hge) (zK_S hZ hS (cX_old hX0)) k_X_publish_131 rfl rfl ⟨Nat.le_of_ble_eq_true rfl, Nat.le_of_ble_eq_true rfl⟩ (ob_recv hK (cX_ob hX) rfl) rfl hl.1 rfl (Nat.le_of_ble_eq_true rfl) d_X_publish_131 ⟨by show 0 + 32 + 1 + 0 + 1 ≤ 34; omega, by show 0 + 954 + 8 + 0 + 6 ≤ 968; omega⟩ (fun x9 H L st hW9 hq9 hL => ?_)
          obtain ⟨hx1, ⟨ce, hx2, hx3, hx4⟩, hC1, hp⟩ := hq9
          have hS1 := hS_call hS hC1 hL (fun a h => NX_U hv4 (by rw [← had2]; exact h))
          refine WX.widen (k := 34) (n := 968) (by omega) (by omega) ?_
          refine WX.out hno ⟨Nat.le_trans hS.1 hx1, ⟨ce, hx2, hx3, by rw [← hW9.alike.findClass]; exact hx4⟩, hS_hC hS1, ⟨v2, by rw [← had2]; exact hp⟩⟩ hS1.2.2 hlk
theorem k_X_yank_1 : kV "RegistryLog" 48 "RegistryLog" y_X_takeName b_X_takeName 1 (some (.object "RegistryLog$Name")) 0 := ⟨(in_3 (List.mem_of_getElem? (i := 198) rfl) rfl), (in_3 (List.mem_of_getElem? (i := 200) rfl) rfl), (in_0 (List.mem_of_getElem? (i := 3) rfl) rfl), (in_1 (List.mem_of_getElem? (i := 1) rfl) rfl), (in_3 (List.mem_of_getElem? (i := 201) rfl) rfl), ⟨by decide, by decide, by decide +kernel⟩⟩
theorem k_X_yank_8 : kV "RegistryLog" 52 "RegistryLog$Name" y_N_isName b_N_isName 6 (some .boolean) 0 := ⟨(in_4 (List.mem_of_getElem? (i := 50) rfl) rfl), (in_4 (List.mem_of_getElem? (i := 51) rfl) rfl), (in_4 (List.mem_of_getElem? (i := 52) rfl) rfl), (in_1 (List.mem_of_getElem? (i := 7) rfl) rfl), (in_4 (List.mem_of_getElem? (i := 53) rfl) rfl), ⟨by decide, by decide, by decide +kernel⟩⟩
theorem k_X_yank_15 : kS "RegistryLog" 58 y_X_isPerson b_X_isPerson 1 (some .boolean) 1 := ⟨(in_4 (List.mem_of_getElem? (i := 17) rfl) rfl), (in_4 (List.mem_of_getElem? (i := 18) rfl) rfl), (in_1 (List.mem_of_getElem? (i := 1) rfl) rfl), (in_4 (List.mem_of_getElem? (i := 19) rfl) rfl), ⟨by decide, by decide, by decide +kernel⟩⟩
theorem k_X_yank_22 : kS "RegistryLog" 62 y_X_isVersion b_X_isVersion 1 (some .boolean) 1 := ⟨(in_4 (List.mem_of_getElem? (i := 54) rfl) rfl), (in_4 (List.mem_of_getElem? (i := 55) rfl) rfl), (in_1 (List.mem_of_getElem? (i := 1) rfl) rfl), (in_4 (List.mem_of_getElem? (i := 56) rfl) rfl), ⟨by decide, by decide, by decide +kernel⟩⟩
theorem k_X_yank_33 : kS "RegistryLog" 65 y_X_demandArguments b_X_demandArguments 1 none 1 := ⟨(in_4 (List.mem_of_getElem? (i := 57) rfl) rfl), (in_4 (List.mem_of_getElem? (i := 58) rfl) rfl), (in_1 (List.mem_of_getElem? (i := 1) rfl) rfl), (in_4 (List.mem_of_getElem? (i := 59) rfl) rfl), ⟨by decide, by decide, by decide +kernel⟩⟩
theorem k_X_yank_42 : kV "RegistryLog" 69 "RegistryLog$Ledger" y_L_originOf b_L_originOf 5 (some .int) 1 := ⟨(in_3 (List.mem_of_getElem? (i := 232) rfl) rfl), (in_3 (List.mem_of_getElem? (i := 233) rfl) rfl), (in_3 (List.mem_of_getElem? (i := 234) rfl) rfl), (in_1 (List.mem_of_getElem? (i := 6) rfl) rfl), (in_3 (List.mem_of_getElem? (i := 235) rfl) rfl), ⟨by decide, by decide, by decide +kernel⟩⟩
theorem k_X_yank_54 : kV "RegistryLog" 83 "RegistryLog$Ledger" y_L_hasRight b_L_hasRight 6 (some .boolean) 2 := ⟨(in_4 (List.mem_of_getElem? (i := 20) rfl) rfl), (in_4 (List.mem_of_getElem? (i := 21) rfl) rfl), (in_4 (List.mem_of_getElem? (i := 22) rfl) rfl), (in_1 (List.mem_of_getElem? (i := 6) rfl) rfl), (in_4 (List.mem_of_getElem? (i := 23) rfl) rfl), ⟨by decide, by decide, by decide +kernel⟩⟩
theorem k_X_yank_67 : kV "RegistryLog" 87 "RegistryLog$Ledger" y_L_publishOf b_L_publishOf 5 (some .int) 2 := ⟨(in_4 (List.mem_of_getElem? (i := 29) rfl) rfl), (in_4 (List.mem_of_getElem? (i := 30) rfl) rfl), (in_4 (List.mem_of_getElem? (i := 31) rfl) rfl), (in_1 (List.mem_of_getElem? (i := 6) rfl) rfl), (in_4 (List.mem_of_getElem? (i := 32) rfl) rfl), ⟨by decide, by decide, by decide +kernel⟩⟩
theorem k_X_yank_81 : kV "RegistryLog" 100 "RegistryLog$Ledger" y_L_isYanked b_L_isYanked 6 (some .boolean) 2 := ⟨(in_4 (List.mem_of_getElem? (i := 33) rfl) rfl), (in_4 (List.mem_of_getElem? (i := 34) rfl) rfl), (in_4 (List.mem_of_getElem? (i := 35) rfl) rfl), (in_1 (List.mem_of_getElem? (i := 6) rfl) rfl), (in_4 (List.mem_of_getElem? (i := 36) rfl) rfl), ⟨by decide, by decide, by decide +kernel⟩⟩
theorem k_X_yank_93 : kS "RegistryLog" 77 y_X_demandState b_X_demandState 1 none 1 := ⟨(in_4 (List.mem_of_getElem? (i := 83) rfl) rfl), (in_4 (List.mem_of_getElem? (i := 84) rfl) rfl), (in_1 (List.mem_of_getElem? (i := 1) rfl) rfl), (in_4 (List.mem_of_getElem? (i := 85) rfl) rfl), ⟨by decide, by decide, by decide +kernel⟩⟩
theorem k_X_yank_109 : kS "RegistryLog" 103 y_X_asNumber b_X_asNumber 1 (some .int) 1 := ⟨(in_4 (List.mem_of_getElem? (i := 115) rfl) rfl), (in_4 (List.mem_of_getElem? (i := 116) rfl) rfl), (in_1 (List.mem_of_getElem? (i := 1) rfl) rfl), (in_4 (List.mem_of_getElem? (i := 117) rfl) rfl), ⟨by decide, by decide, by decide +kernel⟩⟩
theorem k_X_yank_114 : kI "RegistryLog" 93 y_R_init b_R_init 10 7 := ⟨(in_4 (List.mem_of_getElem? (i := 103) rfl) rfl), (in_2 (List.mem_of_getElem? (i := 168) rfl) rfl), (in_1 (List.mem_of_getElem? (i := 19) rfl) rfl), (in_2 (List.mem_of_getElem? (i := 169) rfl) rfl), rfl, ⟨by decide, by decide, by decide +kernel⟩⟩
theorem k_X_yank_117 : kV "RegistryLog" 96 "RegistryLog" y_X_write b_X_write 3 (some .int) 1 := ⟨(in_4 (List.mem_of_getElem? (i := 104) rfl) rfl), (in_4 (List.mem_of_getElem? (i := 106) rfl) rfl), (in_0 (List.mem_of_getElem? (i := 5) rfl) rfl), (in_1 (List.mem_of_getElem? (i := 1) rfl) rfl), (in_4 (List.mem_of_getElem? (i := 107) rfl) rfl), ⟨by decide, by decide, by decide +kernel⟩⟩
set_option maxHeartbeats 4000000 in
set_option maxRecDepth 100000 in
/-- yank -/
theorem c_X_yank (l : Launch) (g : gG) (H : Heap) (Z : Nat → Prop) (x : Nat) (ad : Nat → Nat) (ms nm nw : Nat) (rows : List Rw) (mir : Nat → List Rw) (T : List Nat) (f : Nat → Int64) (k q : Nat) (f2 : Nat → Int64) (k2 : Nat) (hX : cX Z g H x ad ms nm nw rows mir T f k q f2 k2 0) (hsz : g.2.2.1 ≤ H.size) (hZb : ∀ a, H.size ≤ a → Z a) (who v0 : Int32) (on : Bool) (og0 : Int32) (hA1 : nameS T = true) (hA2 : decide (0 ≤ who ∧ who < 8) = true) (hA3 : decide (0 ≤ v0 ∧ v0 < 1000) = true) (hmay : yanC rows T who v0 on = true) (hog : oS T rows (-1) = og0) (hlt : rows.length < 120) : Met l y_X_yank (wC y_X_yank b_X_yank 6 (some .int)) (rmk 9 33 962 197) (pC g H [.ref x, .int who, .int v0, .int (bI on)]) (qW H (NX ad) (fun r H1 => ∃ v2, r = some (.int (nI rows.length)) ∧ cX Z g H1 x (adU ad v2) ms nm nw (rows ++ [(1, who, T, T, v0, bI on, og0)]) mir ([]) f k q f2 k2 0)) 33 962 (fW H (NX ad)) := by
  refine mB (by decide) (Nat.le_of_ble_eq_true rfl) ?_
  intro p e s m below meth c ls C0 hH hZ hnm hl
  have C0 : cF g p s m _ meth c b_X_yank 6 "RegistryLog" (some .int) := C0
  obtain ⟨hx, hb, hml, hown, hts, hr, hlk, hK⟩ := id C0
  subst hH
  have hl : lv_has ls 6 [(0, .ref x), (1, .int who), (2, .int v0), (3, .int (bI on))] := hl
  have hS : va_S (fW s.heap (NX ad)) s.heap s.heap [] := hS_rf
  have hX0 := hX
  have ad0 := cX_lt hX0 (j := 0) (by decide)
  have ad1 := cX_lt hX0 (j := 1) (by decide)
  refine lv_aload_n hx hb d_X_yank_0 rfl (lv_at hl 0 rfl) ?_
  refine aW (N := (NX ad)) (rV (As := []) (rest := []) C0 (c_X_takeName l g _ Z x ad ms nm nw rows mir T f k q f2 k2 hX hsz hZb) (zK_S hZ hS (cX_old hX0)) k_X_yank_1 rfl rfl ⟨Nat.le_of_ble_eq_true rfl, Nat.le_of_ble_eq_true rfl⟩ (ob_recv hK (cX_ob hX) rfl) rfl hl.1 rfl (Nat.le_of_ble_eq_true rfl) d_X_yank_1 ⟨by show 0 + 32 ≤ 33; omega, by show 0 + 954 ≤ 962; omega⟩) (fun v H L hC1 hp hL => ?_)
  have hS0 := hS
  have hS := hS_call hS hC1 hL (fun a h => Or.inl h)
  obtain ⟨na, v2, rfl, hna, hN9, hX, hv4⟩ := hp
  obtain ⟨ad2, had2⟩ : ∃ ad2, ad2 = adU ad v2 := ⟨_, rfl⟩
  rw [← had2] at hX hN9
  have hsz2 := hS.1
  refine W.eq (g2 := F0 m 4 ls [.ref na]) rfl ?_
  refine lv_astore (lv' := [(4, .ref na), (0, .ref x), (1, .int who), (2, .int v0), (3, .int (bI on))]) hx hb d_X_yank_4 hl (by decide) rfl (fun ls hl => ?_)
  refine lv_aload hx hb d_X_yank_6 (lv_at hl 0 rfl) ?_
  refine aP (rV (As := []) (rest := []) C0 (c_N_isName l g _ na T (pN_isN hN9)) (zK_S hZ hS (cX_old hX0)) k_X_yank_8 rfl rfl ⟨Nat.le_of_ble_eq_true rfl, Nat.le_of_ble_eq_true rfl⟩ (isN_recv hK (pN_isN hN9)) rfl hl.1 rfl (Nat.le_of_ble_eq_true rfl) d_X_yank_8 ⟨by show 0 + 32 + 0 ≤ 33; omega, by show 0 + 954 + 0 ≤ 962; omega⟩) ?_
  intro v hv; subst hv
  refine W.eq (g2 := F0 m 11 ls [.int (bI (nameS T))]) rfl ?_
  refine z_eq (tgt := 32) (v := nameS T) hx hb d_X_yank_11 (by decide) (fun c11 => ?_) (fun c11 => ?_)
  · skip
    exact absurd hA1 (by rw [c11]; decide)
  · skip
    refine lv_iload_n hx hb d_X_yank_14 rfl (lv_at hl 2 rfl) ?_
    refine aP (rS (As := [.int who]) (rest := []) C0 (c_X_isPerson l g _ who) (zK_S hZ hS (cX_old hX0)) k_X_yank_15 rfl rfl ⟨Nat.le_of_ble_eq_true rfl, Nat.le_of_ble_eq_true rfl⟩ rfl hl.1 rfl (Nat.le_of_ble_eq_true rfl) d_X_yank_15 ⟨by show 0 + 32 + 0 ≤ 33; omega, by show 0 + 954 + 0 ≤ 962; omega⟩) ?_
    intro v hv; subst hv
    refine W.eq (g2 := F0 m 18 ls [.int (bI (decide (0 ≤ who ∧ who < 8)))]) rfl ?_
    refine z_eq (tgt := 32) (v := decide (0 ≤ who ∧ who < 8)) hx hb d_X_yank_18 (by decide) (fun c18 => ?_) (fun c18 => ?_)
    · skip
      exact absurd hA2 (by rw [c18]; decide)
    · skip
      refine lv_iload_n hx hb d_X_yank_21 rfl (lv_at hl 3 rfl) ?_
      refine aP (rS (As := [.int v0]) (rest := []) C0 (c_X_isVersion l g _ v0) (zK_S hZ hS (cX_old hX0)) k_X_yank_22 rfl rfl ⟨Nat.le_of_ble_eq_true rfl, Nat.le_of_ble_eq_true rfl⟩ rfl hl.1 rfl (Nat.le_of_ble_eq_true rfl) d_X_yank_22 ⟨by show 0 + 32 + 0 ≤ 33; omega, by show 0 + 954 + 0 ≤ 962; omega⟩) ?_
      intro v hv; subst hv
      refine W.eq (g2 := F0 m 25 ls [.int (bI (decide (0 ≤ v0 ∧ v0 < 1000)))]) rfl ?_
      refine z_eq (tgt := 32) (v := decide (0 ≤ v0 ∧ v0 < 1000)) hx hb d_X_yank_25 (by decide) (fun c25 => ?_) (fun c25 => ?_)
      · skip
        exact absurd hA3 (by rw [c25]; decide)
      · skip
        refine lv_iconst (v := bI true) hx hb d_X_yank_28 (by decide) ?_
        refine lv_goto (tgt := 33) hx hb d_X_yank_29 (by decide) ?_
        refine aP (rS (As := [.int (bI true)]) (rest := []) C0 (c_X_demandArguments l g _) (zK_S hZ hS (cX_old hX0)) k_X_yank_33 rfl rfl ⟨Nat.le_of_ble_eq_true rfl, Nat.le_of_ble_eq_true rfl⟩ rfl hl.1 rfl (Nat.le_of_ble_eq_true rfl) d_X_yank_33 ⟨by show 0 + 32 + 0 ≤ 33; omega, by show 0 + 954 + 0 ≤ 962; omega⟩) ?_
        intro v hv; subst hv
        refine W.eq (g2 := F0 m 36 ls []) rfl ?_
        refine lv_aload_n hx hb d_X_yank_36 rfl (lv_at hl 1 rfl) ?_
        refine va_get (D := g.1) (ci := 0) (C := R_X) (T := F_X) (N := 6) hx hb hts i_X hown hK.1 (cX_ob hX) 0 rfl rfl 1 (by decide) (hts (.fieldLink "RegistryLog" 19 "RegistryLog" "log" "LRegistryLog$Ledger;") (in_3 (List.mem_of_getElem? (i := 10) rfl) rfl)) (fun _ h9 => h9) rfl d_X_yank_37 ?_
        refine lv_aload hx hb d_X_yank_40 (lv_at hl 0 rfl) ?_
        refine aP (rV (As := [.ref na]) (rest := []) C0 (c_L_originOf l g _ (ad2 2) na rows T (pL_isL (cX_log hX)) (pN_isN hN9)) (zK_S hZ hS (cX_old hX0)) k_X_yank_42 rfl rfl ⟨Nat.le_of_ble_eq_true rfl, Nat.le_of_ble_eq_true rfl⟩ (isL_recv hK (pL_isL (cX_log hX))) rfl hl.1 rfl (Nat.le_of_ble_eq_true rfl) d_X_yank_42 ⟨by show 0 + 32 + 0 ≤ 33; omega, by show 0 + 954 + 0 ≤ 962; omega⟩) ?_
        intro v hv; subst hv
        refine W.eq (g2 := F0 m 45 ls [.int (oS T rows (-1))]) rfl ?_
        refine lv_topi (fun x_1 ex_1 => ?_)
        refine lv_istore (lv' := [(5, .int x_1), (4, .ref na), (0, .ref x), (1, .int who), (2, .int v0), (3, .int (bI on))]) hx hb d_X_yank_45 hl (by decide) rfl (fun ls hl => ?_)
        refine lv_aload_n hx hb d_X_yank_47 rfl (lv_at hl 2 rfl) ?_
        refine va_get (D := g.1) (ci := 0) (C := R_X) (T := F_X) (N := 6) hx hb hts i_X hown hK.1 (cX_ob hX) 0 rfl rfl 1 (by decide) (hts (.fieldLink "RegistryLog" 19 "RegistryLog" "log" "LRegistryLog$Ledger;") (in_3 (List.mem_of_getElem? (i := 10) rfl) rfl)) (fun _ h9 => h9) rfl d_X_yank_48 ?_
        refine lv_iload hx hb d_X_yank_51 (lv_at hl 0 rfl) ?_
        refine lv_iload_n hx hb d_X_yank_53 rfl (lv_at hl 3 rfl) ?_
        refine aP (rV (As := [.int x_1, .int who]) (rest := []) C0 (c_L_hasRight l g _ (ad2 2) rows x_1 who (pL_isL (cX_log hX))) (zK_S hZ hS (cX_old hX0)) k_X_yank_54 rfl rfl ⟨Nat.le_of_ble_eq_true rfl, Nat.le_of_ble_eq_true rfl⟩ (isL_recv hK (pL_isL (cX_log hX))) rfl hl.1 rfl (Nat.le_of_ble_eq_true rfl) d_X_yank_54 ⟨by show 0 + 32 + 0 ≤ 33; omega, by show 0 + 954 + 0 ≤ 962; omega⟩) ?_
        intro v hv; subst hv
        refine W.eq (g2 := F0 m 57 ls [.int (bI (hsS rows x_1 who))]) rfl ?_
        refine z_eq (tgt := 92) (v := hsS rows x_1 who) hx hb d_X_yank_57 (by decide) (fun c57 => ?_) (fun c57 => ?_)
        · skip
          refine lv_iconst (v := bI false) hx hb d_X_yank_92 (by decide) ?_
          have ho1 : oS T rows (-1) = x_1 := ex_1.symm
          have hmy : yanC rows T who v0 on = false := by unfold yanC; rw [ho1, c57, Bool.false_and]
          exact absurd hmay (by rw [hmy]; decide)
        · skip
          refine lv_aload_n hx hb d_X_yank_60 rfl (lv_at hl 2 rfl) ?_
          refine va_get (D := g.1) (ci := 0) (C := R_X) (T := F_X) (N := 6) hx hb hts i_X hown hK.1 (cX_ob hX) 0 rfl rfl 1 (by decide) (hts (.fieldLink "RegistryLog" 19 "RegistryLog" "log" "LRegistryLog$Ledger;") (in_3 (List.mem_of_getElem? (i := 10) rfl) rfl)) (fun _ h9 => h9) rfl d_X_yank_61 ?_
          refine lv_iload hx hb d_X_yank_64 (lv_at hl 0 rfl) ?_
          refine lv_iload_n hx hb d_X_yank_66 rfl (lv_at hl 4 rfl) ?_
          refine aP (rV (As := [.int x_1, .int v0]) (rest := []) C0 (c_L_publishOf l g _ (ad2 2) rows x_1 v0 (pL_isL (cX_log hX))) (zK_S hZ hS (cX_old hX0)) k_X_yank_67 rfl rfl ⟨Nat.le_of_ble_eq_true rfl, Nat.le_of_ble_eq_true rfl⟩ (isL_recv hK (pL_isL (cX_log hX))) rfl hl.1 rfl (Nat.le_of_ble_eq_true rfl) d_X_yank_67 ⟨by show 0 + 32 + 0 ≤ 33; omega, by show 0 + 954 + 0 ≤ 962; omega⟩) ?_
          intro v hv; subst hv
          refine W.eq (g2 := F0 m 70 ls [.int (pubS x_1 v0 rows 0)]) rfl ?_
          refine lv_iconst (v := (-1)) hx hb d_X_yank_70 (by decide) ?_
          refine lv_icmp_eq (tgt := 92) hx hb d_X_yank_71 (by decide) (fun c71 => ?_) (fun c71 => ?_)
          · skip
            refine lv_iconst (v := bI false) hx hb d_X_yank_92 (by decide) ?_
            have ho1 : oS T rows (-1) = x_1 := ex_1.symm
            have hmy : yanC rows T who v0 on = false := by unfold yanC; rw [ho1, decide_eq_false (p := pubS x_1 v0 rows 0 ≠ -1) (fun z => z c71), Bool.false_and, Bool.and_false]
            exact absurd hmay (by rw [hmy]; decide)
          · skip
            refine lv_aload_n hx hb d_X_yank_74 rfl (lv_at hl 2 rfl) ?_
            refine va_get (D := g.1) (ci := 0) (C := R_X) (T := F_X) (N := 6) hx hb hts i_X hown hK.1 (cX_ob hX) 0 rfl rfl 1 (by decide) (hts (.fieldLink "RegistryLog" 19 "RegistryLog" "log" "LRegistryLog$Ledger;") (in_3 (List.mem_of_getElem? (i := 10) rfl) rfl)) (fun _ h9 => h9) rfl d_X_yank_75 ?_
            refine lv_iload hx hb d_X_yank_78 (lv_at hl 0 rfl) ?_
            refine lv_iload_n hx hb d_X_yank_80 rfl (lv_at hl 4 rfl) ?_
            refine aP (rV (As := [.int x_1, .int v0]) (rest := []) C0 (c_L_isYanked l g _ (ad2 2) rows x_1 v0 (pL_isL (cX_log hX))) (zK_S hZ hS (cX_old hX0)) k_X_yank_81 rfl rfl ⟨Nat.le_of_ble_eq_true rfl, Nat.le_of_ble_eq_true rfl⟩ (isL_recv hK (pL_isL (cX_log hX))) rfl hl.1 rfl (Nat.le_of_ble_eq_true rfl) d_X_yank_81 ⟨by show 0 + 32 + 0 ≤ 33; omega, by show 0 + 954 + 0 ≤ 962; omega⟩) ?_
            intro v hv; subst hv
            refine W.eq (g2 := F0 m 84 ls [.int (bI (ynS x_1 v0 rows false))]) rfl ?_
            refine lv_iload_n hx hb d_X_yank_84 rfl (lv_at hl 5 rfl) ?_
            refine lv_icmp_eq (tgt := 92) hx hb d_X_yank_85 (by decide) (fun c85 => ?_) (fun c85 => ?_)
            · skip
              refine lv_iconst (v := bI false) hx hb d_X_yank_92 (by decide) ?_
              have ho1 : oS T rows (-1) = x_1 := ex_1.symm
              have hmy : yanC rows T who v0 on = false := by unfold yanC; rw [ho1, decide_eq_false (p := ynS x_1 v0 rows false ≠ on) (fun z => z (bI_e.mp c85)), Bool.and_false, Bool.and_false]
              exact absurd hmay (by rw [hmy]; decide)
            · skip
              refine lv_iconst (v := bI true) hx hb d_X_yank_88 (by decide) ?_
              refine lv_goto (tgt := 93) hx hb d_X_yank_89 (by decide) ?_
              have ho1 : oS T rows (-1) = x_1 := ex_1.symm
              have hmy : yanC rows T who v0 on = true := by unfold yanC; rw [ho1, c57, decide_eq_true (p := pubS x_1 v0 rows 0 ≠ -1) c71, decide_eq_true (p := ynS x_1 v0 rows false ≠ on) (fun z => c85 (bI_e.mpr z))]; rfl
              refine aP (rS (As := [.int (bI true)]) (rest := []) C0 (c_X_demandState l g _) (zK_S hZ hS (cX_old hX0)) k_X_yank_93 rfl rfl ⟨Nat.le_of_ble_eq_true rfl, Nat.le_of_ble_eq_true rfl⟩ rfl hl.1 rfl (Nat.le_of_ble_eq_true rfl) d_X_yank_93 ⟨by show 0 + 32 + 0 ≤ 33; omega, by show 0 + 954 + 0 ≤ 962; omega⟩) ?_
              intro v hv; subst hv
              refine W.eq (g2 := F0 m 96 ls []) rfl ?_
              refine lv_aload_n hx hb d_X_yank_96 rfl (lv_at hl 2 rfl) ?_
              rw [ho1] at hog
              subst hog
              have hadq : ∀ j, j < 16 → ad2 j < H.size := fun j hj => cX_lt hX hj
              obtain ⟨z9, hz9⟩ : ∃ z9, z9 = H.size := ⟨_, rfl⟩
              rw [← hz9] at hadq
              have hzs : s.heap.size ≤ z9 := by rw [hz9]; exact hS.1
              have hS0 := hS
              refine s_new (ci := 4) (C := R_R) (T := F_R) (N := 8) hx hb hts i_R t_R t_R_ok hown (hts _ (in_4 (List.mem_of_getElem? (i := 102) rfl) rfl)) (hts _ (in_2 (List.mem_of_getElem? (i := 166) rfl) rfl)) (hts _ (in_1 (List.mem_of_getElem? (i := 19) rfl) rfl)) hK hS rfl (fs := [.int 0, .int 0, .null, .null, .int 0, .int 0, .int 0, .long 0]) (by decide) (by show 0 + 32 + 1 ≤ 33; omega) (by show 0 + 954 + 8 ≤ 962; omega) d_X_yank_97 (fun q1 H hq f_q1 hz o1 hS => ?_)
              have hX := cX_mv hX (Z' := fun a => Z a ∧ a ≠ q1) (fun a h1 h2 => ⟨o1 a (by rw [hq]; exact h2), h1, by omega⟩)
              have hN9 := pN_mv hN9 (P' := fun a => PX Z ad2 a ∧ a ≠ q1) (fun a h1 h2 => ⟨o1 a (by rw [hq]; exact h2), h1, by omega⟩)
              have ge_q1 : s.heap.size ≤ q1 := by rw [hq]; exact hS0.1
              refine lv_dup hx hb d_X_yank_100 rfl ?_
              refine lv_iconst (v := nI 1) hx hb d_X_yank_101 (by decide) ?_
              refine lv_iload_n hx hb d_X_yank_102 rfl (lv_at hl 3 rfl) ?_
              refine lv_aload hx hb d_X_yank_103 (lv_at hl 1 rfl) ?_
              refine lv_aload hx hb d_X_yank_105 (lv_at hl 1 rfl) ?_
              refine lv_iload_n hx hb d_X_yank_107 rfl (lv_at hl 4 rfl) ?_
              refine lv_iload_n hx hb d_X_yank_108 rfl (lv_at hl 5 rfl) ?_
              refine aP (rS (As := [.int (bI on)]) (rest := [.int v0, .ref na, .ref na, .int who, .int (nI 1), .ref q1, .ref q1, .ref x]) C0 (c_X_asNumber l g _ on) (zK_S hZ hS (cX_old hX0)) k_X_yank_109 rfl rfl ⟨Nat.le_of_ble_eq_true rfl, Nat.le_of_ble_eq_true rfl⟩ rfl hl.1 rfl (Nat.le_of_ble_eq_true rfl) d_X_yank_109 ⟨by show 0 + 32 + 1 + 0 ≤ 33; omega, by show 0 + 954 + 8 + 0 ≤ 962; omega⟩) ?_
              intro v hv; subst hv
              refine W.eq (g2 := F0 m 112 ls [.int (bI on), .int v0, .ref na, .ref na, .int who, .int (nI 1), .ref q1, .ref q1, .ref x]) rfl ?_
              refine lv_iload hx hb d_X_yank_112 (lv_at hl 0 rfl) ?_
              refine aW (N := (fun a => a = q1)) (rI (As := [.int (nI 1), .int who, .ref na, .ref na, .int v0, .int (bI on), .int x_1]) (rest := [.ref q1, .ref x]) C0 (c_R_init l g _ q1 na na (nI 1) who v0 (bI on) x_1 T T f_q1 (by omega) (pN_P hN9 (fun a h1 _ => h1.2)) (pN_P hN9 (fun a h1 _ => h1.2))) (zK_S hZ hS (cX_old hX0)) k_X_yank_114 rfl rfl ⟨Nat.le_of_ble_eq_true rfl, Nat.le_of_ble_eq_true rfl⟩ rfl hl.1 rfl (Nat.le_of_ble_eq_true rfl) d_X_yank_114 ⟨by show 0 + 32 + 1 + 0 ≤ 33; omega, by show 0 + 954 + 8 + 0 ≤ 962; omega⟩) (fun v H L hC1 hp hL => ?_)
              have hS0 := hS
              have hS := hS_call hS hC1 hL (fun a h => by rw [h]; exact Or.inr (by omega))
              obtain ⟨rfl, f_q1⟩ := hp
              have hX := cX_mv (Z' := Z) hX (fun a h1 h2 => ⟨hC_at hC1 h2 (fun z => h1.2 z), h1.1⟩)
              have hN9 := pN_mv (P' := PX Z ad2) hN9 (fun a h1 h2 => ⟨hC_at hC1 h2 (fun z => h1.2 z), h1.1⟩)
              have hR1 : pR (PX Z ad2) g H q1 ((nI 1), who, T, T, v0, (bI on), x_1) := ⟨na, na, ⟨fun j hj z => by have := hadq j hj; omega, hZb _ (by omega)⟩, f_q1, hN9, hN9⟩
              refine W.eq (g2 := F0 m 117 ls [.ref q1, .ref x]) rfl ?_
              refine aW (N := (NX ad2)) (rV (As := [.ref q1]) (rest := []) C0 (c_X_write l g _ Z x ad2 ms nm nw rows mir [] f k q f2 k2 hX q1 ((nI 1), who, T, T, v0, (bI on), x_1) hR1 hlt) (zK_S hZ hS (cX_old hX0)) k_X_yank_117 rfl rfl ⟨Nat.le_of_ble_eq_true rfl, Nat.le_of_ble_eq_true rfl⟩ (ob_recv hK (cX_ob hX) rfl) rfl hl.1 rfl (Nat.le_of_ble_eq_true rfl) d_X_yank_117 ⟨by show 0 + 32 + 1 + 0 + 0 ≤ 33; omega, by show 0 + 954 + 8 + 0 + 0 ≤ 962; omega⟩) (fun v H L hC1 hp hL => ?_)
              have hS0 := hS
              have hS := hS_call hS hC1 hL (fun a h => NX_U hv4 (by rw [← had2]; exact h))
              obtain ⟨rfl, hX⟩ := hp
              rw [had2] at hX
              refine W.eq (g2 := F0 m 120 ls [.int (nI rows.length)]) rfl ?_
              refine W.widen (k := 33) (n := 962) (by omega) (by omega) ?_
              exact W.iret hx hb hr (fun t9 ht hW => ⟨_, rfl, by rw [ht]; exact hS_hC hS, by rw [ht]; exact ⟨v2, rfl, hX⟩⟩) hS.2.2 d_X_yank_120 hlk
set_option maxHeartbeats 4000000 in
set_option maxRecDepth 100000 in
/-- yank, bad -/
theorem x_X_yankB (l : Launch) (g : gG) (H : Heap) (htr : ∀ e, l.admits e → e.platform.stackTraces = false) (Z : Nat → Prop) (x : Nat) (ad : Nat → Nat) (ms nm nw : Nat) (rows : List Rw) (mir : Nat → List Rw) (T : List Nat) (f : Nat → Int64) (k q : Nat) (f2 : Nat → Int64) (k2 : Nat) (hX : cX Z g H x ad ms nm nw rows mir T f k q f2 k2 0) (hsz : g.2.2.1 ≤ H.size) (hZb : ∀ a, H.size ≤ a → Z a) (who v0 : Int32) (on : Bool) (hbad : (nameS T && (decide (0 ≤ who ∧ who < 8) && decide (0 ≤ v0 ∧ v0 < 1000))) = false) : MetX l y_X_yank (wC y_X_yank b_X_yank 6 (some .int)) (rmk 9 34 968 197) (pC g H [.ref x, .int who, .int v0, .int (bI on)]) (qX H (NX ad) iaE (fun H1 => ∃ v2, cX Z g H1 x (adU ad v2) ms nm nw rows mir ([]) f k q f2 k2 0)) 34 968 (fW H (NX ad)) := by
  refine mX (by decide) (Nat.le_of_ble_eq_true rfl) ?_
  intro p e s m below meth c ls C0 hH hZ hno hl
  have C0 : cF g p s m _ meth c b_X_yank 6 "RegistryLog" (some .int) := C0
  obtain ⟨hx, hb, hml, hown, hts, hr, hlk, hK⟩ := id C0
  subst hH
  have hl : lv_has ls 6 [(0, .ref x), (1, .int who), (2, .int v0), (3, .int (bI on))] := hl
  have hS : va_S (fW s.heap (NX ad)) s.heap s.heap [] := hS_rf
  have hX0 := hX
  have ad0 := cX_lt hX0 (j := 0) (by decide)
  have ad1 := cX_lt hX0 (j := 1) (by decide)
  refine lv_aload_n hx hb d_X_yank_0 rfl (lv_at hl 0 rfl) ?_
  refine aW (N := (NX ad)) (rV (As := []) (rest := []) C0 (c_X_takeName l g _ Z x ad ms nm nw rows mir T f k q f2 k2 hX hsz hZb) (zK_S hZ hS (cX_old hX0)) k_X_yank_1 rfl rfl ⟨Nat.le_of_ble_eq_true rfl, Nat.le_of_ble_eq_true rfl⟩ (ob_recv hK (cX_ob hX) rfl) rfl hl.1 rfl (Nat.le_of_ble_eq_true rfl) d_X_yank_1 ⟨by show 0 + 32 ≤ 34; omega, by show 0 + 954 ≤ 968; omega⟩) (fun v H L hC1 hp hL => ?_)
  have hS0 := hS
  have hS := hS_call hS hC1 hL (fun a h => Or.inl h)
  obtain ⟨na, v2, rfl, hna, hN9, hX, hv4⟩ := hp
  obtain ⟨ad2, had2⟩ : ∃ ad2, ad2 = adU ad v2 := ⟨_, rfl⟩
  rw [← had2] at hX hN9
  have hsz2 := hS.1
  refine W.eq (g2 := F0 m 4 ls [.ref na]) rfl ?_
  refine lv_astore (lv' := [(4, .ref na), (0, .ref x), (1, .int who), (2, .int v0), (3, .int (bI on))]) hx hb d_X_yank_4 hl (by decide) rfl (fun ls hl => ?_)
  refine lv_aload hx hb d_X_yank_6 (lv_at hl 0 rfl) ?_
  refine aP (rV (As := []) (rest := []) C0 (c_N_isName l g _ na T (pN_isN hN9)) (zK_S hZ hS (cX_old hX0)) k_X_yank_8 rfl rfl ⟨Nat.le_of_ble_eq_true rfl, Nat.le_of_ble_eq_true rfl⟩ (isN_recv hK (pN_isN hN9)) rfl hl.1 rfl (Nat.le_of_ble_eq_true rfl) d_X_yank_8 ⟨by show 0 + 32 + 0 ≤ 34; omega, by show 0 + 954 + 0 ≤ 968; omega⟩) ?_
  intro v hv; subst hv
  refine W.eq (g2 := F0 m 11 ls [.int (bI (nameS T))]) rfl ?_
  refine z_eq (tgt := 32) (v := nameS T) hx hb d_X_yank_11 (by decide) (fun c11 => ?_) (fun c11 => ?_)
  · skip
    refine lv_iconst (v := bI false) hx hb d_X_yank_32 (by decide) ?_
    refine rSX (As := [.int (bI false)]) (rest := []) C0 (x_X_demandArguments l g _ htr) (zK_S hZ hS (cX_old hX0)) k_X_yank_33 rfl rfl ⟨Nat.le_of_ble_eq_true rfl, Nat.le_of_ble_eq_true rfl⟩ rfl hl.1 rfl (Nat.le_of_ble_eq_true rfl) d_X_yank_33 ⟨by show 0 + 32 + 1 ≤ 34; omega, by show 0 + 954 + 6 ≤ 968; omega⟩ (fun x9 H L st hW9 hq9 hL => ?_)
    obtain ⟨hx1, ⟨ce, hx2, hx3, hx4⟩, hC1, hp⟩ := hq9
    have hS1 := hS_call hS hC1 hL (fun q h => h.elim)
    refine WX.widen (k := 34) (n := 968) (by omega) (by omega) ?_
    refine WX.out hno ⟨Nat.le_trans hS.1 hx1, ⟨ce, hx2, hx3, by rw [← hW9.alike.findClass]; exact hx4⟩, hS_hC hS1, ⟨v2, by rw [← had2]; exact cX_new hX hC1⟩⟩ hS1.2.2 hlk
  · skip
    refine lv_iload_n hx hb d_X_yank_14 rfl (lv_at hl 2 rfl) ?_
    refine aP (rS (As := [.int who]) (rest := []) C0 (c_X_isPerson l g _ who) (zK_S hZ hS (cX_old hX0)) k_X_yank_15 rfl rfl ⟨Nat.le_of_ble_eq_true rfl, Nat.le_of_ble_eq_true rfl⟩ rfl hl.1 rfl (Nat.le_of_ble_eq_true rfl) d_X_yank_15 ⟨by show 0 + 32 + 0 ≤ 34; omega, by show 0 + 954 + 0 ≤ 968; omega⟩) ?_
    intro v hv; subst hv
    refine W.eq (g2 := F0 m 18 ls [.int (bI (decide (0 ≤ who ∧ who < 8)))]) rfl ?_
    refine z_eq (tgt := 32) (v := decide (0 ≤ who ∧ who < 8)) hx hb d_X_yank_18 (by decide) (fun c18 => ?_) (fun c18 => ?_)
    · skip
      refine lv_iconst (v := bI false) hx hb d_X_yank_32 (by decide) ?_
      refine rSX (As := [.int (bI false)]) (rest := []) C0 (x_X_demandArguments l g _ htr) (zK_S hZ hS (cX_old hX0)) k_X_yank_33 rfl rfl ⟨Nat.le_of_ble_eq_true rfl, Nat.le_of_ble_eq_true rfl⟩ rfl hl.1 rfl (Nat.le_of_ble_eq_true rfl) d_X_yank_33 ⟨by show 0 + 32 + 1 ≤ 34; omega, by show 0 + 954 + 6 ≤ 968; omega⟩ (fun x9 H L st hW9 hq9 hL => ?_)
      obtain ⟨hx1, ⟨ce, hx2, hx3, hx4⟩, hC1, hp⟩ := hq9
      have hS1 := hS_call hS hC1 hL (fun q h => h.elim)
      refine WX.widen (k := 34) (n := 968) (by omega) (by omega) ?_
      refine WX.out hno ⟨Nat.le_trans hS.1 hx1, ⟨ce, hx2, hx3, by rw [← hW9.alike.findClass]; exact hx4⟩, hS_hC hS1, ⟨v2, by rw [← had2]; exact cX_new hX hC1⟩⟩ hS1.2.2 hlk
    · skip
      refine lv_iload_n hx hb d_X_yank_21 rfl (lv_at hl 3 rfl) ?_
      refine aP (rS (As := [.int v0]) (rest := []) C0 (c_X_isVersion l g _ v0) (zK_S hZ hS (cX_old hX0)) k_X_yank_22 rfl rfl ⟨Nat.le_of_ble_eq_true rfl, Nat.le_of_ble_eq_true rfl⟩ rfl hl.1 rfl (Nat.le_of_ble_eq_true rfl) d_X_yank_22 ⟨by show 0 + 32 + 0 ≤ 34; omega, by show 0 + 954 + 0 ≤ 968; omega⟩) ?_
      intro v hv; subst hv
      refine W.eq (g2 := F0 m 25 ls [.int (bI (decide (0 ≤ v0 ∧ v0 < 1000)))]) rfl ?_
      refine z_eq (tgt := 32) (v := decide (0 ≤ v0 ∧ v0 < 1000)) hx hb d_X_yank_25 (by decide) (fun c25 => ?_) (fun c25 => ?_)
      · skip
        refine lv_iconst (v := bI false) hx hb d_X_yank_32 (by decide) ?_
        refine rSX (As := [.int (bI false)]) (rest := []) C0 (x_X_demandArguments l g _ htr) (zK_S hZ hS (cX_old hX0)) k_X_yank_33 rfl rfl ⟨Nat.le_of_ble_eq_true rfl, Nat.le_of_ble_eq_true rfl⟩ rfl hl.1 rfl (Nat.le_of_ble_eq_true rfl) d_X_yank_33 ⟨by show 0 + 32 + 1 ≤ 34; omega, by show 0 + 954 + 6 ≤ 968; omega⟩ (fun x9 H L st hW9 hq9 hL => ?_)
        obtain ⟨hx1, ⟨ce, hx2, hx3, hx4⟩, hC1, hp⟩ := hq9
        have hS1 := hS_call hS hC1 hL (fun q h => h.elim)
        refine WX.widen (k := 34) (n := 968) (by omega) (by omega) ?_
        refine WX.out hno ⟨Nat.le_trans hS.1 hx1, ⟨ce, hx2, hx3, by rw [← hW9.alike.findClass]; exact hx4⟩, hS_hC hS1, ⟨v2, by rw [← had2]; exact cX_new hX hC1⟩⟩ hS1.2.2 hlk
      · skip
        refine lv_iconst (v := bI true) hx hb d_X_yank_28 (by decide) ?_
        refine lv_goto (tgt := 33) hx hb d_X_yank_29 (by decide) ?_
        exact absurd hbad (by rw [c11, c18, c25]; decide)
set_option maxHeartbeats 4000000 in
set_option maxRecDepth 100000 in
/-- yank, st -/
theorem x_X_yankS (l : Launch) (g : gG) (H : Heap) (htr : ∀ e, l.admits e → e.platform.stackTraces = false) (Z : Nat → Prop) (x : Nat) (ad : Nat → Nat) (ms nm nw : Nat) (rows : List Rw) (mir : Nat → List Rw) (T : List Nat) (f : Nat → Int64) (k q : Nat) (f2 : Nat → Int64) (k2 : Nat) (hX : cX Z g H x ad ms nm nw rows mir T f k q f2 k2 0) (hsz : g.2.2.1 ≤ H.size) (hZb : ∀ a, H.size ≤ a → Z a) (who v0 : Int32) (on : Bool) (hA1 : nameS T = true) (hA2 : decide (0 ≤ who ∧ who < 8) = true) (hA3 : decide (0 ≤ v0 ∧ v0 < 1000) = true) (hst : yanC rows T who v0 on = false) : MetX l y_X_yank (wC y_X_yank b_X_yank 6 (some .int)) (rmk 9 34 968 197) (pC g H [.ref x, .int who, .int v0, .int (bI on)]) (qX H (NX ad) isE (fun H1 => ∃ v2, cX Z g H1 x (adU ad v2) ms nm nw rows mir ([]) f k q f2 k2 0)) 34 968 (fW H (NX ad)) := by
  refine mX (by decide) (Nat.le_of_ble_eq_true rfl) ?_
  intro p e s m below meth c ls C0 hH hZ hno hl
  have C0 : cF g p s m _ meth c b_X_yank 6 "RegistryLog" (some .int) := C0
  obtain ⟨hx, hb, hml, hown, hts, hr, hlk, hK⟩ := id C0
  subst hH
  have hl : lv_has ls 6 [(0, .ref x), (1, .int who), (2, .int v0), (3, .int (bI on))] := hl
  have hS : va_S (fW s.heap (NX ad)) s.heap s.heap [] := hS_rf
  have hX0 := hX
  have ad0 := cX_lt hX0 (j := 0) (by decide)
  have ad1 := cX_lt hX0 (j := 1) (by decide)
  refine lv_aload_n hx hb d_X_yank_0 rfl (lv_at hl 0 rfl) ?_
  refine aW (N := (NX ad)) (rV (As := []) (rest := []) C0 (c_X_takeName l g _ Z x ad ms nm nw rows mir T f k q f2 k2 hX hsz hZb) (zK_S hZ hS (cX_old hX0)) k_X_yank_1 rfl rfl ⟨Nat.le_of_ble_eq_true rfl, Nat.le_of_ble_eq_true rfl⟩ (ob_recv hK (cX_ob hX) rfl) rfl hl.1 rfl (Nat.le_of_ble_eq_true rfl) d_X_yank_1 ⟨by show 0 + 32 ≤ 34; omega, by show 0 + 954 ≤ 968; omega⟩) (fun v H L hC1 hp hL => ?_)
  have hS0 := hS
  have hS := hS_call hS hC1 hL (fun a h => Or.inl h)
  obtain ⟨na, v2, rfl, hna, hN9, hX, hv4⟩ := hp
  obtain ⟨ad2, had2⟩ : ∃ ad2, ad2 = adU ad v2 := ⟨_, rfl⟩
  rw [← had2] at hX hN9
  have hsz2 := hS.1
  refine W.eq (g2 := F0 m 4 ls [.ref na]) rfl ?_
  refine lv_astore (lv' := [(4, .ref na), (0, .ref x), (1, .int who), (2, .int v0), (3, .int (bI on))]) hx hb d_X_yank_4 hl (by decide) rfl (fun ls hl => ?_)
  refine lv_aload hx hb d_X_yank_6 (lv_at hl 0 rfl) ?_
  refine aP (rV (As := []) (rest := []) C0 (c_N_isName l g _ na T (pN_isN hN9)) (zK_S hZ hS (cX_old hX0)) k_X_yank_8 rfl rfl ⟨Nat.le_of_ble_eq_true rfl, Nat.le_of_ble_eq_true rfl⟩ (isN_recv hK (pN_isN hN9)) rfl hl.1 rfl (Nat.le_of_ble_eq_true rfl) d_X_yank_8 ⟨by show 0 + 32 + 0 ≤ 34; omega, by show 0 + 954 + 0 ≤ 968; omega⟩) ?_
  intro v hv; subst hv
  refine W.eq (g2 := F0 m 11 ls [.int (bI (nameS T))]) rfl ?_
  refine z_eq (tgt := 32) (v := nameS T) hx hb d_X_yank_11 (by decide) (fun c11 => ?_) (fun c11 => ?_)
  · skip
    exact absurd hA1 (by rw [c11]; decide)
  · skip
    refine lv_iload_n hx hb d_X_yank_14 rfl (lv_at hl 2 rfl) ?_
    refine aP (rS (As := [.int who]) (rest := []) C0 (c_X_isPerson l g _ who) (zK_S hZ hS (cX_old hX0)) k_X_yank_15 rfl rfl ⟨Nat.le_of_ble_eq_true rfl, Nat.le_of_ble_eq_true rfl⟩ rfl hl.1 rfl (Nat.le_of_ble_eq_true rfl) d_X_yank_15 ⟨by show 0 + 32 + 0 ≤ 34; omega, by show 0 + 954 + 0 ≤ 968; omega⟩) ?_
    intro v hv; subst hv
    refine W.eq (g2 := F0 m 18 ls [.int (bI (decide (0 ≤ who ∧ who < 8)))]) rfl ?_
    refine z_eq (tgt := 32) (v := decide (0 ≤ who ∧ who < 8)) hx hb d_X_yank_18 (by decide) (fun c18 => ?_) (fun c18 => ?_)
    · skip
      exact absurd hA2 (by rw [c18]; decide)
    · skip
      refine lv_iload_n hx hb d_X_yank_21 rfl (lv_at hl 3 rfl) ?_
      refine aP (rS (As := [.int v0]) (rest := []) C0 (c_X_isVersion l g _ v0) (zK_S hZ hS (cX_old hX0)) k_X_yank_22 rfl rfl ⟨Nat.le_of_ble_eq_true rfl, Nat.le_of_ble_eq_true rfl⟩ rfl hl.1 rfl (Nat.le_of_ble_eq_true rfl) d_X_yank_22 ⟨by show 0 + 32 + 0 ≤ 34; omega, by show 0 + 954 + 0 ≤ 968; omega⟩) ?_
      intro v hv; subst hv
      refine W.eq (g2 := F0 m 25 ls [.int (bI (decide (0 ≤ v0 ∧ v0 < 1000)))]) rfl ?_
      refine z_eq (tgt := 32) (v := decide (0 ≤ v0 ∧ v0 < 1000)) hx hb d_X_yank_25 (by decide) (fun c25 => ?_) (fun c25 => ?_)
      · skip
        exact absurd hA3 (by rw [c25]; decide)
      · skip
        refine lv_iconst (v := bI true) hx hb d_X_yank_28 (by decide) ?_
        refine lv_goto (tgt := 33) hx hb d_X_yank_29 (by decide) ?_
        refine aP (rS (As := [.int (bI true)]) (rest := []) C0 (c_X_demandArguments l g _) (zK_S hZ hS (cX_old hX0)) k_X_yank_33 rfl rfl ⟨Nat.le_of_ble_eq_true rfl, Nat.le_of_ble_eq_true rfl⟩ rfl hl.1 rfl (Nat.le_of_ble_eq_true rfl) d_X_yank_33 ⟨by show 0 + 32 + 0 ≤ 34; omega, by show 0 + 954 + 0 ≤ 968; omega⟩) ?_
        intro v hv; subst hv
        refine W.eq (g2 := F0 m 36 ls []) rfl ?_
        refine lv_aload_n hx hb d_X_yank_36 rfl (lv_at hl 1 rfl) ?_
        refine va_get (D := g.1) (ci := 0) (C := R_X) (T := F_X) (N := 6) hx hb hts i_X hown hK.1 (cX_ob hX) 0 rfl rfl 1 (by decide) (hts (.fieldLink "RegistryLog" 19 "RegistryLog" "log" "LRegistryLog$Ledger;") (in_3 (List.mem_of_getElem? (i := 10) rfl) rfl)) (fun _ h9 => h9) rfl d_X_yank_37 ?_
        refine lv_aload hx hb d_X_yank_40 (lv_at hl 0 rfl) ?_
        refine aP (rV (As := [.ref na]) (rest := []) C0 (c_L_originOf l g _ (ad2 2) na rows T (pL_isL (cX_log hX)) (pN_isN hN9)) (zK_S hZ hS (cX_old hX0)) k_X_yank_42 rfl rfl ⟨Nat.le_of_ble_eq_true rfl, Nat.le_of_ble_eq_true rfl⟩ (isL_recv hK (pL_isL (cX_log hX))) rfl hl.1 rfl (Nat.le_of_ble_eq_true rfl) d_X_yank_42 ⟨by show 0 + 32 + 0 ≤ 34; omega, by show 0 + 954 + 0 ≤ 968; omega⟩) ?_
        intro v hv; subst hv
        refine W.eq (g2 := F0 m 45 ls [.int (oS T rows (-1))]) rfl ?_
        refine lv_topi (fun x_1 ex_1 => ?_)
        refine lv_istore (lv' := [(5, .int x_1), (4, .ref na), (0, .ref x), (1, .int who), (2, .int v0), (3, .int (bI on))]) hx hb d_X_yank_45 hl (by decide) rfl (fun ls hl => ?_)
        refine lv_aload_n hx hb d_X_yank_47 rfl (lv_at hl 2 rfl) ?_
        refine va_get (D := g.1) (ci := 0) (C := R_X) (T := F_X) (N := 6) hx hb hts i_X hown hK.1 (cX_ob hX) 0 rfl rfl 1 (by decide) (hts (.fieldLink "RegistryLog" 19 "RegistryLog" "log" "LRegistryLog$Ledger;") (in_3 (List.mem_of_getElem? (i := 10) rfl) rfl)) (fun _ h9 => h9) rfl d_X_yank_48 ?_
        refine lv_iload hx hb d_X_yank_51 (lv_at hl 0 rfl) ?_
        refine lv_iload_n hx hb d_X_yank_53 rfl (lv_at hl 3 rfl) ?_
        refine aP (rV (As := [.int x_1, .int who]) (rest := []) C0 (c_L_hasRight l g _ (ad2 2) rows x_1 who (pL_isL (cX_log hX))) (zK_S hZ hS (cX_old hX0)) k_X_yank_54 rfl rfl ⟨Nat.le_of_ble_eq_true rfl, Nat.le_of_ble_eq_true rfl⟩ (isL_recv hK (pL_isL (cX_log hX))) rfl hl.1 rfl (Nat.le_of_ble_eq_true rfl) d_X_yank_54 ⟨by show 0 + 32 + 0 ≤ 34; omega, by show 0 + 954 + 0 ≤ 968; omega⟩) ?_
        intro v hv; subst hv
        refine W.eq (g2 := F0 m 57 ls [.int (bI (hsS rows x_1 who))]) rfl ?_
        refine z_eq (tgt := 92) (v := hsS rows x_1 who) hx hb d_X_yank_57 (by decide) (fun c57 => ?_) (fun c57 => ?_)
        · skip
          refine lv_iconst (v := bI false) hx hb d_X_yank_92 (by decide) ?_
          have ho1 : oS T rows (-1) = x_1 := ex_1.symm
          have hmy : yanC rows T who v0 on = false := by unfold yanC; rw [ho1, c57, Bool.false_and]
          refine rSX (As := [.int (bI false)]) (rest := []) C0 (x_X_demandState l g _ htr) (zK_S hZ hS (cX_old hX0)) k_X_yank_93 rfl rfl ⟨Nat.le_of_ble_eq_true rfl, Nat.le_of_ble_eq_true rfl⟩ rfl hl.1 rfl (Nat.le_of_ble_eq_true rfl) d_X_yank_93 ⟨by show 0 + 32 + 1 ≤ 34; omega, by show 0 + 954 + 6 ≤ 968; omega⟩ (fun x9 H L st hW9 hq9 hL => ?_)
          obtain ⟨hx1, ⟨ce, hx2, hx3, hx4⟩, hC1, hp⟩ := hq9
          have hS1 := hS_call hS hC1 hL (fun q h => h.elim)
          refine WX.widen (k := 34) (n := 968) (by omega) (by omega) ?_
          refine WX.out hno ⟨Nat.le_trans hS.1 hx1, ⟨ce, hx2, hx3, by rw [← hW9.alike.findClass]; exact hx4⟩, hS_hC hS1, ⟨v2, by rw [← had2]; exact cX_new hX hC1⟩⟩ hS1.2.2 hlk
        · skip
          refine lv_aload_n hx hb d_X_yank_60 rfl (lv_at hl 2 rfl) ?_
          refine va_get (D := g.1) (ci := 0) (C := R_X) (T := F_X) (N := 6) hx hb hts i_X hown hK.1 (cX_ob hX) 0 rfl rfl 1 (by decide) (hts (.fieldLink "RegistryLog" 19 "RegistryLog" "log" "LRegistryLog$Ledger;") (in_3 (List.mem_of_getElem? (i := 10) rfl) rfl)) (fun _ h9 => h9) rfl d_X_yank_61 ?_
          refine lv_iload hx hb d_X_yank_64 (lv_at hl 0 rfl) ?_
          refine lv_iload_n hx hb d_X_yank_66 rfl (lv_at hl 4 rfl) ?_
          refine aP (rV (As := [.int x_1, .int v0]) (rest := []) C0 (c_L_publishOf l g _ (ad2 2) rows x_1 v0 (pL_isL (cX_log hX))) (zK_S hZ hS (cX_old hX0)) k_X_yank_67 rfl rfl ⟨Nat.le_of_ble_eq_true rfl, Nat.le_of_ble_eq_true rfl⟩ (isL_recv hK (pL_isL (cX_log hX))) rfl hl.1 rfl (Nat.le_of_ble_eq_true rfl) d_X_yank_67 ⟨by show 0 + 32 + 0 ≤ 34; omega, by show 0 + 954 + 0 ≤ 968; omega⟩) ?_
          intro v hv; subst hv
          refine W.eq (g2 := F0 m 70 ls [.int (pubS x_1 v0 rows 0)]) rfl ?_
          refine lv_iconst (v := (-1)) hx hb d_X_yank_70 (by decide) ?_
          refine lv_icmp_eq (tgt := 92) hx hb d_X_yank_71 (by decide) (fun c71 => ?_) (fun c71 => ?_)
          · skip
            refine lv_iconst (v := bI false) hx hb d_X_yank_92 (by decide) ?_
            have ho1 : oS T rows (-1) = x_1 := ex_1.symm
            have hmy : yanC rows T who v0 on = false := by unfold yanC; rw [ho1, decide_eq_false (p := pubS x_1 v0 rows 0 ≠ -1) (fun z => z c71), Bool.false_and, Bool.and_false]
            refine rSX (As := [.int (bI false)]) (rest := []) C0 (x_X_demandState l g _ htr) (zK_S hZ hS (cX_old hX0)) k_X_yank_93 rfl rfl ⟨Nat.le_of_ble_eq_true rfl, Nat.le_of_ble_eq_true rfl⟩ rfl hl.1 rfl (Nat.le_of_ble_eq_true rfl) d_X_yank_93 ⟨by show 0 + 32 + 1 ≤ 34; omega, by show 0 + 954 + 6 ≤ 968; omega⟩ (fun x9 H L st hW9 hq9 hL => ?_)
            obtain ⟨hx1, ⟨ce, hx2, hx3, hx4⟩, hC1, hp⟩ := hq9
            have hS1 := hS_call hS hC1 hL (fun q h => h.elim)
            refine WX.widen (k := 34) (n := 968) (by omega) (by omega) ?_
            refine WX.out hno ⟨Nat.le_trans hS.1 hx1, ⟨ce, hx2, hx3, by rw [← hW9.alike.findClass]; exact hx4⟩, hS_hC hS1, ⟨v2, by rw [← had2]; exact cX_new hX hC1⟩⟩ hS1.2.2 hlk
          · skip
            refine lv_aload_n hx hb d_X_yank_74 rfl (lv_at hl 2 rfl) ?_
            refine va_get (D := g.1) (ci := 0) (C := R_X) (T := F_X) (N := 6) hx hb hts i_X hown hK.1 (cX_ob hX) 0 rfl rfl 1 (by decide) (hts (.fieldLink "RegistryLog" 19 "RegistryLog" "log" "LRegistryLog$Ledger;") (in_3 (List.mem_of_getElem? (i := 10) rfl) rfl)) (fun _ h9 => h9) rfl d_X_yank_75 ?_
            refine lv_iload hx hb d_X_yank_78 (lv_at hl 0 rfl) ?_
            refine lv_iload_n hx hb d_X_yank_80 rfl (lv_at hl 4 rfl) ?_
            refine aP (rV (As := [.int x_1, .int v0]) (rest := []) C0 (c_L_isYanked l g _ (ad2 2) rows x_1 v0 (pL_isL (cX_log hX))) (zK_S hZ hS (cX_old hX0)) k_X_yank_81 rfl rfl ⟨Nat.le_of_ble_eq_true rfl, Nat.le_of_ble_eq_true rfl⟩ (isL_recv hK (pL_isL (cX_log hX))) rfl hl.1 rfl (Nat.le_of_ble_eq_true rfl) d_X_yank_81 ⟨by show 0 + 32 + 0 ≤ 34; omega, by show 0 + 954 + 0 ≤ 968; omega⟩) ?_
            intro v hv; subst hv
            refine W.eq (g2 := F0 m 84 ls [.int (bI (ynS x_1 v0 rows false))]) rfl ?_
            refine lv_iload_n hx hb d_X_yank_84 rfl (lv_at hl 5 rfl) ?_
            refine lv_icmp_eq (tgt := 92) hx hb d_X_yank_85 (by decide) (fun c85 => ?_) (fun c85 => ?_)
            · skip
              refine lv_iconst (v := bI false) hx hb d_X_yank_92 (by decide) ?_
              have ho1 : oS T rows (-1) = x_1 := ex_1.symm
              have hmy : yanC rows T who v0 on = false := by unfold yanC; rw [ho1, decide_eq_false (p := ynS x_1 v0 rows false ≠ on) (fun z => z (bI_e.mp c85)), Bool.and_false, Bool.and_false]
              refine rSX (As := [.int (bI false)]) (rest := []) C0 (x_X_demandState l g _ htr) (zK_S hZ hS (cX_old hX0)) k_X_yank_93 rfl rfl ⟨Nat.le_of_ble_eq_true rfl, Nat.le_of_ble_eq_true rfl⟩ rfl hl.1 rfl (Nat.le_of_ble_eq_true rfl) d_X_yank_93 ⟨by show 0 + 32 + 1 ≤ 34; omega, by show 0 + 954 + 6 ≤ 968; omega⟩ (fun x9 H L st hW9 hq9 hL => ?_)
              obtain ⟨hx1, ⟨ce, hx2, hx3, hx4⟩, hC1, hp⟩ := hq9
              have hS1 := hS_call hS hC1 hL (fun q h => h.elim)
              refine WX.widen (k := 34) (n := 968) (by omega) (by omega) ?_
              refine WX.out hno ⟨Nat.le_trans hS.1 hx1, ⟨ce, hx2, hx3, by rw [← hW9.alike.findClass]; exact hx4⟩, hS_hC hS1, ⟨v2, by rw [← had2]; exact cX_new hX hC1⟩⟩ hS1.2.2 hlk
            · skip
              refine lv_iconst (v := bI true) hx hb d_X_yank_88 (by decide) ?_
              refine lv_goto (tgt := 93) hx hb d_X_yank_89 (by decide) ?_
              have ho1 : oS T rows (-1) = x_1 := ex_1.symm
              have hmy : yanC rows T who v0 on = true := by unfold yanC; rw [ho1, c57, decide_eq_true (p := pubS x_1 v0 rows 0 ≠ -1) c71, decide_eq_true (p := ynS x_1 v0 rows false ≠ on) (fun z => c85 (bI_e.mpr z))]; rfl
              exact absurd hst (by rw [hmy]; decide)
set_option maxHeartbeats 4000000 in
set_option maxRecDepth 100000 in
/-- yank, full -/
theorem x_X_yankF (l : Launch) (g : gG) (H : Heap) (htr : ∀ e, l.admits e → e.platform.stackTraces = false) (Z : Nat → Prop) (x : Nat) (ad : Nat → Nat) (ms nm nw : Nat) (rows : List Rw) (mir : Nat → List Rw) (T : List Nat) (f : Nat → Int64) (k q : Nat) (f2 : Nat → Int64) (k2 : Nat) (hX : cX Z g H x ad ms nm nw rows mir T f k q f2 k2 0) (hsz : g.2.2.1 ≤ H.size) (hZb : ∀ a, H.size ≤ a → Z a) (who v0 : Int32) (on : Bool) (og0 : Int32) (hA1 : nameS T = true) (hA2 : decide (0 ≤ who ∧ who < 8) = true) (hA3 : decide (0 ≤ v0 ∧ v0 < 1000) = true) (hmay : yanC rows T who v0 on = true) (hog : oS T rows (-1) = og0) (hge : ¬ rows.length < 120) : MetX l y_X_yank (wC y_X_yank b_X_yank 6 (some .int)) (rmk 9 34 968 197) (pC g H [.ref x, .int who, .int v0, .int (bI on)]) (qX H (NX ad) isE (fun H1 => ∃ v2, cX Z g H1 x (adU ad v2) ms nm nw rows mir ([]) f k q f2 k2 0)) 34 968 (fW H (NX ad)) := by
  refine mX (by decide) (Nat.le_of_ble_eq_true rfl) ?_
  intro p e s m below meth c ls C0 hH hZ hno hl
  have C0 : cF g p s m _ meth c b_X_yank 6 "RegistryLog" (some .int) := C0
  obtain ⟨hx, hb, hml, hown, hts, hr, hlk, hK⟩ := id C0
  subst hH
  have hl : lv_has ls 6 [(0, .ref x), (1, .int who), (2, .int v0), (3, .int (bI on))] := hl
  have hS : va_S (fW s.heap (NX ad)) s.heap s.heap [] := hS_rf
  have hX0 := hX
  have ad0 := cX_lt hX0 (j := 0) (by decide)
  have ad1 := cX_lt hX0 (j := 1) (by decide)
  refine lv_aload_n hx hb d_X_yank_0 rfl (lv_at hl 0 rfl) ?_
  refine aW (N := (NX ad)) (rV (As := []) (rest := []) C0 (c_X_takeName l g _ Z x ad ms nm nw rows mir T f k q f2 k2 hX hsz hZb) (zK_S hZ hS (cX_old hX0)) k_X_yank_1 rfl rfl ⟨Nat.le_of_ble_eq_true rfl, Nat.le_of_ble_eq_true rfl⟩ (ob_recv hK (cX_ob hX) rfl) rfl hl.1 rfl (Nat.le_of_ble_eq_true rfl) d_X_yank_1 ⟨by show 0 + 32 ≤ 34; omega, by show 0 + 954 ≤ 968; omega⟩) (fun v H L hC1 hp hL => ?_)
  have hS0 := hS
  have hS := hS_call hS hC1 hL (fun a h => Or.inl h)
  obtain ⟨na, v2, rfl, hna, hN9, hX, hv4⟩ := hp
  obtain ⟨ad2, had2⟩ : ∃ ad2, ad2 = adU ad v2 := ⟨_, rfl⟩
  rw [← had2] at hX hN9
  have hsz2 := hS.1
  refine W.eq (g2 := F0 m 4 ls [.ref na]) rfl ?_
  refine lv_astore (lv' := [(4, .ref na), (0, .ref x), (1, .int who), (2, .int v0), (3, .int (bI on))]) hx hb d_X_yank_4 hl (by decide) rfl (fun ls hl => ?_)
  refine lv_aload hx hb d_X_yank_6 (lv_at hl 0 rfl) ?_
  refine aP (rV (As := []) (rest := []) C0 (c_N_isName l g _ na T (pN_isN hN9)) (zK_S hZ hS (cX_old hX0)) k_X_yank_8 rfl rfl ⟨Nat.le_of_ble_eq_true rfl, Nat.le_of_ble_eq_true rfl⟩ (isN_recv hK (pN_isN hN9)) rfl hl.1 rfl (Nat.le_of_ble_eq_true rfl) d_X_yank_8 ⟨by show 0 + 32 + 0 ≤ 34; omega, by show 0 + 954 + 0 ≤ 968; omega⟩) ?_
  intro v hv; subst hv
  refine W.eq (g2 := F0 m 11 ls [.int (bI (nameS T))]) rfl ?_
  refine z_eq (tgt := 32) (v := nameS T) hx hb d_X_yank_11 (by decide) (fun c11 => ?_) (fun c11 => ?_)
  · skip
    exact absurd hA1 (by rw [c11]; decide)
  · skip
    refine lv_iload_n hx hb d_X_yank_14 rfl (lv_at hl 2 rfl) ?_
    refine aP (rS (As := [.int who]) (rest := []) C0 (c_X_isPerson l g _ who) (zK_S hZ hS (cX_old hX0)) k_X_yank_15 rfl rfl ⟨Nat.le_of_ble_eq_true rfl, Nat.le_of_ble_eq_true rfl⟩ rfl hl.1 rfl (Nat.le_of_ble_eq_true rfl) d_X_yank_15 ⟨by show 0 + 32 + 0 ≤ 34; omega, by show 0 + 954 + 0 ≤ 968; omega⟩) ?_
    intro v hv; subst hv
    refine W.eq (g2 := F0 m 18 ls [.int (bI (decide (0 ≤ who ∧ who < 8)))]) rfl ?_
    refine z_eq (tgt := 32) (v := decide (0 ≤ who ∧ who < 8)) hx hb d_X_yank_18 (by decide) (fun c18 => ?_) (fun c18 => ?_)
    · skip
      exact absurd hA2 (by rw [c18]; decide)
    · skip
      refine lv_iload_n hx hb d_X_yank_21 rfl (lv_at hl 3 rfl) ?_
      refine aP (rS (As := [.int v0]) (rest := []) C0 (c_X_isVersion l g _ v0) (zK_S hZ hS (cX_old hX0)) k_X_yank_22 rfl rfl ⟨Nat.le_of_ble_eq_true rfl, Nat.le_of_ble_eq_true rfl⟩ rfl hl.1 rfl (Nat.le_of_ble_eq_true rfl) d_X_yank_22 ⟨by show 0 + 32 + 0 ≤ 34; omega, by show 0 + 954 + 0 ≤ 968; omega⟩) ?_
      intro v hv; subst hv
      refine W.eq (g2 := F0 m 25 ls [.int (bI (decide (0 ≤ v0 ∧ v0 < 1000)))]) rfl ?_
      refine z_eq (tgt := 32) (v := decide (0 ≤ v0 ∧ v0 < 1000)) hx hb d_X_yank_25 (by decide) (fun c25 => ?_) (fun c25 => ?_)
      · skip
        exact absurd hA3 (by rw [c25]; decide)
      · skip
        refine lv_iconst (v := bI true) hx hb d_X_yank_28 (by decide) ?_
        refine lv_goto (tgt := 33) hx hb d_X_yank_29 (by decide) ?_
        refine aP (rS (As := [.int (bI true)]) (rest := []) C0 (c_X_demandArguments l g _) (zK_S hZ hS (cX_old hX0)) k_X_yank_33 rfl rfl ⟨Nat.le_of_ble_eq_true rfl, Nat.le_of_ble_eq_true rfl⟩ rfl hl.1 rfl (Nat.le_of_ble_eq_true rfl) d_X_yank_33 ⟨by show 0 + 32 + 0 ≤ 34; omega, by show 0 + 954 + 0 ≤ 968; omega⟩) ?_
        intro v hv; subst hv
        refine W.eq (g2 := F0 m 36 ls []) rfl ?_
        refine lv_aload_n hx hb d_X_yank_36 rfl (lv_at hl 1 rfl) ?_
        refine va_get (D := g.1) (ci := 0) (C := R_X) (T := F_X) (N := 6) hx hb hts i_X hown hK.1 (cX_ob hX) 0 rfl rfl 1 (by decide) (hts (.fieldLink "RegistryLog" 19 "RegistryLog" "log" "LRegistryLog$Ledger;") (in_3 (List.mem_of_getElem? (i := 10) rfl) rfl)) (fun _ h9 => h9) rfl d_X_yank_37 ?_
        refine lv_aload hx hb d_X_yank_40 (lv_at hl 0 rfl) ?_
        refine aP (rV (As := [.ref na]) (rest := []) C0 (c_L_originOf l g _ (ad2 2) na rows T (pL_isL (cX_log hX)) (pN_isN hN9)) (zK_S hZ hS (cX_old hX0)) k_X_yank_42 rfl rfl ⟨Nat.le_of_ble_eq_true rfl, Nat.le_of_ble_eq_true rfl⟩ (isL_recv hK (pL_isL (cX_log hX))) rfl hl.1 rfl (Nat.le_of_ble_eq_true rfl) d_X_yank_42 ⟨by show 0 + 32 + 0 ≤ 34; omega, by show 0 + 954 + 0 ≤ 968; omega⟩) ?_
        intro v hv; subst hv
        refine W.eq (g2 := F0 m 45 ls [.int (oS T rows (-1))]) rfl ?_
        refine lv_topi (fun x_1 ex_1 => ?_)
        refine lv_istore (lv' := [(5, .int x_1), (4, .ref na), (0, .ref x), (1, .int who), (2, .int v0), (3, .int (bI on))]) hx hb d_X_yank_45 hl (by decide) rfl (fun ls hl => ?_)
        refine lv_aload_n hx hb d_X_yank_47 rfl (lv_at hl 2 rfl) ?_
        refine va_get (D := g.1) (ci := 0) (C := R_X) (T := F_X) (N := 6) hx hb hts i_X hown hK.1 (cX_ob hX) 0 rfl rfl 1 (by decide) (hts (.fieldLink "RegistryLog" 19 "RegistryLog" "log" "LRegistryLog$Ledger;") (in_3 (List.mem_of_getElem? (i := 10) rfl) rfl)) (fun _ h9 => h9) rfl d_X_yank_48 ?_
        refine lv_iload hx hb d_X_yank_51 (lv_at hl 0 rfl) ?_
        refine lv_iload_n hx hb d_X_yank_53 rfl (lv_at hl 3 rfl) ?_
        refine aP (rV (As := [.int x_1, .int who]) (rest := []) C0 (c_L_hasRight l g _ (ad2 2) rows x_1 who (pL_isL (cX_log hX))) (zK_S hZ hS (cX_old hX0)) k_X_yank_54 rfl rfl ⟨Nat.le_of_ble_eq_true rfl, Nat.le_of_ble_eq_true rfl⟩ (isL_recv hK (pL_isL (cX_log hX))) rfl hl.1 rfl (Nat.le_of_ble_eq_true rfl) d_X_yank_54 ⟨by show 0 + 32 + 0 ≤ 34; omega, by show 0 + 954 + 0 ≤ 968; omega⟩) ?_
        intro v hv; subst hv
        refine W.eq (g2 := F0 m 57 ls [.int (bI (hsS rows x_1 who))]) rfl ?_
        refine z_eq (tgt := 92) (v := hsS rows x_1 who) hx hb d_X_yank_57 (by decide) (fun c57 => ?_) (fun c57 => ?_)
        · skip
          refine lv_iconst (v := bI false) hx hb d_X_yank_92 (by decide) ?_
          have ho1 : oS T rows (-1) = x_1 := ex_1.symm
          have hmy : yanC rows T who v0 on = false := by unfold yanC; rw [ho1, c57, Bool.false_and]
          exact absurd hmay (by rw [hmy]; decide)
        · skip
          refine lv_aload_n hx hb d_X_yank_60 rfl (lv_at hl 2 rfl) ?_
          refine va_get (D := g.1) (ci := 0) (C := R_X) (T := F_X) (N := 6) hx hb hts i_X hown hK.1 (cX_ob hX) 0 rfl rfl 1 (by decide) (hts (.fieldLink "RegistryLog" 19 "RegistryLog" "log" "LRegistryLog$Ledger;") (in_3 (List.mem_of_getElem? (i := 10) rfl) rfl)) (fun _ h9 => h9) rfl d_X_yank_61 ?_
          refine lv_iload hx hb d_X_yank_64 (lv_at hl 0 rfl) ?_
          refine lv_iload_n hx hb d_X_yank_66 rfl (lv_at hl 4 rfl) ?_
          refine aP (rV (As := [.int x_1, .int v0]) (rest := []) C0 (c_L_publishOf l g _ (ad2 2) rows x_1 v0 (pL_isL (cX_log hX))) (zK_S hZ hS (cX_old hX0)) k_X_yank_67 rfl rfl ⟨Nat.le_of_ble_eq_true rfl, Nat.le_of_ble_eq_true rfl⟩ (isL_recv hK (pL_isL (cX_log hX))) rfl hl.1 rfl (Nat.le_of_ble_eq_true rfl) d_X_yank_67 ⟨by show 0 + 32 + 0 ≤ 34; omega, by show 0 + 954 + 0 ≤ 968; omega⟩) ?_
          intro v hv; subst hv
          refine W.eq (g2 := F0 m 70 ls [.int (pubS x_1 v0 rows 0)]) rfl ?_
          refine lv_iconst (v := (-1)) hx hb d_X_yank_70 (by decide) ?_
          refine lv_icmp_eq (tgt := 92) hx hb d_X_yank_71 (by decide) (fun c71 => ?_) (fun c71 => ?_)
          · skip
            refine lv_iconst (v := bI false) hx hb d_X_yank_92 (by decide) ?_
            have ho1 : oS T rows (-1) = x_1 := ex_1.symm
            have hmy : yanC rows T who v0 on = false := by unfold yanC; rw [ho1, decide_eq_false (p := pubS x_1 v0 rows 0 ≠ -1) (fun z => z c71), Bool.false_and, Bool.and_false]
            exact absurd hmay (by rw [hmy]; decide)
          · skip
            refine lv_aload_n hx hb d_X_yank_74 rfl (lv_at hl 2 rfl) ?_
            refine va_get (D := g.1) (ci := 0) (C := R_X) (T := F_X) (N := 6) hx hb hts i_X hown hK.1 (cX_ob hX) 0 rfl rfl 1 (by decide) (hts (.fieldLink "RegistryLog" 19 "RegistryLog" "log" "LRegistryLog$Ledger;") (in_3 (List.mem_of_getElem? (i := 10) rfl) rfl)) (fun _ h9 => h9) rfl d_X_yank_75 ?_
            refine lv_iload hx hb d_X_yank_78 (lv_at hl 0 rfl) ?_
            refine lv_iload_n hx hb d_X_yank_80 rfl (lv_at hl 4 rfl) ?_
            refine aP (rV (As := [.int x_1, .int v0]) (rest := []) C0 (c_L_isYanked l g _ (ad2 2) rows x_1 v0 (pL_isL (cX_log hX))) (zK_S hZ hS (cX_old hX0)) k_X_yank_81 rfl rfl ⟨Nat.le_of_ble_eq_true rfl, Nat.le_of_ble_eq_true rfl⟩ (isL_recv hK (pL_isL (cX_log hX))) rfl hl.1 rfl (Nat.le_of_ble_eq_true rfl) d_X_yank_81 ⟨by show 0 + 32 + 0 ≤ 34; omega, by show 0 + 954 + 0 ≤ 968; omega⟩) ?_
            intro v hv; subst hv
            refine W.eq (g2 := F0 m 84 ls [.int (bI (ynS x_1 v0 rows false))]) rfl ?_
            refine lv_iload_n hx hb d_X_yank_84 rfl (lv_at hl 5 rfl) ?_
            refine lv_icmp_eq (tgt := 92) hx hb d_X_yank_85 (by decide) (fun c85 => ?_) (fun c85 => ?_)
            · skip
              refine lv_iconst (v := bI false) hx hb d_X_yank_92 (by decide) ?_
              have ho1 : oS T rows (-1) = x_1 := ex_1.symm
              have hmy : yanC rows T who v0 on = false := by unfold yanC; rw [ho1, decide_eq_false (p := ynS x_1 v0 rows false ≠ on) (fun z => z (bI_e.mp c85)), Bool.and_false, Bool.and_false]
              exact absurd hmay (by rw [hmy]; decide)
            · skip
              refine lv_iconst (v := bI true) hx hb d_X_yank_88 (by decide) ?_
              refine lv_goto (tgt := 93) hx hb d_X_yank_89 (by decide) ?_
              have ho1 : oS T rows (-1) = x_1 := ex_1.symm
              have hmy : yanC rows T who v0 on = true := by unfold yanC; rw [ho1, c57, decide_eq_true (p := pubS x_1 v0 rows 0 ≠ -1) c71, decide_eq_true (p := ynS x_1 v0 rows false ≠ on) (fun z => c85 (bI_e.mpr z))]; rfl
              refine aP (rS (As := [.int (bI true)]) (rest := []) C0 (c_X_demandState l g _) (zK_S hZ hS (cX_old hX0)) k_X_yank_93 rfl rfl ⟨Nat.le_of_ble_eq_true rfl, Nat.le_of_ble_eq_true rfl⟩ rfl hl.1 rfl (Nat.le_of_ble_eq_true rfl) d_X_yank_93 ⟨by show 0 + 32 + 0 ≤ 34; omega, by show 0 + 954 + 0 ≤ 968; omega⟩) ?_
              intro v hv; subst hv
              refine W.eq (g2 := F0 m 96 ls []) rfl ?_
              refine lv_aload_n hx hb d_X_yank_96 rfl (lv_at hl 2 rfl) ?_
              rw [ho1] at hog
              subst hog
              have hadq : ∀ j, j < 16 → ad2 j < H.size := fun j hj => cX_lt hX hj
              obtain ⟨z9, hz9⟩ : ∃ z9, z9 = H.size := ⟨_, rfl⟩
              rw [← hz9] at hadq
              have hzs : s.heap.size ≤ z9 := by rw [hz9]; exact hS.1
              have hS0 := hS
              refine s_new (ci := 4) (C := R_R) (T := F_R) (N := 8) hx hb hts i_R t_R t_R_ok hown (hts _ (in_4 (List.mem_of_getElem? (i := 102) rfl) rfl)) (hts _ (in_2 (List.mem_of_getElem? (i := 166) rfl) rfl)) (hts _ (in_1 (List.mem_of_getElem? (i := 19) rfl) rfl)) hK hS rfl (fs := [.int 0, .int 0, .null, .null, .int 0, .int 0, .int 0, .long 0]) (by decide) (by show 0 + 32 + 1 ≤ 34; omega) (by show 0 + 954 + 8 ≤ 968; omega) d_X_yank_97 (fun q1 H hq f_q1 hz o1 hS => ?_)
              have hX := cX_mv hX (Z' := fun a => Z a ∧ a ≠ q1) (fun a h1 h2 => ⟨o1 a (by rw [hq]; exact h2), h1, by omega⟩)
              have hN9 := pN_mv hN9 (P' := fun a => PX Z ad2 a ∧ a ≠ q1) (fun a h1 h2 => ⟨o1 a (by rw [hq]; exact h2), h1, by omega⟩)
              have ge_q1 : s.heap.size ≤ q1 := by rw [hq]; exact hS0.1
              refine lv_dup hx hb d_X_yank_100 rfl ?_
              refine lv_iconst (v := nI 1) hx hb d_X_yank_101 (by decide) ?_
              refine lv_iload_n hx hb d_X_yank_102 rfl (lv_at hl 3 rfl) ?_
              refine lv_aload hx hb d_X_yank_103 (lv_at hl 1 rfl) ?_
              refine lv_aload hx hb d_X_yank_105 (lv_at hl 1 rfl) ?_
              refine lv_iload_n hx hb d_X_yank_107 rfl (lv_at hl 4 rfl) ?_
              refine lv_iload_n hx hb d_X_yank_108 rfl (lv_at hl 5 rfl) ?_
              refine aP (rS (As := [.int (bI on)]) (rest := [.int v0, .ref na, .ref na, .int who, .int (nI 1), .ref q1, .ref q1, .ref x]) C0 (c_X_asNumber l g _ on) (zK_S hZ hS (cX_old hX0)) k_X_yank_109 rfl rfl ⟨Nat.le_of_ble_eq_true rfl, Nat.le_of_ble_eq_true rfl⟩ rfl hl.1 rfl (Nat.le_of_ble_eq_true rfl) d_X_yank_109 ⟨by show 0 + 32 + 1 + 0 ≤ 34; omega, by show 0 + 954 + 8 + 0 ≤ 968; omega⟩) ?_
              intro v hv; subst hv
              refine W.eq (g2 := F0 m 112 ls [.int (bI on), .int v0, .ref na, .ref na, .int who, .int (nI 1), .ref q1, .ref q1, .ref x]) rfl ?_
              refine lv_iload hx hb d_X_yank_112 (lv_at hl 0 rfl) ?_
              refine aW (N := (fun a => a = q1)) (rI (As := [.int (nI 1), .int who, .ref na, .ref na, .int v0, .int (bI on), .int x_1]) (rest := [.ref q1, .ref x]) C0 (c_R_init l g _ q1 na na (nI 1) who v0 (bI on) x_1 T T f_q1 (by omega) (pN_P hN9 (fun a h1 _ => h1.2)) (pN_P hN9 (fun a h1 _ => h1.2))) (zK_S hZ hS (cX_old hX0)) k_X_yank_114 rfl rfl ⟨Nat.le_of_ble_eq_true rfl, Nat.le_of_ble_eq_true rfl⟩ rfl hl.1 rfl (Nat.le_of_ble_eq_true rfl) d_X_yank_114 ⟨by show 0 + 32 + 1 + 0 ≤ 34; omega, by show 0 + 954 + 8 + 0 ≤ 968; omega⟩) (fun v H L hC1 hp hL => ?_)
              have hS0 := hS
              have hS := hS_call hS hC1 hL (fun a h => by rw [h]; exact Or.inr (by omega))
              obtain ⟨rfl, f_q1⟩ := hp
              have hX := cX_mv (Z' := Z) hX (fun a h1 h2 => ⟨hC_at hC1 h2 (fun z => h1.2 z), h1.1⟩)
              have hN9 := pN_mv (P' := PX Z ad2) hN9 (fun a h1 h2 => ⟨hC_at hC1 h2 (fun z => h1.2 z), h1.1⟩)
              have hR1 : pR (PX Z ad2) g H q1 ((nI 1), who, T, T, v0, (bI on), x_1) := ⟨na, na, ⟨fun j hj z => by have := hadq j hj; omega, hZb _ (by omega)⟩, f_q1, hN9, hN9⟩
              refine W.eq (g2 := F0 m 117 ls [.ref q1, .ref x]) rfl ?_
              refine rVX (As := [.ref q1]) (rest := []) C0 (x_X_write l g _ htr Z x ad2 ms nm nw rows mir [] f k q f2 k2 hX q1 hge) (zK_S hZ hS (cX_old hX0)) k_X_yank_117 rfl rfl ⟨Nat.le_of_ble_eq_true rfl, Nat.le_of_ble_eq_true rfl⟩ (ob_recv hK (cX_ob hX) rfl) rfl hl.1 rfl (Nat.le_of_ble_eq_true rfl) d_X_yank_117 ⟨by show 0 + 32 + 1 + 0 + 1 ≤ 34; omega, by show 0 + 954 + 8 + 0 + 6 ≤ 968; omega⟩ (fun x9 H L st hW9 hq9 hL => ?_)
              obtain ⟨hx1, ⟨ce, hx2, hx3, hx4⟩, hC1, hp⟩ := hq9
              have hS1 := hS_call hS hC1 hL (fun a h => NX_U hv4 (by rw [← had2]; exact h))
              refine WX.widen (k := 34) (n := 968) (by omega) (by omega) ?_
              refine WX.out hno ⟨Nat.le_trans hS.1 hx1, ⟨ce, hx2, hx3, by rw [← hW9.alike.findClass]; exact hx4⟩, hS_hC hS1, ⟨v2, by rw [← had2]; exact hp⟩⟩ hS1.2.2 hlk
theorem k_X_grant_1 : kV "RegistryLog" 48 "RegistryLog" y_X_takeName b_X_takeName 1 (some (.object "RegistryLog$Name")) 0 := ⟨(in_3 (List.mem_of_getElem? (i := 198) rfl) rfl), (in_3 (List.mem_of_getElem? (i := 200) rfl) rfl), (in_0 (List.mem_of_getElem? (i := 3) rfl) rfl), (in_1 (List.mem_of_getElem? (i := 1) rfl) rfl), (in_3 (List.mem_of_getElem? (i := 201) rfl) rfl), ⟨by decide, by decide, by decide +kernel⟩⟩
theorem k_X_grant_8 : kV "RegistryLog" 52 "RegistryLog$Name" y_N_isName b_N_isName 6 (some .boolean) 0 := ⟨(in_4 (List.mem_of_getElem? (i := 50) rfl) rfl), (in_4 (List.mem_of_getElem? (i := 51) rfl) rfl), (in_4 (List.mem_of_getElem? (i := 52) rfl) rfl), (in_1 (List.mem_of_getElem? (i := 7) rfl) rfl), (in_4 (List.mem_of_getElem? (i := 53) rfl) rfl), ⟨by decide, by decide, by decide +kernel⟩⟩
theorem k_X_grant_15 : kS "RegistryLog" 58 y_X_isPerson b_X_isPerson 1 (some .boolean) 1 := ⟨(in_4 (List.mem_of_getElem? (i := 17) rfl) rfl), (in_4 (List.mem_of_getElem? (i := 18) rfl) rfl), (in_1 (List.mem_of_getElem? (i := 1) rfl) rfl), (in_4 (List.mem_of_getElem? (i := 19) rfl) rfl), ⟨by decide, by decide, by decide +kernel⟩⟩
theorem k_X_grant_22 : kS "RegistryLog" 58 y_X_isPerson b_X_isPerson 1 (some .boolean) 1 := ⟨(in_4 (List.mem_of_getElem? (i := 17) rfl) rfl), (in_4 (List.mem_of_getElem? (i := 18) rfl) rfl), (in_1 (List.mem_of_getElem? (i := 1) rfl) rfl), (in_4 (List.mem_of_getElem? (i := 19) rfl) rfl), ⟨by decide, by decide, by decide +kernel⟩⟩
theorem k_X_grant_33 : kS "RegistryLog" 65 y_X_demandArguments b_X_demandArguments 1 none 1 := ⟨(in_4 (List.mem_of_getElem? (i := 57) rfl) rfl), (in_4 (List.mem_of_getElem? (i := 58) rfl) rfl), (in_1 (List.mem_of_getElem? (i := 1) rfl) rfl), (in_4 (List.mem_of_getElem? (i := 59) rfl) rfl), ⟨by decide, by decide, by decide +kernel⟩⟩
theorem k_X_grant_42 : kV "RegistryLog" 69 "RegistryLog$Ledger" y_L_originOf b_L_originOf 5 (some .int) 1 := ⟨(in_3 (List.mem_of_getElem? (i := 232) rfl) rfl), (in_3 (List.mem_of_getElem? (i := 233) rfl) rfl), (in_3 (List.mem_of_getElem? (i := 234) rfl) rfl), (in_1 (List.mem_of_getElem? (i := 6) rfl) rfl), (in_3 (List.mem_of_getElem? (i := 235) rfl) rfl), ⟨by decide, by decide, by decide +kernel⟩⟩
theorem k_X_grant_53 : kV "RegistryLog" 107 "RegistryLog$Ledger" y_L_founderOf b_L_founderOf 2 (some .int) 1 := ⟨(in_4 (List.mem_of_getElem? (i := 9) rfl) rfl), (in_4 (List.mem_of_getElem? (i := 10) rfl) rfl), (in_4 (List.mem_of_getElem? (i := 11) rfl) rfl), (in_1 (List.mem_of_getElem? (i := 6) rfl) rfl), (in_4 (List.mem_of_getElem? (i := 12) rfl) rfl), ⟨by decide, by decide, by decide +kernel⟩⟩
theorem k_X_grant_77 : kV "RegistryLog" 83 "RegistryLog$Ledger" y_L_hasRight b_L_hasRight 6 (some .boolean) 2 := ⟨(in_4 (List.mem_of_getElem? (i := 20) rfl) rfl), (in_4 (List.mem_of_getElem? (i := 21) rfl) rfl), (in_4 (List.mem_of_getElem? (i := 22) rfl) rfl), (in_1 (List.mem_of_getElem? (i := 6) rfl) rfl), (in_4 (List.mem_of_getElem? (i := 23) rfl) rfl), ⟨by decide, by decide, by decide +kernel⟩⟩
theorem k_X_grant_89 : kS "RegistryLog" 77 y_X_demandState b_X_demandState 1 none 1 := ⟨(in_4 (List.mem_of_getElem? (i := 83) rfl) rfl), (in_4 (List.mem_of_getElem? (i := 84) rfl) rfl), (in_1 (List.mem_of_getElem? (i := 1) rfl) rfl), (in_4 (List.mem_of_getElem? (i := 85) rfl) rfl), ⟨by decide, by decide, by decide +kernel⟩⟩
theorem k_X_grant_105 : kS "RegistryLog" 103 y_X_asNumber b_X_asNumber 1 (some .int) 1 := ⟨(in_4 (List.mem_of_getElem? (i := 115) rfl) rfl), (in_4 (List.mem_of_getElem? (i := 116) rfl) rfl), (in_1 (List.mem_of_getElem? (i := 1) rfl) rfl), (in_4 (List.mem_of_getElem? (i := 117) rfl) rfl), ⟨by decide, by decide, by decide +kernel⟩⟩
theorem k_X_grant_110 : kI "RegistryLog" 93 y_R_init b_R_init 10 7 := ⟨(in_4 (List.mem_of_getElem? (i := 103) rfl) rfl), (in_2 (List.mem_of_getElem? (i := 168) rfl) rfl), (in_1 (List.mem_of_getElem? (i := 19) rfl) rfl), (in_2 (List.mem_of_getElem? (i := 169) rfl) rfl), rfl, ⟨by decide, by decide, by decide +kernel⟩⟩
theorem k_X_grant_113 : kV "RegistryLog" 96 "RegistryLog" y_X_write b_X_write 3 (some .int) 1 := ⟨(in_4 (List.mem_of_getElem? (i := 104) rfl) rfl), (in_4 (List.mem_of_getElem? (i := 106) rfl) rfl), (in_0 (List.mem_of_getElem? (i := 5) rfl) rfl), (in_1 (List.mem_of_getElem? (i := 1) rfl) rfl), (in_4 (List.mem_of_getElem? (i := 107) rfl) rfl), ⟨by decide, by decide, by decide +kernel⟩⟩
set_option maxHeartbeats 4000000 in
set_option maxRecDepth 100000 in
/-- grant -/
theorem c_X_grant (l : Launch) (g : gG) (H : Heap) (Z : Nat → Prop) (x : Nat) (ad : Nat → Nat) (ms nm nw : Nat) (rows : List Rw) (mir : Nat → List Rw) (T : List Nat) (f : Nat → Int64) (k q : Nat) (f2 : Nat → Int64) (k2 : Nat) (hX : cX Z g H x ad ms nm nw rows mir T f k q f2 k2 0) (hsz : g.2.2.1 ≤ H.size) (hZb : ∀ a, H.size ≤ a → Z a) (who oth : Int32) (on : Bool) (og0 : Int32) (hA1 : nameS T = true) (hA2 : decide (0 ≤ who ∧ who < 8) = true) (hA3 : decide (0 ≤ oth ∧ oth < 8) = true) (hmay : graC rows T who oth on = true) (hog : oS T rows (-1) = og0) (hlt : rows.length < 120) : Met l y_X_grant (wC y_X_grant b_X_grant 7 (some .int)) (rmk 9 33 962 197) (pC g H [.ref x, .int who, .int oth, .int (bI on)]) (qW H (NX ad) (fun r H1 => ∃ v2, r = some (.int (nI rows.length)) ∧ cX Z g H1 x (adU ad v2) ms nm nw (rows ++ [(2, who, T, T, oth, bI on, og0)]) mir ([]) f k q f2 k2 0)) 33 962 (fW H (NX ad)) := by
  refine mB (by decide) (Nat.le_of_ble_eq_true rfl) ?_
  intro p e s m below meth c ls C0 hH hZ hnm hl
  have C0 : cF g p s m _ meth c b_X_grant 7 "RegistryLog" (some .int) := C0
  obtain ⟨hx, hb, hml, hown, hts, hr, hlk, hK⟩ := id C0
  subst hH
  have hl : lv_has ls 7 [(0, .ref x), (1, .int who), (2, .int oth), (3, .int (bI on))] := hl
  have hS : va_S (fW s.heap (NX ad)) s.heap s.heap [] := hS_rf
  have hX0 := hX
  have ad0 := cX_lt hX0 (j := 0) (by decide)
  have ad1 := cX_lt hX0 (j := 1) (by decide)
  refine lv_aload_n hx hb d_X_grant_0 rfl (lv_at hl 0 rfl) ?_
  refine aW (N := (NX ad)) (rV (As := []) (rest := []) C0 (c_X_takeName l g _ Z x ad ms nm nw rows mir T f k q f2 k2 hX hsz hZb) (zK_S hZ hS (cX_old hX0)) k_X_grant_1 rfl rfl ⟨Nat.le_of_ble_eq_true rfl, Nat.le_of_ble_eq_true rfl⟩ (ob_recv hK (cX_ob hX) rfl) rfl hl.1 rfl (Nat.le_of_ble_eq_true rfl) d_X_grant_1 ⟨by show 0 + 32 ≤ 33; omega, by show 0 + 954 ≤ 962; omega⟩) (fun v H L hC1 hp hL => ?_)
  have hS0 := hS
  have hS := hS_call hS hC1 hL (fun a h => Or.inl h)
  obtain ⟨na, v2, rfl, hna, hN9, hX, hv4⟩ := hp
  obtain ⟨ad2, had2⟩ : ∃ ad2, ad2 = adU ad v2 := ⟨_, rfl⟩
  rw [← had2] at hX hN9
  have hsz2 := hS.1
  refine W.eq (g2 := F0 m 4 ls [.ref na]) rfl ?_
  refine lv_astore (lv' := [(4, .ref na), (0, .ref x), (1, .int who), (2, .int oth), (3, .int (bI on))]) hx hb d_X_grant_4 hl (by decide) rfl (fun ls hl => ?_)
  refine lv_aload hx hb d_X_grant_6 (lv_at hl 0 rfl) ?_
  refine aP (rV (As := []) (rest := []) C0 (c_N_isName l g _ na T (pN_isN hN9)) (zK_S hZ hS (cX_old hX0)) k_X_grant_8 rfl rfl ⟨Nat.le_of_ble_eq_true rfl, Nat.le_of_ble_eq_true rfl⟩ (isN_recv hK (pN_isN hN9)) rfl hl.1 rfl (Nat.le_of_ble_eq_true rfl) d_X_grant_8 ⟨by show 0 + 32 + 0 ≤ 33; omega, by show 0 + 954 + 0 ≤ 962; omega⟩) ?_
  intro v hv; subst hv
  refine W.eq (g2 := F0 m 11 ls [.int (bI (nameS T))]) rfl ?_
  refine z_eq (tgt := 32) (v := nameS T) hx hb d_X_grant_11 (by decide) (fun c11 => ?_) (fun c11 => ?_)
  · skip
    exact absurd hA1 (by rw [c11]; decide)
  · skip
    refine lv_iload_n hx hb d_X_grant_14 rfl (lv_at hl 2 rfl) ?_
    refine aP (rS (As := [.int who]) (rest := []) C0 (c_X_isPerson l g _ who) (zK_S hZ hS (cX_old hX0)) k_X_grant_15 rfl rfl ⟨Nat.le_of_ble_eq_true rfl, Nat.le_of_ble_eq_true rfl⟩ rfl hl.1 rfl (Nat.le_of_ble_eq_true rfl) d_X_grant_15 ⟨by show 0 + 32 + 0 ≤ 33; omega, by show 0 + 954 + 0 ≤ 962; omega⟩) ?_
    intro v hv; subst hv
    refine W.eq (g2 := F0 m 18 ls [.int (bI (decide (0 ≤ who ∧ who < 8)))]) rfl ?_
    refine z_eq (tgt := 32) (v := decide (0 ≤ who ∧ who < 8)) hx hb d_X_grant_18 (by decide) (fun c18 => ?_) (fun c18 => ?_)
    · skip
      exact absurd hA2 (by rw [c18]; decide)
    · skip
      refine lv_iload_n hx hb d_X_grant_21 rfl (lv_at hl 3 rfl) ?_
      refine aP (rS (As := [.int oth]) (rest := []) C0 (c_X_isPerson l g _ oth) (zK_S hZ hS (cX_old hX0)) k_X_grant_22 rfl rfl ⟨Nat.le_of_ble_eq_true rfl, Nat.le_of_ble_eq_true rfl⟩ rfl hl.1 rfl (Nat.le_of_ble_eq_true rfl) d_X_grant_22 ⟨by show 0 + 32 + 0 ≤ 33; omega, by show 0 + 954 + 0 ≤ 962; omega⟩) ?_
      intro v hv; subst hv
      refine W.eq (g2 := F0 m 25 ls [.int (bI (decide (0 ≤ oth ∧ oth < 8)))]) rfl ?_
      refine z_eq (tgt := 32) (v := decide (0 ≤ oth ∧ oth < 8)) hx hb d_X_grant_25 (by decide) (fun c25 => ?_) (fun c25 => ?_)
      · skip
        exact absurd hA3 (by rw [c25]; decide)
      · skip
        refine lv_iconst (v := bI true) hx hb d_X_grant_28 (by decide) ?_
        refine lv_goto (tgt := 33) hx hb d_X_grant_29 (by decide) ?_
        refine aP (rS (As := [.int (bI true)]) (rest := []) C0 (c_X_demandArguments l g _) (zK_S hZ hS (cX_old hX0)) k_X_grant_33 rfl rfl ⟨Nat.le_of_ble_eq_true rfl, Nat.le_of_ble_eq_true rfl⟩ rfl hl.1 rfl (Nat.le_of_ble_eq_true rfl) d_X_grant_33 ⟨by show 0 + 32 + 0 ≤ 33; omega, by show 0 + 954 + 0 ≤ 962; omega⟩) ?_
        intro v hv; subst hv
        refine W.eq (g2 := F0 m 36 ls []) rfl ?_
        refine lv_aload_n hx hb d_X_grant_36 rfl (lv_at hl 1 rfl) ?_
        refine va_get (D := g.1) (ci := 0) (C := R_X) (T := F_X) (N := 6) hx hb hts i_X hown hK.1 (cX_ob hX) 0 rfl rfl 1 (by decide) (hts (.fieldLink "RegistryLog" 19 "RegistryLog" "log" "LRegistryLog$Ledger;") (in_3 (List.mem_of_getElem? (i := 10) rfl) rfl)) (fun _ h9 => h9) rfl d_X_grant_37 ?_
        refine lv_aload hx hb d_X_grant_40 (lv_at hl 0 rfl) ?_
        refine aP (rV (As := [.ref na]) (rest := []) C0 (c_L_originOf l g _ (ad2 2) na rows T (pL_isL (cX_log hX)) (pN_isN hN9)) (zK_S hZ hS (cX_old hX0)) k_X_grant_42 rfl rfl ⟨Nat.le_of_ble_eq_true rfl, Nat.le_of_ble_eq_true rfl⟩ (isL_recv hK (pL_isL (cX_log hX))) rfl hl.1 rfl (Nat.le_of_ble_eq_true rfl) d_X_grant_42 ⟨by show 0 + 32 + 0 ≤ 33; omega, by show 0 + 954 + 0 ≤ 962; omega⟩) ?_
        intro v hv; subst hv
        refine W.eq (g2 := F0 m 45 ls [.int (oS T rows (-1))]) rfl ?_
        refine lv_topi (fun x_1 ex_1 => ?_)
        refine lv_istore (lv' := [(5, .int x_1), (4, .ref na), (0, .ref x), (1, .int who), (2, .int oth), (3, .int (bI on))]) hx hb d_X_grant_45 hl (by decide) rfl (fun ls hl => ?_)
        refine lv_aload_n hx hb d_X_grant_47 rfl (lv_at hl 2 rfl) ?_
        refine va_get (D := g.1) (ci := 0) (C := R_X) (T := F_X) (N := 6) hx hb hts i_X hown hK.1 (cX_ob hX) 0 rfl rfl 1 (by decide) (hts (.fieldLink "RegistryLog" 19 "RegistryLog" "log" "LRegistryLog$Ledger;") (in_3 (List.mem_of_getElem? (i := 10) rfl) rfl)) (fun _ h9 => h9) rfl d_X_grant_48 ?_
        refine lv_iload hx hb d_X_grant_51 (lv_at hl 0 rfl) ?_
        refine aP (rV (As := [.int x_1]) (rest := []) C0 (c_L_founderOf l g _ (ad2 2) rows x_1 (pL_isL (cX_log hX))) (zK_S hZ hS (cX_old hX0)) k_X_grant_53 rfl rfl ⟨Nat.le_of_ble_eq_true rfl, Nat.le_of_ble_eq_true rfl⟩ (isL_recv hK (pL_isL (cX_log hX))) rfl hl.1 rfl (Nat.le_of_ble_eq_true rfl) d_X_grant_53 ⟨by show 0 + 32 + 0 ≤ 33; omega, by show 0 + 954 + 0 ≤ 962; omega⟩) ?_
        intro v hv; subst hv
        refine W.eq (g2 := F0 m 56 ls [.int (rp (atS rows x_1))]) rfl ?_
        refine lv_istore (lv' := [(6, .int (rp (atS rows x_1))), (5, .int x_1), (4, .ref na), (0, .ref x), (1, .int who), (2, .int oth), (3, .int (bI on))]) hx hb d_X_grant_56 hl (by decide) rfl (fun ls hl => ?_)
        refine lv_iload_n hx hb d_X_grant_58 rfl (lv_at hl 4 rfl) ?_
        refine lv_iload hx hb d_X_grant_59 (lv_at hl 0 rfl) ?_
        refine lv_icmp_ne (tgt := 88) hx hb d_X_grant_61 (by decide) (fun c61 => ?_) (fun c61 => ?_)
        · skip
          refine lv_iconst (v := bI false) hx hb d_X_grant_88 (by decide) ?_
          have ho1 : oS T rows (-1) = x_1 := ex_1.symm
          have hmy : graC rows T who oth on = false := by unfold graC; rw [ho1, decide_eq_false (p := who = rp (atS rows x_1)) c61, Bool.false_and]
          exact absurd hmay (by rw [hmy]; decide)
        · skip
          refine lv_iload_n hx hb d_X_grant_64 rfl (lv_at hl 5 rfl) ?_
          refine lv_iload hx hb d_X_grant_65 (lv_at hl 0 rfl) ?_
          refine lv_icmp_eq (tgt := 88) hx hb d_X_grant_67 (by decide) (fun c67 => ?_) (fun c67 => ?_)
          · skip
            refine lv_iconst (v := bI false) hx hb d_X_grant_88 (by decide) ?_
            have ho1 : oS T rows (-1) = x_1 := ex_1.symm
            have hmy : graC rows T who oth on = false := by unfold graC; rw [ho1, decide_eq_false (p := oth ≠ rp (atS rows x_1)) (fun z => z c67), Bool.false_and, Bool.and_false]
            exact absurd hmay (by rw [hmy]; decide)
          · skip
            refine lv_aload_n hx hb d_X_grant_70 rfl (lv_at hl 3 rfl) ?_
            refine va_get (D := g.1) (ci := 0) (C := R_X) (T := F_X) (N := 6) hx hb hts i_X hown hK.1 (cX_ob hX) 0 rfl rfl 1 (by decide) (hts (.fieldLink "RegistryLog" 19 "RegistryLog" "log" "LRegistryLog$Ledger;") (in_3 (List.mem_of_getElem? (i := 10) rfl) rfl)) (fun _ h9 => h9) rfl d_X_grant_71 ?_
            refine lv_iload hx hb d_X_grant_74 (lv_at hl 1 rfl) ?_
            refine lv_iload_n hx hb d_X_grant_76 rfl (lv_at hl 5 rfl) ?_
            refine aP (rV (As := [.int x_1, .int oth]) (rest := []) C0 (c_L_hasRight l g _ (ad2 2) rows x_1 oth (pL_isL (cX_log hX))) (zK_S hZ hS (cX_old hX0)) k_X_grant_77 rfl rfl ⟨Nat.le_of_ble_eq_true rfl, Nat.le_of_ble_eq_true rfl⟩ (isL_recv hK (pL_isL (cX_log hX))) rfl hl.1 rfl (Nat.le_of_ble_eq_true rfl) d_X_grant_77 ⟨by show 0 + 32 + 0 ≤ 33; omega, by show 0 + 954 + 0 ≤ 962; omega⟩) ?_
            intro v hv; subst hv
            refine W.eq (g2 := F0 m 80 ls [.int (bI (hsS rows x_1 oth))]) rfl ?_
            refine lv_iload_n hx hb d_X_grant_80 rfl (lv_at hl 6 rfl) ?_
            refine lv_icmp_eq (tgt := 88) hx hb d_X_grant_81 (by decide) (fun c81 => ?_) (fun c81 => ?_)
            · skip
              refine lv_iconst (v := bI false) hx hb d_X_grant_88 (by decide) ?_
              have ho1 : oS T rows (-1) = x_1 := ex_1.symm
              have hmy : graC rows T who oth on = false := by unfold graC; rw [ho1, decide_eq_false (p := hsS rows x_1 oth ≠ on) (fun z => z (bI_e.mp c81)), Bool.and_false, Bool.and_false]
              exact absurd hmay (by rw [hmy]; decide)
            · skip
              refine lv_iconst (v := bI true) hx hb d_X_grant_84 (by decide) ?_
              refine lv_goto (tgt := 89) hx hb d_X_grant_85 (by decide) ?_
              have ho1 : oS T rows (-1) = x_1 := ex_1.symm
              have hmy : graC rows T who oth on = true := by unfold graC; rw [ho1, decide_eq_true (p := who = rp (atS rows x_1)) c61, decide_eq_true (p := oth ≠ rp (atS rows x_1)) c67, decide_eq_true (p := hsS rows x_1 oth ≠ on) (fun z => c81 (bI_e.mpr z))]; rfl
              refine aP (rS (As := [.int (bI true)]) (rest := []) C0 (c_X_demandState l g _) (zK_S hZ hS (cX_old hX0)) k_X_grant_89 rfl rfl ⟨Nat.le_of_ble_eq_true rfl, Nat.le_of_ble_eq_true rfl⟩ rfl hl.1 rfl (Nat.le_of_ble_eq_true rfl) d_X_grant_89 ⟨by show 0 + 32 + 0 ≤ 33; omega, by show 0 + 954 + 0 ≤ 962; omega⟩) ?_
              intro v hv; subst hv
              refine W.eq (g2 := F0 m 92 ls []) rfl ?_
              refine lv_aload_n hx hb d_X_grant_92 rfl (lv_at hl 3 rfl) ?_
              rw [ho1] at hog
              subst hog
              have hadq : ∀ j, j < 16 → ad2 j < H.size := fun j hj => cX_lt hX hj
              obtain ⟨z9, hz9⟩ : ∃ z9, z9 = H.size := ⟨_, rfl⟩
              rw [← hz9] at hadq
              have hzs : s.heap.size ≤ z9 := by rw [hz9]; exact hS.1
              have hS0 := hS
              refine s_new (ci := 4) (C := R_R) (T := F_R) (N := 8) hx hb hts i_R t_R t_R_ok hown (hts _ (in_4 (List.mem_of_getElem? (i := 102) rfl) rfl)) (hts _ (in_2 (List.mem_of_getElem? (i := 166) rfl) rfl)) (hts _ (in_1 (List.mem_of_getElem? (i := 19) rfl) rfl)) hK hS rfl (fs := [.int 0, .int 0, .null, .null, .int 0, .int 0, .int 0, .long 0]) (by decide) (by show 0 + 32 + 1 ≤ 33; omega) (by show 0 + 954 + 8 ≤ 962; omega) d_X_grant_93 (fun q1 H hq f_q1 hz o1 hS => ?_)
              have hX := cX_mv hX (Z' := fun a => Z a ∧ a ≠ q1) (fun a h1 h2 => ⟨o1 a (by rw [hq]; exact h2), h1, by omega⟩)
              have hN9 := pN_mv hN9 (P' := fun a => PX Z ad2 a ∧ a ≠ q1) (fun a h1 h2 => ⟨o1 a (by rw [hq]; exact h2), h1, by omega⟩)
              have ge_q1 : s.heap.size ≤ q1 := by rw [hq]; exact hS0.1
              refine lv_dup hx hb d_X_grant_96 rfl ?_
              refine lv_iconst (v := nI 2) hx hb d_X_grant_97 (by decide) ?_
              refine lv_iload_n hx hb d_X_grant_98 rfl (lv_at hl 4 rfl) ?_
              refine lv_aload hx hb d_X_grant_99 (lv_at hl 2 rfl) ?_
              refine lv_aload hx hb d_X_grant_101 (lv_at hl 2 rfl) ?_
              refine lv_iload_n hx hb d_X_grant_103 rfl (lv_at hl 5 rfl) ?_
              refine lv_iload_n hx hb d_X_grant_104 rfl (lv_at hl 6 rfl) ?_
              refine aP (rS (As := [.int (bI on)]) (rest := [.int oth, .ref na, .ref na, .int who, .int (nI 2), .ref q1, .ref q1, .ref x]) C0 (c_X_asNumber l g _ on) (zK_S hZ hS (cX_old hX0)) k_X_grant_105 rfl rfl ⟨Nat.le_of_ble_eq_true rfl, Nat.le_of_ble_eq_true rfl⟩ rfl hl.1 rfl (Nat.le_of_ble_eq_true rfl) d_X_grant_105 ⟨by show 0 + 32 + 1 + 0 ≤ 33; omega, by show 0 + 954 + 8 + 0 ≤ 962; omega⟩) ?_
              intro v hv; subst hv
              refine W.eq (g2 := F0 m 108 ls [.int (bI on), .int oth, .ref na, .ref na, .int who, .int (nI 2), .ref q1, .ref q1, .ref x]) rfl ?_
              refine lv_iload hx hb d_X_grant_108 (lv_at hl 1 rfl) ?_
              refine aW (N := (fun a => a = q1)) (rI (As := [.int (nI 2), .int who, .ref na, .ref na, .int oth, .int (bI on), .int x_1]) (rest := [.ref q1, .ref x]) C0 (c_R_init l g _ q1 na na (nI 2) who oth (bI on) x_1 T T f_q1 (by omega) (pN_P hN9 (fun a h1 _ => h1.2)) (pN_P hN9 (fun a h1 _ => h1.2))) (zK_S hZ hS (cX_old hX0)) k_X_grant_110 rfl rfl ⟨Nat.le_of_ble_eq_true rfl, Nat.le_of_ble_eq_true rfl⟩ rfl hl.1 rfl (Nat.le_of_ble_eq_true rfl) d_X_grant_110 ⟨by show 0 + 32 + 1 + 0 ≤ 33; omega, by show 0 + 954 + 8 + 0 ≤ 962; omega⟩) (fun v H L hC1 hp hL => ?_)
              have hS0 := hS
              have hS := hS_call hS hC1 hL (fun a h => by rw [h]; exact Or.inr (by omega))
              obtain ⟨rfl, f_q1⟩ := hp
              have hX := cX_mv (Z' := Z) hX (fun a h1 h2 => ⟨hC_at hC1 h2 (fun z => h1.2 z), h1.1⟩)
              have hN9 := pN_mv (P' := PX Z ad2) hN9 (fun a h1 h2 => ⟨hC_at hC1 h2 (fun z => h1.2 z), h1.1⟩)
              have hR1 : pR (PX Z ad2) g H q1 ((nI 2), who, T, T, oth, (bI on), x_1) := ⟨na, na, ⟨fun j hj z => by have := hadq j hj; omega, hZb _ (by omega)⟩, f_q1, hN9, hN9⟩
              refine W.eq (g2 := F0 m 113 ls [.ref q1, .ref x]) rfl ?_
              refine aW (N := (NX ad2)) (rV (As := [.ref q1]) (rest := []) C0 (c_X_write l g _ Z x ad2 ms nm nw rows mir [] f k q f2 k2 hX q1 ((nI 2), who, T, T, oth, (bI on), x_1) hR1 hlt) (zK_S hZ hS (cX_old hX0)) k_X_grant_113 rfl rfl ⟨Nat.le_of_ble_eq_true rfl, Nat.le_of_ble_eq_true rfl⟩ (ob_recv hK (cX_ob hX) rfl) rfl hl.1 rfl (Nat.le_of_ble_eq_true rfl) d_X_grant_113 ⟨by show 0 + 32 + 1 + 0 + 0 ≤ 33; omega, by show 0 + 954 + 8 + 0 + 0 ≤ 962; omega⟩) (fun v H L hC1 hp hL => ?_)
              have hS0 := hS
              have hS := hS_call hS hC1 hL (fun a h => NX_U hv4 (by rw [← had2]; exact h))
              obtain ⟨rfl, hX⟩ := hp
              rw [had2] at hX
              refine W.eq (g2 := F0 m 116 ls [.int (nI rows.length)]) rfl ?_
              refine W.widen (k := 33) (n := 962) (by omega) (by omega) ?_
              exact W.iret hx hb hr (fun t9 ht hW => ⟨_, rfl, by rw [ht]; exact hS_hC hS, by rw [ht]; exact ⟨v2, rfl, hX⟩⟩) hS.2.2 d_X_grant_116 hlk
set_option maxHeartbeats 4000000 in
set_option maxRecDepth 100000 in
/-- grant, bad -/
theorem x_X_grantB (l : Launch) (g : gG) (H : Heap) (htr : ∀ e, l.admits e → e.platform.stackTraces = false) (Z : Nat → Prop) (x : Nat) (ad : Nat → Nat) (ms nm nw : Nat) (rows : List Rw) (mir : Nat → List Rw) (T : List Nat) (f : Nat → Int64) (k q : Nat) (f2 : Nat → Int64) (k2 : Nat) (hX : cX Z g H x ad ms nm nw rows mir T f k q f2 k2 0) (hsz : g.2.2.1 ≤ H.size) (hZb : ∀ a, H.size ≤ a → Z a) (who oth : Int32) (on : Bool) (hbad : (nameS T && (decide (0 ≤ who ∧ who < 8) && decide (0 ≤ oth ∧ oth < 8))) = false) : MetX l y_X_grant (wC y_X_grant b_X_grant 7 (some .int)) (rmk 9 34 968 197) (pC g H [.ref x, .int who, .int oth, .int (bI on)]) (qX H (NX ad) iaE (fun H1 => ∃ v2, cX Z g H1 x (adU ad v2) ms nm nw rows mir ([]) f k q f2 k2 0)) 34 968 (fW H (NX ad)) := by
  refine mX (by decide) (Nat.le_of_ble_eq_true rfl) ?_
  intro p e s m below meth c ls C0 hH hZ hno hl
  have C0 : cF g p s m _ meth c b_X_grant 7 "RegistryLog" (some .int) := C0
  obtain ⟨hx, hb, hml, hown, hts, hr, hlk, hK⟩ := id C0
  subst hH
  have hl : lv_has ls 7 [(0, .ref x), (1, .int who), (2, .int oth), (3, .int (bI on))] := hl
  have hS : va_S (fW s.heap (NX ad)) s.heap s.heap [] := hS_rf
  have hX0 := hX
  have ad0 := cX_lt hX0 (j := 0) (by decide)
  have ad1 := cX_lt hX0 (j := 1) (by decide)
  refine lv_aload_n hx hb d_X_grant_0 rfl (lv_at hl 0 rfl) ?_
  refine aW (N := (NX ad)) (rV (As := []) (rest := []) C0 (c_X_takeName l g _ Z x ad ms nm nw rows mir T f k q f2 k2 hX hsz hZb) (zK_S hZ hS (cX_old hX0)) k_X_grant_1 rfl rfl ⟨Nat.le_of_ble_eq_true rfl, Nat.le_of_ble_eq_true rfl⟩ (ob_recv hK (cX_ob hX) rfl) rfl hl.1 rfl (Nat.le_of_ble_eq_true rfl) d_X_grant_1 ⟨by show 0 + 32 ≤ 34; omega, by show 0 + 954 ≤ 968; omega⟩) (fun v H L hC1 hp hL => ?_)
  have hS0 := hS
  have hS := hS_call hS hC1 hL (fun a h => Or.inl h)
  obtain ⟨na, v2, rfl, hna, hN9, hX, hv4⟩ := hp
  obtain ⟨ad2, had2⟩ : ∃ ad2, ad2 = adU ad v2 := ⟨_, rfl⟩
  rw [← had2] at hX hN9
  have hsz2 := hS.1
  refine W.eq (g2 := F0 m 4 ls [.ref na]) rfl ?_
  refine lv_astore (lv' := [(4, .ref na), (0, .ref x), (1, .int who), (2, .int oth), (3, .int (bI on))]) hx hb d_X_grant_4 hl (by decide) rfl (fun ls hl => ?_)
  refine lv_aload hx hb d_X_grant_6 (lv_at hl 0 rfl) ?_
  refine aP (rV (As := []) (rest := []) C0 (c_N_isName l g _ na T (pN_isN hN9)) (zK_S hZ hS (cX_old hX0)) k_X_grant_8 rfl rfl ⟨Nat.le_of_ble_eq_true rfl, Nat.le_of_ble_eq_true rfl⟩ (isN_recv hK (pN_isN hN9)) rfl hl.1 rfl (Nat.le_of_ble_eq_true rfl) d_X_grant_8 ⟨by show 0 + 32 + 0 ≤ 34; omega, by show 0 + 954 + 0 ≤ 968; omega⟩) ?_
  intro v hv; subst hv
  refine W.eq (g2 := F0 m 11 ls [.int (bI (nameS T))]) rfl ?_
  refine z_eq (tgt := 32) (v := nameS T) hx hb d_X_grant_11 (by decide) (fun c11 => ?_) (fun c11 => ?_)
  · skip
    refine lv_iconst (v := bI false) hx hb d_X_grant_32 (by decide) ?_
    refine rSX (As := [.int (bI false)]) (rest := []) C0 (x_X_demandArguments l g _ htr) (zK_S hZ hS (cX_old hX0)) k_X_grant_33 rfl rfl ⟨Nat.le_of_ble_eq_true rfl, Nat.le_of_ble_eq_true rfl⟩ rfl hl.1 rfl (Nat.le_of_ble_eq_true rfl) d_X_grant_33 ⟨by show 0 + 32 + 1 ≤ 34; omega, by show 0 + 954 + 6 ≤ 968; omega⟩ (fun x9 H L st hW9 hq9 hL => ?_)
    obtain ⟨hx1, ⟨ce, hx2, hx3, hx4⟩, hC1, hp⟩ := hq9
    have hS1 := hS_call hS hC1 hL (fun q h => h.elim)
    refine WX.widen (k := 34) (n := 968) (by omega) (by omega) ?_
    refine WX.out hno ⟨Nat.le_trans hS.1 hx1, ⟨ce, hx2, hx3, by rw [← hW9.alike.findClass]; exact hx4⟩, hS_hC hS1, ⟨v2, by rw [← had2]; exact cX_new hX hC1⟩⟩ hS1.2.2 hlk
  · skip
    refine lv_iload_n hx hb d_X_grant_14 rfl (lv_at hl 2 rfl) ?_
    refine aP (rS (As := [.int who]) (rest := []) C0 (c_X_isPerson l g _ who) (zK_S hZ hS (cX_old hX0)) k_X_grant_15 rfl rfl ⟨Nat.le_of_ble_eq_true rfl, Nat.le_of_ble_eq_true rfl⟩ rfl hl.1 rfl (Nat.le_of_ble_eq_true rfl) d_X_grant_15 ⟨by show 0 + 32 + 0 ≤ 34; omega, by show 0 + 954 + 0 ≤ 968; omega⟩) ?_
    intro v hv; subst hv
    refine W.eq (g2 := F0 m 18 ls [.int (bI (decide (0 ≤ who ∧ who < 8)))]) rfl ?_
    refine z_eq (tgt := 32) (v := decide (0 ≤ who ∧ who < 8)) hx hb d_X_grant_18 (by decide) (fun c18 => ?_) (fun c18 => ?_)
    · skip
      refine lv_iconst (v := bI false) hx hb d_X_grant_32 (by decide) ?_
      refine rSX (As := [.int (bI false)]) (rest := []) C0 (x_X_demandArguments l g _ htr) (zK_S hZ hS (cX_old hX0)) k_X_grant_33 rfl rfl ⟨Nat.le_of_ble_eq_true rfl, Nat.le_of_ble_eq_true rfl⟩ rfl hl.1 rfl (Nat.le_of_ble_eq_true rfl) d_X_grant_33 ⟨by show 0 + 32 + 1 ≤ 34; omega, by show 0 + 954 + 6 ≤ 968; omega⟩ (fun x9 H L st hW9 hq9 hL => ?_)
      obtain ⟨hx1, ⟨ce, hx2, hx3, hx4⟩, hC1, hp⟩ := hq9
      have hS1 := hS_call hS hC1 hL (fun q h => h.elim)
      refine WX.widen (k := 34) (n := 968) (by omega) (by omega) ?_
      refine WX.out hno ⟨Nat.le_trans hS.1 hx1, ⟨ce, hx2, hx3, by rw [← hW9.alike.findClass]; exact hx4⟩, hS_hC hS1, ⟨v2, by rw [← had2]; exact cX_new hX hC1⟩⟩ hS1.2.2 hlk
    · skip
      refine lv_iload_n hx hb d_X_grant_21 rfl (lv_at hl 3 rfl) ?_
      refine aP (rS (As := [.int oth]) (rest := []) C0 (c_X_isPerson l g _ oth) (zK_S hZ hS (cX_old hX0)) k_X_grant_22 rfl rfl ⟨Nat.le_of_ble_eq_true rfl, Nat.le_of_ble_eq_true rfl⟩ rfl hl.1 rfl (Nat.le_of_ble_eq_true rfl) d_X_grant_22 ⟨by show 0 + 32 + 0 ≤ 34; omega, by show 0 + 954 + 0 ≤ 968; omega⟩) ?_
      intro v hv; subst hv
      refine W.eq (g2 := F0 m 25 ls [.int (bI (decide (0 ≤ oth ∧ oth < 8)))]) rfl ?_
      refine z_eq (tgt := 32) (v := decide (0 ≤ oth ∧ oth < 8)) hx hb d_X_grant_25 (by decide) (fun c25 => ?_) (fun c25 => ?_)
      · skip
        refine lv_iconst (v := bI false) hx hb d_X_grant_32 (by decide) ?_
        refine rSX (As := [.int (bI false)]) (rest := []) C0 (x_X_demandArguments l g _ htr) (zK_S hZ hS (cX_old hX0)) k_X_grant_33 rfl rfl ⟨Nat.le_of_ble_eq_true rfl, Nat.le_of_ble_eq_true rfl⟩ rfl hl.1 rfl (Nat.le_of_ble_eq_true rfl) d_X_grant_33 ⟨by show 0 + 32 + 1 ≤ 34; omega, by show 0 + 954 + 6 ≤ 968; omega⟩ (fun x9 H L st hW9 hq9 hL => ?_)
        obtain ⟨hx1, ⟨ce, hx2, hx3, hx4⟩, hC1, hp⟩ := hq9
        have hS1 := hS_call hS hC1 hL (fun q h => h.elim)
        refine WX.widen (k := 34) (n := 968) (by omega) (by omega) ?_
        refine WX.out hno ⟨Nat.le_trans hS.1 hx1, ⟨ce, hx2, hx3, by rw [← hW9.alike.findClass]; exact hx4⟩, hS_hC hS1, ⟨v2, by rw [← had2]; exact cX_new hX hC1⟩⟩ hS1.2.2 hlk
      · skip
        refine lv_iconst (v := bI true) hx hb d_X_grant_28 (by decide) ?_
        refine lv_goto (tgt := 33) hx hb d_X_grant_29 (by decide) ?_
        exact absurd hbad (by rw [c11, c18, c25]; decide)
set_option maxHeartbeats 4000000 in
set_option maxRecDepth 100000 in
/-- grant, st -/
theorem x_X_grantS (l : Launch) (g : gG) (H : Heap) (htr : ∀ e, l.admits e → e.platform.stackTraces = false) (Z : Nat → Prop) (x : Nat) (ad : Nat → Nat) (ms nm nw : Nat) (rows : List Rw) (mir : Nat → List Rw) (T : List Nat) (f : Nat → Int64) (k q : Nat) (f2 : Nat → Int64) (k2 : Nat) (hX : cX Z g H x ad ms nm nw rows mir T f k q f2 k2 0) (hsz : g.2.2.1 ≤ H.size) (hZb : ∀ a, H.size ≤ a → Z a) (who oth : Int32) (on : Bool) (hA1 : nameS T = true) (hA2 : decide (0 ≤ who ∧ who < 8) = true) (hA3 : decide (0 ≤ oth ∧ oth < 8) = true) (hst : graC rows T who oth on = false) : MetX l y_X_grant (wC y_X_grant b_X_grant 7 (some .int)) (rmk 9 34 968 197) (pC g H [.ref x, .int who, .int oth, .int (bI on)]) (qX H (NX ad) isE (fun H1 => ∃ v2, cX Z g H1 x (adU ad v2) ms nm nw rows mir ([]) f k q f2 k2 0)) 34 968 (fW H (NX ad)) := by
  refine mX (by decide) (Nat.le_of_ble_eq_true rfl) ?_
  intro p e s m below meth c ls C0 hH hZ hno hl
  have C0 : cF g p s m _ meth c b_X_grant 7 "RegistryLog" (some .int) := C0
  obtain ⟨hx, hb, hml, hown, hts, hr, hlk, hK⟩ := id C0
  subst hH
  have hl : lv_has ls 7 [(0, .ref x), (1, .int who), (2, .int oth), (3, .int (bI on))] := hl
  have hS : va_S (fW s.heap (NX ad)) s.heap s.heap [] := hS_rf
  have hX0 := hX
  have ad0 := cX_lt hX0 (j := 0) (by decide)
  have ad1 := cX_lt hX0 (j := 1) (by decide)
  refine lv_aload_n hx hb d_X_grant_0 rfl (lv_at hl 0 rfl) ?_
  refine aW (N := (NX ad)) (rV (As := []) (rest := []) C0 (c_X_takeName l g _ Z x ad ms nm nw rows mir T f k q f2 k2 hX hsz hZb) (zK_S hZ hS (cX_old hX0)) k_X_grant_1 rfl rfl ⟨Nat.le_of_ble_eq_true rfl, Nat.le_of_ble_eq_true rfl⟩ (ob_recv hK (cX_ob hX) rfl) rfl hl.1 rfl (Nat.le_of_ble_eq_true rfl) d_X_grant_1 ⟨by show 0 + 32 ≤ 34; omega, by show 0 + 954 ≤ 968; omega⟩) (fun v H L hC1 hp hL => ?_)
  have hS0 := hS
  have hS := hS_call hS hC1 hL (fun a h => Or.inl h)
  obtain ⟨na, v2, rfl, hna, hN9, hX, hv4⟩ := hp
  obtain ⟨ad2, had2⟩ : ∃ ad2, ad2 = adU ad v2 := ⟨_, rfl⟩
  rw [← had2] at hX hN9
  have hsz2 := hS.1
  refine W.eq (g2 := F0 m 4 ls [.ref na]) rfl ?_
  refine lv_astore (lv' := [(4, .ref na), (0, .ref x), (1, .int who), (2, .int oth), (3, .int (bI on))]) hx hb d_X_grant_4 hl (by decide) rfl (fun ls hl => ?_)
  refine lv_aload hx hb d_X_grant_6 (lv_at hl 0 rfl) ?_
  refine aP (rV (As := []) (rest := []) C0 (c_N_isName l g _ na T (pN_isN hN9)) (zK_S hZ hS (cX_old hX0)) k_X_grant_8 rfl rfl ⟨Nat.le_of_ble_eq_true rfl, Nat.le_of_ble_eq_true rfl⟩ (isN_recv hK (pN_isN hN9)) rfl hl.1 rfl (Nat.le_of_ble_eq_true rfl) d_X_grant_8 ⟨by show 0 + 32 + 0 ≤ 34; omega, by show 0 + 954 + 0 ≤ 968; omega⟩) ?_
  intro v hv; subst hv
  refine W.eq (g2 := F0 m 11 ls [.int (bI (nameS T))]) rfl ?_
  refine z_eq (tgt := 32) (v := nameS T) hx hb d_X_grant_11 (by decide) (fun c11 => ?_) (fun c11 => ?_)
  · skip
    exact absurd hA1 (by rw [c11]; decide)
  · skip
    refine lv_iload_n hx hb d_X_grant_14 rfl (lv_at hl 2 rfl) ?_
    refine aP (rS (As := [.int who]) (rest := []) C0 (c_X_isPerson l g _ who) (zK_S hZ hS (cX_old hX0)) k_X_grant_15 rfl rfl ⟨Nat.le_of_ble_eq_true rfl, Nat.le_of_ble_eq_true rfl⟩ rfl hl.1 rfl (Nat.le_of_ble_eq_true rfl) d_X_grant_15 ⟨by show 0 + 32 + 0 ≤ 34; omega, by show 0 + 954 + 0 ≤ 968; omega⟩) ?_
    intro v hv; subst hv
    refine W.eq (g2 := F0 m 18 ls [.int (bI (decide (0 ≤ who ∧ who < 8)))]) rfl ?_
    refine z_eq (tgt := 32) (v := decide (0 ≤ who ∧ who < 8)) hx hb d_X_grant_18 (by decide) (fun c18 => ?_) (fun c18 => ?_)
    · skip
      exact absurd hA2 (by rw [c18]; decide)
    · skip
      refine lv_iload_n hx hb d_X_grant_21 rfl (lv_at hl 3 rfl) ?_
      refine aP (rS (As := [.int oth]) (rest := []) C0 (c_X_isPerson l g _ oth) (zK_S hZ hS (cX_old hX0)) k_X_grant_22 rfl rfl ⟨Nat.le_of_ble_eq_true rfl, Nat.le_of_ble_eq_true rfl⟩ rfl hl.1 rfl (Nat.le_of_ble_eq_true rfl) d_X_grant_22 ⟨by show 0 + 32 + 0 ≤ 34; omega, by show 0 + 954 + 0 ≤ 968; omega⟩) ?_
      intro v hv; subst hv
      refine W.eq (g2 := F0 m 25 ls [.int (bI (decide (0 ≤ oth ∧ oth < 8)))]) rfl ?_
      refine z_eq (tgt := 32) (v := decide (0 ≤ oth ∧ oth < 8)) hx hb d_X_grant_25 (by decide) (fun c25 => ?_) (fun c25 => ?_)
      · skip
        exact absurd hA3 (by rw [c25]; decide)
      · skip
        refine lv_iconst (v := bI true) hx hb d_X_grant_28 (by decide) ?_
        refine lv_goto (tgt := 33) hx hb d_X_grant_29 (by decide) ?_
        refine aP (rS (As := [.int (bI true)]) (rest := []) C0 (c_X_demandArguments l g _) (zK_S hZ hS (cX_old hX0)) k_X_grant_33 rfl rfl ⟨Nat.le_of_ble_eq_true rfl, Nat.le_of_ble_eq_true rfl⟩ rfl hl.1 rfl (Nat.le_of_ble_eq_true rfl) d_X_grant_33 ⟨by show 0 + 32 + 0 ≤ 34; omega, by show 0 + 954 + 0 ≤ 968; omega⟩) ?_
        intro v hv; subst hv
        refine W.eq (g2 := F0 m 36 ls []) rfl ?_
        refine lv_aload_n hx hb d_X_grant_36 rfl (lv_at hl 1 rfl) ?_
        refine va_get (D := g.1) (ci := 0) (C := R_X) (T := F_X) (N := 6) hx hb hts i_X hown hK.1 (cX_ob hX) 0 rfl rfl 1 (by decide) (hts (.fieldLink "RegistryLog" 19 "RegistryLog" "log" "LRegistryLog$Ledger;") (in_3 (List.mem_of_getElem? (i := 10) rfl) rfl)) (fun _ h9 => h9) rfl d_X_grant_37 ?_
        refine lv_aload hx hb d_X_grant_40 (lv_at hl 0 rfl) ?_
        refine aP (rV (As := [.ref na]) (rest := []) C0 (c_L_originOf l g _ (ad2 2) na rows T (pL_isL (cX_log hX)) (pN_isN hN9)) (zK_S hZ hS (cX_old hX0)) k_X_grant_42 rfl rfl ⟨Nat.le_of_ble_eq_true rfl, Nat.le_of_ble_eq_true rfl⟩ (isL_recv hK (pL_isL (cX_log hX))) rfl hl.1 rfl (Nat.le_of_ble_eq_true rfl) d_X_grant_42 ⟨by show 0 + 32 + 0 ≤ 34; omega, by show 0 + 954 + 0 ≤ 968; omega⟩) ?_
        intro v hv; subst hv
        refine W.eq (g2 := F0 m 45 ls [.int (oS T rows (-1))]) rfl ?_
        refine lv_topi (fun x_1 ex_1 => ?_)
        refine lv_istore (lv' := [(5, .int x_1), (4, .ref na), (0, .ref x), (1, .int who), (2, .int oth), (3, .int (bI on))]) hx hb d_X_grant_45 hl (by decide) rfl (fun ls hl => ?_)
        refine lv_aload_n hx hb d_X_grant_47 rfl (lv_at hl 2 rfl) ?_
        refine va_get (D := g.1) (ci := 0) (C := R_X) (T := F_X) (N := 6) hx hb hts i_X hown hK.1 (cX_ob hX) 0 rfl rfl 1 (by decide) (hts (.fieldLink "RegistryLog" 19 "RegistryLog" "log" "LRegistryLog$Ledger;") (in_3 (List.mem_of_getElem? (i := 10) rfl) rfl)) (fun _ h9 => h9) rfl d_X_grant_48 ?_
        refine lv_iload hx hb d_X_grant_51 (lv_at hl 0 rfl) ?_
        refine aP (rV (As := [.int x_1]) (rest := []) C0 (c_L_founderOf l g _ (ad2 2) rows x_1 (pL_isL (cX_log hX))) (zK_S hZ hS (cX_old hX0)) k_X_grant_53 rfl rfl ⟨Nat.le_of_ble_eq_true rfl, Nat.le_of_ble_eq_true rfl⟩ (isL_recv hK (pL_isL (cX_log hX))) rfl hl.1 rfl (Nat.le_of_ble_eq_true rfl) d_X_grant_53 ⟨by show 0 + 32 + 0 ≤ 34; omega, by show 0 + 954 + 0 ≤ 968; omega⟩) ?_
        intro v hv; subst hv
        refine W.eq (g2 := F0 m 56 ls [.int (rp (atS rows x_1))]) rfl ?_
        refine lv_istore (lv' := [(6, .int (rp (atS rows x_1))), (5, .int x_1), (4, .ref na), (0, .ref x), (1, .int who), (2, .int oth), (3, .int (bI on))]) hx hb d_X_grant_56 hl (by decide) rfl (fun ls hl => ?_)
        refine lv_iload_n hx hb d_X_grant_58 rfl (lv_at hl 4 rfl) ?_
        refine lv_iload hx hb d_X_grant_59 (lv_at hl 0 rfl) ?_
        refine lv_icmp_ne (tgt := 88) hx hb d_X_grant_61 (by decide) (fun c61 => ?_) (fun c61 => ?_)
        · skip
          refine lv_iconst (v := bI false) hx hb d_X_grant_88 (by decide) ?_
          have ho1 : oS T rows (-1) = x_1 := ex_1.symm
          have hmy : graC rows T who oth on = false := by unfold graC; rw [ho1, decide_eq_false (p := who = rp (atS rows x_1)) c61, Bool.false_and]
          refine rSX (As := [.int (bI false)]) (rest := []) C0 (x_X_demandState l g _ htr) (zK_S hZ hS (cX_old hX0)) k_X_grant_89 rfl rfl ⟨Nat.le_of_ble_eq_true rfl, Nat.le_of_ble_eq_true rfl⟩ rfl hl.1 rfl (Nat.le_of_ble_eq_true rfl) d_X_grant_89 ⟨by show 0 + 32 + 1 ≤ 34; omega, by show 0 + 954 + 6 ≤ 968; omega⟩ (fun x9 H L st hW9 hq9 hL => ?_)
          obtain ⟨hx1, ⟨ce, hx2, hx3, hx4⟩, hC1, hp⟩ := hq9
          have hS1 := hS_call hS hC1 hL (fun q h => h.elim)
          refine WX.widen (k := 34) (n := 968) (by omega) (by omega) ?_
          refine WX.out hno ⟨Nat.le_trans hS.1 hx1, ⟨ce, hx2, hx3, by rw [← hW9.alike.findClass]; exact hx4⟩, hS_hC hS1, ⟨v2, by rw [← had2]; exact cX_new hX hC1⟩⟩ hS1.2.2 hlk
        · skip
          refine lv_iload_n hx hb d_X_grant_64 rfl (lv_at hl 5 rfl) ?_
          refine lv_iload hx hb d_X_grant_65 (lv_at hl 0 rfl) ?_
          refine lv_icmp_eq (tgt := 88) hx hb d_X_grant_67 (by decide) (fun c67 => ?_) (fun c67 => ?_)
          · skip
            refine lv_iconst (v := bI false) hx hb d_X_grant_88 (by decide) ?_
            have ho1 : oS T rows (-1) = x_1 := ex_1.symm
            have hmy : graC rows T who oth on = false := by unfold graC; rw [ho1, decide_eq_false (p := oth ≠ rp (atS rows x_1)) (fun z => z c67), Bool.false_and, Bool.and_false]
            refine rSX (As := [.int (bI false)]) (rest := []) C0 (x_X_demandState l g _ htr) (zK_S hZ hS (cX_old hX0)) k_X_grant_89 rfl rfl ⟨Nat.le_of_ble_eq_true rfl, Nat.le_of_ble_eq_true rfl⟩ rfl hl.1 rfl (Nat.le_of_ble_eq_true rfl) d_X_grant_89 ⟨by show 0 + 32 + 1 ≤ 34; omega, by show 0 + 954 + 6 ≤ 968; omega⟩ (fun x9 H L st hW9 hq9 hL => ?_)
            obtain ⟨hx1, ⟨ce, hx2, hx3, hx4⟩, hC1, hp⟩ := hq9
            have hS1 := hS_call hS hC1 hL (fun q h => h.elim)
            refine WX.widen (k := 34) (n := 968) (by omega) (by omega) ?_
            refine WX.out hno ⟨Nat.le_trans hS.1 hx1, ⟨ce, hx2, hx3, by rw [← hW9.alike.findClass]; exact hx4⟩, hS_hC hS1, ⟨v2, by rw [← had2]; exact cX_new hX hC1⟩⟩ hS1.2.2 hlk
          · skip
            refine lv_aload_n hx hb d_X_grant_70 rfl (lv_at hl 3 rfl) ?_
            refine va_get (D := g.1) (ci := 0) (C := R_X) (T := F_X) (N := 6) hx hb hts i_X hown hK.1 (cX_ob hX) 0 rfl rfl 1 (by decide) (hts (.fieldLink "RegistryLog" 19 "RegistryLog" "log" "LRegistryLog$Ledger;") (in_3 (List.mem_of_getElem? (i := 10) rfl) rfl)) (fun _ h9 => h9) rfl d_X_grant_71 ?_
            refine lv_iload hx hb d_X_grant_74 (lv_at hl 1 rfl) ?_
            refine lv_iload_n hx hb d_X_grant_76 rfl (lv_at hl 5 rfl) ?_
            refine aP (rV (As := [.int x_1, .int oth]) (rest := []) C0 (c_L_hasRight l g _ (ad2 2) rows x_1 oth (pL_isL (cX_log hX))) (zK_S hZ hS (cX_old hX0)) k_X_grant_77 rfl rfl ⟨Nat.le_of_ble_eq_true rfl, Nat.le_of_ble_eq_true rfl⟩ (isL_recv hK (pL_isL (cX_log hX))) rfl hl.1 rfl (Nat.le_of_ble_eq_true rfl) d_X_grant_77 ⟨by show 0 + 32 + 0 ≤ 34; omega, by show 0 + 954 + 0 ≤ 968; omega⟩) ?_
            intro v hv; subst hv
            refine W.eq (g2 := F0 m 80 ls [.int (bI (hsS rows x_1 oth))]) rfl ?_
            refine lv_iload_n hx hb d_X_grant_80 rfl (lv_at hl 6 rfl) ?_
            refine lv_icmp_eq (tgt := 88) hx hb d_X_grant_81 (by decide) (fun c81 => ?_) (fun c81 => ?_)
            · skip
              refine lv_iconst (v := bI false) hx hb d_X_grant_88 (by decide) ?_
              have ho1 : oS T rows (-1) = x_1 := ex_1.symm
              have hmy : graC rows T who oth on = false := by unfold graC; rw [ho1, decide_eq_false (p := hsS rows x_1 oth ≠ on) (fun z => z (bI_e.mp c81)), Bool.and_false, Bool.and_false]
              refine rSX (As := [.int (bI false)]) (rest := []) C0 (x_X_demandState l g _ htr) (zK_S hZ hS (cX_old hX0)) k_X_grant_89 rfl rfl ⟨Nat.le_of_ble_eq_true rfl, Nat.le_of_ble_eq_true rfl⟩ rfl hl.1 rfl (Nat.le_of_ble_eq_true rfl) d_X_grant_89 ⟨by show 0 + 32 + 1 ≤ 34; omega, by show 0 + 954 + 6 ≤ 968; omega⟩ (fun x9 H L st hW9 hq9 hL => ?_)
              obtain ⟨hx1, ⟨ce, hx2, hx3, hx4⟩, hC1, hp⟩ := hq9
              have hS1 := hS_call hS hC1 hL (fun q h => h.elim)
              refine WX.widen (k := 34) (n := 968) (by omega) (by omega) ?_
              refine WX.out hno ⟨Nat.le_trans hS.1 hx1, ⟨ce, hx2, hx3, by rw [← hW9.alike.findClass]; exact hx4⟩, hS_hC hS1, ⟨v2, by rw [← had2]; exact cX_new hX hC1⟩⟩ hS1.2.2 hlk
            · skip
              refine lv_iconst (v := bI true) hx hb d_X_grant_84 (by decide) ?_
              refine lv_goto (tgt := 89) hx hb d_X_grant_85 (by decide) ?_
              have ho1 : oS T rows (-1) = x_1 := ex_1.symm
              have hmy : graC rows T who oth on = true := by unfold graC; rw [ho1, decide_eq_true (p := who = rp (atS rows x_1)) c61, decide_eq_true (p := oth ≠ rp (atS rows x_1)) c67, decide_eq_true (p := hsS rows x_1 oth ≠ on) (fun z => c81 (bI_e.mpr z))]; rfl
              exact absurd hst (by rw [hmy]; decide)
set_option maxHeartbeats 4000000 in
set_option maxRecDepth 100000 in
/-- grant, full -/
theorem x_X_grantF (l : Launch) (g : gG) (H : Heap) (htr : ∀ e, l.admits e → e.platform.stackTraces = false) (Z : Nat → Prop) (x : Nat) (ad : Nat → Nat) (ms nm nw : Nat) (rows : List Rw) (mir : Nat → List Rw) (T : List Nat) (f : Nat → Int64) (k q : Nat) (f2 : Nat → Int64) (k2 : Nat) (hX : cX Z g H x ad ms nm nw rows mir T f k q f2 k2 0) (hsz : g.2.2.1 ≤ H.size) (hZb : ∀ a, H.size ≤ a → Z a) (who oth : Int32) (on : Bool) (og0 : Int32) (hA1 : nameS T = true) (hA2 : decide (0 ≤ who ∧ who < 8) = true) (hA3 : decide (0 ≤ oth ∧ oth < 8) = true) (hmay : graC rows T who oth on = true) (hog : oS T rows (-1) = og0) (hge : ¬ rows.length < 120) : MetX l y_X_grant (wC y_X_grant b_X_grant 7 (some .int)) (rmk 9 34 968 197) (pC g H [.ref x, .int who, .int oth, .int (bI on)]) (qX H (NX ad) isE (fun H1 => ∃ v2, cX Z g H1 x (adU ad v2) ms nm nw rows mir ([]) f k q f2 k2 0)) 34 968 (fW H (NX ad)) := by
  refine mX (by decide) (Nat.le_of_ble_eq_true rfl) ?_
  intro p e s m below meth c ls C0 hH hZ hno hl
  have C0 : cF g p s m _ meth c b_X_grant 7 "RegistryLog" (some .int) := C0
  obtain ⟨hx, hb, hml, hown, hts, hr, hlk, hK⟩ := id C0
  subst hH
  have hl : lv_has ls 7 [(0, .ref x), (1, .int who), (2, .int oth), (3, .int (bI on))] := hl
  have hS : va_S (fW s.heap (NX ad)) s.heap s.heap [] := hS_rf
  have hX0 := hX
  have ad0 := cX_lt hX0 (j := 0) (by decide)
  have ad1 := cX_lt hX0 (j := 1) (by decide)
  refine lv_aload_n hx hb d_X_grant_0 rfl (lv_at hl 0 rfl) ?_
  refine aW (N := (NX ad)) (rV (As := []) (rest := []) C0 (c_X_takeName l g _ Z x ad ms nm nw rows mir T f k q f2 k2 hX hsz hZb) (zK_S hZ hS (cX_old hX0)) k_X_grant_1 rfl rfl ⟨Nat.le_of_ble_eq_true rfl, Nat.le_of_ble_eq_true rfl⟩ (ob_recv hK (cX_ob hX) rfl) rfl hl.1 rfl (Nat.le_of_ble_eq_true rfl) d_X_grant_1 ⟨by show 0 + 32 ≤ 34; omega, by show 0 + 954 ≤ 968; omega⟩) (fun v H L hC1 hp hL => ?_)
  have hS0 := hS
  have hS := hS_call hS hC1 hL (fun a h => Or.inl h)
  obtain ⟨na, v2, rfl, hna, hN9, hX, hv4⟩ := hp
  obtain ⟨ad2, had2⟩ : ∃ ad2, ad2 = adU ad v2 := ⟨_, rfl⟩
  rw [← had2] at hX hN9
  have hsz2 := hS.1
  refine W.eq (g2 := F0 m 4 ls [.ref na]) rfl ?_
  refine lv_astore (lv' := [(4, .ref na), (0, .ref x), (1, .int who), (2, .int oth), (3, .int (bI on))]) hx hb d_X_grant_4 hl (by decide) rfl (fun ls hl => ?_)
  refine lv_aload hx hb d_X_grant_6 (lv_at hl 0 rfl) ?_
  refine aP (rV (As := []) (rest := []) C0 (c_N_isName l g _ na T (pN_isN hN9)) (zK_S hZ hS (cX_old hX0)) k_X_grant_8 rfl rfl ⟨Nat.le_of_ble_eq_true rfl, Nat.le_of_ble_eq_true rfl⟩ (isN_recv hK (pN_isN hN9)) rfl hl.1 rfl (Nat.le_of_ble_eq_true rfl) d_X_grant_8 ⟨by show 0 + 32 + 0 ≤ 34; omega, by show 0 + 954 + 0 ≤ 968; omega⟩) ?_
  intro v hv; subst hv
  refine W.eq (g2 := F0 m 11 ls [.int (bI (nameS T))]) rfl ?_
  refine z_eq (tgt := 32) (v := nameS T) hx hb d_X_grant_11 (by decide) (fun c11 => ?_) (fun c11 => ?_)
  · skip
    exact absurd hA1 (by rw [c11]; decide)
  · skip
    refine lv_iload_n hx hb d_X_grant_14 rfl (lv_at hl 2 rfl) ?_
    refine aP (rS (As := [.int who]) (rest := []) C0 (c_X_isPerson l g _ who) (zK_S hZ hS (cX_old hX0)) k_X_grant_15 rfl rfl ⟨Nat.le_of_ble_eq_true rfl, Nat.le_of_ble_eq_true rfl⟩ rfl hl.1 rfl (Nat.le_of_ble_eq_true rfl) d_X_grant_15 ⟨by show 0 + 32 + 0 ≤ 34; omega, by show 0 + 954 + 0 ≤ 968; omega⟩) ?_
    intro v hv; subst hv
    refine W.eq (g2 := F0 m 18 ls [.int (bI (decide (0 ≤ who ∧ who < 8)))]) rfl ?_
    refine z_eq (tgt := 32) (v := decide (0 ≤ who ∧ who < 8)) hx hb d_X_grant_18 (by decide) (fun c18 => ?_) (fun c18 => ?_)
    · skip
      exact absurd hA2 (by rw [c18]; decide)
    · skip
      refine lv_iload_n hx hb d_X_grant_21 rfl (lv_at hl 3 rfl) ?_
      refine aP (rS (As := [.int oth]) (rest := []) C0 (c_X_isPerson l g _ oth) (zK_S hZ hS (cX_old hX0)) k_X_grant_22 rfl rfl ⟨Nat.le_of_ble_eq_true rfl, Nat.le_of_ble_eq_true rfl⟩ rfl hl.1 rfl (Nat.le_of_ble_eq_true rfl) d_X_grant_22 ⟨by show 0 + 32 + 0 ≤ 34; omega, by show 0 + 954 + 0 ≤ 968; omega⟩) ?_
      intro v hv; subst hv
      refine W.eq (g2 := F0 m 25 ls [.int (bI (decide (0 ≤ oth ∧ oth < 8)))]) rfl ?_
      refine z_eq (tgt := 32) (v := decide (0 ≤ oth ∧ oth < 8)) hx hb d_X_grant_25 (by decide) (fun c25 => ?_) (fun c25 => ?_)
      · skip
        exact absurd hA3 (by rw [c25]; decide)
      · skip
        refine lv_iconst (v := bI true) hx hb d_X_grant_28 (by decide) ?_
        refine lv_goto (tgt := 33) hx hb d_X_grant_29 (by decide) ?_
        refine aP (rS (As := [.int (bI true)]) (rest := []) C0 (c_X_demandArguments l g _) (zK_S hZ hS (cX_old hX0)) k_X_grant_33 rfl rfl ⟨Nat.le_of_ble_eq_true rfl, Nat.le_of_ble_eq_true rfl⟩ rfl hl.1 rfl (Nat.le_of_ble_eq_true rfl) d_X_grant_33 ⟨by show 0 + 32 + 0 ≤ 34; omega, by show 0 + 954 + 0 ≤ 968; omega⟩) ?_
        intro v hv; subst hv
        refine W.eq (g2 := F0 m 36 ls []) rfl ?_
        refine lv_aload_n hx hb d_X_grant_36 rfl (lv_at hl 1 rfl) ?_
        refine va_get (D := g.1) (ci := 0) (C := R_X) (T := F_X) (N := 6) hx hb hts i_X hown hK.1 (cX_ob hX) 0 rfl rfl 1 (by decide) (hts (.fieldLink "RegistryLog" 19 "RegistryLog" "log" "LRegistryLog$Ledger;") (in_3 (List.mem_of_getElem? (i := 10) rfl) rfl)) (fun _ h9 => h9) rfl d_X_grant_37 ?_
        refine lv_aload hx hb d_X_grant_40 (lv_at hl 0 rfl) ?_
        refine aP (rV (As := [.ref na]) (rest := []) C0 (c_L_originOf l g _ (ad2 2) na rows T (pL_isL (cX_log hX)) (pN_isN hN9)) (zK_S hZ hS (cX_old hX0)) k_X_grant_42 rfl rfl ⟨Nat.le_of_ble_eq_true rfl, Nat.le_of_ble_eq_true rfl⟩ (isL_recv hK (pL_isL (cX_log hX))) rfl hl.1 rfl (Nat.le_of_ble_eq_true rfl) d_X_grant_42 ⟨by show 0 + 32 + 0 ≤ 34; omega, by show 0 + 954 + 0 ≤ 968; omega⟩) ?_
        intro v hv; subst hv
        refine W.eq (g2 := F0 m 45 ls [.int (oS T rows (-1))]) rfl ?_
        refine lv_topi (fun x_1 ex_1 => ?_)
        refine lv_istore (lv' := [(5, .int x_1), (4, .ref na), (0, .ref x), (1, .int who), (2, .int oth), (3, .int (bI on))]) hx hb d_X_grant_45 hl (by decide) rfl (fun ls hl => ?_)
        refine lv_aload_n hx hb d_X_grant_47 rfl (lv_at hl 2 rfl) ?_
        refine va_get (D := g.1) (ci := 0) (C := R_X) (T := F_X) (N := 6) hx hb hts i_X hown hK.1 (cX_ob hX) 0 rfl rfl 1 (by decide) (hts (.fieldLink "RegistryLog" 19 "RegistryLog" "log" "LRegistryLog$Ledger;") (in_3 (List.mem_of_getElem? (i := 10) rfl) rfl)) (fun _ h9 => h9) rfl d_X_grant_48 ?_
        refine lv_iload hx hb d_X_grant_51 (lv_at hl 0 rfl) ?_
        refine aP (rV (As := [.int x_1]) (rest := []) C0 (c_L_founderOf l g _ (ad2 2) rows x_1 (pL_isL (cX_log hX))) (zK_S hZ hS (cX_old hX0)) k_X_grant_53 rfl rfl ⟨Nat.le_of_ble_eq_true rfl, Nat.le_of_ble_eq_true rfl⟩ (isL_recv hK (pL_isL (cX_log hX))) rfl hl.1 rfl (Nat.le_of_ble_eq_true rfl) d_X_grant_53 ⟨by show 0 + 32 + 0 ≤ 34; omega, by show 0 + 954 + 0 ≤ 968; omega⟩) ?_
        intro v hv; subst hv
        refine W.eq (g2 := F0 m 56 ls [.int (rp (atS rows x_1))]) rfl ?_
        refine lv_istore (lv' := [(6, .int (rp (atS rows x_1))), (5, .int x_1), (4, .ref na), (0, .ref x), (1, .int who), (2, .int oth), (3, .int (bI on))]) hx hb d_X_grant_56 hl (by decide) rfl (fun ls hl => ?_)
        refine lv_iload_n hx hb d_X_grant_58 rfl (lv_at hl 4 rfl) ?_
        refine lv_iload hx hb d_X_grant_59 (lv_at hl 0 rfl) ?_
        refine lv_icmp_ne (tgt := 88) hx hb d_X_grant_61 (by decide) (fun c61 => ?_) (fun c61 => ?_)
        · skip
          refine lv_iconst (v := bI false) hx hb d_X_grant_88 (by decide) ?_
          have ho1 : oS T rows (-1) = x_1 := ex_1.symm
          have hmy : graC rows T who oth on = false := by unfold graC; rw [ho1, decide_eq_false (p := who = rp (atS rows x_1)) c61, Bool.false_and]
          exact absurd hmay (by rw [hmy]; decide)
        · skip
          refine lv_iload_n hx hb d_X_grant_64 rfl (lv_at hl 5 rfl) ?_
          refine lv_iload hx hb d_X_grant_65 (lv_at hl 0 rfl) ?_
          refine lv_icmp_eq (tgt := 88) hx hb d_X_grant_67 (by decide) (fun c67 => ?_) (fun c67 => ?_)
          · skip
            refine lv_iconst (v := bI false) hx hb d_X_grant_88 (by decide) ?_
            have ho1 : oS T rows (-1) = x_1 := ex_1.symm
            have hmy : graC rows T who oth on = false := by unfold graC; rw [ho1, decide_eq_false (p := oth ≠ rp (atS rows x_1)) (fun z => z c67), Bool.false_and, Bool.and_false]
            exact absurd hmay (by rw [hmy]; decide)
          · skip
            refine lv_aload_n hx hb d_X_grant_70 rfl (lv_at hl 3 rfl) ?_
            refine va_get (D := g.1) (ci := 0) (C := R_X) (T := F_X) (N := 6) hx hb hts i_X hown hK.1 (cX_ob hX) 0 rfl rfl 1 (by decide) (hts (.fieldLink "RegistryLog" 19 "RegistryLog" "log" "LRegistryLog$Ledger;") (in_3 (List.mem_of_getElem? (i := 10) rfl) rfl)) (fun _ h9 => h9) rfl d_X_grant_71 ?_
            refine lv_iload hx hb d_X_grant_74 (lv_at hl 1 rfl) ?_
            refine lv_iload_n hx hb d_X_grant_76 rfl (lv_at hl 5 rfl) ?_
            refine aP (rV (As := [.int x_1, .int oth]) (rest := []) C0 (c_L_hasRight l g _ (ad2 2) rows x_1 oth (pL_isL (cX_log hX))) (zK_S hZ hS (cX_old hX0)) k_X_grant_77 rfl rfl ⟨Nat.le_of_ble_eq_true rfl, Nat.le_of_ble_eq_true rfl⟩ (isL_recv hK (pL_isL (cX_log hX))) rfl hl.1 rfl (Nat.le_of_ble_eq_true rfl) d_X_grant_77 ⟨by show 0 + 32 + 0 ≤ 34; omega, by show 0 + 954 + 0 ≤ 968; omega⟩) ?_
            intro v hv; subst hv
            refine W.eq (g2 := F0 m 80 ls [.int (bI (hsS rows x_1 oth))]) rfl ?_
            refine lv_iload_n hx hb d_X_grant_80 rfl (lv_at hl 6 rfl) ?_
            refine lv_icmp_eq (tgt := 88) hx hb d_X_grant_81 (by decide) (fun c81 => ?_) (fun c81 => ?_)
            · skip
              refine lv_iconst (v := bI false) hx hb d_X_grant_88 (by decide) ?_
              have ho1 : oS T rows (-1) = x_1 := ex_1.symm
              have hmy : graC rows T who oth on = false := by unfold graC; rw [ho1, decide_eq_false (p := hsS rows x_1 oth ≠ on) (fun z => z (bI_e.mp c81)), Bool.and_false, Bool.and_false]
              exact absurd hmay (by rw [hmy]; decide)
            · skip
              refine lv_iconst (v := bI true) hx hb d_X_grant_84 (by decide) ?_
              refine lv_goto (tgt := 89) hx hb d_X_grant_85 (by decide) ?_
              have ho1 : oS T rows (-1) = x_1 := ex_1.symm
              have hmy : graC rows T who oth on = true := by unfold graC; rw [ho1, decide_eq_true (p := who = rp (atS rows x_1)) c61, decide_eq_true (p := oth ≠ rp (atS rows x_1)) c67, decide_eq_true (p := hsS rows x_1 oth ≠ on) (fun z => c81 (bI_e.mpr z))]; rfl
              refine aP (rS (As := [.int (bI true)]) (rest := []) C0 (c_X_demandState l g _) (zK_S hZ hS (cX_old hX0)) k_X_grant_89 rfl rfl ⟨Nat.le_of_ble_eq_true rfl, Nat.le_of_ble_eq_true rfl⟩ rfl hl.1 rfl (Nat.le_of_ble_eq_true rfl) d_X_grant_89 ⟨by show 0 + 32 + 0 ≤ 34; omega, by show 0 + 954 + 0 ≤ 968; omega⟩) ?_
              intro v hv; subst hv
              refine W.eq (g2 := F0 m 92 ls []) rfl ?_
              refine lv_aload_n hx hb d_X_grant_92 rfl (lv_at hl 3 rfl) ?_
              rw [ho1] at hog
              subst hog
              have hadq : ∀ j, j < 16 → ad2 j < H.size := fun j hj => cX_lt hX hj
              obtain ⟨z9, hz9⟩ : ∃ z9, z9 = H.size := ⟨_, rfl⟩
              rw [← hz9] at hadq
              have hzs : s.heap.size ≤ z9 := by rw [hz9]; exact hS.1
              have hS0 := hS
              refine s_new (ci := 4) (C := R_R) (T := F_R) (N := 8) hx hb hts i_R t_R t_R_ok hown (hts _ (in_4 (List.mem_of_getElem? (i := 102) rfl) rfl)) (hts _ (in_2 (List.mem_of_getElem? (i := 166) rfl) rfl)) (hts _ (in_1 (List.mem_of_getElem? (i := 19) rfl) rfl)) hK hS rfl (fs := [.int 0, .int 0, .null, .null, .int 0, .int 0, .int 0, .long 0]) (by decide) (by show 0 + 32 + 1 ≤ 34; omega) (by show 0 + 954 + 8 ≤ 968; omega) d_X_grant_93 (fun q1 H hq f_q1 hz o1 hS => ?_)
              have hX := cX_mv hX (Z' := fun a => Z a ∧ a ≠ q1) (fun a h1 h2 => ⟨o1 a (by rw [hq]; exact h2), h1, by omega⟩)
              have hN9 := pN_mv hN9 (P' := fun a => PX Z ad2 a ∧ a ≠ q1) (fun a h1 h2 => ⟨o1 a (by rw [hq]; exact h2), h1, by omega⟩)
              have ge_q1 : s.heap.size ≤ q1 := by rw [hq]; exact hS0.1
              refine lv_dup hx hb d_X_grant_96 rfl ?_
              refine lv_iconst (v := nI 2) hx hb d_X_grant_97 (by decide) ?_
              refine lv_iload_n hx hb d_X_grant_98 rfl (lv_at hl 4 rfl) ?_
              refine lv_aload hx hb d_X_grant_99 (lv_at hl 2 rfl) ?_
              refine lv_aload hx hb d_X_grant_101 (lv_at hl 2 rfl) ?_
              refine lv_iload_n hx hb d_X_grant_103 rfl (lv_at hl 5 rfl) ?_
              refine lv_iload_n hx hb d_X_grant_104 rfl (lv_at hl 6 rfl) ?_
              refine aP (rS (As := [.int (bI on)]) (rest := [.int oth, .ref na, .ref na, .int who, .int (nI 2), .ref q1, .ref q1, .ref x]) C0 (c_X_asNumber l g _ on) (zK_S hZ hS (cX_old hX0)) k_X_grant_105 rfl rfl ⟨Nat.le_of_ble_eq_true rfl, Nat.le_of_ble_eq_true rfl⟩ rfl hl.1 rfl (Nat.le_of_ble_eq_true rfl) d_X_grant_105 ⟨by show 0 + 32 + 1 + 0 ≤ 34; omega, by show 0 + 954 + 8 + 0 ≤ 968; omega⟩) ?_
              intro v hv; subst hv
              refine W.eq (g2 := F0 m 108 ls [.int (bI on), .int oth, .ref na, .ref na, .int who, .int (nI 2), .ref q1, .ref q1, .ref x]) rfl ?_
              refine lv_iload hx hb d_X_grant_108 (lv_at hl 1 rfl) ?_
              refine aW (N := (fun a => a = q1)) (rI (As := [.int (nI 2), .int who, .ref na, .ref na, .int oth, .int (bI on), .int x_1]) (rest := [.ref q1, .ref x]) C0 (c_R_init l g _ q1 na na (nI 2) who oth (bI on) x_1 T T f_q1 (by omega) (pN_P hN9 (fun a h1 _ => h1.2)) (pN_P hN9 (fun a h1 _ => h1.2))) (zK_S hZ hS (cX_old hX0)) k_X_grant_110 rfl rfl ⟨Nat.le_of_ble_eq_true rfl, Nat.le_of_ble_eq_true rfl⟩ rfl hl.1 rfl (Nat.le_of_ble_eq_true rfl) d_X_grant_110 ⟨by show 0 + 32 + 1 + 0 ≤ 34; omega, by show 0 + 954 + 8 + 0 ≤ 968; omega⟩) (fun v H L hC1 hp hL => ?_)
              have hS0 := hS
              have hS := hS_call hS hC1 hL (fun a h => by rw [h]; exact Or.inr (by omega))
              obtain ⟨rfl, f_q1⟩ := hp
              have hX := cX_mv (Z' := Z) hX (fun a h1 h2 => ⟨hC_at hC1 h2 (fun z => h1.2 z), h1.1⟩)
              have hN9 := pN_mv (P' := PX Z ad2) hN9 (fun a h1 h2 => ⟨hC_at hC1 h2 (fun z => h1.2 z), h1.1⟩)
              have hR1 : pR (PX Z ad2) g H q1 ((nI 2), who, T, T, oth, (bI on), x_1) := ⟨na, na, ⟨fun j hj z => by have := hadq j hj; omega, hZb _ (by omega)⟩, f_q1, hN9, hN9⟩
              refine W.eq (g2 := F0 m 113 ls [.ref q1, .ref x]) rfl ?_
              refine rVX (As := [.ref q1]) (rest := []) C0 (x_X_write l g _ htr Z x ad2 ms nm nw rows mir [] f k q f2 k2 hX q1 hge) (zK_S hZ hS (cX_old hX0)) k_X_grant_113 rfl rfl ⟨Nat.le_of_ble_eq_true rfl, Nat.le_of_ble_eq_true rfl⟩ (ob_recv hK (cX_ob hX) rfl) rfl hl.1 rfl (Nat.le_of_ble_eq_true rfl) d_X_grant_113 ⟨by show 0 + 32 + 1 + 0 + 1 ≤ 34; omega, by show 0 + 954 + 8 + 0 + 6 ≤ 968; omega⟩ (fun x9 H L st hW9 hq9 hL => ?_)
              obtain ⟨hx1, ⟨ce, hx2, hx3, hx4⟩, hC1, hp⟩ := hq9
              have hS1 := hS_call hS hC1 hL (fun a h => NX_U hv4 (by rw [← had2]; exact h))
              refine WX.widen (k := 34) (n := 968) (by omega) (by omega) ?_
              refine WX.out hno ⟨Nat.le_trans hS.1 hx1, ⟨ce, hx2, hx3, by rw [← hW9.alike.findClass]; exact hx4⟩, hS_hC hS1, ⟨v2, by rw [← had2]; exact hp⟩⟩ hS1.2.2 hlk
