theorem k_W_law_156 : kV "RegistryLogLaw" 32 "RegistryLog" y_X_type b_X_type 2 (some .boolean) 1 := ⟨(in_3 (List.mem_of_getElem? (i := 28) rfl) rfl), (in_3 (List.mem_of_getElem? (i := 29) rfl) rfl), (in_3 (List.mem_of_getElem? (i := 30) rfl) rfl), (in_1 (List.mem_of_getElem? (i := 1) rfl) rfl), (in_3 (List.mem_of_getElem? (i := 31) rfl) rfl), ⟨by decide, by decide, by decide +kernel⟩⟩
theorem k_W_law_167 : kV "RegistryLogLaw" 36 "RegistryLogModel" y_M_type b_M_type 2 (some .boolean) 1 := ⟨(in_5 (List.mem_of_getElem? (i := 114) rfl) rfl), (in_5 (List.mem_of_getElem? (i := 115) rfl) rfl), (in_5 (List.mem_of_getElem? (i := 116) rfl) rfl), (in_1 (List.mem_of_getElem? (i := 22) rfl) rfl), (in_5 (List.mem_of_getElem? (i := 117) rfl) rfl), ⟨by decide, by decide, by decide +kernel⟩⟩
set_option maxHeartbeats 4000000 in
set_option maxRecDepth 100000 in
theorem ca_0 {p : Program} {l : Launch} {e : Env} {s : State} {m : MethodId} {args : Array Value} {below : List Frame} {meth : Method} {c : Code} {g : gG} (C0 : cF g p s m args meth c b_W_law 7 "RegistryLogLaw" (some .boolean)) (htr : ∀ e, l.admits e → e.platform.stackTraces = false) (hZ : zK g s s.heap) (hg9 : g.2.2.1 = s.heap.size) (hE0 : pS (fun a => a < s.heap.size) g s.heap (g.2.2.2 1) []) {b L : Nat} {xs : Nat → Int32} (hXs : va_X b L xs s s.heap) (hbl : b < s.heap.size) (hL : L ≤ 3584) {x xr o9 : Nat} {adr : Nat → Nat} {i cl sl : Nat} (hi : i + 7 ≤ L) (hcl : cl + 70 ≤ 632517) (hsl : sl + 2000 ≤ 7198554) {Q : State → Prop} (kk : ∀ (H : Heap) (locs : List Loc), RL g H x xr adr o9 → va_S (fW s.heap no_) s.heap H locs → ∀ (ls : Array Slot), lv_has ls 7 [(0, .ref b), (1, .ref x), (2, .ref xr), (3, .ref o9), (4, .int (nI i))] → W p l e room_1 s m args below meth c H locs (cl + 70) (sl + 2000) Q (F0 m 1289 ls [])) : ∀ (H : Heap) (locs : List Loc), RL g H x xr adr o9 → va_S (fW s.heap no_) s.heap H locs → ∀ (ls : Array Slot), lv_has ls 7 [(0, .ref b), (1, .ref x), (2, .ref xr), (3, .ref o9), (4, .int (nI i))] → W p l e room_1 s m args below meth c H locs cl sl Q (F0 m 148 ls []) := by
  obtain ⟨hx, hb, hml, hown, hts, hr, hlk, hK⟩ := id C0
  intro H locs hRL hS ls hl
  obtain ⟨ad, ms, nm, nw, rows, mir, T, f, k, f2, k2, F, A, B, fo, hX, hm, hR, hO, ho, ho9, hom⟩ := hRL
  have hsz : g.2.2.1 ≤ H.size := by rw [hg9]; exact hS.1
  have hZb := Z_new hm (ar_lt ho)
  have hold : ∀ q, mN xr adr q → s.heap.size ≤ q := fun q h => by rw [← hg9]; exact hm.2.2.2.2.2.2 q h
  have hTT := cX_T hX
  have hrc := RF_c hR
  refine lv_aload_n hx hb d_W_law_148 rfl (lv_at hl 1 rfl) ?_
  refine lv_aload_n hx hb d_W_law_149 rfl (lv_at hl 0 rfl) ?_
  refine lv_iload hx hb d_W_law_150 (lv_at hl 4 rfl) ?_
  refine lv_iconst (v := nI 1) hx hb d_W_law_152 (by decide) ?_
  refine n_iadd hx hb d_W_law_153 ?_
  refine va_sld hx hb hXs hbl (fun z => z.elim id (fun z => absurd hbl (Nat.not_lt.mpr z))) hS (vp_in_nI (by omega) (by omega)) d_W_law_154 ?_
  refine W.eq (g2 := F0 m 155 ls [.int (xs (i + 1)), .ref x]) (by rw [nI_clamp (by omega)]) ?_
  obtain ⟨cc, hcc, ecc⟩ := i2c_n (xs (i + 1))
  refine lv_i2c hx hb d_W_law_155 rfl ?_
  refine W.eq (g2 := F0 m 156 ls [.int (nI cc), .ref x]) (by rw [ecc]) ?_
  refine aW (N := (NX ad)) (rV (As := [.int (nI cc)]) (rest := []) C0 (c_X_type l g _ (Zr xr adr o9) x ad ms nm nw rows mir T f k 0 f2 k2 hX hsz hZb cc hcc) (zK_S hZ hS (fun _ h => h.elim)) k_W_law_156 rfl rfl ⟨Nat.le_of_ble_eq_true rfl, Nat.le_of_ble_eq_true rfl⟩ (ob_recv hK (cX_ob hX) rfl) rfl hl.1 rfl (Nat.le_of_ble_eq_true rfl) d_W_law_156 ⟨by show cl + 1 ≤ 632517; omega, by show sl + 34 ≤ 7198554; omega⟩) (fun v H L hC1 hp hL => ?_)
  have hS0 := hS
  have hS := hS_call hS hC1 hL (fun a h => Or.inr (by rw [← hg9]; exact cX_old hX a h))
  have hm := mW_keep hm (fun a h => hC_at hC1 (mN_lt hm h) (Z_nm hX h))
  have ho := ar_kept ho (hC_at hC1 (ar_lt ho) (Z_no2 hX))
  obtain ⟨v2, rfl, hX⟩ := hp
  refine W.eq (g2 := F0 m 159 ls [.int (bI (decide (32 ≤ cc ∧ cc ≤ 126 ∧ T.length < 24)))]) rfl ?_
  refine lv_aload_n hx hb d_W_law_159 rfl (lv_at hl 2 rfl) ?_
  refine lv_aload_n hx hb d_W_law_160 rfl (lv_at hl 0 rfl) ?_
  refine lv_iload hx hb d_W_law_161 (lv_at hl 4 rfl) ?_
  refine lv_iconst (v := nI 1) hx hb d_W_law_163 (by decide) ?_
  refine n_iadd hx hb d_W_law_164 ?_
  refine va_sld hx hb hXs hbl (fun z => z.elim id (fun z => absurd hbl (Nat.not_lt.mpr z))) hS (vp_in_nI (by omega) (by omega)) d_W_law_165 ?_
  refine W.eq (g2 := F0 m 166 ls [.int (xs (i + 1)), .ref xr, .int (bI (decide (32 ≤ cc ∧ cc ≤ 126 ∧ T.length < 24)))]) (by rw [nI_clamp (by omega)]) ?_
  refine lv_i2c hx hb d_W_law_166 rfl ?_
  refine W.eq (g2 := F0 m 167 ls [.int (nI cc), .ref xr, .int (bI (decide (32 ≤ cc ∧ cc ≤ 126 ∧ T.length < 24)))]) (by rw [ecc]) ?_
  refine aQ (rV (As := [.int (nI cc)]) (rest := [.int (bI (decide (32 ≤ cc ∧ cc ≤ 126 ∧ T.length < 24)))]) C0 (c_M_type l g _ xr adr _ _ _ hm cc T.length hcc hR.2.1.1 hTT.1) (zK_S hZ hS (fun _ h => h.elim)) k_W_law_167 rfl rfl ⟨Nat.le_of_ble_eq_true rfl, Nat.le_of_ble_eq_true rfl⟩ (ob_recv hK hm.1 rfl) rfl hl.1 rfl (Nat.le_of_ble_eq_true rfl) d_W_law_167 ⟨by show cl + 1 + 0 ≤ 632517; omega, by show sl + 34 + 0 ≤ 7198554; omega⟩) hS hold (fun v H locs F1 A1 B1 hm9 hq9 hz9 hp hS => ?_)
  have hX := cX_mv (Z' := (Zr xr adr o9)) hX (fun a h1 h2 => ⟨hq9 a h1.1, h1⟩)
  have ho := ar_kept ho (hq9 _ hom)
  have hp := t_type hR hp
  obtain ⟨rfl, hR⟩ := hp
  have hm := hm9
  refine W.eq (g2 := F0 m 170 ls [.int (bI (decide (32 ≤ cc ∧ cc ≤ 126 ∧ T.length < 24))), .int (bI (decide (32 ≤ cc ∧ cc ≤ 126 ∧ T.length < 24)))]) rfl ?_
  refine lv_icmp_eq (tgt := 1289) hx hb d_W_law_170 (by decide) (fun _ => ?_) (fun c9 => absurd rfl c9)
  refine W.widen (k := cl + 70) (n := sl + 2000) (by omega) (by omega) ?_
  exact kk H _ ⟨_, _, _, _, _, _, _, _, _, _, _, _, _, _, _, hX, hm, hR, hO, ho, ho9, hom⟩ hS ls (lv_sub hl [0, 1, 2, 3, 4] rfl)
theorem k_W_law_618 : kV "RegistryLogLaw" 76 "RegistryLog" y_X_inside b_X_inside 3 (some .int) 2 := ⟨(in_3 (List.mem_of_getElem? (i := 69) rfl) rfl), (in_3 (List.mem_of_getElem? (i := 70) rfl) rfl), (in_3 (List.mem_of_getElem? (i := 71) rfl) rfl), (in_1 (List.mem_of_getElem? (i := 1) rfl) rfl), (in_3 (List.mem_of_getElem? (i := 72) rfl) rfl), ⟨by decide, by decide, by decide +kernel⟩⟩
theorem k_W_law_634 : kV "RegistryLogLaw" 79 "RegistryLogModel" y_M_inside b_M_inside 4 (some .int) 2 := ⟨(in_5 (List.mem_of_getElem? (i := 238) rfl) rfl), (in_5 (List.mem_of_getElem? (i := 239) rfl) rfl), (in_6 (List.mem_of_getElem? (i := 0) rfl) rfl), (in_1 (List.mem_of_getElem? (i := 22) rfl) rfl), (in_6 (List.mem_of_getElem? (i := 1) rfl) rfl), ⟨by decide, by decide, by decide +kernel⟩⟩
set_option maxHeartbeats 4000000 in
set_option maxRecDepth 100000 in
theorem ca_9 {p : Program} {l : Launch} {e : Env} {s : State} {m : MethodId} {args : Array Value} {below : List Frame} {meth : Method} {c : Code} {g : gG} (C0 : cF g p s m args meth c b_W_law 7 "RegistryLogLaw" (some .boolean)) (htr : ∀ e, l.admits e → e.platform.stackTraces = false) (hZ : zK g s s.heap) (hg9 : g.2.2.1 = s.heap.size) (hE0 : pS (fun a => a < s.heap.size) g s.heap (g.2.2.2 1) []) {b L : Nat} {xs : Nat → Int32} (hXs : va_X b L xs s s.heap) (hbl : b < s.heap.size) (hL : L ≤ 3584) {x xr o9 : Nat} {adr : Nat → Nat} {i cl sl : Nat} (hi : i + 7 ≤ L) (hcl : cl + 70 ≤ 632517) (hsl : sl + 2000 ≤ 7198554) {Q : State → Prop} (kk : ∀ (H : Heap) (locs : List Loc), RL g H x xr adr o9 → va_S (fW s.heap no_) s.heap H locs → ∀ (ls : Array Slot), lv_has ls 7 [(0, .ref b), (1, .ref x), (2, .ref xr), (3, .ref o9), (4, .int (nI i))] → W p l e room_1 s m args below meth c H locs (cl + 70) (sl + 2000) Q (F0 m 1289 ls [])) : ∀ (H : Heap) (locs : List Loc), RL g H x xr adr o9 → va_S (fW s.heap no_) s.heap H locs → ∀ (ls : Array Slot), lv_has ls 7 [(0, .ref b), (1, .ref x), (2, .ref xr), (3, .ref o9), (4, .int (nI i))] → W p l e room_1 s m args below meth c H locs cl sl Q (F0 m 605 ls []) := by
  obtain ⟨hx, hb, hml, hown, hts, hr, hlk, hK⟩ := id C0
  intro H locs hRL hS ls hl
  obtain ⟨ad, ms, nm, nw, rows, mir, T, f, k, f2, k2, F, A, B, fo, hX, hm, hR, hO, ho, ho9, hom⟩ := hRL
  have hsz : g.2.2.1 ≤ H.size := by rw [hg9]; exact hS.1
  have hZb := Z_new hm (ar_lt ho)
  have hold : ∀ q, mN xr adr q → s.heap.size ≤ q := fun q h => by rw [← hg9]; exact hm.2.2.2.2.2.2 q h
  have hTT := cX_T hX
  have hrc := RF_c hR
  refine lv_aload_n hx hb d_W_law_605 rfl (lv_at hl 1 rfl) ?_
  refine lv_aload_n hx hb d_W_law_606 rfl (lv_at hl 0 rfl) ?_
  refine lv_iload hx hb d_W_law_607 (lv_at hl 4 rfl) ?_
  refine lv_iconst (v := nI 1) hx hb d_W_law_609 (by decide) ?_
  refine n_iadd hx hb d_W_law_610 ?_
  refine va_sld hx hb hXs hbl (fun z => z.elim id (fun z => absurd hbl (Nat.not_lt.mpr z))) hS (vp_in_nI (by omega) (by omega)) d_W_law_611 ?_
  refine W.eq (g2 := F0 m 612 ls [.int (xs (i + 1)), .ref x]) (by rw [nI_clamp (by omega)]) ?_
  refine lv_aload_n hx hb d_W_law_612 rfl (lv_at hl 0 rfl) ?_
  refine lv_iload hx hb d_W_law_613 (lv_at hl 4 rfl) ?_
  refine lv_iconst (v := nI 2) hx hb d_W_law_615 (by decide) ?_
  refine n_iadd hx hb d_W_law_616 ?_
  refine va_sld hx hb hXs hbl (fun z => z.elim id (fun z => absurd hbl (Nat.not_lt.mpr z))) hS (vp_in_nI (by omega) (by omega)) d_W_law_617 ?_
  refine W.eq (g2 := F0 m 618 ls [.int (xs (i + 2)), .int (xs (i + 1)), .ref x]) (by rw [nI_clamp (by omega)]) ?_
  refine aW (N := (NX ad)) (rV (As := [.int (xs (i + 1)), .int (xs (i + 2))]) (rest := []) C0 (c_X_inside l g _ (Zr xr adr o9) x ad ms nm nw rows mir T f k 0 f2 k2 hX (xs (i + 1)) (xs (i + 2))) (zK_S hZ hS (fun _ h => h.elim)) k_W_law_618 rfl rfl ⟨Nat.le_of_ble_eq_true rfl, Nat.le_of_ble_eq_true rfl⟩ (ob_recv hK (cX_ob hX) rfl) rfl hl.1 rfl (Nat.le_of_ble_eq_true rfl) d_W_law_618 ⟨by show cl + 0 ≤ 632517; omega, by show sl + 0 ≤ 7198554; omega⟩) (fun v H L hC1 hp hL => ?_)
  have hS0 := hS
  have hS := hS_call hS hC1 hL (fun a h => Or.inr (by rw [← hg9]; exact cX_old hX a h))
  have hm := mW_keep hm (fun a h => hC_at hC1 (mN_lt hm h) (Z_nm hX h))
  have ho := ar_kept ho (hC_at hC1 (ar_lt ho) (Z_no2 hX))
  have hp := u_if (k9 := (LIr rows (xs (i + 1)) (xs (i + 2))).length) (f9 := psh f 0 (LIr rows (xs (i + 1)) (xs (i + 2)))) (X := fun f9 k9 => cX (Zr xr adr o9) g H x ad ms nm nw rows mir T f9 k9 0 f2 k2 0) hp
  obtain ⟨rfl, hX⟩ := hp
  refine W.eq (g2 := F0 m 621 ls [.int (if (0 ≤ (xs (i + 1)) ∧ (xs (i + 1)) < (xs (i + 2)) ∧ (xs (i + 2)) ≤ nI rows.length) then nI (LIr rows (xs (i + 1)) (xs (i + 2))).length else -1)]) rfl ?_
  refine lv_aload_n hx hb d_W_law_621 rfl (lv_at hl 2 rfl) ?_
  refine lv_aload_n hx hb d_W_law_622 rfl (lv_at hl 0 rfl) ?_
  refine lv_iload hx hb d_W_law_623 (lv_at hl 4 rfl) ?_
  refine lv_iconst (v := nI 1) hx hb d_W_law_625 (by decide) ?_
  refine n_iadd hx hb d_W_law_626 ?_
  refine va_sld hx hb hXs hbl (fun z => z.elim id (fun z => absurd hbl (Nat.not_lt.mpr z))) hS (vp_in_nI (by omega) (by omega)) d_W_law_627 ?_
  refine W.eq (g2 := F0 m 628 ls [.int (xs (i + 1)), .ref xr, .int (if (0 ≤ (xs (i + 1)) ∧ (xs (i + 1)) < (xs (i + 2)) ∧ (xs (i + 2)) ≤ nI rows.length) then nI (LIr rows (xs (i + 1)) (xs (i + 2))).length else -1)]) (by rw [nI_clamp (by omega)]) ?_
  refine lv_aload_n hx hb d_W_law_628 rfl (lv_at hl 0 rfl) ?_
  refine lv_iload hx hb d_W_law_629 (lv_at hl 4 rfl) ?_
  refine lv_iconst (v := nI 2) hx hb d_W_law_631 (by decide) ?_
  refine n_iadd hx hb d_W_law_632 ?_
  refine va_sld hx hb hXs hbl (fun z => z.elim id (fun z => absurd hbl (Nat.not_lt.mpr z))) hS (vp_in_nI (by omega) (by omega)) d_W_law_633 ?_
  refine W.eq (g2 := F0 m 634 ls [.int (xs (i + 2)), .int (xs (i + 1)), .ref xr, .int (if (0 ≤ (xs (i + 1)) ∧ (xs (i + 1)) < (xs (i + 2)) ∧ (xs (i + 2)) ≤ nI rows.length) then nI (LIr rows (xs (i + 1)) (xs (i + 2))).length else -1)]) (by rw [nI_clamp (by omega)]) ?_
  refine aQ (rV (As := [.int (xs (i + 1)), .int (xs (i + 2))]) (rest := [.int (if (0 ≤ (xs (i + 1)) ∧ (xs (i + 1)) < (xs (i + 2)) ∧ (xs (i + 2)) ≤ nI rows.length) then nI (LIr rows (xs (i + 1)) (xs (i + 2))).length else -1)]) C0 (c_M_inside l g _ xr adr _ _ _ hm rows.length (TTr rows) (UUr rows) (rep_of hR.1.1) hrc.1 (xs (i + 1)) (xs (i + 2))) (zK_S hZ hS (fun _ h => h.elim)) k_W_law_634 rfl rfl ⟨Nat.le_of_ble_eq_true rfl, Nat.le_of_ble_eq_true rfl⟩ (ob_recv hK hm.1 rfl) rfl hl.1 rfl (Nat.le_of_ble_eq_true rfl) d_W_law_634 ⟨by show cl + 0 + 0 ≤ 632517; omega, by show sl + 0 + 0 ≤ 7198554; omega⟩) hS hold (fun v H locs F1 A1 B1 hm9 hq9 hz9 hp hS => ?_)
  have hX := cX_mv (Z' := (Zr xr adr o9)) hX (fun a h1 h2 => ⟨hq9 a h1.1, h1⟩)
  have ho := ar_kept ho (hq9 _ hom)
  have hp := t_in hR hp
  obtain ⟨rfl, hR⟩ := hp
  have hm := hm9
  refine W.eq (g2 := F0 m 637 ls [.int (if (0 ≤ (xs (i + 1)) ∧ (xs (i + 1)) < (xs (i + 2)) ∧ (xs (i + 2)) ≤ nI rows.length) then nI (LIr rows (xs (i + 1)) (xs (i + 2))).length else -1), .int (if (0 ≤ (xs (i + 1)) ∧ (xs (i + 1)) < (xs (i + 2)) ∧ (xs (i + 2)) ≤ nI rows.length) then nI (LIr rows (xs (i + 1)) (xs (i + 2))).length else -1)]) rfl ?_
  refine lv_icmp_eq (tgt := 1289) hx hb d_W_law_637 (by decide) (fun _ => ?_) (fun c9 => absurd rfl c9)
  refine W.widen (k := cl + 70) (n := sl + 2000) (by omega) (by omega) ?_
  exact kk H _ ⟨_, _, _, _, _, _, _, _, _, _, _, _, _, _, _, hX, hm, hR, hO, ho, ho9, hom⟩ hS ls (lv_sub hl [0, 1, 2, 3, 4] rfl)
theorem k_W_law_655 : kV "RegistryLogLaw" 80 "RegistryLog" y_X_growth b_X_growth 3 (some .int) 2 := ⟨(in_3 (List.mem_of_getElem? (i := 89) rfl) rfl), (in_3 (List.mem_of_getElem? (i := 90) rfl) rfl), (in_3 (List.mem_of_getElem? (i := 91) rfl) rfl), (in_1 (List.mem_of_getElem? (i := 1) rfl) rfl), (in_3 (List.mem_of_getElem? (i := 92) rfl) rfl), ⟨by decide, by decide, by decide +kernel⟩⟩
theorem k_W_law_671 : kV "RegistryLogLaw" 83 "RegistryLogModel" y_M_growth b_M_growth 4 (some .int) 2 := ⟨(in_6 (List.mem_of_getElem? (i := 13) rfl) rfl), (in_6 (List.mem_of_getElem? (i := 14) rfl) rfl), (in_6 (List.mem_of_getElem? (i := 15) rfl) rfl), (in_1 (List.mem_of_getElem? (i := 22) rfl) rfl), (in_6 (List.mem_of_getElem? (i := 16) rfl) rfl), ⟨by decide, by decide, by decide +kernel⟩⟩
set_option maxHeartbeats 4000000 in
set_option maxRecDepth 100000 in
theorem ca_10 {p : Program} {l : Launch} {e : Env} {s : State} {m : MethodId} {args : Array Value} {below : List Frame} {meth : Method} {c : Code} {g : gG} (C0 : cF g p s m args meth c b_W_law 7 "RegistryLogLaw" (some .boolean)) (htr : ∀ e, l.admits e → e.platform.stackTraces = false) (hZ : zK g s s.heap) (hg9 : g.2.2.1 = s.heap.size) (hE0 : pS (fun a => a < s.heap.size) g s.heap (g.2.2.2 1) []) {b L : Nat} {xs : Nat → Int32} (hXs : va_X b L xs s s.heap) (hbl : b < s.heap.size) (hL : L ≤ 3584) {x xr o9 : Nat} {adr : Nat → Nat} {i cl sl : Nat} (hi : i + 7 ≤ L) (hcl : cl + 70 ≤ 632517) (hsl : sl + 2000 ≤ 7198554) {Q : State → Prop} (kk : ∀ (H : Heap) (locs : List Loc), RL g H x xr adr o9 → va_S (fW s.heap no_) s.heap H locs → ∀ (ls : Array Slot), lv_has ls 7 [(0, .ref b), (1, .ref x), (2, .ref xr), (3, .ref o9), (4, .int (nI i))] → W p l e room_1 s m args below meth c H locs (cl + 70) (sl + 2000) Q (F0 m 1289 ls [])) : ∀ (H : Heap) (locs : List Loc), RL g H x xr adr o9 → va_S (fW s.heap no_) s.heap H locs → ∀ (ls : Array Slot), lv_has ls 7 [(0, .ref b), (1, .ref x), (2, .ref xr), (3, .ref o9), (4, .int (nI i))] → W p l e room_1 s m args below meth c H locs cl sl Q (F0 m 642 ls []) := by
  obtain ⟨hx, hb, hml, hown, hts, hr, hlk, hK⟩ := id C0
  intro H locs hRL hS ls hl
  obtain ⟨ad, ms, nm, nw, rows, mir, T, f, k, f2, k2, F, A, B, fo, hX, hm, hR, hO, ho, ho9, hom⟩ := hRL
  have hsz : g.2.2.1 ≤ H.size := by rw [hg9]; exact hS.1
  have hZb := Z_new hm (ar_lt ho)
  have hold : ∀ q, mN xr adr q → s.heap.size ≤ q := fun q h => by rw [← hg9]; exact hm.2.2.2.2.2.2 q h
  have hTT := cX_T hX
  have hrc := RF_c hR
  refine lv_aload_n hx hb d_W_law_642 rfl (lv_at hl 1 rfl) ?_
  refine lv_aload_n hx hb d_W_law_643 rfl (lv_at hl 0 rfl) ?_
  refine lv_iload hx hb d_W_law_644 (lv_at hl 4 rfl) ?_
  refine lv_iconst (v := nI 1) hx hb d_W_law_646 (by decide) ?_
  refine n_iadd hx hb d_W_law_647 ?_
  refine va_sld hx hb hXs hbl (fun z => z.elim id (fun z => absurd hbl (Nat.not_lt.mpr z))) hS (vp_in_nI (by omega) (by omega)) d_W_law_648 ?_
  refine W.eq (g2 := F0 m 649 ls [.int (xs (i + 1)), .ref x]) (by rw [nI_clamp (by omega)]) ?_
  refine lv_aload_n hx hb d_W_law_649 rfl (lv_at hl 0 rfl) ?_
  refine lv_iload hx hb d_W_law_650 (lv_at hl 4 rfl) ?_
  refine lv_iconst (v := nI 2) hx hb d_W_law_652 (by decide) ?_
  refine n_iadd hx hb d_W_law_653 ?_
  refine va_sld hx hb hXs hbl (fun z => z.elim id (fun z => absurd hbl (Nat.not_lt.mpr z))) hS (vp_in_nI (by omega) (by omega)) d_W_law_654 ?_
  refine W.eq (g2 := F0 m 655 ls [.int (xs (i + 2)), .int (xs (i + 1)), .ref x]) (by rw [nI_clamp (by omega)]) ?_
  refine aW (N := (NX ad)) (rV (As := [.int (xs (i + 1)), .int (xs (i + 2))]) (rest := []) C0 (c_X_growth l g _ (Zr xr adr o9) x ad ms nm nw rows mir T f k 0 f2 k2 hX (xs (i + 1)) (xs (i + 2))) (zK_S hZ hS (fun _ h => h.elim)) k_W_law_655 rfl rfl ⟨Nat.le_of_ble_eq_true rfl, Nat.le_of_ble_eq_true rfl⟩ (ob_recv hK (cX_ob hX) rfl) rfl hl.1 rfl (Nat.le_of_ble_eq_true rfl) d_W_law_655 ⟨by show cl + 0 ≤ 632517; omega, by show sl + 0 ≤ 7198554; omega⟩) (fun v H L hC1 hp hL => ?_)
  have hS0 := hS
  have hS := hS_call hS hC1 hL (fun a h => Or.inr (by rw [← hg9]; exact cX_old hX a h))
  have hm := mW_keep hm (fun a h => hC_at hC1 (mN_lt hm h) (Z_nm hX h))
  have ho := ar_kept ho (hC_at hC1 (ar_lt ho) (Z_no2 hX))
  have hp := u_if (k9 := (LGr rows (xs (i + 1)) (xs (i + 2))).length) (f9 := psh f 0 (LGr rows (xs (i + 1)) (xs (i + 2)))) (X := fun f9 k9 => cX (Zr xr adr o9) g H x ad ms nm nw rows mir T f9 k9 0 f2 k2 0) hp
  obtain ⟨rfl, hX⟩ := hp
  refine W.eq (g2 := F0 m 658 ls [.int (if (1 ≤ (xs (i + 1)) ∧ (xs (i + 1)) ≤ (xs (i + 2)) ∧ (xs (i + 2)) ≤ nI rows.length) then nI (LGr rows (xs (i + 1)) (xs (i + 2))).length else -1)]) rfl ?_
  refine lv_aload_n hx hb d_W_law_658 rfl (lv_at hl 2 rfl) ?_
  refine lv_aload_n hx hb d_W_law_659 rfl (lv_at hl 0 rfl) ?_
  refine lv_iload hx hb d_W_law_660 (lv_at hl 4 rfl) ?_
  refine lv_iconst (v := nI 1) hx hb d_W_law_662 (by decide) ?_
  refine n_iadd hx hb d_W_law_663 ?_
  refine va_sld hx hb hXs hbl (fun z => z.elim id (fun z => absurd hbl (Nat.not_lt.mpr z))) hS (vp_in_nI (by omega) (by omega)) d_W_law_664 ?_
  refine W.eq (g2 := F0 m 665 ls [.int (xs (i + 1)), .ref xr, .int (if (1 ≤ (xs (i + 1)) ∧ (xs (i + 1)) ≤ (xs (i + 2)) ∧ (xs (i + 2)) ≤ nI rows.length) then nI (LGr rows (xs (i + 1)) (xs (i + 2))).length else -1)]) (by rw [nI_clamp (by omega)]) ?_
  refine lv_aload_n hx hb d_W_law_665 rfl (lv_at hl 0 rfl) ?_
  refine lv_iload hx hb d_W_law_666 (lv_at hl 4 rfl) ?_
  refine lv_iconst (v := nI 2) hx hb d_W_law_668 (by decide) ?_
  refine n_iadd hx hb d_W_law_669 ?_
  refine va_sld hx hb hXs hbl (fun z => z.elim id (fun z => absurd hbl (Nat.not_lt.mpr z))) hS (vp_in_nI (by omega) (by omega)) d_W_law_670 ?_
  refine W.eq (g2 := F0 m 671 ls [.int (xs (i + 2)), .int (xs (i + 1)), .ref xr, .int (if (1 ≤ (xs (i + 1)) ∧ (xs (i + 1)) ≤ (xs (i + 2)) ∧ (xs (i + 2)) ≤ nI rows.length) then nI (LGr rows (xs (i + 1)) (xs (i + 2))).length else -1)]) (by rw [nI_clamp (by omega)]) ?_
  refine aQ (rV (As := [.int (xs (i + 1)), .int (xs (i + 2))]) (rest := [.int (if (1 ≤ (xs (i + 1)) ∧ (xs (i + 1)) ≤ (xs (i + 2)) ∧ (xs (i + 2)) ≤ nI rows.length) then nI (LGr rows (xs (i + 1)) (xs (i + 2))).length else -1)]) C0 (c_M_growth l g _ xr adr _ _ _ hm rows.length (TTr rows) (UUr rows) (rep_of hR.1.1) hrc.1 (xs (i + 1)) (xs (i + 2))) (zK_S hZ hS (fun _ h => h.elim)) k_W_law_671 rfl rfl ⟨Nat.le_of_ble_eq_true rfl, Nat.le_of_ble_eq_true rfl⟩ (ob_recv hK hm.1 rfl) rfl hl.1 rfl (Nat.le_of_ble_eq_true rfl) d_W_law_671 ⟨by show cl + 0 + 0 ≤ 632517; omega, by show sl + 0 + 0 ≤ 7198554; omega⟩) hS hold (fun v H locs F1 A1 B1 hm9 hq9 hz9 hp hS => ?_)
  have hX := cX_mv (Z' := (Zr xr adr o9)) hX (fun a h1 h2 => ⟨hq9 a h1.1, h1⟩)
  have ho := ar_kept ho (hq9 _ hom)
  have hp := t_gr hR (fun e9 => prG_eq hR e9) hp
  obtain ⟨rfl, hR⟩ := hp
  have hm := hm9
  refine W.eq (g2 := F0 m 674 ls [.int (if (1 ≤ (xs (i + 1)) ∧ (xs (i + 1)) ≤ (xs (i + 2)) ∧ (xs (i + 2)) ≤ nI rows.length) then nI (LGr rows (xs (i + 1)) (xs (i + 2))).length else -1), .int (if (1 ≤ (xs (i + 1)) ∧ (xs (i + 1)) ≤ (xs (i + 2)) ∧ (xs (i + 2)) ≤ nI rows.length) then nI (LGr rows (xs (i + 1)) (xs (i + 2))).length else -1)]) rfl ?_
  refine lv_icmp_eq (tgt := 1289) hx hb d_W_law_674 (by decide) (fun _ => ?_) (fun c9 => absurd rfl c9)
  refine W.widen (k := cl + 70) (n := sl + 2000) (by omega) (by omega) ?_
  exact kk H _ ⟨_, _, _, _, _, _, _, _, _, _, _, _, _, _, _, hX, hm, hR, hO, ho, ho9, hom⟩ hS ls (lv_sub hl [0, 1, 2, 3, 4] rfl)
theorem k_W_law_728 : kV "RegistryLogLaw" 90 "RegistryLog" y_X_take b_X_take 3 (some .boolean) 1 := ⟨(in_3 (List.mem_of_getElem? (i := 105) rfl) rfl), (in_3 (List.mem_of_getElem? (i := 106) rfl) rfl), (in_3 (List.mem_of_getElem? (i := 107) rfl) rfl), (in_1 (List.mem_of_getElem? (i := 1) rfl) rfl), (in_3 (List.mem_of_getElem? (i := 108) rfl) rfl), ⟨by decide, by decide, by decide +kernel⟩⟩
theorem k_W_law_754 : kV "RegistryLogLaw" 94 "RegistryLogModel" y_M_take b_M_take 3 (some .boolean) 1 := ⟨(in_6 (List.mem_of_getElem? (i := 21) rfl) rfl), (in_6 (List.mem_of_getElem? (i := 22) rfl) rfl), (in_6 (List.mem_of_getElem? (i := 23) rfl) rfl), (in_1 (List.mem_of_getElem? (i := 22) rfl) rfl), (in_6 (List.mem_of_getElem? (i := 24) rfl) rfl), ⟨by decide, by decide, by decide +kernel⟩⟩
set_option maxHeartbeats 4000000 in
set_option maxRecDepth 100000 in
theorem ca_12 {p : Program} {l : Launch} {e : Env} {s : State} {m : MethodId} {args : Array Value} {below : List Frame} {meth : Method} {c : Code} {g : gG} (C0 : cF g p s m args meth c b_W_law 7 "RegistryLogLaw" (some .boolean)) (htr : ∀ e, l.admits e → e.platform.stackTraces = false) (hZ : zK g s s.heap) (hg9 : g.2.2.1 = s.heap.size) (hE0 : pS (fun a => a < s.heap.size) g s.heap (g.2.2.2 1) []) {b L : Nat} {xs : Nat → Int32} (hXs : va_X b L xs s s.heap) (hbl : b < s.heap.size) (hL : L ≤ 3584) {x xr o9 : Nat} {adr : Nat → Nat} {i cl sl : Nat} (hi : i + 7 ≤ L) (hcl : cl + 70 ≤ 632517) (hsl : sl + 2000 ≤ 7198554) {Q : State → Prop} (kk : ∀ (H : Heap) (locs : List Loc), RL g H x xr adr o9 → va_S (fW s.heap no_) s.heap H locs → ∀ (ls : Array Slot), lv_has ls 7 [(0, .ref b), (1, .ref x), (2, .ref xr), (3, .ref o9), (4, .int (nI i))] → W p l e room_1 s m args below meth c H locs (cl + 70) (sl + 2000) Q (F0 m 1289 ls [])) : ∀ (H : Heap) (locs : List Loc), RL g H x xr adr o9 → va_S (fW s.heap no_) s.heap H locs → ∀ (ls : Array Slot), lv_has ls 7 [(0, .ref b), (1, .ref x), (2, .ref xr), (3, .ref o9), (4, .int (nI i))] → W p l e room_1 s m args below meth c H locs cl sl Q (F0 m 705 ls []) := by
  obtain ⟨hx, hb, hml, hown, hts, hr, hlk, hK⟩ := id C0
  intro H locs hRL hS ls hl
  obtain ⟨ad, ms, nm, nw, rows, mir, T, f, k, f2, k2, F, A, B, fo, hX, hm, hR, hO, ho, ho9, hom⟩ := hRL
  have hsz : g.2.2.1 ≤ H.size := by rw [hg9]; exact hS.1
  have hZb := Z_new hm (ar_lt ho)
  have hold : ∀ q, mN xr adr q → s.heap.size ≤ q := fun q h => by rw [← hg9]; exact hm.2.2.2.2.2.2 q h
  have hTT := cX_T hX
  have hrc := RF_c hR
  refine lv_aload_n hx hb d_W_law_705 rfl (lv_at hl 1 rfl) ?_
  refine lv_aload_n hx hb d_W_law_706 rfl (lv_at hl 0 rfl) ?_
  refine lv_iload hx hb d_W_law_707 (lv_at hl 4 rfl) ?_
  refine lv_iconst (v := nI 1) hx hb d_W_law_709 (by decide) ?_
  refine n_iadd hx hb d_W_law_710 ?_
  refine va_sld hx hb hXs hbl (fun z => z.elim id (fun z => absurd hbl (Nat.not_lt.mpr z))) hS (vp_in_nI (by omega) (by omega)) d_W_law_711 ?_
  refine W.eq (g2 := F0 m 712 ls [.int (xs (i + 1)), .ref x]) (by rw [nI_clamp (by omega)]) ?_
  refine lv_i2l hx hb d_W_law_712 rfl ?_
  refine lv_bipush (v := nI 32) hx hb d_W_law_713 (by decide) ?_
  refine lv_lshl hx hb d_W_law_715 rfl ?_
  refine lv_aload_n hx hb d_W_law_716 rfl (lv_at hl 0 rfl) ?_
  refine lv_iload hx hb d_W_law_717 (lv_at hl 4 rfl) ?_
  refine lv_iconst (v := nI 2) hx hb d_W_law_719 (by decide) ?_
  refine n_iadd hx hb d_W_law_720 ?_
  refine va_sld hx hb hXs hbl (fun z => z.elim id (fun z => absurd hbl (Nat.not_lt.mpr z))) hS (vp_in_nI (by omega) (by omega)) d_W_law_721 ?_
  refine W.eq (g2 := F0 m 722 ls [.int (xs (i + 2)), .long (((xs (i + 1)).toInt64) <<< ((nI 32).toInt64 &&& 63)), .ref x]) (by rw [nI_clamp (by omega)]) ?_
  refine lv_i2l hx hb d_W_law_722 rfl ?_
  refine lv_ldc2 (v := 4294967295) hx hb hown (hts (.constantLong "RegistryLogLaw" 88 4294967295) (in_6 (List.mem_of_getElem? (i := 76) rfl) rfl)) d_W_law_723 ?_
  refine lv_land hx hb d_W_law_726 ?_
  refine lv_lor hx hb d_W_law_727 ?_
  refine aW (N := (NX ad)) (rV (As := [.long ((((xs (i + 1)).toInt64) <<< ((nI 32).toInt64 &&& 63)) ||| (((xs (i + 2)).toInt64) &&& 4294967295))]) (rest := []) C0 (c_X_take l g _ (Zr xr adr o9) x ad ms nm nw rows mir T f k 0 f2 k2 hX ((((xs (i + 1)).toInt64) <<< ((nI 32).toInt64 &&& 63)) ||| (((xs (i + 2)).toInt64) &&& 4294967295))) (zK_S hZ hS (fun _ h => h.elim)) k_W_law_728 rfl rfl ⟨Nat.le_of_ble_eq_true rfl, Nat.le_of_ble_eq_true rfl⟩ (ob_recv hK (cX_ob hX) rfl) rfl hl.1 rfl (Nat.le_of_ble_eq_true rfl) d_W_law_728 ⟨by show cl + 0 ≤ 632517; omega, by show sl + 0 ≤ 7198554; omega⟩) (fun v H L hC1 hp hL => ?_)
  have hS0 := hS
  have hS := hS_call hS hC1 hL (fun a h => Or.inr (by rw [← hg9]; exact cX_old hX a h))
  have hm := mW_keep hm (fun a h => hC_at hC1 (mN_lt hm h) (Z_nm hX h))
  have ho := ar_kept ho (hC_at hC1 (ar_lt ho) (Z_no2 hX))
  obtain ⟨rfl, hX⟩ := hp
  refine W.eq (g2 := F0 m 731 ls [.int (bI (decide (k2 < 16)))]) rfl ?_
  refine lv_aload_n hx hb d_W_law_731 rfl (lv_at hl 2 rfl) ?_
  refine lv_aload_n hx hb d_W_law_732 rfl (lv_at hl 0 rfl) ?_
  refine lv_iload hx hb d_W_law_733 (lv_at hl 4 rfl) ?_
  refine lv_iconst (v := nI 1) hx hb d_W_law_735 (by decide) ?_
  refine n_iadd hx hb d_W_law_736 ?_
  refine va_sld hx hb hXs hbl (fun z => z.elim id (fun z => absurd hbl (Nat.not_lt.mpr z))) hS (vp_in_nI (by omega) (by omega)) d_W_law_737 ?_
  refine W.eq (g2 := F0 m 738 ls [.int (xs (i + 1)), .ref xr, .int (bI (decide (k2 < 16)))]) (by rw [nI_clamp (by omega)]) ?_
  refine lv_i2l hx hb d_W_law_738 rfl ?_
  refine lv_bipush (v := nI 32) hx hb d_W_law_739 (by decide) ?_
  refine lv_lshl hx hb d_W_law_741 rfl ?_
  refine lv_aload_n hx hb d_W_law_742 rfl (lv_at hl 0 rfl) ?_
  refine lv_iload hx hb d_W_law_743 (lv_at hl 4 rfl) ?_
  refine lv_iconst (v := nI 2) hx hb d_W_law_745 (by decide) ?_
  refine n_iadd hx hb d_W_law_746 ?_
  refine va_sld hx hb hXs hbl (fun z => z.elim id (fun z => absurd hbl (Nat.not_lt.mpr z))) hS (vp_in_nI (by omega) (by omega)) d_W_law_747 ?_
  refine W.eq (g2 := F0 m 748 ls [.int (xs (i + 2)), .long (((xs (i + 1)).toInt64) <<< ((nI 32).toInt64 &&& 63)), .ref xr, .int (bI (decide (k2 < 16)))]) (by rw [nI_clamp (by omega)]) ?_
  refine lv_i2l hx hb d_W_law_748 rfl ?_
  refine lv_ldc2 (v := 4294967295) hx hb hown (hts (.constantLong "RegistryLogLaw" 88 4294967295) (in_6 (List.mem_of_getElem? (i := 76) rfl) rfl)) d_W_law_749 ?_
  refine lv_land hx hb d_W_law_752 ?_
  refine lv_lor hx hb d_W_law_753 ?_
  refine aQ (rV (As := [.long ((((xs (i + 1)).toInt64) <<< ((nI 32).toInt64 &&& 63)) ||| (((xs (i + 2)).toInt64) &&& 4294967295))]) (rest := [.int (bI (decide (k2 < 16)))]) C0 (c_M_take l g _ xr adr _ _ _ hm k2 hR.2.2.2.1 hR.2.2.2.2.2 ((((xs (i + 1)).toInt64) <<< ((nI 32).toInt64 &&& 63)) ||| (((xs (i + 2)).toInt64) &&& 4294967295))) (zK_S hZ hS (fun _ h => h.elim)) k_W_law_754 rfl rfl ⟨Nat.le_of_ble_eq_true rfl, Nat.le_of_ble_eq_true rfl⟩ (ob_recv hK hm.1 rfl) rfl hl.1 rfl (Nat.le_of_ble_eq_true rfl) d_W_law_754 ⟨by show cl + 0 + 0 ≤ 632517; omega, by show sl + 0 + 0 ≤ 7198554; omega⟩) hS hold (fun v H locs F1 A1 B1 hm9 hq9 hz9 hp hS => ?_)
  have hX := cX_mv (Z' := (Zr xr adr o9)) hX (fun a h1 h2 => ⟨hq9 a h1.1, h1⟩)
  have ho := ar_kept ho (hq9 _ hom)
  have hp := t_take hR hp
  obtain ⟨rfl, hR⟩ := hp
  have hm := hm9
  refine W.eq (g2 := F0 m 757 ls [.int (bI (decide (k2 < 16))), .int (bI (decide (k2 < 16)))]) rfl ?_
  refine lv_icmp_eq (tgt := 1289) hx hb d_W_law_757 (by decide) (fun _ => ?_) (fun c9 => absurd rfl c9)
  refine W.widen (k := cl + 70) (n := sl + 2000) (by omega) (by omega) ?_
  exact kk H _ ⟨_, _, _, _, _, _, _, _, _, _, _, _, _, _, _, hX, hm, hR, hO, ho, ho9, hom⟩ hS ls (lv_sub hl [0, 1, 2, 3, 4] rfl)
theorem k_W_law_820 : kV "RegistryLogLaw" 95 "RegistryLog" y_X_isInside b_X_isInside 10 (some .boolean) 4 := ⟨(in_3 (List.mem_of_getElem? (i := 110) rfl) rfl), (in_3 (List.mem_of_getElem? (i := 111) rfl) rfl), (in_3 (List.mem_of_getElem? (i := 112) rfl) rfl), (in_1 (List.mem_of_getElem? (i := 1) rfl) rfl), (in_3 (List.mem_of_getElem? (i := 113) rfl) rfl), ⟨by decide, by decide, by decide +kernel⟩⟩
theorem k_W_law_881 : kV "RegistryLogLaw" 99 "RegistryLogModel" y_M_isInside b_M_isInside 11 (some .boolean) 4 := ⟨(in_6 (List.mem_of_getElem? (i := 25) rfl) rfl), (in_6 (List.mem_of_getElem? (i := 26) rfl) rfl), (in_6 (List.mem_of_getElem? (i := 27) rfl) rfl), (in_1 (List.mem_of_getElem? (i := 22) rfl) rfl), (in_6 (List.mem_of_getElem? (i := 28) rfl) rfl), ⟨by decide, by decide, by decide +kernel⟩⟩
set_option maxHeartbeats 4000000 in
set_option maxRecDepth 100000 in
theorem ca_13 {p : Program} {l : Launch} {e : Env} {s : State} {m : MethodId} {args : Array Value} {below : List Frame} {meth : Method} {c : Code} {g : gG} (C0 : cF g p s m args meth c b_W_law 7 "RegistryLogLaw" (some .boolean)) (htr : ∀ e, l.admits e → e.platform.stackTraces = false) (hZ : zK g s s.heap) (hg9 : g.2.2.1 = s.heap.size) (hE0 : pS (fun a => a < s.heap.size) g s.heap (g.2.2.2 1) []) {b L : Nat} {xs : Nat → Int32} (hXs : va_X b L xs s s.heap) (hbl : b < s.heap.size) (hL : L ≤ 3584) {x xr o9 : Nat} {adr : Nat → Nat} {i cl sl : Nat} (hi : i + 7 ≤ L) (hcl : cl + 70 ≤ 632517) (hsl : sl + 2000 ≤ 7198554) {Q : State → Prop} (kk : ∀ (H : Heap) (locs : List Loc), RL g H x xr adr o9 → va_S (fW s.heap no_) s.heap H locs → ∀ (ls : Array Slot), lv_has ls 7 [(0, .ref b), (1, .ref x), (2, .ref xr), (3, .ref o9), (4, .int (nI i))] → W p l e room_1 s m args below meth c H locs (cl + 70) (sl + 2000) Q (F0 m 1289 ls [])) : ∀ (H : Heap) (locs : List Loc), RL g H x xr adr o9 → va_S (fW s.heap no_) s.heap H locs → ∀ (ls : Array Slot), lv_has ls 7 [(0, .ref b), (1, .ref x), (2, .ref xr), (3, .ref o9), (4, .int (nI i))] → W p l e room_1 s m args below meth c H locs cl sl Q (F0 m 762 ls []) := by
  obtain ⟨hx, hb, hml, hown, hts, hr, hlk, hK⟩ := id C0
  intro H locs hRL hS ls hl
  obtain ⟨ad, ms, nm, nw, rows, mir, T, f, k, f2, k2, F, A, B, fo, hX, hm, hR, hO, ho, ho9, hom⟩ := hRL
  have hsz : g.2.2.1 ≤ H.size := by rw [hg9]; exact hS.1
  have hZb := Z_new hm (ar_lt ho)
  have hold : ∀ q, mN xr adr q → s.heap.size ≤ q := fun q h => by rw [← hg9]; exact hm.2.2.2.2.2.2 q h
  have hTT := cX_T hX
  have hrc := RF_c hR
  refine lv_aload_n hx hb d_W_law_762 rfl (lv_at hl 1 rfl) ?_
  refine lv_aload_n hx hb d_W_law_763 rfl (lv_at hl 0 rfl) ?_
  refine lv_iload hx hb d_W_law_764 (lv_at hl 4 rfl) ?_
  refine lv_iconst (v := nI 1) hx hb d_W_law_766 (by decide) ?_
  refine n_iadd hx hb d_W_law_767 ?_
  refine va_sld hx hb hXs hbl (fun z => z.elim id (fun z => absurd hbl (Nat.not_lt.mpr z))) hS (vp_in_nI (by omega) (by omega)) d_W_law_768 ?_
  refine W.eq (g2 := F0 m 769 ls [.int (xs (i + 1)), .ref x]) (by rw [nI_clamp (by omega)]) ?_
  refine lv_aload_n hx hb d_W_law_769 rfl (lv_at hl 0 rfl) ?_
  refine lv_iload hx hb d_W_law_770 (lv_at hl 4 rfl) ?_
  refine lv_iconst (v := nI 2) hx hb d_W_law_772 (by decide) ?_
  refine n_iadd hx hb d_W_law_773 ?_
  refine va_sld hx hb hXs hbl (fun z => z.elim id (fun z => absurd hbl (Nat.not_lt.mpr z))) hS (vp_in_nI (by omega) (by omega)) d_W_law_774 ?_
  refine W.eq (g2 := F0 m 775 ls [.int (xs (i + 2)), .int (xs (i + 1)), .ref x]) (by rw [nI_clamp (by omega)]) ?_
  refine lv_aload_n hx hb d_W_law_775 rfl (lv_at hl 0 rfl) ?_
  refine lv_iload hx hb d_W_law_776 (lv_at hl 4 rfl) ?_
  refine lv_iconst (v := nI 3) hx hb d_W_law_778 (by decide) ?_
  refine n_iadd hx hb d_W_law_779 ?_
  refine va_sld hx hb hXs hbl (fun z => z.elim id (fun z => absurd hbl (Nat.not_lt.mpr z))) hS (vp_in_nI (by omega) (by omega)) d_W_law_780 ?_
  refine W.eq (g2 := F0 m 781 ls [.int (xs (i + 3)), .int (xs (i + 2)), .int (xs (i + 1)), .ref x]) (by rw [nI_clamp (by omega)]) ?_
  refine lv_i2l hx hb d_W_law_781 rfl ?_
  refine lv_bipush (v := nI 32) hx hb d_W_law_782 (by decide) ?_
  refine lv_lshl hx hb d_W_law_784 rfl ?_
  refine lv_aload_n hx hb d_W_law_785 rfl (lv_at hl 0 rfl) ?_
  refine lv_iload hx hb d_W_law_786 (lv_at hl 4 rfl) ?_
  refine lv_iconst (v := nI 4) hx hb d_W_law_788 (by decide) ?_
  refine n_iadd hx hb d_W_law_789 ?_
  refine va_sld hx hb hXs hbl (fun z => z.elim id (fun z => absurd hbl (Nat.not_lt.mpr z))) hS (vp_in_nI (by omega) (by omega)) d_W_law_790 ?_
  refine W.eq (g2 := F0 m 791 ls [.int (xs (i + 4)), .long (((xs (i + 3)).toInt64) <<< ((nI 32).toInt64 &&& 63)), .int (xs (i + 2)), .int (xs (i + 1)), .ref x]) (by rw [nI_clamp (by omega)]) ?_
  refine lv_i2l hx hb d_W_law_791 rfl ?_
  refine lv_ldc2 (v := 4294967295) hx hb hown (hts (.constantLong "RegistryLogLaw" 88 4294967295) (in_6 (List.mem_of_getElem? (i := 76) rfl) rfl)) d_W_law_792 ?_
  refine lv_land hx hb d_W_law_795 ?_
  refine lv_lor hx hb d_W_law_796 ?_
  refine lv_aload_n hx hb d_W_law_797 rfl (lv_at hl 0 rfl) ?_
  refine lv_iload hx hb d_W_law_798 (lv_at hl 4 rfl) ?_
  refine lv_iconst (v := nI 5) hx hb d_W_law_800 (by decide) ?_
  refine n_iadd hx hb d_W_law_801 ?_
  refine va_sld hx hb hXs hbl (fun z => z.elim id (fun z => absurd hbl (Nat.not_lt.mpr z))) hS (vp_in_nI (by omega) (by omega)) d_W_law_802 ?_
  refine W.eq (g2 := F0 m 803 ls [.int (xs (i + 5)), .long ((((xs (i + 3)).toInt64) <<< ((nI 32).toInt64 &&& 63)) ||| (((xs (i + 4)).toInt64) &&& 4294967295)), .int (xs (i + 2)), .int (xs (i + 1)), .ref x]) (by rw [nI_clamp (by omega)]) ?_
  refine lv_i2l hx hb d_W_law_803 rfl ?_
  refine lv_bipush (v := nI 32) hx hb d_W_law_804 (by decide) ?_
  refine lv_lshl hx hb d_W_law_806 rfl ?_
  refine lv_aload_n hx hb d_W_law_807 rfl (lv_at hl 0 rfl) ?_
  refine lv_iload hx hb d_W_law_808 (lv_at hl 4 rfl) ?_
  refine lv_bipush (v := nI 6) hx hb d_W_law_810 (by decide) ?_
  refine n_iadd hx hb d_W_law_812 ?_
  refine va_sld hx hb hXs hbl (fun z => z.elim id (fun z => absurd hbl (Nat.not_lt.mpr z))) hS (vp_in_nI (by omega) (by omega)) d_W_law_813 ?_
  refine W.eq (g2 := F0 m 814 ls [.int (xs (i + 6)), .long (((xs (i + 5)).toInt64) <<< ((nI 32).toInt64 &&& 63)), .long ((((xs (i + 3)).toInt64) <<< ((nI 32).toInt64 &&& 63)) ||| (((xs (i + 4)).toInt64) &&& 4294967295)), .int (xs (i + 2)), .int (xs (i + 1)), .ref x]) (by rw [nI_clamp (by omega)]) ?_
  refine lv_i2l hx hb d_W_law_814 rfl ?_
  refine lv_ldc2 (v := 4294967295) hx hb hown (hts (.constantLong "RegistryLogLaw" 88 4294967295) (in_6 (List.mem_of_getElem? (i := 76) rfl) rfl)) d_W_law_815 ?_
  refine lv_land hx hb d_W_law_818 ?_
  refine lv_lor hx hb d_W_law_819 ?_
  refine aW (N := (NX ad)) (rV (As := [.int (xs (i + 1)), .int (xs (i + 2)), .long ((((xs (i + 3)).toInt64) <<< ((nI 32).toInt64 &&& 63)) ||| (((xs (i + 4)).toInt64) &&& 4294967295)), .long ((((xs (i + 5)).toInt64) <<< ((nI 32).toInt64 &&& 63)) ||| (((xs (i + 6)).toInt64) &&& 4294967295))]) (rest := []) C0 (c_X_isInside l g _ (Zr xr adr o9) x ad ms nm nw rows mir T f k 0 f2 k2 hX (xs (i + 1)) (xs (i + 2)) ((((xs (i + 3)).toInt64) <<< ((nI 32).toInt64 &&& 63)) ||| (((xs (i + 4)).toInt64) &&& 4294967295)) ((((xs (i + 5)).toInt64) <<< ((nI 32).toInt64 &&& 63)) ||| (((xs (i + 6)).toInt64) &&& 4294967295))) (zK_S hZ hS (fun _ h => h.elim)) k_W_law_820 rfl rfl ⟨Nat.le_of_ble_eq_true rfl, Nat.le_of_ble_eq_true rfl⟩ (ob_recv hK (cX_ob hX) rfl) rfl hl.1 rfl (Nat.le_of_ble_eq_true rfl) d_W_law_820 ⟨by show cl + 0 ≤ 632517; omega, by show sl + 0 ≤ 7198554; omega⟩) (fun v H L hC1 hp hL => ?_)
  have hS0 := hS
  have hS := hS_call hS hC1 hL (fun a h => Or.inr (by rw [← hg9]; exact cX_old hX a h))
  have hm := mW_keep hm (fun a h => hC_at hC1 (mN_lt hm h) (Z_nm hX h))
  have ho := ar_kept ho (hC_at hC1 (ar_lt ho) (Z_no2 hX))
  obtain ⟨rfl, hX⟩ := hp
  refine W.eq (g2 := F0 m 823 ls [.int (bI (iiC f2 k2 (xs (i + 1)) (xs (i + 2)) ((((xs (i + 3)).toInt64) <<< ((nI 32).toInt64 &&& 63)) ||| (((xs (i + 4)).toInt64) &&& 4294967295)) ((((xs (i + 5)).toInt64) <<< ((nI 32).toInt64 &&& 63)) ||| (((xs (i + 6)).toInt64) &&& 4294967295))))]) rfl ?_
  refine lv_aload_n hx hb d_W_law_823 rfl (lv_at hl 2 rfl) ?_
  refine lv_aload_n hx hb d_W_law_824 rfl (lv_at hl 0 rfl) ?_
  refine lv_iload hx hb d_W_law_825 (lv_at hl 4 rfl) ?_
  refine lv_iconst (v := nI 1) hx hb d_W_law_827 (by decide) ?_
  refine n_iadd hx hb d_W_law_828 ?_
  refine va_sld hx hb hXs hbl (fun z => z.elim id (fun z => absurd hbl (Nat.not_lt.mpr z))) hS (vp_in_nI (by omega) (by omega)) d_W_law_829 ?_
  refine W.eq (g2 := F0 m 830 ls [.int (xs (i + 1)), .ref xr, .int (bI (iiC f2 k2 (xs (i + 1)) (xs (i + 2)) ((((xs (i + 3)).toInt64) <<< ((nI 32).toInt64 &&& 63)) ||| (((xs (i + 4)).toInt64) &&& 4294967295)) ((((xs (i + 5)).toInt64) <<< ((nI 32).toInt64 &&& 63)) ||| (((xs (i + 6)).toInt64) &&& 4294967295))))]) (by rw [nI_clamp (by omega)]) ?_
  refine lv_aload_n hx hb d_W_law_830 rfl (lv_at hl 0 rfl) ?_
  refine lv_iload hx hb d_W_law_831 (lv_at hl 4 rfl) ?_
  refine lv_iconst (v := nI 2) hx hb d_W_law_833 (by decide) ?_
  refine n_iadd hx hb d_W_law_834 ?_
  refine va_sld hx hb hXs hbl (fun z => z.elim id (fun z => absurd hbl (Nat.not_lt.mpr z))) hS (vp_in_nI (by omega) (by omega)) d_W_law_835 ?_
  refine W.eq (g2 := F0 m 836 ls [.int (xs (i + 2)), .int (xs (i + 1)), .ref xr, .int (bI (iiC f2 k2 (xs (i + 1)) (xs (i + 2)) ((((xs (i + 3)).toInt64) <<< ((nI 32).toInt64 &&& 63)) ||| (((xs (i + 4)).toInt64) &&& 4294967295)) ((((xs (i + 5)).toInt64) <<< ((nI 32).toInt64 &&& 63)) ||| (((xs (i + 6)).toInt64) &&& 4294967295))))]) (by rw [nI_clamp (by omega)]) ?_
  refine lv_aload_n hx hb d_W_law_836 rfl (lv_at hl 0 rfl) ?_
  refine lv_iload hx hb d_W_law_837 (lv_at hl 4 rfl) ?_
  refine lv_iconst (v := nI 3) hx hb d_W_law_839 (by decide) ?_
  refine n_iadd hx hb d_W_law_840 ?_
  refine va_sld hx hb hXs hbl (fun z => z.elim id (fun z => absurd hbl (Nat.not_lt.mpr z))) hS (vp_in_nI (by omega) (by omega)) d_W_law_841 ?_
  refine W.eq (g2 := F0 m 842 ls [.int (xs (i + 3)), .int (xs (i + 2)), .int (xs (i + 1)), .ref xr, .int (bI (iiC f2 k2 (xs (i + 1)) (xs (i + 2)) ((((xs (i + 3)).toInt64) <<< ((nI 32).toInt64 &&& 63)) ||| (((xs (i + 4)).toInt64) &&& 4294967295)) ((((xs (i + 5)).toInt64) <<< ((nI 32).toInt64 &&& 63)) ||| (((xs (i + 6)).toInt64) &&& 4294967295))))]) (by rw [nI_clamp (by omega)]) ?_
  refine lv_i2l hx hb d_W_law_842 rfl ?_
  refine lv_bipush (v := nI 32) hx hb d_W_law_843 (by decide) ?_
  refine lv_lshl hx hb d_W_law_845 rfl ?_
  refine lv_aload_n hx hb d_W_law_846 rfl (lv_at hl 0 rfl) ?_
  refine lv_iload hx hb d_W_law_847 (lv_at hl 4 rfl) ?_
  refine lv_iconst (v := nI 4) hx hb d_W_law_849 (by decide) ?_
  refine n_iadd hx hb d_W_law_850 ?_
  refine va_sld hx hb hXs hbl (fun z => z.elim id (fun z => absurd hbl (Nat.not_lt.mpr z))) hS (vp_in_nI (by omega) (by omega)) d_W_law_851 ?_
  refine W.eq (g2 := F0 m 852 ls [.int (xs (i + 4)), .long (((xs (i + 3)).toInt64) <<< ((nI 32).toInt64 &&& 63)), .int (xs (i + 2)), .int (xs (i + 1)), .ref xr, .int (bI (iiC f2 k2 (xs (i + 1)) (xs (i + 2)) ((((xs (i + 3)).toInt64) <<< ((nI 32).toInt64 &&& 63)) ||| (((xs (i + 4)).toInt64) &&& 4294967295)) ((((xs (i + 5)).toInt64) <<< ((nI 32).toInt64 &&& 63)) ||| (((xs (i + 6)).toInt64) &&& 4294967295))))]) (by rw [nI_clamp (by omega)]) ?_
  refine lv_i2l hx hb d_W_law_852 rfl ?_
  refine lv_ldc2 (v := 4294967295) hx hb hown (hts (.constantLong "RegistryLogLaw" 88 4294967295) (in_6 (List.mem_of_getElem? (i := 76) rfl) rfl)) d_W_law_853 ?_
  refine lv_land hx hb d_W_law_856 ?_
  refine lv_lor hx hb d_W_law_857 ?_
  refine lv_aload_n hx hb d_W_law_858 rfl (lv_at hl 0 rfl) ?_
  refine lv_iload hx hb d_W_law_859 (lv_at hl 4 rfl) ?_
  refine lv_iconst (v := nI 5) hx hb d_W_law_861 (by decide) ?_
  refine n_iadd hx hb d_W_law_862 ?_
  refine va_sld hx hb hXs hbl (fun z => z.elim id (fun z => absurd hbl (Nat.not_lt.mpr z))) hS (vp_in_nI (by omega) (by omega)) d_W_law_863 ?_
  refine W.eq (g2 := F0 m 864 ls [.int (xs (i + 5)), .long ((((xs (i + 3)).toInt64) <<< ((nI 32).toInt64 &&& 63)) ||| (((xs (i + 4)).toInt64) &&& 4294967295)), .int (xs (i + 2)), .int (xs (i + 1)), .ref xr, .int (bI (iiC f2 k2 (xs (i + 1)) (xs (i + 2)) ((((xs (i + 3)).toInt64) <<< ((nI 32).toInt64 &&& 63)) ||| (((xs (i + 4)).toInt64) &&& 4294967295)) ((((xs (i + 5)).toInt64) <<< ((nI 32).toInt64 &&& 63)) ||| (((xs (i + 6)).toInt64) &&& 4294967295))))]) (by rw [nI_clamp (by omega)]) ?_
  refine lv_i2l hx hb d_W_law_864 rfl ?_
  refine lv_bipush (v := nI 32) hx hb d_W_law_865 (by decide) ?_
  refine lv_lshl hx hb d_W_law_867 rfl ?_
  refine lv_aload_n hx hb d_W_law_868 rfl (lv_at hl 0 rfl) ?_
  refine lv_iload hx hb d_W_law_869 (lv_at hl 4 rfl) ?_
  refine lv_bipush (v := nI 6) hx hb d_W_law_871 (by decide) ?_
  refine n_iadd hx hb d_W_law_873 ?_
  refine va_sld hx hb hXs hbl (fun z => z.elim id (fun z => absurd hbl (Nat.not_lt.mpr z))) hS (vp_in_nI (by omega) (by omega)) d_W_law_874 ?_
  refine W.eq (g2 := F0 m 875 ls [.int (xs (i + 6)), .long (((xs (i + 5)).toInt64) <<< ((nI 32).toInt64 &&& 63)), .long ((((xs (i + 3)).toInt64) <<< ((nI 32).toInt64 &&& 63)) ||| (((xs (i + 4)).toInt64) &&& 4294967295)), .int (xs (i + 2)), .int (xs (i + 1)), .ref xr, .int (bI (iiC f2 k2 (xs (i + 1)) (xs (i + 2)) ((((xs (i + 3)).toInt64) <<< ((nI 32).toInt64 &&& 63)) ||| (((xs (i + 4)).toInt64) &&& 4294967295)) ((((xs (i + 5)).toInt64) <<< ((nI 32).toInt64 &&& 63)) ||| (((xs (i + 6)).toInt64) &&& 4294967295))))]) (by rw [nI_clamp (by omega)]) ?_
  refine lv_i2l hx hb d_W_law_875 rfl ?_
  refine lv_ldc2 (v := 4294967295) hx hb hown (hts (.constantLong "RegistryLogLaw" 88 4294967295) (in_6 (List.mem_of_getElem? (i := 76) rfl) rfl)) d_W_law_876 ?_
  refine lv_land hx hb d_W_law_879 ?_
  refine lv_lor hx hb d_W_law_880 ?_
  refine aQ (rV (As := [.int (xs (i + 1)), .int (xs (i + 2)), .long ((((xs (i + 3)).toInt64) <<< ((nI 32).toInt64 &&& 63)) ||| (((xs (i + 4)).toInt64) &&& 4294967295)), .long ((((xs (i + 5)).toInt64) <<< ((nI 32).toInt64 &&& 63)) ||| (((xs (i + 6)).toInt64) &&& 4294967295))]) (rest := [.int (bI (iiC f2 k2 (xs (i + 1)) (xs (i + 2)) ((((xs (i + 3)).toInt64) <<< ((nI 32).toInt64 &&& 63)) ||| (((xs (i + 4)).toInt64) &&& 4294967295)) ((((xs (i + 5)).toInt64) <<< ((nI 32).toInt64 &&& 63)) ||| (((xs (i + 6)).toInt64) &&& 4294967295))))]) C0 (c_M_isInside l g _ xr adr _ _ _ hm k2 hR.2.2.2.1 hR.2.2.2.2.2 (xs (i + 1)) (xs (i + 2)) ((((xs (i + 3)).toInt64) <<< ((nI 32).toInt64 &&& 63)) ||| (((xs (i + 4)).toInt64) &&& 4294967295)) ((((xs (i + 5)).toInt64) <<< ((nI 32).toInt64 &&& 63)) ||| (((xs (i + 6)).toInt64) &&& 4294967295))) (zK_S hZ hS (fun _ h => h.elim)) k_W_law_881 rfl rfl ⟨Nat.le_of_ble_eq_true rfl, Nat.le_of_ble_eq_true rfl⟩ (ob_recv hK hm.1 rfl) rfl hl.1 rfl (Nat.le_of_ble_eq_true rfl) d_W_law_881 ⟨by show cl + 0 + 0 ≤ 632517; omega, by show sl + 0 + 0 ≤ 7198554; omega⟩) hS hold (fun v H locs F1 A1 B1 hm9 hq9 hz9 hp hS => ?_)
  have hX := cX_mv (Z' := (Zr xr adr o9)) hX (fun a h1 h2 => ⟨hq9 a h1.1, h1⟩)
  have ho := ar_kept ho (hq9 _ hom)
  rw [← ii_eq hR] at hp
  obtain ⟨rfl, hF9, hA9, rfl⟩ := hp
  have hR := RF_h0 hR hF9 hA9
  have hm := hm9
  refine W.eq (g2 := F0 m 884 ls [.int (bI (iiC f2 k2 (xs (i + 1)) (xs (i + 2)) ((((xs (i + 3)).toInt64) <<< ((nI 32).toInt64 &&& 63)) ||| (((xs (i + 4)).toInt64) &&& 4294967295)) ((((xs (i + 5)).toInt64) <<< ((nI 32).toInt64 &&& 63)) ||| (((xs (i + 6)).toInt64) &&& 4294967295)))), .int (bI (iiC f2 k2 (xs (i + 1)) (xs (i + 2)) ((((xs (i + 3)).toInt64) <<< ((nI 32).toInt64 &&& 63)) ||| (((xs (i + 4)).toInt64) &&& 4294967295)) ((((xs (i + 5)).toInt64) <<< ((nI 32).toInt64 &&& 63)) ||| (((xs (i + 6)).toInt64) &&& 4294967295))))]) rfl ?_
  refine lv_icmp_eq (tgt := 1289) hx hb d_W_law_884 (by decide) (fun _ => ?_) (fun c9 => absurd rfl c9)
  refine W.widen (k := cl + 70) (n := sl + 2000) (by omega) (by omega) ?_
  exact kk H _ ⟨_, _, _, _, _, _, _, _, _, _, _, _, _, _, _, hX, hm, hR, hO, ho, ho9, hom⟩ hS ls (lv_sub hl [0, 1, 2, 3, 4] rfl)
theorem k_W_law_947 : kV "RegistryLogLaw" 100 "RegistryLog" y_X_isGrowth b_X_isGrowth 9 (some .boolean) 4 := ⟨(in_3 (List.mem_of_getElem? (i := 127) rfl) rfl), (in_3 (List.mem_of_getElem? (i := 128) rfl) rfl), (in_3 (List.mem_of_getElem? (i := 129) rfl) rfl), (in_1 (List.mem_of_getElem? (i := 1) rfl) rfl), (in_3 (List.mem_of_getElem? (i := 130) rfl) rfl), ⟨by decide, by decide, by decide +kernel⟩⟩
theorem k_W_law_1008 : kV "RegistryLogLaw" 103 "RegistryLogModel" y_M_isGrowth b_M_isGrowth 15 (some .boolean) 4 := ⟨(in_6 (List.mem_of_getElem? (i := 29) rfl) rfl), (in_6 (List.mem_of_getElem? (i := 30) rfl) rfl), (in_6 (List.mem_of_getElem? (i := 31) rfl) rfl), (in_1 (List.mem_of_getElem? (i := 22) rfl) rfl), (in_6 (List.mem_of_getElem? (i := 32) rfl) rfl), ⟨by decide, by decide, by decide +kernel⟩⟩
set_option maxHeartbeats 4000000 in
set_option maxRecDepth 100000 in
theorem ca_14 {p : Program} {l : Launch} {e : Env} {s : State} {m : MethodId} {args : Array Value} {below : List Frame} {meth : Method} {c : Code} {g : gG} (C0 : cF g p s m args meth c b_W_law 7 "RegistryLogLaw" (some .boolean)) (htr : ∀ e, l.admits e → e.platform.stackTraces = false) (hZ : zK g s s.heap) (hg9 : g.2.2.1 = s.heap.size) (hE0 : pS (fun a => a < s.heap.size) g s.heap (g.2.2.2 1) []) {b L : Nat} {xs : Nat → Int32} (hXs : va_X b L xs s s.heap) (hbl : b < s.heap.size) (hL : L ≤ 3584) {x xr o9 : Nat} {adr : Nat → Nat} {i cl sl : Nat} (hi : i + 7 ≤ L) (hcl : cl + 70 ≤ 632517) (hsl : sl + 2000 ≤ 7198554) {Q : State → Prop} (kk : ∀ (H : Heap) (locs : List Loc), RL g H x xr adr o9 → va_S (fW s.heap no_) s.heap H locs → ∀ (ls : Array Slot), lv_has ls 7 [(0, .ref b), (1, .ref x), (2, .ref xr), (3, .ref o9), (4, .int (nI i))] → W p l e room_1 s m args below meth c H locs (cl + 70) (sl + 2000) Q (F0 m 1289 ls [])) : ∀ (H : Heap) (locs : List Loc), RL g H x xr adr o9 → va_S (fW s.heap no_) s.heap H locs → ∀ (ls : Array Slot), lv_has ls 7 [(0, .ref b), (1, .ref x), (2, .ref xr), (3, .ref o9), (4, .int (nI i))] → W p l e room_1 s m args below meth c H locs cl sl Q (F0 m 889 ls []) := by
  obtain ⟨hx, hb, hml, hown, hts, hr, hlk, hK⟩ := id C0
  intro H locs hRL hS ls hl
  obtain ⟨ad, ms, nm, nw, rows, mir, T, f, k, f2, k2, F, A, B, fo, hX, hm, hR, hO, ho, ho9, hom⟩ := hRL
  have hsz : g.2.2.1 ≤ H.size := by rw [hg9]; exact hS.1
  have hZb := Z_new hm (ar_lt ho)
  have hold : ∀ q, mN xr adr q → s.heap.size ≤ q := fun q h => by rw [← hg9]; exact hm.2.2.2.2.2.2 q h
  have hTT := cX_T hX
  have hrc := RF_c hR
  refine lv_aload_n hx hb d_W_law_889 rfl (lv_at hl 1 rfl) ?_
  refine lv_aload_n hx hb d_W_law_890 rfl (lv_at hl 0 rfl) ?_
  refine lv_iload hx hb d_W_law_891 (lv_at hl 4 rfl) ?_
  refine lv_iconst (v := nI 1) hx hb d_W_law_893 (by decide) ?_
  refine n_iadd hx hb d_W_law_894 ?_
  refine va_sld hx hb hXs hbl (fun z => z.elim id (fun z => absurd hbl (Nat.not_lt.mpr z))) hS (vp_in_nI (by omega) (by omega)) d_W_law_895 ?_
  refine W.eq (g2 := F0 m 896 ls [.int (xs (i + 1)), .ref x]) (by rw [nI_clamp (by omega)]) ?_
  refine lv_aload_n hx hb d_W_law_896 rfl (lv_at hl 0 rfl) ?_
  refine lv_iload hx hb d_W_law_897 (lv_at hl 4 rfl) ?_
  refine lv_iconst (v := nI 2) hx hb d_W_law_899 (by decide) ?_
  refine n_iadd hx hb d_W_law_900 ?_
  refine va_sld hx hb hXs hbl (fun z => z.elim id (fun z => absurd hbl (Nat.not_lt.mpr z))) hS (vp_in_nI (by omega) (by omega)) d_W_law_901 ?_
  refine W.eq (g2 := F0 m 902 ls [.int (xs (i + 2)), .int (xs (i + 1)), .ref x]) (by rw [nI_clamp (by omega)]) ?_
  refine lv_aload_n hx hb d_W_law_902 rfl (lv_at hl 0 rfl) ?_
  refine lv_iload hx hb d_W_law_903 (lv_at hl 4 rfl) ?_
  refine lv_iconst (v := nI 3) hx hb d_W_law_905 (by decide) ?_
  refine n_iadd hx hb d_W_law_906 ?_
  refine va_sld hx hb hXs hbl (fun z => z.elim id (fun z => absurd hbl (Nat.not_lt.mpr z))) hS (vp_in_nI (by omega) (by omega)) d_W_law_907 ?_
  refine W.eq (g2 := F0 m 908 ls [.int (xs (i + 3)), .int (xs (i + 2)), .int (xs (i + 1)), .ref x]) (by rw [nI_clamp (by omega)]) ?_
  refine lv_i2l hx hb d_W_law_908 rfl ?_
  refine lv_bipush (v := nI 32) hx hb d_W_law_909 (by decide) ?_
  refine lv_lshl hx hb d_W_law_911 rfl ?_
  refine lv_aload_n hx hb d_W_law_912 rfl (lv_at hl 0 rfl) ?_
  refine lv_iload hx hb d_W_law_913 (lv_at hl 4 rfl) ?_
  refine lv_iconst (v := nI 4) hx hb d_W_law_915 (by decide) ?_
  refine n_iadd hx hb d_W_law_916 ?_
  refine va_sld hx hb hXs hbl (fun z => z.elim id (fun z => absurd hbl (Nat.not_lt.mpr z))) hS (vp_in_nI (by omega) (by omega)) d_W_law_917 ?_
  refine W.eq (g2 := F0 m 918 ls [.int (xs (i + 4)), .long (((xs (i + 3)).toInt64) <<< ((nI 32).toInt64 &&& 63)), .int (xs (i + 2)), .int (xs (i + 1)), .ref x]) (by rw [nI_clamp (by omega)]) ?_
  refine lv_i2l hx hb d_W_law_918 rfl ?_
  refine lv_ldc2 (v := 4294967295) hx hb hown (hts (.constantLong "RegistryLogLaw" 88 4294967295) (in_6 (List.mem_of_getElem? (i := 76) rfl) rfl)) d_W_law_919 ?_
  refine lv_land hx hb d_W_law_922 ?_
  refine lv_lor hx hb d_W_law_923 ?_
  refine lv_aload_n hx hb d_W_law_924 rfl (lv_at hl 0 rfl) ?_
  refine lv_iload hx hb d_W_law_925 (lv_at hl 4 rfl) ?_
  refine lv_iconst (v := nI 5) hx hb d_W_law_927 (by decide) ?_
  refine n_iadd hx hb d_W_law_928 ?_
  refine va_sld hx hb hXs hbl (fun z => z.elim id (fun z => absurd hbl (Nat.not_lt.mpr z))) hS (vp_in_nI (by omega) (by omega)) d_W_law_929 ?_
  refine W.eq (g2 := F0 m 930 ls [.int (xs (i + 5)), .long ((((xs (i + 3)).toInt64) <<< ((nI 32).toInt64 &&& 63)) ||| (((xs (i + 4)).toInt64) &&& 4294967295)), .int (xs (i + 2)), .int (xs (i + 1)), .ref x]) (by rw [nI_clamp (by omega)]) ?_
  refine lv_i2l hx hb d_W_law_930 rfl ?_
  refine lv_bipush (v := nI 32) hx hb d_W_law_931 (by decide) ?_
  refine lv_lshl hx hb d_W_law_933 rfl ?_
  refine lv_aload_n hx hb d_W_law_934 rfl (lv_at hl 0 rfl) ?_
  refine lv_iload hx hb d_W_law_935 (lv_at hl 4 rfl) ?_
  refine lv_bipush (v := nI 6) hx hb d_W_law_937 (by decide) ?_
  refine n_iadd hx hb d_W_law_939 ?_
  refine va_sld hx hb hXs hbl (fun z => z.elim id (fun z => absurd hbl (Nat.not_lt.mpr z))) hS (vp_in_nI (by omega) (by omega)) d_W_law_940 ?_
  refine W.eq (g2 := F0 m 941 ls [.int (xs (i + 6)), .long (((xs (i + 5)).toInt64) <<< ((nI 32).toInt64 &&& 63)), .long ((((xs (i + 3)).toInt64) <<< ((nI 32).toInt64 &&& 63)) ||| (((xs (i + 4)).toInt64) &&& 4294967295)), .int (xs (i + 2)), .int (xs (i + 1)), .ref x]) (by rw [nI_clamp (by omega)]) ?_
  refine lv_i2l hx hb d_W_law_941 rfl ?_
  refine lv_ldc2 (v := 4294967295) hx hb hown (hts (.constantLong "RegistryLogLaw" 88 4294967295) (in_6 (List.mem_of_getElem? (i := 76) rfl) rfl)) d_W_law_942 ?_
  refine lv_land hx hb d_W_law_945 ?_
  refine lv_lor hx hb d_W_law_946 ?_
  refine aW (N := (NX ad)) (rV (As := [.int (xs (i + 1)), .int (xs (i + 2)), .long ((((xs (i + 3)).toInt64) <<< ((nI 32).toInt64 &&& 63)) ||| (((xs (i + 4)).toInt64) &&& 4294967295)), .long ((((xs (i + 5)).toInt64) <<< ((nI 32).toInt64 &&& 63)) ||| (((xs (i + 6)).toInt64) &&& 4294967295))]) (rest := []) C0 (c_X_isGrowth l g _ (Zr xr adr o9) x ad ms nm nw rows mir T f k 0 f2 k2 hX (xs (i + 1)) (xs (i + 2)) ((((xs (i + 3)).toInt64) <<< ((nI 32).toInt64 &&& 63)) ||| (((xs (i + 4)).toInt64) &&& 4294967295)) ((((xs (i + 5)).toInt64) <<< ((nI 32).toInt64 &&& 63)) ||| (((xs (i + 6)).toInt64) &&& 4294967295))) (zK_S hZ hS (fun _ h => h.elim)) k_W_law_947 rfl rfl ⟨Nat.le_of_ble_eq_true rfl, Nat.le_of_ble_eq_true rfl⟩ (ob_recv hK (cX_ob hX) rfl) rfl hl.1 rfl (Nat.le_of_ble_eq_true rfl) d_W_law_947 ⟨by show cl + 8 ≤ 632517; omega, by show sl + 16 ≤ 7198554; omega⟩) (fun v H L hC1 hp hL => ?_)
  have hS0 := hS
  have hS := hS_call hS hC1 hL (fun a h => Or.inr (by rw [← hg9]; exact cX_old hX a h))
  have hm := mW_keep hm (fun a h => hC_at hC1 (mN_lt hm h) (Z_nm hX h))
  have ho := ar_kept ho (hC_at hC1 (ar_lt ho) (Z_no2 hX))
  obtain ⟨rfl, hX⟩ := hp
  refine W.eq (g2 := F0 m 950 ls [.int (bI (igC f2 k2 (xs (i + 1)) (xs (i + 2)) ((((xs (i + 3)).toInt64) <<< ((nI 32).toInt64 &&& 63)) ||| (((xs (i + 4)).toInt64) &&& 4294967295)) ((((xs (i + 5)).toInt64) <<< ((nI 32).toInt64 &&& 63)) ||| (((xs (i + 6)).toInt64) &&& 4294967295))))]) rfl ?_
  refine lv_aload_n hx hb d_W_law_950 rfl (lv_at hl 2 rfl) ?_
  refine lv_aload_n hx hb d_W_law_951 rfl (lv_at hl 0 rfl) ?_
  refine lv_iload hx hb d_W_law_952 (lv_at hl 4 rfl) ?_
  refine lv_iconst (v := nI 1) hx hb d_W_law_954 (by decide) ?_
  refine n_iadd hx hb d_W_law_955 ?_
  refine va_sld hx hb hXs hbl (fun z => z.elim id (fun z => absurd hbl (Nat.not_lt.mpr z))) hS (vp_in_nI (by omega) (by omega)) d_W_law_956 ?_
  refine W.eq (g2 := F0 m 957 ls [.int (xs (i + 1)), .ref xr, .int (bI (igC f2 k2 (xs (i + 1)) (xs (i + 2)) ((((xs (i + 3)).toInt64) <<< ((nI 32).toInt64 &&& 63)) ||| (((xs (i + 4)).toInt64) &&& 4294967295)) ((((xs (i + 5)).toInt64) <<< ((nI 32).toInt64 &&& 63)) ||| (((xs (i + 6)).toInt64) &&& 4294967295))))]) (by rw [nI_clamp (by omega)]) ?_
  refine lv_aload_n hx hb d_W_law_957 rfl (lv_at hl 0 rfl) ?_
  refine lv_iload hx hb d_W_law_958 (lv_at hl 4 rfl) ?_
  refine lv_iconst (v := nI 2) hx hb d_W_law_960 (by decide) ?_
  refine n_iadd hx hb d_W_law_961 ?_
  refine va_sld hx hb hXs hbl (fun z => z.elim id (fun z => absurd hbl (Nat.not_lt.mpr z))) hS (vp_in_nI (by omega) (by omega)) d_W_law_962 ?_
  refine W.eq (g2 := F0 m 963 ls [.int (xs (i + 2)), .int (xs (i + 1)), .ref xr, .int (bI (igC f2 k2 (xs (i + 1)) (xs (i + 2)) ((((xs (i + 3)).toInt64) <<< ((nI 32).toInt64 &&& 63)) ||| (((xs (i + 4)).toInt64) &&& 4294967295)) ((((xs (i + 5)).toInt64) <<< ((nI 32).toInt64 &&& 63)) ||| (((xs (i + 6)).toInt64) &&& 4294967295))))]) (by rw [nI_clamp (by omega)]) ?_
  refine lv_aload_n hx hb d_W_law_963 rfl (lv_at hl 0 rfl) ?_
  refine lv_iload hx hb d_W_law_964 (lv_at hl 4 rfl) ?_
  refine lv_iconst (v := nI 3) hx hb d_W_law_966 (by decide) ?_
  refine n_iadd hx hb d_W_law_967 ?_
  refine va_sld hx hb hXs hbl (fun z => z.elim id (fun z => absurd hbl (Nat.not_lt.mpr z))) hS (vp_in_nI (by omega) (by omega)) d_W_law_968 ?_
  refine W.eq (g2 := F0 m 969 ls [.int (xs (i + 3)), .int (xs (i + 2)), .int (xs (i + 1)), .ref xr, .int (bI (igC f2 k2 (xs (i + 1)) (xs (i + 2)) ((((xs (i + 3)).toInt64) <<< ((nI 32).toInt64 &&& 63)) ||| (((xs (i + 4)).toInt64) &&& 4294967295)) ((((xs (i + 5)).toInt64) <<< ((nI 32).toInt64 &&& 63)) ||| (((xs (i + 6)).toInt64) &&& 4294967295))))]) (by rw [nI_clamp (by omega)]) ?_
  refine lv_i2l hx hb d_W_law_969 rfl ?_
  refine lv_bipush (v := nI 32) hx hb d_W_law_970 (by decide) ?_
  refine lv_lshl hx hb d_W_law_972 rfl ?_
  refine lv_aload_n hx hb d_W_law_973 rfl (lv_at hl 0 rfl) ?_
  refine lv_iload hx hb d_W_law_974 (lv_at hl 4 rfl) ?_
  refine lv_iconst (v := nI 4) hx hb d_W_law_976 (by decide) ?_
  refine n_iadd hx hb d_W_law_977 ?_
  refine va_sld hx hb hXs hbl (fun z => z.elim id (fun z => absurd hbl (Nat.not_lt.mpr z))) hS (vp_in_nI (by omega) (by omega)) d_W_law_978 ?_
  refine W.eq (g2 := F0 m 979 ls [.int (xs (i + 4)), .long (((xs (i + 3)).toInt64) <<< ((nI 32).toInt64 &&& 63)), .int (xs (i + 2)), .int (xs (i + 1)), .ref xr, .int (bI (igC f2 k2 (xs (i + 1)) (xs (i + 2)) ((((xs (i + 3)).toInt64) <<< ((nI 32).toInt64 &&& 63)) ||| (((xs (i + 4)).toInt64) &&& 4294967295)) ((((xs (i + 5)).toInt64) <<< ((nI 32).toInt64 &&& 63)) ||| (((xs (i + 6)).toInt64) &&& 4294967295))))]) (by rw [nI_clamp (by omega)]) ?_
  refine lv_i2l hx hb d_W_law_979 rfl ?_
  refine lv_ldc2 (v := 4294967295) hx hb hown (hts (.constantLong "RegistryLogLaw" 88 4294967295) (in_6 (List.mem_of_getElem? (i := 76) rfl) rfl)) d_W_law_980 ?_
  refine lv_land hx hb d_W_law_983 ?_
  refine lv_lor hx hb d_W_law_984 ?_
  refine lv_aload_n hx hb d_W_law_985 rfl (lv_at hl 0 rfl) ?_
  refine lv_iload hx hb d_W_law_986 (lv_at hl 4 rfl) ?_
  refine lv_iconst (v := nI 5) hx hb d_W_law_988 (by decide) ?_
  refine n_iadd hx hb d_W_law_989 ?_
  refine va_sld hx hb hXs hbl (fun z => z.elim id (fun z => absurd hbl (Nat.not_lt.mpr z))) hS (vp_in_nI (by omega) (by omega)) d_W_law_990 ?_
  refine W.eq (g2 := F0 m 991 ls [.int (xs (i + 5)), .long ((((xs (i + 3)).toInt64) <<< ((nI 32).toInt64 &&& 63)) ||| (((xs (i + 4)).toInt64) &&& 4294967295)), .int (xs (i + 2)), .int (xs (i + 1)), .ref xr, .int (bI (igC f2 k2 (xs (i + 1)) (xs (i + 2)) ((((xs (i + 3)).toInt64) <<< ((nI 32).toInt64 &&& 63)) ||| (((xs (i + 4)).toInt64) &&& 4294967295)) ((((xs (i + 5)).toInt64) <<< ((nI 32).toInt64 &&& 63)) ||| (((xs (i + 6)).toInt64) &&& 4294967295))))]) (by rw [nI_clamp (by omega)]) ?_
  refine lv_i2l hx hb d_W_law_991 rfl ?_
  refine lv_bipush (v := nI 32) hx hb d_W_law_992 (by decide) ?_
  refine lv_lshl hx hb d_W_law_994 rfl ?_
  refine lv_aload_n hx hb d_W_law_995 rfl (lv_at hl 0 rfl) ?_
  refine lv_iload hx hb d_W_law_996 (lv_at hl 4 rfl) ?_
  refine lv_bipush (v := nI 6) hx hb d_W_law_998 (by decide) ?_
  refine n_iadd hx hb d_W_law_1000 ?_
  refine va_sld hx hb hXs hbl (fun z => z.elim id (fun z => absurd hbl (Nat.not_lt.mpr z))) hS (vp_in_nI (by omega) (by omega)) d_W_law_1001 ?_
  refine W.eq (g2 := F0 m 1002 ls [.int (xs (i + 6)), .long (((xs (i + 5)).toInt64) <<< ((nI 32).toInt64 &&& 63)), .long ((((xs (i + 3)).toInt64) <<< ((nI 32).toInt64 &&& 63)) ||| (((xs (i + 4)).toInt64) &&& 4294967295)), .int (xs (i + 2)), .int (xs (i + 1)), .ref xr, .int (bI (igC f2 k2 (xs (i + 1)) (xs (i + 2)) ((((xs (i + 3)).toInt64) <<< ((nI 32).toInt64 &&& 63)) ||| (((xs (i + 4)).toInt64) &&& 4294967295)) ((((xs (i + 5)).toInt64) <<< ((nI 32).toInt64 &&& 63)) ||| (((xs (i + 6)).toInt64) &&& 4294967295))))]) (by rw [nI_clamp (by omega)]) ?_
  refine lv_i2l hx hb d_W_law_1002 rfl ?_
  refine lv_ldc2 (v := 4294967295) hx hb hown (hts (.constantLong "RegistryLogLaw" 88 4294967295) (in_6 (List.mem_of_getElem? (i := 76) rfl) rfl)) d_W_law_1003 ?_
  refine lv_land hx hb d_W_law_1006 ?_
  refine lv_lor hx hb d_W_law_1007 ?_
  refine aQ (rV (As := [.int (xs (i + 1)), .int (xs (i + 2)), .long ((((xs (i + 3)).toInt64) <<< ((nI 32).toInt64 &&& 63)) ||| (((xs (i + 4)).toInt64) &&& 4294967295)), .long ((((xs (i + 5)).toInt64) <<< ((nI 32).toInt64 &&& 63)) ||| (((xs (i + 6)).toInt64) &&& 4294967295))]) (rest := [.int (bI (igC f2 k2 (xs (i + 1)) (xs (i + 2)) ((((xs (i + 3)).toInt64) <<< ((nI 32).toInt64 &&& 63)) ||| (((xs (i + 4)).toInt64) &&& 4294967295)) ((((xs (i + 5)).toInt64) <<< ((nI 32).toInt64 &&& 63)) ||| (((xs (i + 6)).toInt64) &&& 4294967295))))]) C0 (c_M_isGrowth l g _ xr adr _ _ _ hm k2 hR.2.2.2.1 hR.2.2.2.2.2 (xs (i + 1)) (xs (i + 2)) ((((xs (i + 3)).toInt64) <<< ((nI 32).toInt64 &&& 63)) ||| (((xs (i + 4)).toInt64) &&& 4294967295)) ((((xs (i + 5)).toInt64) <<< ((nI 32).toInt64 &&& 63)) ||| (((xs (i + 6)).toInt64) &&& 4294967295))) (zK_S hZ hS (fun _ h => h.elim)) k_W_law_1008 rfl rfl ⟨Nat.le_of_ble_eq_true rfl, Nat.le_of_ble_eq_true rfl⟩ (ob_recv hK hm.1 rfl) rfl hl.1 rfl (Nat.le_of_ble_eq_true rfl) d_W_law_1008 ⟨by show cl + 8 + 0 ≤ 632517; omega, by show sl + 16 + 0 ≤ 7198554; omega⟩) hS hold (fun v H locs F1 A1 B1 hm9 hq9 hz9 hp hS => ?_)
  have hX := cX_mv (Z' := (Zr xr adr o9)) hX (fun a h1 h2 => ⟨hq9 a h1.1, h1⟩)
  have ho := ar_kept ho (hq9 _ hom)
  rw [← ig_eq hR] at hp
  obtain ⟨rfl, hF9, hA9, rfl⟩ := hp
  have hR := RF_h0 hR hF9 hA9
  have hm := hm9
  refine W.eq (g2 := F0 m 1011 ls [.int (bI (igC f2 k2 (xs (i + 1)) (xs (i + 2)) ((((xs (i + 3)).toInt64) <<< ((nI 32).toInt64 &&& 63)) ||| (((xs (i + 4)).toInt64) &&& 4294967295)) ((((xs (i + 5)).toInt64) <<< ((nI 32).toInt64 &&& 63)) ||| (((xs (i + 6)).toInt64) &&& 4294967295)))), .int (bI (igC f2 k2 (xs (i + 1)) (xs (i + 2)) ((((xs (i + 3)).toInt64) <<< ((nI 32).toInt64 &&& 63)) ||| (((xs (i + 4)).toInt64) &&& 4294967295)) ((((xs (i + 5)).toInt64) <<< ((nI 32).toInt64 &&& 63)) ||| (((xs (i + 6)).toInt64) &&& 4294967295))))]) rfl ?_
  refine lv_icmp_eq (tgt := 1289) hx hb d_W_law_1011 (by decide) (fun _ => ?_) (fun c9 => absurd rfl c9)
  refine W.widen (k := cl + 70) (n := sl + 2000) (by omega) (by omega) ?_
  exact kk H _ ⟨_, _, _, _, _, _, _, _, _, _, _, _, _, _, _, hX, hm, hR, hO, ho, ho9, hom⟩ hS ls (lv_sub hl [0, 1, 2, 3, 4] rfl)
theorem k_W_law_1160 : kV "RegistryLogLaw" 121 "RegistryLog" y_X_founder b_X_founder 3 (some .int) 1 := ⟨(in_3 (List.mem_of_getElem? (i := 190) rfl) rfl), (in_3 (List.mem_of_getElem? (i := 191) rfl) rfl), (in_3 (List.mem_of_getElem? (i := 192) rfl) rfl), (in_1 (List.mem_of_getElem? (i := 1) rfl) rfl), (in_3 (List.mem_of_getElem? (i := 193) rfl) rfl), ⟨by decide, by decide, by decide +kernel⟩⟩
theorem k_W_law_1170 : kV "RegistryLogLaw" 124 "RegistryLogModel" y_M_founder b_M_founder 3 (some .int) 1 := ⟨(in_6 (List.mem_of_getElem? (i := 52) rfl) rfl), (in_6 (List.mem_of_getElem? (i := 53) rfl) rfl), (in_6 (List.mem_of_getElem? (i := 54) rfl) rfl), (in_1 (List.mem_of_getElem? (i := 22) rfl) rfl), (in_6 (List.mem_of_getElem? (i := 55) rfl) rfl), ⟨by decide, by decide, by decide +kernel⟩⟩
set_option maxHeartbeats 4000000 in
set_option maxRecDepth 100000 in
theorem ca_19 {p : Program} {l : Launch} {e : Env} {s : State} {m : MethodId} {args : Array Value} {below : List Frame} {meth : Method} {c : Code} {g : gG} (C0 : cF g p s m args meth c b_W_law 7 "RegistryLogLaw" (some .boolean)) (htr : ∀ e, l.admits e → e.platform.stackTraces = false) (hZ : zK g s s.heap) (hg9 : g.2.2.1 = s.heap.size) (hE0 : pS (fun a => a < s.heap.size) g s.heap (g.2.2.2 1) []) {b L : Nat} {xs : Nat → Int32} (hXs : va_X b L xs s s.heap) (hbl : b < s.heap.size) (hL : L ≤ 3584) {x xr o9 : Nat} {adr : Nat → Nat} {i cl sl : Nat} (hi : i + 7 ≤ L) (hcl : cl + 70 ≤ 632517) (hsl : sl + 2000 ≤ 7198554) {Q : State → Prop} (kk : ∀ (H : Heap) (locs : List Loc), RL g H x xr adr o9 → va_S (fW s.heap no_) s.heap H locs → ∀ (ls : Array Slot), lv_has ls 7 [(0, .ref b), (1, .ref x), (2, .ref xr), (3, .ref o9), (4, .int (nI i))] → W p l e room_1 s m args below meth c H locs (cl + 70) (sl + 2000) Q (F0 m 1289 ls [])) : ∀ (H : Heap) (locs : List Loc), RL g H x xr adr o9 → va_S (fW s.heap no_) s.heap H locs → ∀ (ls : Array Slot), lv_has ls 7 [(0, .ref b), (1, .ref x), (2, .ref xr), (3, .ref o9), (4, .int (nI i))] → W p l e room_1 s m args below meth c H locs cl sl Q (F0 m 1153 ls []) := by
  obtain ⟨hx, hb, hml, hown, hts, hr, hlk, hK⟩ := id C0
  intro H locs hRL hS ls hl
  obtain ⟨ad, ms, nm, nw, rows, mir, T, f, k, f2, k2, F, A, B, fo, hX, hm, hR, hO, ho, ho9, hom⟩ := hRL
  have hsz : g.2.2.1 ≤ H.size := by rw [hg9]; exact hS.1
  have hZb := Z_new hm (ar_lt ho)
  have hold : ∀ q, mN xr adr q → s.heap.size ≤ q := fun q h => by rw [← hg9]; exact hm.2.2.2.2.2.2 q h
  have hTT := cX_T hX
  have hrc := RF_c hR
  refine lv_aload_n hx hb d_W_law_1153 rfl (lv_at hl 1 rfl) ?_
  refine lv_aload_n hx hb d_W_law_1154 rfl (lv_at hl 0 rfl) ?_
  refine lv_iload hx hb d_W_law_1155 (lv_at hl 4 rfl) ?_
  refine lv_iconst (v := nI 1) hx hb d_W_law_1157 (by decide) ?_
  refine n_iadd hx hb d_W_law_1158 ?_
  refine va_sld hx hb hXs hbl (fun z => z.elim id (fun z => absurd hbl (Nat.not_lt.mpr z))) hS (vp_in_nI (by omega) (by omega)) d_W_law_1159 ?_
  refine W.eq (g2 := F0 m 1160 ls [.int (xs (i + 1)), .ref x]) (by rw [nI_clamp (by omega)]) ?_
  refine aW (N := (NX ad)) (rV (As := [.int (xs (i + 1))]) (rest := []) C0 (c_X_founder l g _ (Zr xr adr o9) x ad ms nm nw rows mir T f k 0 f2 k2 hX hsz hZb (xs (i + 1))) (zK_S hZ hS (fun _ h => h.elim)) k_W_law_1160 rfl rfl ⟨Nat.le_of_ble_eq_true rfl, Nat.le_of_ble_eq_true rfl⟩ (ob_recv hK (cX_ob hX) rfl) rfl hl.1 rfl (Nat.le_of_ble_eq_true rfl) d_W_law_1160 ⟨by show cl + 32 ≤ 632517; omega, by show sl + 954 ≤ 7198554; omega⟩) (fun v H L hC1 hp hL => ?_)
  have hS0 := hS
  have hS := hS_call hS hC1 hL (fun a h => Or.inr (by rw [← hg9]; exact cX_old hX a h))
  have hm := mW_keep hm (fun a h => hC_at hC1 (mN_lt hm h) (Z_nm hX h))
  have ho := ar_kept ho (hC_at hC1 (ar_lt ho) (Z_no2 hX))
  obtain ⟨v2, rfl, hX⟩ := hp
  refine W.eq (g2 := F0 m 1163 ls [.int (rp (atS (ledS rows mir (xs (i + 1))) (oS T (ledS rows mir (xs (i + 1))) (-1))))]) rfl ?_
  refine lv_aload_n hx hb d_W_law_1163 rfl (lv_at hl 2 rfl) ?_
  refine lv_aload_n hx hb d_W_law_1164 rfl (lv_at hl 0 rfl) ?_
  refine lv_iload hx hb d_W_law_1165 (lv_at hl 4 rfl) ?_
  refine lv_iconst (v := nI 1) hx hb d_W_law_1167 (by decide) ?_
  refine n_iadd hx hb d_W_law_1168 ?_
  refine va_sld hx hb hXs hbl (fun z => z.elim id (fun z => absurd hbl (Nat.not_lt.mpr z))) hS (vp_in_nI (by omega) (by omega)) d_W_law_1169 ?_
  refine W.eq (g2 := F0 m 1170 ls [.int (xs (i + 1)), .ref xr, .int (rp (atS (ledS rows mir (xs (i + 1))) (oS T (ledS rows mir (xs (i + 1))) (-1))))]) (by rw [nI_clamp (by omega)]) ?_
  refine aQ (rV (As := [.int (xs (i + 1))]) (rest := [.int (rp (atS (ledS rows mir (xs (i + 1))) (oS T (ledS rows mir (xs (i + 1))) (-1))))]) C0 (c_M_founder l g _ xr adr _ _ _ hm T hR.2.1.2 hTT.2 hTT.1 hR.2.1.1 rows mir hR.1 (tbL rows) (inv_log hO).choose_spec.2 (fun q9 => tbL (mir q9)) (fun q9 hq9 => (inv_mir hO hq9).choose_spec.2) (xs (i + 1)) _ (asks hO (xs (i + 1))).1) (zK_S hZ hS (fun _ h => h.elim)) k_W_law_1170 rfl rfl ⟨Nat.le_of_ble_eq_true rfl, Nat.le_of_ble_eq_true rfl⟩ (ob_recv hK hm.1 rfl) rfl hl.1 rfl (Nat.le_of_ble_eq_true rfl) d_W_law_1170 ⟨by show cl + 32 + 0 ≤ 632517; omega, by show sl + 954 + 0 ≤ 7198554; omega⟩) hS hold (fun v H locs F1 A1 B1 hm9 hq9 hz9 hp hS => ?_)
  have hX := cX_mv (Z' := (Zr xr adr o9)) hX (fun a h1 h2 => ⟨hq9 a h1.1, h1⟩)
  have ho := ar_kept ho (hq9 _ hom)
  obtain ⟨rfl, hF9, hA9, rfl⟩ := hp
  have hR := RF_tt hR hF9 hA9
  have hm := hm9
  refine W.eq (g2 := F0 m 1173 ls [.int (rp (atS (ledS rows mir (xs (i + 1))) (oS T (ledS rows mir (xs (i + 1))) (-1)))), .int (rp (atS (ledS rows mir (xs (i + 1))) (oS T (ledS rows mir (xs (i + 1))) (-1))))]) rfl ?_
  refine lv_icmp_eq (tgt := 1289) hx hb d_W_law_1173 (by decide) (fun _ => ?_) (fun c9 => absurd rfl c9)
  refine W.widen (k := cl + 70) (n := sl + 2000) (by omega) (by omega) ?_
  exact kk H _ ⟨_, _, _, _, _, _, _, _, _, _, _, _, _, _, _, hX, hm, hR, hO, ho, ho9, hom⟩ hS ls (lv_sub hl [0, 1, 2, 3, 4] rfl)
theorem k_W_law_1191 : kV "RegistryLogLaw" 125 "RegistryLog" y_X_has b_X_has 5 (some .boolean) 2 := ⟨(in_4 (List.mem_of_getElem? (i := 13) rfl) rfl), (in_4 (List.mem_of_getElem? (i := 14) rfl) rfl), (in_4 (List.mem_of_getElem? (i := 15) rfl) rfl), (in_1 (List.mem_of_getElem? (i := 1) rfl) rfl), (in_4 (List.mem_of_getElem? (i := 16) rfl) rfl), ⟨by decide, by decide, by decide +kernel⟩⟩
theorem k_W_law_1207 : kV "RegistryLogLaw" 129 "RegistryLogModel" y_M_has b_M_has 4 (some .boolean) 2 := ⟨(in_6 (List.mem_of_getElem? (i := 60) rfl) rfl), (in_6 (List.mem_of_getElem? (i := 61) rfl) rfl), (in_6 (List.mem_of_getElem? (i := 62) rfl) rfl), (in_1 (List.mem_of_getElem? (i := 22) rfl) rfl), (in_6 (List.mem_of_getElem? (i := 63) rfl) rfl), ⟨by decide, by decide, by decide +kernel⟩⟩
set_option maxHeartbeats 4000000 in
set_option maxRecDepth 100000 in
theorem ca_20 {p : Program} {l : Launch} {e : Env} {s : State} {m : MethodId} {args : Array Value} {below : List Frame} {meth : Method} {c : Code} {g : gG} (C0 : cF g p s m args meth c b_W_law 7 "RegistryLogLaw" (some .boolean)) (htr : ∀ e, l.admits e → e.platform.stackTraces = false) (hZ : zK g s s.heap) (hg9 : g.2.2.1 = s.heap.size) (hE0 : pS (fun a => a < s.heap.size) g s.heap (g.2.2.2 1) []) {b L : Nat} {xs : Nat → Int32} (hXs : va_X b L xs s s.heap) (hbl : b < s.heap.size) (hL : L ≤ 3584) {x xr o9 : Nat} {adr : Nat → Nat} {i cl sl : Nat} (hi : i + 7 ≤ L) (hcl : cl + 70 ≤ 632517) (hsl : sl + 2000 ≤ 7198554) {Q : State → Prop} (kk : ∀ (H : Heap) (locs : List Loc), RL g H x xr adr o9 → va_S (fW s.heap no_) s.heap H locs → ∀ (ls : Array Slot), lv_has ls 7 [(0, .ref b), (1, .ref x), (2, .ref xr), (3, .ref o9), (4, .int (nI i))] → W p l e room_1 s m args below meth c H locs (cl + 70) (sl + 2000) Q (F0 m 1289 ls [])) : ∀ (H : Heap) (locs : List Loc), RL g H x xr adr o9 → va_S (fW s.heap no_) s.heap H locs → ∀ (ls : Array Slot), lv_has ls 7 [(0, .ref b), (1, .ref x), (2, .ref xr), (3, .ref o9), (4, .int (nI i))] → W p l e room_1 s m args below meth c H locs cl sl Q (F0 m 1178 ls []) := by
  obtain ⟨hx, hb, hml, hown, hts, hr, hlk, hK⟩ := id C0
  intro H locs hRL hS ls hl
  obtain ⟨ad, ms, nm, nw, rows, mir, T, f, k, f2, k2, F, A, B, fo, hX, hm, hR, hO, ho, ho9, hom⟩ := hRL
  have hsz : g.2.2.1 ≤ H.size := by rw [hg9]; exact hS.1
  have hZb := Z_new hm (ar_lt ho)
  have hold : ∀ q, mN xr adr q → s.heap.size ≤ q := fun q h => by rw [← hg9]; exact hm.2.2.2.2.2.2 q h
  have hTT := cX_T hX
  have hrc := RF_c hR
  refine lv_aload_n hx hb d_W_law_1178 rfl (lv_at hl 1 rfl) ?_
  refine lv_aload_n hx hb d_W_law_1179 rfl (lv_at hl 0 rfl) ?_
  refine lv_iload hx hb d_W_law_1180 (lv_at hl 4 rfl) ?_
  refine lv_iconst (v := nI 1) hx hb d_W_law_1182 (by decide) ?_
  refine n_iadd hx hb d_W_law_1183 ?_
  refine va_sld hx hb hXs hbl (fun z => z.elim id (fun z => absurd hbl (Nat.not_lt.mpr z))) hS (vp_in_nI (by omega) (by omega)) d_W_law_1184 ?_
  refine W.eq (g2 := F0 m 1185 ls [.int (xs (i + 1)), .ref x]) (by rw [nI_clamp (by omega)]) ?_
  refine lv_aload_n hx hb d_W_law_1185 rfl (lv_at hl 0 rfl) ?_
  refine lv_iload hx hb d_W_law_1186 (lv_at hl 4 rfl) ?_
  refine lv_iconst (v := nI 2) hx hb d_W_law_1188 (by decide) ?_
  refine n_iadd hx hb d_W_law_1189 ?_
  refine va_sld hx hb hXs hbl (fun z => z.elim id (fun z => absurd hbl (Nat.not_lt.mpr z))) hS (vp_in_nI (by omega) (by omega)) d_W_law_1190 ?_
  refine W.eq (g2 := F0 m 1191 ls [.int (xs (i + 2)), .int (xs (i + 1)), .ref x]) (by rw [nI_clamp (by omega)]) ?_
  refine aW (N := (NX ad)) (rV (As := [.int (xs (i + 1)), .int (xs (i + 2))]) (rest := []) C0 (c_X_has l g _ (Zr xr adr o9) x ad ms nm nw rows mir T f k 0 f2 k2 hX hsz hZb (xs (i + 1)) (xs (i + 2))) (zK_S hZ hS (fun _ h => h.elim)) k_W_law_1191 rfl rfl ⟨Nat.le_of_ble_eq_true rfl, Nat.le_of_ble_eq_true rfl⟩ (ob_recv hK (cX_ob hX) rfl) rfl hl.1 rfl (Nat.le_of_ble_eq_true rfl) d_W_law_1191 ⟨by show cl + 32 ≤ 632517; omega, by show sl + 954 ≤ 7198554; omega⟩) (fun v H L hC1 hp hL => ?_)
  have hS0 := hS
  have hS := hS_call hS hC1 hL (fun a h => Or.inr (by rw [← hg9]; exact cX_old hX a h))
  have hm := mW_keep hm (fun a h => hC_at hC1 (mN_lt hm h) (Z_nm hX h))
  have ho := ar_kept ho (hC_at hC1 (ar_lt ho) (Z_no2 hX))
  obtain ⟨v2, rfl, hX⟩ := hp
  refine W.eq (g2 := F0 m 1194 ls [.int (bI (decide (0 ≤ (xs (i + 2)) ∧ (xs (i + 2)) < 8) && hsS (ledS rows mir (xs (i + 1))) (oS T (ledS rows mir (xs (i + 1))) (-1)) (xs (i + 2))))]) rfl ?_
  refine lv_aload_n hx hb d_W_law_1194 rfl (lv_at hl 2 rfl) ?_
  refine lv_aload_n hx hb d_W_law_1195 rfl (lv_at hl 0 rfl) ?_
  refine lv_iload hx hb d_W_law_1196 (lv_at hl 4 rfl) ?_
  refine lv_iconst (v := nI 1) hx hb d_W_law_1198 (by decide) ?_
  refine n_iadd hx hb d_W_law_1199 ?_
  refine va_sld hx hb hXs hbl (fun z => z.elim id (fun z => absurd hbl (Nat.not_lt.mpr z))) hS (vp_in_nI (by omega) (by omega)) d_W_law_1200 ?_
  refine W.eq (g2 := F0 m 1201 ls [.int (xs (i + 1)), .ref xr, .int (bI (decide (0 ≤ (xs (i + 2)) ∧ (xs (i + 2)) < 8) && hsS (ledS rows mir (xs (i + 1))) (oS T (ledS rows mir (xs (i + 1))) (-1)) (xs (i + 2))))]) (by rw [nI_clamp (by omega)]) ?_
  refine lv_aload_n hx hb d_W_law_1201 rfl (lv_at hl 0 rfl) ?_
  refine lv_iload hx hb d_W_law_1202 (lv_at hl 4 rfl) ?_
  refine lv_iconst (v := nI 2) hx hb d_W_law_1204 (by decide) ?_
  refine n_iadd hx hb d_W_law_1205 ?_
  refine va_sld hx hb hXs hbl (fun z => z.elim id (fun z => absurd hbl (Nat.not_lt.mpr z))) hS (vp_in_nI (by omega) (by omega)) d_W_law_1206 ?_
  refine W.eq (g2 := F0 m 1207 ls [.int (xs (i + 2)), .int (xs (i + 1)), .ref xr, .int (bI (decide (0 ≤ (xs (i + 2)) ∧ (xs (i + 2)) < 8) && hsS (ledS rows mir (xs (i + 1))) (oS T (ledS rows mir (xs (i + 1))) (-1)) (xs (i + 2))))]) (by rw [nI_clamp (by omega)]) ?_
  refine aQ (rV (As := [.int (xs (i + 1)), .int (xs (i + 2))]) (rest := [.int (bI (decide (0 ≤ (xs (i + 2)) ∧ (xs (i + 2)) < 8) && hsS (ledS rows mir (xs (i + 1))) (oS T (ledS rows mir (xs (i + 1))) (-1)) (xs (i + 2))))]) C0 (c_M_has l g _ xr adr _ _ _ hm T hR.2.1.2 hTT.2 hTT.1 hR.2.1.1 rows mir hR.1 (tbL rows) (inv_log hO).choose_spec.2 (fun q9 => tbL (mir q9)) (fun q9 hq9 => (inv_mir hO hq9).choose_spec.2) (xs (i + 1)) (xs (i + 2)) _ ((asks hO (xs (i + 1))).2.1 (xs (i + 2)))) (zK_S hZ hS (fun _ h => h.elim)) k_W_law_1207 rfl rfl ⟨Nat.le_of_ble_eq_true rfl, Nat.le_of_ble_eq_true rfl⟩ (ob_recv hK hm.1 rfl) rfl hl.1 rfl (Nat.le_of_ble_eq_true rfl) d_W_law_1207 ⟨by show cl + 32 + 0 ≤ 632517; omega, by show sl + 954 + 0 ≤ 7198554; omega⟩) hS hold (fun v H locs F1 A1 B1 hm9 hq9 hz9 hp hS => ?_)
  have hX := cX_mv (Z' := (Zr xr adr o9)) hX (fun a h1 h2 => ⟨hq9 a h1.1, h1⟩)
  have ho := ar_kept ho (hq9 _ hom)
  obtain ⟨rfl, hF9, hA9, rfl⟩ := hp
  have hR := RF_tt hR hF9 hA9
  have hm := hm9
  refine W.eq (g2 := F0 m 1210 ls [.int (bI (decide (0 ≤ (xs (i + 2)) ∧ (xs (i + 2)) < 8) && hsS (ledS rows mir (xs (i + 1))) (oS T (ledS rows mir (xs (i + 1))) (-1)) (xs (i + 2)))), .int (bI (decide (0 ≤ (xs (i + 2)) ∧ (xs (i + 2)) < 8) && hsS (ledS rows mir (xs (i + 1))) (oS T (ledS rows mir (xs (i + 1))) (-1)) (xs (i + 2))))]) rfl ?_
  refine lv_icmp_eq (tgt := 1289) hx hb d_W_law_1210 (by decide) (fun _ => ?_) (fun c9 => absurd rfl c9)
  refine W.widen (k := cl + 70) (n := sl + 2000) (by omega) (by omega) ?_
  exact kk H _ ⟨_, _, _, _, _, _, _, _, _, _, _, _, _, _, _, hX, hm, hR, hO, ho, ho9, hom⟩ hS ls (lv_sub hl [0, 1, 2, 3, 4] rfl)
theorem k_W_law_1228 : kV "RegistryLogLaw" 130 "RegistryLog" y_X_version b_X_version 5 (some .int) 2 := ⟨(in_4 (List.mem_of_getElem? (i := 25) rfl) rfl), (in_4 (List.mem_of_getElem? (i := 26) rfl) rfl), (in_4 (List.mem_of_getElem? (i := 27) rfl) rfl), (in_1 (List.mem_of_getElem? (i := 1) rfl) rfl), (in_4 (List.mem_of_getElem? (i := 28) rfl) rfl), ⟨by decide, by decide, by decide +kernel⟩⟩
theorem k_W_law_1244 : kV "RegistryLogLaw" 133 "RegistryLogModel" y_M_version b_M_version 4 (some .int) 2 := ⟨(in_6 (List.mem_of_getElem? (i := 64) rfl) rfl), (in_6 (List.mem_of_getElem? (i := 65) rfl) rfl), (in_6 (List.mem_of_getElem? (i := 66) rfl) rfl), (in_1 (List.mem_of_getElem? (i := 22) rfl) rfl), (in_6 (List.mem_of_getElem? (i := 67) rfl) rfl), ⟨by decide, by decide, by decide +kernel⟩⟩
set_option maxHeartbeats 4000000 in
set_option maxRecDepth 100000 in
theorem ca_21 {p : Program} {l : Launch} {e : Env} {s : State} {m : MethodId} {args : Array Value} {below : List Frame} {meth : Method} {c : Code} {g : gG} (C0 : cF g p s m args meth c b_W_law 7 "RegistryLogLaw" (some .boolean)) (htr : ∀ e, l.admits e → e.platform.stackTraces = false) (hZ : zK g s s.heap) (hg9 : g.2.2.1 = s.heap.size) (hE0 : pS (fun a => a < s.heap.size) g s.heap (g.2.2.2 1) []) {b L : Nat} {xs : Nat → Int32} (hXs : va_X b L xs s s.heap) (hbl : b < s.heap.size) (hL : L ≤ 3584) {x xr o9 : Nat} {adr : Nat → Nat} {i cl sl : Nat} (hi : i + 7 ≤ L) (hcl : cl + 70 ≤ 632517) (hsl : sl + 2000 ≤ 7198554) {Q : State → Prop} (kk : ∀ (H : Heap) (locs : List Loc), RL g H x xr adr o9 → va_S (fW s.heap no_) s.heap H locs → ∀ (ls : Array Slot), lv_has ls 7 [(0, .ref b), (1, .ref x), (2, .ref xr), (3, .ref o9), (4, .int (nI i))] → W p l e room_1 s m args below meth c H locs (cl + 70) (sl + 2000) Q (F0 m 1289 ls [])) : ∀ (H : Heap) (locs : List Loc), RL g H x xr adr o9 → va_S (fW s.heap no_) s.heap H locs → ∀ (ls : Array Slot), lv_has ls 7 [(0, .ref b), (1, .ref x), (2, .ref xr), (3, .ref o9), (4, .int (nI i))] → W p l e room_1 s m args below meth c H locs cl sl Q (F0 m 1215 ls []) := by
  obtain ⟨hx, hb, hml, hown, hts, hr, hlk, hK⟩ := id C0
  intro H locs hRL hS ls hl
  obtain ⟨ad, ms, nm, nw, rows, mir, T, f, k, f2, k2, F, A, B, fo, hX, hm, hR, hO, ho, ho9, hom⟩ := hRL
  have hsz : g.2.2.1 ≤ H.size := by rw [hg9]; exact hS.1
  have hZb := Z_new hm (ar_lt ho)
  have hold : ∀ q, mN xr adr q → s.heap.size ≤ q := fun q h => by rw [← hg9]; exact hm.2.2.2.2.2.2 q h
  have hTT := cX_T hX
  have hrc := RF_c hR
  refine lv_aload_n hx hb d_W_law_1215 rfl (lv_at hl 1 rfl) ?_
  refine lv_aload_n hx hb d_W_law_1216 rfl (lv_at hl 0 rfl) ?_
  refine lv_iload hx hb d_W_law_1217 (lv_at hl 4 rfl) ?_
  refine lv_iconst (v := nI 1) hx hb d_W_law_1219 (by decide) ?_
  refine n_iadd hx hb d_W_law_1220 ?_
  refine va_sld hx hb hXs hbl (fun z => z.elim id (fun z => absurd hbl (Nat.not_lt.mpr z))) hS (vp_in_nI (by omega) (by omega)) d_W_law_1221 ?_
  refine W.eq (g2 := F0 m 1222 ls [.int (xs (i + 1)), .ref x]) (by rw [nI_clamp (by omega)]) ?_
  refine lv_aload_n hx hb d_W_law_1222 rfl (lv_at hl 0 rfl) ?_
  refine lv_iload hx hb d_W_law_1223 (lv_at hl 4 rfl) ?_
  refine lv_iconst (v := nI 2) hx hb d_W_law_1225 (by decide) ?_
  refine n_iadd hx hb d_W_law_1226 ?_
  refine va_sld hx hb hXs hbl (fun z => z.elim id (fun z => absurd hbl (Nat.not_lt.mpr z))) hS (vp_in_nI (by omega) (by omega)) d_W_law_1227 ?_
  refine W.eq (g2 := F0 m 1228 ls [.int (xs (i + 2)), .int (xs (i + 1)), .ref x]) (by rw [nI_clamp (by omega)]) ?_
  refine aW (N := (NX ad)) (rV (As := [.int (xs (i + 1)), .int (xs (i + 2))]) (rest := []) C0 (c_X_version l g _ (Zr xr adr o9) x ad ms nm nw rows mir T f k 0 f2 k2 hX hsz hZb (xs (i + 1)) (xs (i + 2))) (zK_S hZ hS (fun _ h => h.elim)) k_W_law_1228 rfl rfl ⟨Nat.le_of_ble_eq_true rfl, Nat.le_of_ble_eq_true rfl⟩ (ob_recv hK (cX_ob hX) rfl) rfl hl.1 rfl (Nat.le_of_ble_eq_true rfl) d_W_law_1228 ⟨by show cl + 32 ≤ 632517; omega, by show sl + 954 ≤ 7198554; omega⟩) (fun v H L hC1 hp hL => ?_)
  have hS0 := hS
  have hS := hS_call hS hC1 hL (fun a h => Or.inr (by rw [← hg9]; exact cX_old hX a h))
  have hm := mW_keep hm (fun a h => hC_at hC1 (mN_lt hm h) (Z_nm hX h))
  have ho := ar_kept ho (hC_at hC1 (ar_lt ho) (Z_no2 hX))
  obtain ⟨v2, rfl, hX⟩ := hp
  refine W.eq (g2 := F0 m 1231 ls [.int (if (pubS (oS T (ledS rows mir (xs (i + 1))) (-1)) (xs (i + 2)) (ledS rows mir (xs (i + 1))) 0) = -1 then 0 else if ynS (oS T (ledS rows mir (xs (i + 1))) (-1)) (xs (i + 2)) (ledS rows mir (xs (i + 1))) false = true then 2 else 1)]) rfl ?_
  refine lv_aload_n hx hb d_W_law_1231 rfl (lv_at hl 2 rfl) ?_
  refine lv_aload_n hx hb d_W_law_1232 rfl (lv_at hl 0 rfl) ?_
  refine lv_iload hx hb d_W_law_1233 (lv_at hl 4 rfl) ?_
  refine lv_iconst (v := nI 1) hx hb d_W_law_1235 (by decide) ?_
  refine n_iadd hx hb d_W_law_1236 ?_
  refine va_sld hx hb hXs hbl (fun z => z.elim id (fun z => absurd hbl (Nat.not_lt.mpr z))) hS (vp_in_nI (by omega) (by omega)) d_W_law_1237 ?_
  refine W.eq (g2 := F0 m 1238 ls [.int (xs (i + 1)), .ref xr, .int (if (pubS (oS T (ledS rows mir (xs (i + 1))) (-1)) (xs (i + 2)) (ledS rows mir (xs (i + 1))) 0) = -1 then 0 else if ynS (oS T (ledS rows mir (xs (i + 1))) (-1)) (xs (i + 2)) (ledS rows mir (xs (i + 1))) false = true then 2 else 1)]) (by rw [nI_clamp (by omega)]) ?_
  refine lv_aload_n hx hb d_W_law_1238 rfl (lv_at hl 0 rfl) ?_
  refine lv_iload hx hb d_W_law_1239 (lv_at hl 4 rfl) ?_
  refine lv_iconst (v := nI 2) hx hb d_W_law_1241 (by decide) ?_
  refine n_iadd hx hb d_W_law_1242 ?_
  refine va_sld hx hb hXs hbl (fun z => z.elim id (fun z => absurd hbl (Nat.not_lt.mpr z))) hS (vp_in_nI (by omega) (by omega)) d_W_law_1243 ?_
  refine W.eq (g2 := F0 m 1244 ls [.int (xs (i + 2)), .int (xs (i + 1)), .ref xr, .int (if (pubS (oS T (ledS rows mir (xs (i + 1))) (-1)) (xs (i + 2)) (ledS rows mir (xs (i + 1))) 0) = -1 then 0 else if ynS (oS T (ledS rows mir (xs (i + 1))) (-1)) (xs (i + 2)) (ledS rows mir (xs (i + 1))) false = true then 2 else 1)]) (by rw [nI_clamp (by omega)]) ?_
  refine aQ (rV (As := [.int (xs (i + 1)), .int (xs (i + 2))]) (rest := [.int (if (pubS (oS T (ledS rows mir (xs (i + 1))) (-1)) (xs (i + 2)) (ledS rows mir (xs (i + 1))) 0) = -1 then 0 else if ynS (oS T (ledS rows mir (xs (i + 1))) (-1)) (xs (i + 2)) (ledS rows mir (xs (i + 1))) false = true then 2 else 1)]) C0 (c_M_version l g _ xr adr _ _ _ hm T hR.2.1.2 hTT.2 hTT.1 hR.2.1.1 rows mir hR.1 (tbL rows) (inv_log hO).choose_spec.2 (fun q9 => tbL (mir q9)) (fun q9 hq9 => (inv_mir hO hq9).choose_spec.2) (xs (i + 1)) (xs (i + 2)) _ ((asks hO (xs (i + 1))).2.2.1 (xs (i + 2)))) (zK_S hZ hS (fun _ h => h.elim)) k_W_law_1244 rfl rfl ⟨Nat.le_of_ble_eq_true rfl, Nat.le_of_ble_eq_true rfl⟩ (ob_recv hK hm.1 rfl) rfl hl.1 rfl (Nat.le_of_ble_eq_true rfl) d_W_law_1244 ⟨by show cl + 32 + 0 ≤ 632517; omega, by show sl + 954 + 0 ≤ 7198554; omega⟩) hS hold (fun v H locs F1 A1 B1 hm9 hq9 hz9 hp hS => ?_)
  have hX := cX_mv (Z' := (Zr xr adr o9)) hX (fun a h1 h2 => ⟨hq9 a h1.1, h1⟩)
  have ho := ar_kept ho (hq9 _ hom)
  obtain ⟨rfl, hF9, hA9, rfl⟩ := hp
  have hR := RF_tt hR hF9 hA9
  have hm := hm9
  refine W.eq (g2 := F0 m 1247 ls [.int (if (pubS (oS T (ledS rows mir (xs (i + 1))) (-1)) (xs (i + 2)) (ledS rows mir (xs (i + 1))) 0) = -1 then 0 else if ynS (oS T (ledS rows mir (xs (i + 1))) (-1)) (xs (i + 2)) (ledS rows mir (xs (i + 1))) false = true then 2 else 1), .int (if (pubS (oS T (ledS rows mir (xs (i + 1))) (-1)) (xs (i + 2)) (ledS rows mir (xs (i + 1))) 0) = -1 then 0 else if ynS (oS T (ledS rows mir (xs (i + 1))) (-1)) (xs (i + 2)) (ledS rows mir (xs (i + 1))) false = true then 2 else 1)]) rfl ?_
  refine lv_icmp_eq (tgt := 1289) hx hb d_W_law_1247 (by decide) (fun _ => ?_) (fun c9 => absurd rfl c9)
  refine W.widen (k := cl + 70) (n := sl + 2000) (by omega) (by omega) ?_
  exact kk H _ ⟨_, _, _, _, _, _, _, _, _, _, _, _, _, _, _, hX, hm, hR, hO, ho, ho9, hom⟩ hS ls (lv_sub hl [0, 1, 2, 3, 4] rfl)
theorem k_W_law_1265 : kV "RegistryLogLaw" 134 "RegistryLog" y_X_sum b_X_sum 5 (some .int) 2 := ⟨(in_4 (List.mem_of_getElem? (i := 37) rfl) rfl), (in_4 (List.mem_of_getElem? (i := 38) rfl) rfl), (in_4 (List.mem_of_getElem? (i := 39) rfl) rfl), (in_1 (List.mem_of_getElem? (i := 1) rfl) rfl), (in_4 (List.mem_of_getElem? (i := 40) rfl) rfl), ⟨by decide, by decide, by decide +kernel⟩⟩
theorem k_W_law_1281 : kV "RegistryLogLaw" 137 "RegistryLogModel" y_M_sum b_M_sum 4 (some .int) 2 := ⟨(in_6 (List.mem_of_getElem? (i := 72) rfl) rfl), (in_6 (List.mem_of_getElem? (i := 73) rfl) rfl), (in_6 (List.mem_of_getElem? (i := 74) rfl) rfl), (in_1 (List.mem_of_getElem? (i := 22) rfl) rfl), (in_6 (List.mem_of_getElem? (i := 75) rfl) rfl), ⟨by decide, by decide, by decide +kernel⟩⟩
set_option maxHeartbeats 4000000 in
set_option maxRecDepth 100000 in
theorem ca_22 {p : Program} {l : Launch} {e : Env} {s : State} {m : MethodId} {args : Array Value} {below : List Frame} {meth : Method} {c : Code} {g : gG} (C0 : cF g p s m args meth c b_W_law 7 "RegistryLogLaw" (some .boolean)) (htr : ∀ e, l.admits e → e.platform.stackTraces = false) (hZ : zK g s s.heap) (hg9 : g.2.2.1 = s.heap.size) (hE0 : pS (fun a => a < s.heap.size) g s.heap (g.2.2.2 1) []) {b L : Nat} {xs : Nat → Int32} (hXs : va_X b L xs s s.heap) (hbl : b < s.heap.size) (hL : L ≤ 3584) {x xr o9 : Nat} {adr : Nat → Nat} {i cl sl : Nat} (hi : i + 7 ≤ L) (hcl : cl + 70 ≤ 632517) (hsl : sl + 2000 ≤ 7198554) {Q : State → Prop} (kk : ∀ (H : Heap) (locs : List Loc), RL g H x xr adr o9 → va_S (fW s.heap no_) s.heap H locs → ∀ (ls : Array Slot), lv_has ls 7 [(0, .ref b), (1, .ref x), (2, .ref xr), (3, .ref o9), (4, .int (nI i))] → W p l e room_1 s m args below meth c H locs (cl + 70) (sl + 2000) Q (F0 m 1289 ls [])) : ∀ (H : Heap) (locs : List Loc), RL g H x xr adr o9 → va_S (fW s.heap no_) s.heap H locs → ∀ (ls : Array Slot), lv_has ls 7 [(0, .ref b), (1, .ref x), (2, .ref xr), (3, .ref o9), (4, .int (nI i))] → W p l e room_1 s m args below meth c H locs cl sl Q (F0 m 1252 ls []) := by
  obtain ⟨hx, hb, hml, hown, hts, hr, hlk, hK⟩ := id C0
  intro H locs hRL hS ls hl
  obtain ⟨ad, ms, nm, nw, rows, mir, T, f, k, f2, k2, F, A, B, fo, hX, hm, hR, hO, ho, ho9, hom⟩ := hRL
  have hsz : g.2.2.1 ≤ H.size := by rw [hg9]; exact hS.1
  have hZb := Z_new hm (ar_lt ho)
  have hold : ∀ q, mN xr adr q → s.heap.size ≤ q := fun q h => by rw [← hg9]; exact hm.2.2.2.2.2.2 q h
  have hTT := cX_T hX
  have hrc := RF_c hR
  refine lv_aload_n hx hb d_W_law_1252 rfl (lv_at hl 1 rfl) ?_
  refine lv_aload_n hx hb d_W_law_1253 rfl (lv_at hl 0 rfl) ?_
  refine lv_iload hx hb d_W_law_1254 (lv_at hl 4 rfl) ?_
  refine lv_iconst (v := nI 1) hx hb d_W_law_1256 (by decide) ?_
  refine n_iadd hx hb d_W_law_1257 ?_
  refine va_sld hx hb hXs hbl (fun z => z.elim id (fun z => absurd hbl (Nat.not_lt.mpr z))) hS (vp_in_nI (by omega) (by omega)) d_W_law_1258 ?_
  refine W.eq (g2 := F0 m 1259 ls [.int (xs (i + 1)), .ref x]) (by rw [nI_clamp (by omega)]) ?_
  refine lv_aload_n hx hb d_W_law_1259 rfl (lv_at hl 0 rfl) ?_
  refine lv_iload hx hb d_W_law_1260 (lv_at hl 4 rfl) ?_
  refine lv_iconst (v := nI 2) hx hb d_W_law_1262 (by decide) ?_
  refine n_iadd hx hb d_W_law_1263 ?_
  refine va_sld hx hb hXs hbl (fun z => z.elim id (fun z => absurd hbl (Nat.not_lt.mpr z))) hS (vp_in_nI (by omega) (by omega)) d_W_law_1264 ?_
  refine W.eq (g2 := F0 m 1265 ls [.int (xs (i + 2)), .int (xs (i + 1)), .ref x]) (by rw [nI_clamp (by omega)]) ?_
  refine aW (N := (NX ad)) (rV (As := [.int (xs (i + 1)), .int (xs (i + 2))]) (rest := []) C0 (c_X_sum l g _ (Zr xr adr o9) x ad ms nm nw rows mir T f k 0 f2 k2 hX hsz hZb (xs (i + 1)) (xs (i + 2))) (zK_S hZ hS (fun _ h => h.elim)) k_W_law_1265 rfl rfl ⟨Nat.le_of_ble_eq_true rfl, Nat.le_of_ble_eq_true rfl⟩ (ob_recv hK (cX_ob hX) rfl) rfl hl.1 rfl (Nat.le_of_ble_eq_true rfl) d_W_law_1265 ⟨by show cl + 32 ≤ 632517; omega, by show sl + 954 ≤ 7198554; omega⟩) (fun v H L hC1 hp hL => ?_)
  have hS0 := hS
  have hS := hS_call hS hC1 hL (fun a h => Or.inr (by rw [← hg9]; exact cX_old hX a h))
  have hm := mW_keep hm (fun a h => hC_at hC1 (mN_lt hm h) (Z_nm hX h))
  have ho := ar_kept ho (hC_at hC1 (ar_lt ho) (Z_no2 hX))
  obtain ⟨v2, rfl, hX⟩ := hp
  refine W.eq (g2 := F0 m 1268 ls [.int (if (pubS (oS T (ledS rows mir (xs (i + 1))) (-1)) (xs (i + 2)) (ledS rows mir (xs (i + 1))) 0) = -1 then 0 else r3 (atS (ledS rows mir (xs (i + 1))) (pubS (oS T (ledS rows mir (xs (i + 1))) (-1)) (xs (i + 2)) (ledS rows mir (xs (i + 1))) 0)))]) rfl ?_
  refine lv_aload_n hx hb d_W_law_1268 rfl (lv_at hl 2 rfl) ?_
  refine lv_aload_n hx hb d_W_law_1269 rfl (lv_at hl 0 rfl) ?_
  refine lv_iload hx hb d_W_law_1270 (lv_at hl 4 rfl) ?_
  refine lv_iconst (v := nI 1) hx hb d_W_law_1272 (by decide) ?_
  refine n_iadd hx hb d_W_law_1273 ?_
  refine va_sld hx hb hXs hbl (fun z => z.elim id (fun z => absurd hbl (Nat.not_lt.mpr z))) hS (vp_in_nI (by omega) (by omega)) d_W_law_1274 ?_
  refine W.eq (g2 := F0 m 1275 ls [.int (xs (i + 1)), .ref xr, .int (if (pubS (oS T (ledS rows mir (xs (i + 1))) (-1)) (xs (i + 2)) (ledS rows mir (xs (i + 1))) 0) = -1 then 0 else r3 (atS (ledS rows mir (xs (i + 1))) (pubS (oS T (ledS rows mir (xs (i + 1))) (-1)) (xs (i + 2)) (ledS rows mir (xs (i + 1))) 0)))]) (by rw [nI_clamp (by omega)]) ?_
  refine lv_aload_n hx hb d_W_law_1275 rfl (lv_at hl 0 rfl) ?_
  refine lv_iload hx hb d_W_law_1276 (lv_at hl 4 rfl) ?_
  refine lv_iconst (v := nI 2) hx hb d_W_law_1278 (by decide) ?_
  refine n_iadd hx hb d_W_law_1279 ?_
  refine va_sld hx hb hXs hbl (fun z => z.elim id (fun z => absurd hbl (Nat.not_lt.mpr z))) hS (vp_in_nI (by omega) (by omega)) d_W_law_1280 ?_
  refine W.eq (g2 := F0 m 1281 ls [.int (xs (i + 2)), .int (xs (i + 1)), .ref xr, .int (if (pubS (oS T (ledS rows mir (xs (i + 1))) (-1)) (xs (i + 2)) (ledS rows mir (xs (i + 1))) 0) = -1 then 0 else r3 (atS (ledS rows mir (xs (i + 1))) (pubS (oS T (ledS rows mir (xs (i + 1))) (-1)) (xs (i + 2)) (ledS rows mir (xs (i + 1))) 0)))]) (by rw [nI_clamp (by omega)]) ?_
  refine aQ (rV (As := [.int (xs (i + 1)), .int (xs (i + 2))]) (rest := [.int (if (pubS (oS T (ledS rows mir (xs (i + 1))) (-1)) (xs (i + 2)) (ledS rows mir (xs (i + 1))) 0) = -1 then 0 else r3 (atS (ledS rows mir (xs (i + 1))) (pubS (oS T (ledS rows mir (xs (i + 1))) (-1)) (xs (i + 2)) (ledS rows mir (xs (i + 1))) 0)))]) C0 (c_M_sum l g _ xr adr _ _ _ hm T hR.2.1.2 hTT.2 hTT.1 hR.2.1.1 rows mir hR.1 (tbL rows) (inv_log hO).choose_spec.2 (fun q9 => tbL (mir q9)) (fun q9 hq9 => (inv_mir hO hq9).choose_spec.2) (xs (i + 1)) (xs (i + 2)) _ ((asks hO (xs (i + 1))).2.2.2 (xs (i + 2)))) (zK_S hZ hS (fun _ h => h.elim)) k_W_law_1281 rfl rfl ⟨Nat.le_of_ble_eq_true rfl, Nat.le_of_ble_eq_true rfl⟩ (ob_recv hK hm.1 rfl) rfl hl.1 rfl (Nat.le_of_ble_eq_true rfl) d_W_law_1281 ⟨by show cl + 32 + 0 ≤ 632517; omega, by show sl + 954 + 0 ≤ 7198554; omega⟩) hS hold (fun v H locs F1 A1 B1 hm9 hq9 hz9 hp hS => ?_)
  have hX := cX_mv (Z' := (Zr xr adr o9)) hX (fun a h1 h2 => ⟨hq9 a h1.1, h1⟩)
  have ho := ar_kept ho (hq9 _ hom)
  obtain ⟨rfl, hF9, hA9, rfl⟩ := hp
  have hR := RF_tt hR hF9 hA9
  have hm := hm9
  refine W.eq (g2 := F0 m 1284 ls [.int (if (pubS (oS T (ledS rows mir (xs (i + 1))) (-1)) (xs (i + 2)) (ledS rows mir (xs (i + 1))) 0) = -1 then 0 else r3 (atS (ledS rows mir (xs (i + 1))) (pubS (oS T (ledS rows mir (xs (i + 1))) (-1)) (xs (i + 2)) (ledS rows mir (xs (i + 1))) 0))), .int (if (pubS (oS T (ledS rows mir (xs (i + 1))) (-1)) (xs (i + 2)) (ledS rows mir (xs (i + 1))) 0) = -1 then 0 else r3 (atS (ledS rows mir (xs (i + 1))) (pubS (oS T (ledS rows mir (xs (i + 1))) (-1)) (xs (i + 2)) (ledS rows mir (xs (i + 1))) 0)))]) rfl ?_
  refine lv_icmp_eq (tgt := 1289) hx hb d_W_law_1284 (by decide) (fun _ => ?_) (fun c9 => absurd rfl c9)
  refine W.widen (k := cl + 70) (n := sl + 2000) (by omega) (by omega) ?_
  exact kk H _ ⟨_, _, _, _, _, _, _, _, _, _, _, _, _, _, _, hX, hm, hR, hO, ho, ho9, hom⟩ hS ls (lv_sub hl [0, 1, 2, 3, 4] rfl)
