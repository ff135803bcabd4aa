theorem k_W_law_504 : kV "RegistryLogLaw" 58 "RegistryLog" y_X_rows b_X_rows 1 (some .int) 0 := ⟨(in_3 (List.mem_of_getElem? (i := 34) rfl) rfl), (in_3 (List.mem_of_getElem? (i := 35) rfl) rfl), (in_3 (List.mem_of_getElem? (i := 36) rfl) rfl), (in_1 (List.mem_of_getElem? (i := 1) rfl) rfl), (in_3 (List.mem_of_getElem? (i := 37) rfl) rfl), ⟨by decide, by decide, by decide +kernel⟩⟩
theorem k_W_law_508 : kV "RegistryLogLaw" 61 "RegistryLogModel" y_M_rows b_M_rows 1 (some .int) 0 := ⟨(in_5 (List.mem_of_getElem? (i := 202) rfl) rfl), (in_5 (List.mem_of_getElem? (i := 203) rfl) rfl), (in_5 (List.mem_of_getElem? (i := 204) rfl) rfl), (in_1 (List.mem_of_getElem? (i := 22) rfl) rfl), (in_5 (List.mem_of_getElem? (i := 205) rfl) rfl), ⟨by decide, by decide, by decide +kernel⟩⟩
set_option maxHeartbeats 4000000 in
set_option maxRecDepth 100000 in
theorem ca_5 {p : Program} {l : Launch} {e : Env} {s : State} {m : MethodId} {args : Array Value} {below : List Frame} {meth : Method} {c : Code} {g : gG} (C0 : cF g p s m args meth c b_W_law 7 "RegistryLogLaw" (some .boolean)) (htr : ∀ e, l.admits e → e.platform.stackTraces = false) (hZ : zK g s s.heap) (hg9 : g.2.2.1 = s.heap.size) (hE0 : pS (fun a => a < s.heap.size) g s.heap (g.2.2.2 1) []) {b L : Nat} {xs : Nat → Int32} (hXs : va_X b L xs s s.heap) (hbl : b < s.heap.size) (hL : L ≤ 3584) {x xr o9 : Nat} {adr : Nat → Nat} {i cl sl : Nat} (hi : i + 7 ≤ L) (hcl : cl + 70 ≤ 632517) (hsl : sl + 2000 ≤ 7198554) {Q : State → Prop} (kk : ∀ (H : Heap) (locs : List Loc), RL g H x xr adr o9 → va_S (fW s.heap no_) s.heap H locs → ∀ (ls : Array Slot), lv_has ls 7 [(0, .ref b), (1, .ref x), (2, .ref xr), (3, .ref o9), (4, .int (nI i))] → W p l e room_1 s m args below meth c H locs (cl + 70) (sl + 2000) Q (F0 m 1289 ls [])) : ∀ (H : Heap) (locs : List Loc), RL g H x xr adr o9 → va_S (fW s.heap no_) s.heap H locs → ∀ (ls : Array Slot), lv_has ls 7 [(0, .ref b), (1, .ref x), (2, .ref xr), (3, .ref o9), (4, .int (nI i))] → W p l e room_1 s m args below meth c H locs cl sl Q (F0 m 503 ls []) := by
  obtain ⟨hx, hb, hml, hown, hts, hr, hlk, hK⟩ := id C0
  intro H locs hRL hS ls hl
  obtain ⟨ad, ms, nm, nw, rows, mir, T, f, k, f2, k2, F, A, B, fo, hX, hm, hR, hO, ho, ho9, hom⟩ := hRL
  have hsz : g.2.2.1 ≤ H.size := by rw [hg9]; exact hS.1
  have hZb := Z_new hm (ar_lt ho)
  have hold : ∀ q, mN xr adr q → s.heap.size ≤ q := fun q h => by rw [← hg9]; exact hm.2.2.2.2.2.2 q h
  have hTT := cX_T hX
  have hrc := RF_c hR
  refine lv_aload_n hx hb d_W_law_503 rfl (lv_at hl 1 rfl) ?_
  refine aP (rV (As := []) (rest := []) C0 (c_X_rows l g _ x (ad 0) (ad 2) ms nm (ad 12) (ad 14) (cX_ob hX) rows (pL_isL (cX_log hX))) (zK_S hZ hS (fun _ h => h.elim)) k_W_law_504 rfl rfl ⟨Nat.le_of_ble_eq_true rfl, Nat.le_of_ble_eq_true rfl⟩ (ob_recv hK (cX_ob hX) rfl) rfl hl.1 rfl (Nat.le_of_ble_eq_true rfl) d_W_law_504 ⟨by show cl + 0 ≤ 632517; omega, by show sl + 0 ≤ 7198554; omega⟩) ?_
  intro v hv; subst hv
  refine W.eq (g2 := F0 m 507 ls [.int (nI rows.length)]) rfl ?_
  refine lv_aload_n hx hb d_W_law_507 rfl (lv_at hl 2 rfl) ?_
  refine aQ (rV (As := []) (rest := [.int (nI rows.length)]) C0 (c_M_rows l g _ xr adr _ _ _ hm rows.length hrc.1) (zK_S hZ hS (fun _ h => h.elim)) k_W_law_508 rfl rfl ⟨Nat.le_of_ble_eq_true rfl, Nat.le_of_ble_eq_true rfl⟩ (ob_recv hK hm.1 rfl) rfl hl.1 rfl (Nat.le_of_ble_eq_true rfl) d_W_law_508 ⟨by show cl + 0 ≤ 632517; omega, by show sl + 0 ≤ 7198554; omega⟩) hS hold (fun v H locs F1 A1 B1 hm9 hq9 hz9 hp hS => ?_)
  have hX := cX_mv (Z' := (Zr xr adr o9)) hX (fun a h1 h2 => ⟨hq9 a h1.1, h1⟩)
  have ho := ar_kept ho (hq9 _ hom)
  obtain ⟨rfl, rfl, rfl, rfl⟩ := hp
  have hR := RF_0 (v := nI 0) hR
  have hm := hm9
  refine W.eq (g2 := F0 m 511 ls [.int (nI rows.length), .int (nI rows.length)]) rfl ?_
  refine lv_icmp_eq (tgt := 1289) hx hb d_W_law_511 (by decide) (fun _ => ?_) (fun c9 => absurd rfl c9)
  refine W.widen (k := cl + 70) (n := sl + 2000) (by omega) (by omega) ?_
  exact kk H _ ⟨_, _, _, _, _, _, _, _, _, _, _, _, _, _, _, hX, hm, hR, hO, ho, ho9, hom⟩ hS ls (lv_sub hl [0, 1, 2, 3, 4] rfl)
theorem k_W_law_529 : kV "RegistryLogLaw" 62 "RegistryLog" y_X_row b_X_row 4 (some .int) 2 := ⟨(in_3 (List.mem_of_getElem? (i := 42) rfl) rfl), (in_3 (List.mem_of_getElem? (i := 43) rfl) rfl), (in_3 (List.mem_of_getElem? (i := 44) rfl) rfl), (in_1 (List.mem_of_getElem? (i := 1) rfl) rfl), (in_3 (List.mem_of_getElem? (i := 45) rfl) rfl), ⟨by decide, by decide, by decide +kernel⟩⟩
theorem k_W_law_545 : kV "RegistryLogLaw" 66 "RegistryLogModel" y_M_row b_M_row 3 (some .int) 2 := ⟨(in_5 (List.mem_of_getElem? (i := 206) rfl) rfl), (in_5 (List.mem_of_getElem? (i := 207) rfl) rfl), (in_5 (List.mem_of_getElem? (i := 208) rfl) rfl), (in_1 (List.mem_of_getElem? (i := 22) rfl) rfl), (in_5 (List.mem_of_getElem? (i := 209) rfl) rfl), ⟨by decide, by decide, by decide +kernel⟩⟩
set_option maxHeartbeats 4000000 in
set_option maxRecDepth 100000 in
theorem ca_6 {p : Program} {l : Launch} {e : Env} {s : State} {m : MethodId} {args : Array Value} {below : List Frame} {meth : Method} {c : Code} {g : gG} (C0 : cF g p s m args meth c b_W_law 7 "RegistryLogLaw" (some .boolean)) (htr : ∀ e, l.admits e → e.platform.stackTraces = false) (hZ : zK g s s.heap) (hg9 : g.2.2.1 = s.heap.size) (hE0 : pS (fun a => a < s.heap.size) g s.heap (g.2.2.2 1) []) {b L : Nat} {xs : Nat → Int32} (hXs : va_X b L xs s s.heap) (hbl : b < s.heap.size) (hL : L ≤ 3584) {x xr o9 : Nat} {adr : Nat → Nat} {i cl sl : Nat} (hi : i + 7 ≤ L) (hcl : cl + 70 ≤ 632517) (hsl : sl + 2000 ≤ 7198554) {Q : State → Prop} (kk : ∀ (H : Heap) (locs : List Loc), RL g H x xr adr o9 → va_S (fW s.heap no_) s.heap H locs → ∀ (ls : Array Slot), lv_has ls 7 [(0, .ref b), (1, .ref x), (2, .ref xr), (3, .ref o9), (4, .int (nI i))] → W p l e room_1 s m args below meth c H locs (cl + 70) (sl + 2000) Q (F0 m 1289 ls [])) : ∀ (H : Heap) (locs : List Loc), RL g H x xr adr o9 → va_S (fW s.heap no_) s.heap H locs → ∀ (ls : Array Slot), lv_has ls 7 [(0, .ref b), (1, .ref x), (2, .ref xr), (3, .ref o9), (4, .int (nI i))] → W p l e room_1 s m args below meth c H locs cl sl Q (F0 m 516 ls []) := by
  obtain ⟨hx, hb, hml, hown, hts, hr, hlk, hK⟩ := id C0
  intro H locs hRL hS ls hl
  obtain ⟨ad, ms, nm, nw, rows, mir, T, f, k, f2, k2, F, A, B, fo, hX, hm, hR, hO, ho, ho9, hom⟩ := hRL
  have hsz : g.2.2.1 ≤ H.size := by rw [hg9]; exact hS.1
  have hZb := Z_new hm (ar_lt ho)
  have hold : ∀ q, mN xr adr q → s.heap.size ≤ q := fun q h => by rw [← hg9]; exact hm.2.2.2.2.2.2 q h
  have hTT := cX_T hX
  have hrc := RF_c hR
  refine lv_aload_n hx hb d_W_law_516 rfl (lv_at hl 1 rfl) ?_
  refine lv_aload_n hx hb d_W_law_517 rfl (lv_at hl 0 rfl) ?_
  refine lv_iload hx hb d_W_law_518 (lv_at hl 4 rfl) ?_
  refine lv_iconst (v := nI 1) hx hb d_W_law_520 (by decide) ?_
  refine n_iadd hx hb d_W_law_521 ?_
  refine va_sld hx hb hXs hbl (fun z => z.elim id (fun z => absurd hbl (Nat.not_lt.mpr z))) hS (vp_in_nI (by omega) (by omega)) d_W_law_522 ?_
  refine W.eq (g2 := F0 m 523 ls [.int (xs (i + 1)), .ref x]) (by rw [nI_clamp (by omega)]) ?_
  refine lv_aload_n hx hb d_W_law_523 rfl (lv_at hl 0 rfl) ?_
  refine lv_iload hx hb d_W_law_524 (lv_at hl 4 rfl) ?_
  refine lv_iconst (v := nI 2) hx hb d_W_law_526 (by decide) ?_
  refine n_iadd hx hb d_W_law_527 ?_
  refine va_sld hx hb hXs hbl (fun z => z.elim id (fun z => absurd hbl (Nat.not_lt.mpr z))) hS (vp_in_nI (by omega) (by omega)) d_W_law_528 ?_
  refine W.eq (g2 := F0 m 529 ls [.int (xs (i + 2)), .int (xs (i + 1)), .ref x]) (by rw [nI_clamp (by omega)]) ?_
  refine aP (rV (As := [.int (xs (i + 1)), .int (xs (i + 2))]) (rest := []) C0 (c_X_row l g _ x (ad 0) (ad 2) ms nm (ad 12) (ad 14) (cX_ob hX) rows (pL_isL (cX_log hX)) (xs (i + 1)) (xs (i + 2))) (zK_S hZ hS (fun _ h => h.elim)) k_W_law_529 rfl rfl ⟨Nat.le_of_ble_eq_true rfl, Nat.le_of_ble_eq_true rfl⟩ (ob_recv hK (cX_ob hX) rfl) rfl hl.1 rfl (Nat.le_of_ble_eq_true rfl) d_W_law_529 ⟨by show cl + 0 ≤ 632517; omega, by show sl + 0 ≤ 7198554; omega⟩) ?_
  intro v hv; subst hv
  refine W.eq (g2 := F0 m 532 ls [.int (rowS (atS rows (xs (i + 1))) (xs (i + 2)))]) rfl ?_
  refine lv_aload_n hx hb d_W_law_532 rfl (lv_at hl 2 rfl) ?_
  refine lv_aload_n hx hb d_W_law_533 rfl (lv_at hl 0 rfl) ?_
  refine lv_iload hx hb d_W_law_534 (lv_at hl 4 rfl) ?_
  refine lv_iconst (v := nI 1) hx hb d_W_law_536 (by decide) ?_
  refine n_iadd hx hb d_W_law_537 ?_
  refine va_sld hx hb hXs hbl (fun z => z.elim id (fun z => absurd hbl (Nat.not_lt.mpr z))) hS (vp_in_nI (by omega) (by omega)) d_W_law_538 ?_
  refine W.eq (g2 := F0 m 539 ls [.int (xs (i + 1)), .ref xr, .int (rowS (atS rows (xs (i + 1))) (xs (i + 2)))]) (by rw [nI_clamp (by omega)]) ?_
  refine lv_aload_n hx hb d_W_law_539 rfl (lv_at hl 0 rfl) ?_
  refine lv_iload hx hb d_W_law_540 (lv_at hl 4 rfl) ?_
  refine lv_iconst (v := nI 2) hx hb d_W_law_542 (by decide) ?_
  refine n_iadd hx hb d_W_law_543 ?_
  refine va_sld hx hb hXs hbl (fun z => z.elim id (fun z => absurd hbl (Nat.not_lt.mpr z))) hS (vp_in_nI (by omega) (by omega)) d_W_law_544 ?_
  refine W.eq (g2 := F0 m 545 ls [.int (xs (i + 2)), .int (xs (i + 1)), .ref xr, .int (rowS (atS rows (xs (i + 1))) (xs (i + 2)))]) (by rw [nI_clamp (by omega)]) ?_
  refine aQ (rV (As := [.int (xs (i + 1)), .int (xs (i + 2))]) (rest := [.int (rowS (atS rows (xs (i + 1))) (xs (i + 2)))]) C0 (c_M_row l g _ xr adr _ _ _ hm rows.length hrc.1 hrc.2 (xs (i + 1)) (xs (i + 2))) (zK_S hZ hS (fun _ h => h.elim)) k_W_law_545 rfl rfl ⟨Nat.le_of_ble_eq_true rfl, Nat.le_of_ble_eq_true rfl⟩ (ob_recv hK hm.1 rfl) rfl hl.1 rfl (Nat.le_of_ble_eq_true rfl) d_W_law_545 ⟨by show cl + 0 ≤ 632517; omega, by show sl + 0 ≤ 7198554; omega⟩) hS hold (fun v H locs F1 A1 B1 hm9 hq9 hz9 hp hS => ?_)
  have hX := cX_mv (Z' := (Zr xr adr o9)) hX (fun a h1 h2 => ⟨hq9 a h1.1, h1⟩)
  have ho := ar_kept ho (hq9 _ hom)
  rw [← row_eq hR] at hp
  obtain ⟨rfl, rfl, rfl, rfl⟩ := hp
  have hR := RF_0 (v := nI 0) hR
  have hm := hm9
  refine W.eq (g2 := F0 m 548 ls [.int (rowS (atS rows (xs (i + 1))) (xs (i + 2))), .int (rowS (atS rows (xs (i + 1))) (xs (i + 2)))]) rfl ?_
  refine lv_icmp_eq (tgt := 1289) hx hb d_W_law_548 (by decide) (fun _ => ?_) (fun c9 => absurd rfl c9)
  refine W.widen (k := cl + 70) (n := sl + 2000) (by omega) (by omega) ?_
  exact kk H _ ⟨_, _, _, _, _, _, _, _, _, _, _, _, _, _, _, hX, hm, hR, hO, ho, ho9, hom⟩ hS ls (lv_sub hl [0, 1, 2, 3, 4] rfl)
theorem k_W_law_560 : kV "RegistryLogLaw" 67 "RegistryLog" y_X_digest b_X_digest 2 (some .long) 1 := ⟨(in_3 (List.mem_of_getElem? (i := 50) rfl) rfl), (in_3 (List.mem_of_getElem? (i := 51) rfl) rfl), (in_3 (List.mem_of_getElem? (i := 52) rfl) rfl), (in_1 (List.mem_of_getElem? (i := 1) rfl) rfl), (in_3 (List.mem_of_getElem? (i := 53) rfl) rfl), ⟨by decide, by decide, by decide +kernel⟩⟩
theorem k_W_law_570 : kV "RegistryLogLaw" 71 "RegistryLogModel" y_M_digest b_M_digest 2 (some .long) 1 := ⟨(in_5 (List.mem_of_getElem? (i := 214) rfl) rfl), (in_5 (List.mem_of_getElem? (i := 215) rfl) rfl), (in_5 (List.mem_of_getElem? (i := 216) rfl) rfl), (in_1 (List.mem_of_getElem? (i := 22) rfl) rfl), (in_5 (List.mem_of_getElem? (i := 217) rfl) rfl), ⟨by decide, by decide, by decide +kernel⟩⟩
set_option maxHeartbeats 4000000 in
set_option maxRecDepth 100000 in
theorem ca_7 {p : Program} {l : Launch} {e : Env} {s : State} {m : MethodId} {args : Array Value} {below : List Frame} {meth : Method} {c : Code} {g : gG} (C0 : cF g p s m args meth c b_W_law 7 "RegistryLogLaw" (some .boolean)) (htr : ∀ e, l.admits e → e.platform.stackTraces = false) (hZ : zK g s s.heap) (hg9 : g.2.2.1 = s.heap.size) (hE0 : pS (fun a => a < s.heap.size) g s.heap (g.2.2.2 1) []) {b L : Nat} {xs : Nat → Int32} (hXs : va_X b L xs s s.heap) (hbl : b < s.heap.size) (hL : L ≤ 3584) {x xr o9 : Nat} {adr : Nat → Nat} {i cl sl : Nat} (hi : i + 7 ≤ L) (hcl : cl + 70 ≤ 632517) (hsl : sl + 2000 ≤ 7198554) {Q : State → Prop} (kk : ∀ (H : Heap) (locs : List Loc), RL g H x xr adr o9 → va_S (fW s.heap no_) s.heap H locs → ∀ (ls : Array Slot), lv_has ls 7 [(0, .ref b), (1, .ref x), (2, .ref xr), (3, .ref o9), (4, .int (nI i))] → W p l e room_1 s m args below meth c H locs (cl + 70) (sl + 2000) Q (F0 m 1289 ls [])) : ∀ (H : Heap) (locs : List Loc), RL g H x xr adr o9 → va_S (fW s.heap no_) s.heap H locs → ∀ (ls : Array Slot), lv_has ls 7 [(0, .ref b), (1, .ref x), (2, .ref xr), (3, .ref o9), (4, .int (nI i))] → W p l e room_1 s m args below meth c H locs cl sl Q (F0 m 553 ls []) := by
  obtain ⟨hx, hb, hml, hown, hts, hr, hlk, hK⟩ := id C0
  intro H locs hRL hS ls hl
  obtain ⟨ad, ms, nm, nw, rows, mir, T, f, k, f2, k2, F, A, B, fo, hX, hm, hR, hO, ho, ho9, hom⟩ := hRL
  have hsz : g.2.2.1 ≤ H.size := by rw [hg9]; exact hS.1
  have hZb := Z_new hm (ar_lt ho)
  have hold : ∀ q, mN xr adr q → s.heap.size ≤ q := fun q h => by rw [← hg9]; exact hm.2.2.2.2.2.2 q h
  have hTT := cX_T hX
  have hrc := RF_c hR
  refine lv_aload_n hx hb d_W_law_553 rfl (lv_at hl 1 rfl) ?_
  refine lv_aload_n hx hb d_W_law_554 rfl (lv_at hl 0 rfl) ?_
  refine lv_iload hx hb d_W_law_555 (lv_at hl 4 rfl) ?_
  refine lv_iconst (v := nI 1) hx hb d_W_law_557 (by decide) ?_
  refine n_iadd hx hb d_W_law_558 ?_
  refine va_sld hx hb hXs hbl (fun z => z.elim id (fun z => absurd hbl (Nat.not_lt.mpr z))) hS (vp_in_nI (by omega) (by omega)) d_W_law_559 ?_
  refine W.eq (g2 := F0 m 560 ls [.int (xs (i + 1)), .ref x]) (by rw [nI_clamp (by omega)]) ?_
  refine aP (rV (As := [.int (xs (i + 1))]) (rest := []) C0 (c_X_digest l g _ x (ad 0) (ad 2) ms nm (ad 12) (ad 14) (cX_ob hX) rows (pL_isL (cX_log hX)) (xs (i + 1))) (zK_S hZ hS (fun _ h => h.elim)) k_W_law_560 rfl rfl ⟨Nat.le_of_ble_eq_true rfl, Nat.le_of_ble_eq_true rfl⟩ (ob_recv hK (cX_ob hX) rfl) rfl hl.1 rfl (Nat.le_of_ble_eq_true rfl) d_W_law_560 ⟨by show cl + 0 ≤ 632517; omega, by show sl + 0 ≤ 7198554; omega⟩) ?_
  intro v hv; subst hv
  refine W.eq (g2 := F0 m 563 ls [.long (digS (atS rows (xs (i + 1))))]) rfl ?_
  refine lv_aload_n hx hb d_W_law_563 rfl (lv_at hl 2 rfl) ?_
  refine lv_aload_n hx hb d_W_law_564 rfl (lv_at hl 0 rfl) ?_
  refine lv_iload hx hb d_W_law_565 (lv_at hl 4 rfl) ?_
  refine lv_iconst (v := nI 1) hx hb d_W_law_567 (by decide) ?_
  refine n_iadd hx hb d_W_law_568 ?_
  refine va_sld hx hb hXs hbl (fun z => z.elim id (fun z => absurd hbl (Nat.not_lt.mpr z))) hS (vp_in_nI (by omega) (by omega)) d_W_law_569 ?_
  refine W.eq (g2 := F0 m 570 ls [.int (xs (i + 1)), .ref xr, .long (digS (atS rows (xs (i + 1))))]) (by rw [nI_clamp (by omega)]) ?_
  refine aQ (rV (As := [.int (xs (i + 1))]) (rest := [.long (digS (atS rows (xs (i + 1))))]) C0 (c_M_digest l g _ xr adr _ _ _ hm rows.length (TTr rows) (UUr rows) (rep_of hR.1.1) hrc.1 (xs (i + 1))) (zK_S hZ hS (fun _ h => h.elim)) k_W_law_570 rfl rfl ⟨Nat.le_of_ble_eq_true rfl, Nat.le_of_ble_eq_true rfl⟩ (ob_recv hK hm.1 rfl) rfl hl.1 rfl (Nat.le_of_ble_eq_true rfl) d_W_law_570 ⟨by show cl + 0 ≤ 632517; omega, by show sl + 0 ≤ 7198554; omega⟩) hS hold (fun v H locs F1 A1 B1 hm9 hq9 hz9 hp hS => ?_)
  have hX := cX_mv (Z' := (Zr xr adr o9)) hX (fun a h1 h2 => ⟨hq9 a h1.1, h1⟩)
  have ho := ar_kept ho (hq9 _ hom)
  rw [← dig_eq hR] at hp
  obtain ⟨rfl, rfl, rfl, rfl⟩ := hp
  have hR := RF_0 (v := nI 0) hR
  have hm := hm9
  refine W.eq (g2 := F0 m 573 ls [.long (digS (atS rows (xs (i + 1)))), .long (digS (atS rows (xs (i + 1))))]) rfl ?_
  refine W.lcmp hx hb d_W_law_573 ?_
  refine lv_if_eq (tgt := 1289) hx hb d_W_law_574 (by decide) (fun _ => ?_) (fun c9 => absurd (lg_z.mpr rfl) c9)
  refine W.widen (k := cl + 70) (n := sl + 2000) (by omega) (by omega) ?_
  exact kk H _ ⟨_, _, _, _, _, _, _, _, _, _, _, _, _, _, _, hX, hm, hR, hO, ho, ho9, hom⟩ hS ls (lv_sub hl [0, 1, 2, 3, 4] rfl)
theorem k_W_law_586 : kV "RegistryLogLaw" 72 "RegistryLog" y_X_head b_X_head 2 (some .long) 1 := ⟨(in_3 (List.mem_of_getElem? (i := 54) rfl) rfl), (in_3 (List.mem_of_getElem? (i := 55) rfl) rfl), (in_3 (List.mem_of_getElem? (i := 56) rfl) rfl), (in_1 (List.mem_of_getElem? (i := 1) rfl) rfl), (in_3 (List.mem_of_getElem? (i := 57) rfl) rfl), ⟨by decide, by decide, by decide +kernel⟩⟩
theorem k_W_law_596 : kV "RegistryLogLaw" 75 "RegistryLogModel" y_M_head b_M_head 2 (some .long) 1 := ⟨(in_5 (List.mem_of_getElem? (i := 227) rfl) rfl), (in_5 (List.mem_of_getElem? (i := 228) rfl) rfl), (in_5 (List.mem_of_getElem? (i := 229) rfl) rfl), (in_1 (List.mem_of_getElem? (i := 22) rfl) rfl), (in_5 (List.mem_of_getElem? (i := 230) rfl) rfl), ⟨by decide, by decide, by decide +kernel⟩⟩
set_option maxHeartbeats 4000000 in
set_option maxRecDepth 100000 in
theorem ca_8 {p : Program} {l : Launch} {e : Env} {s : State} {m : MethodId} {args : Array Value} {below : List Frame} {meth : Method} {c : Code} {g : gG} (C0 : cF g p s m args meth c b_W_law 7 "RegistryLogLaw" (some .boolean)) (htr : ∀ e, l.admits e → e.platform.stackTraces = false) (hZ : zK g s s.heap) (hg9 : g.2.2.1 = s.heap.size) (hE0 : pS (fun a => a < s.heap.size) g s.heap (g.2.2.2 1) []) {b L : Nat} {xs : Nat → Int32} (hXs : va_X b L xs s s.heap) (hbl : b < s.heap.size) (hL : L ≤ 3584) {x xr o9 : Nat} {adr : Nat → Nat} {i cl sl : Nat} (hi : i + 7 ≤ L) (hcl : cl + 70 ≤ 632517) (hsl : sl + 2000 ≤ 7198554) {Q : State → Prop} (kk : ∀ (H : Heap) (locs : List Loc), RL g H x xr adr o9 → va_S (fW s.heap no_) s.heap H locs → ∀ (ls : Array Slot), lv_has ls 7 [(0, .ref b), (1, .ref x), (2, .ref xr), (3, .ref o9), (4, .int (nI i))] → W p l e room_1 s m args below meth c H locs (cl + 70) (sl + 2000) Q (F0 m 1289 ls [])) : ∀ (H : Heap) (locs : List Loc), RL g H x xr adr o9 → va_S (fW s.heap no_) s.heap H locs → ∀ (ls : Array Slot), lv_has ls 7 [(0, .ref b), (1, .ref x), (2, .ref xr), (3, .ref o9), (4, .int (nI i))] → W p l e room_1 s m args below meth c H locs cl sl Q (F0 m 579 ls []) := by
  obtain ⟨hx, hb, hml, hown, hts, hr, hlk, hK⟩ := id C0
  intro H locs hRL hS ls hl
  obtain ⟨ad, ms, nm, nw, rows, mir, T, f, k, f2, k2, F, A, B, fo, hX, hm, hR, hO, ho, ho9, hom⟩ := hRL
  have hsz : g.2.2.1 ≤ H.size := by rw [hg9]; exact hS.1
  have hZb := Z_new hm (ar_lt ho)
  have hold : ∀ q, mN xr adr q → s.heap.size ≤ q := fun q h => by rw [← hg9]; exact hm.2.2.2.2.2.2 q h
  have hTT := cX_T hX
  have hrc := RF_c hR
  refine lv_aload_n hx hb d_W_law_579 rfl (lv_at hl 1 rfl) ?_
  refine lv_aload_n hx hb d_W_law_580 rfl (lv_at hl 0 rfl) ?_
  refine lv_iload hx hb d_W_law_581 (lv_at hl 4 rfl) ?_
  refine lv_iconst (v := nI 1) hx hb d_W_law_583 (by decide) ?_
  refine n_iadd hx hb d_W_law_584 ?_
  refine va_sld hx hb hXs hbl (fun z => z.elim id (fun z => absurd hbl (Nat.not_lt.mpr z))) hS (vp_in_nI (by omega) (by omega)) d_W_law_585 ?_
  refine W.eq (g2 := F0 m 586 ls [.int (xs (i + 1)), .ref x]) (by rw [nI_clamp (by omega)]) ?_
  refine aP (rV (As := [.int (xs (i + 1))]) (rest := []) C0 (c_X_head l g _ x (ad 0) (ad 2) ms nm (ad 12) (ad 14) (cX_ob hX) rows (pL_isL (cX_log hX)) (xs (i + 1))) (zK_S hZ hS (fun _ h => h.elim)) k_W_law_586 rfl rfl ⟨Nat.le_of_ble_eq_true rfl, Nat.le_of_ble_eq_true rfl⟩ (ob_recv hK (cX_ob hX) rfl) rfl hl.1 rfl (Nat.le_of_ble_eq_true rfl) d_W_law_586 ⟨by show cl + 0 ≤ 632517; omega, by show sl + 0 ≤ 7198554; omega⟩) ?_
  intro v hv; subst hv
  refine W.eq (g2 := F0 m 589 ls [.long (headS rows (xs (i + 1)))]) rfl ?_
  refine lv_aload_n hx hb d_W_law_589 rfl (lv_at hl 2 rfl) ?_
  refine lv_aload_n hx hb d_W_law_590 rfl (lv_at hl 0 rfl) ?_
  refine lv_iload hx hb d_W_law_591 (lv_at hl 4 rfl) ?_
  refine lv_iconst (v := nI 1) hx hb d_W_law_593 (by decide) ?_
  refine n_iadd hx hb d_W_law_594 ?_
  refine va_sld hx hb hXs hbl (fun z => z.elim id (fun z => absurd hbl (Nat.not_lt.mpr z))) hS (vp_in_nI (by omega) (by omega)) d_W_law_595 ?_
  refine W.eq (g2 := F0 m 596 ls [.int (xs (i + 1)), .ref xr, .long (headS rows (xs (i + 1)))]) (by rw [nI_clamp (by omega)]) ?_
  refine aQ (rV (As := [.int (xs (i + 1))]) (rest := [.long (headS rows (xs (i + 1)))]) C0 (c_M_head l g _ xr adr _ _ _ hm rows.length (TTr rows) (UUr rows) (rep_of hR.1.1) hrc.1 (xs (i + 1))) (zK_S hZ hS (fun _ h => h.elim)) k_W_law_596 rfl rfl ⟨Nat.le_of_ble_eq_true rfl, Nat.le_of_ble_eq_true rfl⟩ (ob_recv hK hm.1 rfl) rfl hl.1 rfl (Nat.le_of_ble_eq_true rfl) d_W_law_596 ⟨by show cl + 0 ≤ 632517; omega, by show sl + 0 ≤ 7198554; omega⟩) hS hold (fun v H locs F1 A1 B1 hm9 hq9 hz9 hp hS => ?_)
  have hX := cX_mv (Z' := (Zr xr adr o9)) hX (fun a h1 h2 => ⟨hq9 a h1.1, h1⟩)
  have ho := ar_kept ho (hq9 _ hom)
  rw [← head_eq hR] at hp
  obtain ⟨rfl, rfl, rfl, b1, b2, rfl⟩ := hp
  have hR := RF_0 (v := nI 0) (RF_of hR ⟨rfl, rfl, rfl⟩ (lo_rf _) (hdB_k _ b1 b2))
  have hm := hm9
  refine W.eq (g2 := F0 m 599 ls [.long (headS rows (xs (i + 1))), .long (headS rows (xs (i + 1)))]) rfl ?_
  refine W.lcmp hx hb d_W_law_599 ?_
  refine lv_if_eq (tgt := 1289) hx hb d_W_law_600 (by decide) (fun _ => ?_) (fun c9 => absurd (lg_z.mpr rfl) c9)
  refine W.widen (k := cl + 70) (n := sl + 2000) (by omega) (by omega) ?_
  exact kk H _ ⟨_, _, _, _, _, _, _, _, _, _, _, _, _, _, _, hX, hm, hR, hO, ho, ho9, hom⟩ hS ls (lv_sub hl [0, 1, 2, 3, 4] rfl)
theorem k_W_law_686 : kV "RegistryLogLaw" 84 "RegistryLog" y_X_proof b_X_proof 2 (some .long) 1 := ⟨(in_3 (List.mem_of_getElem? (i := 97) rfl) rfl), (in_3 (List.mem_of_getElem? (i := 98) rfl) rfl), (in_3 (List.mem_of_getElem? (i := 99) rfl) rfl), (in_1 (List.mem_of_getElem? (i := 1) rfl) rfl), (in_3 (List.mem_of_getElem? (i := 100) rfl) rfl), ⟨by decide, by decide, by decide +kernel⟩⟩
theorem k_W_law_696 : kV "RegistryLogLaw" 87 "RegistryLogModel" y_M_proof b_M_proof 2 (some .long) 1 := ⟨(in_6 (List.mem_of_getElem? (i := 17) rfl) rfl), (in_6 (List.mem_of_getElem? (i := 18) rfl) rfl), (in_6 (List.mem_of_getElem? (i := 19) rfl) rfl), (in_1 (List.mem_of_getElem? (i := 22) rfl) rfl), (in_6 (List.mem_of_getElem? (i := 20) rfl) rfl), ⟨by decide, by decide, by decide +kernel⟩⟩
set_option maxHeartbeats 4000000 in
set_option maxRecDepth 100000 in
theorem ca_11 {p : Program} {l : Launch} {e : Env} {s : State} {m : MethodId} {args : Array Value} {below : List Frame} {meth : Method} {c : Code} {g : gG} (C0 : cF g p s m args meth c b_W_law 7 "RegistryLogLaw" (some .boolean)) (htr : ∀ e, l.admits e → e.platform.stackTraces = false) (hZ : zK g s s.heap) (hg9 : g.2.2.1 = s.heap.size) (hE0 : pS (fun a => a < s.heap.size) g s.heap (g.2.2.2 1) []) {b L : Nat} {xs : Nat → Int32} (hXs : va_X b L xs s s.heap) (hbl : b < s.heap.size) (hL : L ≤ 3584) {x xr o9 : Nat} {adr : Nat → Nat} {i cl sl : Nat} (hi : i + 7 ≤ L) (hcl : cl + 70 ≤ 632517) (hsl : sl + 2000 ≤ 7198554) {Q : State → Prop} (kk : ∀ (H : Heap) (locs : List Loc), RL g H x xr adr o9 → va_S (fW s.heap no_) s.heap H locs → ∀ (ls : Array Slot), lv_has ls 7 [(0, .ref b), (1, .ref x), (2, .ref xr), (3, .ref o9), (4, .int (nI i))] → W p l e room_1 s m args below meth c H locs (cl + 70) (sl + 2000) Q (F0 m 1289 ls [])) : ∀ (H : Heap) (locs : List Loc), RL g H x xr adr o9 → va_S (fW s.heap no_) s.heap H locs → ∀ (ls : Array Slot), lv_has ls 7 [(0, .ref b), (1, .ref x), (2, .ref xr), (3, .ref o9), (4, .int (nI i))] → W p l e room_1 s m args below meth c H locs cl sl Q (F0 m 679 ls []) := by
  obtain ⟨hx, hb, hml, hown, hts, hr, hlk, hK⟩ := id C0
  intro H locs hRL hS ls hl
  obtain ⟨ad, ms, nm, nw, rows, mir, T, f, k, f2, k2, F, A, B, fo, hX, hm, hR, hO, ho, ho9, hom⟩ := hRL
  have hsz : g.2.2.1 ≤ H.size := by rw [hg9]; exact hS.1
  have hZb := Z_new hm (ar_lt ho)
  have hold : ∀ q, mN xr adr q → s.heap.size ≤ q := fun q h => by rw [← hg9]; exact hm.2.2.2.2.2.2 q h
  have hTT := cX_T hX
  have hrc := RF_c hR
  refine lv_aload_n hx hb d_W_law_679 rfl (lv_at hl 1 rfl) ?_
  refine lv_aload_n hx hb d_W_law_680 rfl (lv_at hl 0 rfl) ?_
  refine lv_iload hx hb d_W_law_681 (lv_at hl 4 rfl) ?_
  refine lv_iconst (v := nI 1) hx hb d_W_law_683 (by decide) ?_
  refine n_iadd hx hb d_W_law_684 ?_
  refine va_sld hx hb hXs hbl (fun z => z.elim id (fun z => absurd hbl (Nat.not_lt.mpr z))) hS (vp_in_nI (by omega) (by omega)) d_W_law_685 ?_
  refine W.eq (g2 := F0 m 686 ls [.int (xs (i + 1)), .ref x]) (by rw [nI_clamp (by omega)]) ?_
  refine aP (rV (As := [.int (xs (i + 1))]) (rest := []) C0 (c_X_proof l g _ x (ad 0) (ad 2) ms nm (ad 12) (ad 14) (cX_ob hX) (ad 13) f k 0 (cX_pr hX) (xs (i + 1))) (zK_S hZ hS (fun _ h => h.elim)) k_W_law_686 rfl rfl ⟨Nat.le_of_ble_eq_true rfl, Nat.le_of_ble_eq_true rfl⟩ (ob_recv hK (cX_ob hX) rfl) rfl hl.1 rfl (Nat.le_of_ble_eq_true rfl) d_W_law_686 ⟨by show cl + 0 ≤ 632517; omega, by show sl + 0 ≤ 7198554; omega⟩) ?_
  intro v hv; subst hv
  refine W.eq (g2 := F0 m 689 ls [.long (getS f k (xs (i + 1)))]) rfl ?_
  refine lv_aload_n hx hb d_W_law_689 rfl (lv_at hl 2 rfl) ?_
  refine lv_aload_n hx hb d_W_law_690 rfl (lv_at hl 0 rfl) ?_
  refine lv_iload hx hb d_W_law_691 (lv_at hl 4 rfl) ?_
  refine lv_iconst (v := nI 1) hx hb d_W_law_693 (by decide) ?_
  refine n_iadd hx hb d_W_law_694 ?_
  refine va_sld hx hb hXs hbl (fun z => z.elim id (fun z => absurd hbl (Nat.not_lt.mpr z))) hS (vp_in_nI (by omega) (by omega)) d_W_law_695 ?_
  refine W.eq (g2 := F0 m 696 ls [.int (xs (i + 1)), .ref xr, .long (getS f k (xs (i + 1)))]) (by rw [nI_clamp (by omega)]) ?_
  refine aQ (rV (As := [.int (xs (i + 1))]) (rest := [.long (getS f k (xs (i + 1)))]) C0 (c_M_proof l g _ xr adr _ _ _ hm k hR.2.2.1.1 hR.2.2.1.2.2 (xs (i + 1))) (zK_S hZ hS (fun _ h => h.elim)) k_W_law_696 rfl rfl ⟨Nat.le_of_ble_eq_true rfl, Nat.le_of_ble_eq_true rfl⟩ (ob_recv hK hm.1 rfl) rfl hl.1 rfl (Nat.le_of_ble_eq_true rfl) d_W_law_696 ⟨by show cl + 0 ≤ 632517; omega, by show sl + 0 ≤ 7198554; omega⟩) hS hold (fun v H locs F1 A1 B1 hm9 hq9 hz9 hp hS => ?_)
  have hX := cX_mv (Z' := (Zr xr adr o9)) hX (fun a h1 h2 => ⟨hq9 a h1.1, h1⟩)
  have ho := ar_kept ho (hq9 _ hom)
  rw [get_eq hR.2.2.1.2.2 hR.2.2.1.2.1] at hp
  obtain ⟨rfl, rfl, rfl, rfl⟩ := hp
  have hR := RF_0 (v := nI 0) hR
  have hm := hm9
  refine W.eq (g2 := F0 m 699 ls [.long (getS f k (xs (i + 1))), .long (getS f k (xs (i + 1)))]) rfl ?_
  refine W.lcmp hx hb d_W_law_699 ?_
  refine lv_if_eq (tgt := 1289) hx hb d_W_law_700 (by decide) (fun _ => ?_) (fun c9 => absurd (lg_z.mpr rfl) c9)
  refine W.widen (k := cl + 70) (n := sl + 2000) (by omega) (by omega) ?_
  exact kk H _ ⟨_, _, _, _, _, _, _, _, _, _, _, _, _, _, _, hX, hm, hR, hO, ho, ho9, hom⟩ hS ls (lv_sub hl [0, 1, 2, 3, 4] rfl)
theorem k_W_law_1109 : kV "RegistryLogLaw" 113 "RegistryLog" y_X_mirrored b_X_mirrored 3 (some .long) 1 := ⟨(in_3 (List.mem_of_getElem? (i := 182) rfl) rfl), (in_3 (List.mem_of_getElem? (i := 183) rfl) rfl), (in_3 (List.mem_of_getElem? (i := 184) rfl) rfl), (in_1 (List.mem_of_getElem? (i := 1) rfl) rfl), (in_3 (List.mem_of_getElem? (i := 185) rfl) rfl), ⟨by decide, by decide, by decide +kernel⟩⟩
theorem k_W_law_1119 : kV "RegistryLogLaw" 116 "RegistryLogModel" y_M_mirrored b_M_mirrored 2 (some .long) 1 := ⟨(in_6 (List.mem_of_getElem? (i := 44) rfl) rfl), (in_6 (List.mem_of_getElem? (i := 45) rfl) rfl), (in_6 (List.mem_of_getElem? (i := 46) rfl) rfl), (in_1 (List.mem_of_getElem? (i := 22) rfl) rfl), (in_6 (List.mem_of_getElem? (i := 47) rfl) rfl), ⟨by decide, by decide, by decide +kernel⟩⟩
set_option maxHeartbeats 4000000 in
set_option maxRecDepth 100000 in
theorem ca_17 {p : Program} {l : Launch} {e : Env} {s : State} {m : MethodId} {args : Array Value} {below : List Frame} {meth : Method} {c : Code} {g : gG} (C0 : cF g p s m args meth c b_W_law 7 "RegistryLogLaw" (some .boolean)) (htr : ∀ e, l.admits e → e.platform.stackTraces = false) (hZ : zK g s s.heap) (hg9 : g.2.2.1 = s.heap.size) (hE0 : pS (fun a => a < s.heap.size) g s.heap (g.2.2.2 1) []) {b L : Nat} {xs : Nat → Int32} (hXs : va_X b L xs s s.heap) (hbl : b < s.heap.size) (hL : L ≤ 3584) {x xr o9 : Nat} {adr : Nat → Nat} {i cl sl : Nat} (hi : i + 7 ≤ L) (hcl : cl + 70 ≤ 632517) (hsl : sl + 2000 ≤ 7198554) {Q : State → Prop} (kk : ∀ (H : Heap) (locs : List Loc), RL g H x xr adr o9 → va_S (fW s.heap no_) s.heap H locs → ∀ (ls : Array Slot), lv_has ls 7 [(0, .ref b), (1, .ref x), (2, .ref xr), (3, .ref o9), (4, .int (nI i))] → W p l e room_1 s m args below meth c H locs (cl + 70) (sl + 2000) Q (F0 m 1289 ls [])) : ∀ (H : Heap) (locs : List Loc), RL g H x xr adr o9 → va_S (fW s.heap no_) s.heap H locs → ∀ (ls : Array Slot), lv_has ls 7 [(0, .ref b), (1, .ref x), (2, .ref xr), (3, .ref o9), (4, .int (nI i))] → W p l e room_1 s m args below meth c H locs cl sl Q (F0 m 1102 ls []) := by
  obtain ⟨hx, hb, hml, hown, hts, hr, hlk, hK⟩ := id C0
  intro H locs hRL hS ls hl
  obtain ⟨ad, ms, nm, nw, rows, mir, T, f, k, f2, k2, F, A, B, fo, hX, hm, hR, hO, ho, ho9, hom⟩ := hRL
  have hsz : g.2.2.1 ≤ H.size := by rw [hg9]; exact hS.1
  have hZb := Z_new hm (ar_lt ho)
  have hold : ∀ q, mN xr adr q → s.heap.size ≤ q := fun q h => by rw [← hg9]; exact hm.2.2.2.2.2.2 q h
  have hTT := cX_T hX
  have hrc := RF_c hR
  refine lv_aload_n hx hb d_W_law_1102 rfl (lv_at hl 1 rfl) ?_
  refine lv_aload_n hx hb d_W_law_1103 rfl (lv_at hl 0 rfl) ?_
  refine lv_iload hx hb d_W_law_1104 (lv_at hl 4 rfl) ?_
  refine lv_iconst (v := nI 1) hx hb d_W_law_1106 (by decide) ?_
  refine n_iadd hx hb d_W_law_1107 ?_
  refine va_sld hx hb hXs hbl (fun z => z.elim id (fun z => absurd hbl (Nat.not_lt.mpr z))) hS (vp_in_nI (by omega) (by omega)) d_W_law_1108 ?_
  refine W.eq (g2 := F0 m 1109 ls [.int (xs (i + 1)), .ref x]) (by rw [nI_clamp (by omega)]) ?_
  obtain ⟨mf, fms, hmf⟩ := id hX.1.2.1
  refine aP (rV (As := [.int (xs (i + 1))]) (rest := []) C0 (c_X_mirrored l g _ x (ad 0) (ad 2) ms nm (ad 12) (ad 14) (cX_ob hX) mf fms mir (cM_isL hX.2.2.1 hmf) (pL_isL hX.1.2.2.1) (xs (i + 1))) (zK_S hZ hS (fun _ h => h.elim)) k_W_law_1109 rfl rfl ⟨Nat.le_of_ble_eq_true rfl, Nat.le_of_ble_eq_true rfl⟩ (ob_recv hK (cX_ob hX) rfl) rfl hl.1 rfl (Nat.le_of_ble_eq_true rfl) d_W_law_1109 ⟨by show cl + 0 ≤ 632517; omega, by show sl + 0 ≤ 7198554; omega⟩) ?_
  intro v hv; subst hv
  refine W.eq (g2 := F0 m 1112 ls [.long (headS (mirS mir (xs (i + 1))) (nI (mirS mir (xs (i + 1))).length))]) rfl ?_
  refine lv_aload_n hx hb d_W_law_1112 rfl (lv_at hl 2 rfl) ?_
  refine lv_aload_n hx hb d_W_law_1113 rfl (lv_at hl 0 rfl) ?_
  refine lv_iload hx hb d_W_law_1114 (lv_at hl 4 rfl) ?_
  refine lv_iconst (v := nI 1) hx hb d_W_law_1116 (by decide) ?_
  refine n_iadd hx hb d_W_law_1117 ?_
  refine va_sld hx hb hXs hbl (fun z => z.elim id (fun z => absurd hbl (Nat.not_lt.mpr z))) hS (vp_in_nI (by omega) (by omega)) d_W_law_1118 ?_
  refine W.eq (g2 := F0 m 1119 ls [.int (xs (i + 1)), .ref xr, .long (headS (mirS mir (xs (i + 1))) (nI (mirS mir (xs (i + 1))).length))]) (by rw [nI_clamp (by omega)]) ?_
  refine aQ (rV (As := [.int (xs (i + 1))]) (rest := [.long (headS (mirS mir (xs (i + 1))) (nI (mirS mir (xs (i + 1))).length))]) C0 (c_M_mirrored l g _ xr adr _ _ _ hm rows.length (TTr rows) (UUr rows) (rep_of hR.1.1) hrc.1 (fun j => (mir j).length) (RF_m hR) (xs (i + 1))) (zK_S hZ hS (fun _ h => h.elim)) k_W_law_1119 rfl rfl ⟨Nat.le_of_ble_eq_true rfl, Nat.le_of_ble_eq_true rfl⟩ (ob_recv hK hm.1 rfl) rfl hl.1 rfl (Nat.le_of_ble_eq_true rfl) d_W_law_1119 ⟨by show cl + 0 ≤ 632517; omega, by show sl + 0 ≤ 7198554; omega⟩) hS hold (fun v H locs F1 A1 B1 hm9 hq9 hz9 hp hS => ?_)
  have hX := cX_mv (Z' := (Zr xr adr o9)) hX (fun a h1 h2 => ⟨hq9 a h1.1, h1⟩)
  have ho := ar_kept ho (hq9 _ hom)
  rw [← mir_eq hR hO] at hp
  obtain ⟨rfl, rfl, rfl, b1, b2, rfl⟩ := hp
  have hR := RF_0 (v := nI 0) (RF_of hR ⟨rfl, rfl, rfl⟩ (lo_rf _) (hdB_k _ b1 b2))
  have hm := hm9
  refine W.eq (g2 := F0 m 1122 ls [.long (headS (mirS mir (xs (i + 1))) (nI (mirS mir (xs (i + 1))).length)), .long (headS (mirS mir (xs (i + 1))) (nI (mirS mir (xs (i + 1))).length))]) rfl ?_
  refine W.lcmp hx hb d_W_law_1122 ?_
  refine lv_if_eq (tgt := 1289) hx hb d_W_law_1123 (by decide) (fun _ => ?_) (fun c9 => absurd (lg_z.mpr rfl) c9)
  refine W.widen (k := cl + 70) (n := sl + 2000) (by omega) (by omega) ?_
  exact kk H _ ⟨_, _, _, _, _, _, _, _, _, _, _, _, _, _, _, hX, hm, hR, hO, ho, ho9, hom⟩ hS ls (lv_sub hl [0, 1, 2, 3, 4] rfl)
theorem k_W_law_1135 : kV "RegistryLogLaw" 117 "RegistryLog" y_X_apart b_X_apart 4 (some .int) 1 := ⟨(in_3 (List.mem_of_getElem? (i := 186) rfl) rfl), (in_3 (List.mem_of_getElem? (i := 187) rfl) rfl), (in_3 (List.mem_of_getElem? (i := 188) rfl) rfl), (in_1 (List.mem_of_getElem? (i := 1) rfl) rfl), (in_3 (List.mem_of_getElem? (i := 189) rfl) rfl), ⟨by decide, by decide, by decide +kernel⟩⟩
theorem k_W_law_1145 : kV "RegistryLogLaw" 120 "RegistryLogModel" y_M_apart b_M_apart 3 (some .int) 1 := ⟨(in_6 (List.mem_of_getElem? (i := 48) rfl) rfl), (in_6 (List.mem_of_getElem? (i := 49) rfl) rfl), (in_6 (List.mem_of_getElem? (i := 50) rfl) rfl), (in_1 (List.mem_of_getElem? (i := 22) rfl) rfl), (in_6 (List.mem_of_getElem? (i := 51) rfl) rfl), ⟨by decide, by decide, by decide +kernel⟩⟩
set_option maxHeartbeats 4000000 in
set_option maxRecDepth 100000 in
theorem ca_18 {p : Program} {l : Launch} {e : Env} {s : State} {m : MethodId} {args : Array Value} {below : List Frame} {meth : Method} {c : Code} {g : gG} (C0 : cF g p s m args meth c b_W_law 7 "RegistryLogLaw" (some .boolean)) (htr : ∀ e, l.admits e → e.platform.stackTraces = false) (hZ : zK g s s.heap) (hg9 : g.2.2.1 = s.heap.size) (hE0 : pS (fun a => a < s.heap.size) g s.heap (g.2.2.2 1) []) {b L : Nat} {xs : Nat → Int32} (hXs : va_X b L xs s s.heap) (hbl : b < s.heap.size) (hL : L ≤ 3584) {x xr o9 : Nat} {adr : Nat → Nat} {i cl sl : Nat} (hi : i + 7 ≤ L) (hcl : cl + 70 ≤ 632517) (hsl : sl + 2000 ≤ 7198554) {Q : State → Prop} (kk : ∀ (H : Heap) (locs : List Loc), RL g H x xr adr o9 → va_S (fW s.heap no_) s.heap H locs → ∀ (ls : Array Slot), lv_has ls 7 [(0, .ref b), (1, .ref x), (2, .ref xr), (3, .ref o9), (4, .int (nI i))] → W p l e room_1 s m args below meth c H locs (cl + 70) (sl + 2000) Q (F0 m 1289 ls [])) : ∀ (H : Heap) (locs : List Loc), RL g H x xr adr o9 → va_S (fW s.heap no_) s.heap H locs → ∀ (ls : Array Slot), lv_has ls 7 [(0, .ref b), (1, .ref x), (2, .ref xr), (3, .ref o9), (4, .int (nI i))] → W p l e room_1 s m args below meth c H locs cl sl Q (F0 m 1128 ls []) := by
  obtain ⟨hx, hb, hml, hown, hts, hr, hlk, hK⟩ := id C0
  intro H locs hRL hS ls hl
  obtain ⟨ad, ms, nm, nw, rows, mir, T, f, k, f2, k2, F, A, B, fo, hX, hm, hR, hO, ho, ho9, hom⟩ := hRL
  have hsz : g.2.2.1 ≤ H.size := by rw [hg9]; exact hS.1
  have hZb := Z_new hm (ar_lt ho)
  have hold : ∀ q, mN xr adr q → s.heap.size ≤ q := fun q h => by rw [← hg9]; exact hm.2.2.2.2.2.2 q h
  have hTT := cX_T hX
  have hrc := RF_c hR
  refine lv_aload_n hx hb d_W_law_1128 rfl (lv_at hl 1 rfl) ?_
  refine lv_aload_n hx hb d_W_law_1129 rfl (lv_at hl 0 rfl) ?_
  refine lv_iload hx hb d_W_law_1130 (lv_at hl 4 rfl) ?_
  refine lv_iconst (v := nI 1) hx hb d_W_law_1132 (by decide) ?_
  refine n_iadd hx hb d_W_law_1133 ?_
  refine va_sld hx hb hXs hbl (fun z => z.elim id (fun z => absurd hbl (Nat.not_lt.mpr z))) hS (vp_in_nI (by omega) (by omega)) d_W_law_1134 ?_
  refine W.eq (g2 := F0 m 1135 ls [.int (xs (i + 1)), .ref x]) (by rw [nI_clamp (by omega)]) ?_
  obtain ⟨mf, fms, hmf⟩ := id hX.1.2.1
  refine aP (rV (As := [.int (xs (i + 1))]) (rest := []) C0 (c_X_apart l g _ x (ad 0) (ad 2) ms nm (ad 12) (ad 14) (cX_ob hX) mf fms mir (cM_isL hX.2.2.1 hmf) (pL_isL hX.1.2.2.1) rows (pL_isL (cX_log hX)) (xs (i + 1))) (zK_S hZ hS (fun _ h => h.elim)) k_W_law_1135 rfl rfl ⟨Nat.le_of_ble_eq_true rfl, Nat.le_of_ble_eq_true rfl⟩ (ob_recv hK (cX_ob hX) rfl) rfl hl.1 rfl (Nat.le_of_ble_eq_true rfl) d_W_law_1135 ⟨by show cl + 0 ≤ 632517; omega, by show sl + 0 ≤ 7198554; omega⟩) ?_
  intro v hv; subst hv
  refine W.eq (g2 := F0 m 1138 ls [.int (apF (dS (mirS mir (xs (i + 1)))) (dS rows) (mirS mir (xs (i + 1))).length 0)]) rfl ?_
  refine lv_aload_n hx hb d_W_law_1138 rfl (lv_at hl 2 rfl) ?_
  refine lv_aload_n hx hb d_W_law_1139 rfl (lv_at hl 0 rfl) ?_
  refine lv_iload hx hb d_W_law_1140 (lv_at hl 4 rfl) ?_
  refine lv_iconst (v := nI 1) hx hb d_W_law_1142 (by decide) ?_
  refine n_iadd hx hb d_W_law_1143 ?_
  refine va_sld hx hb hXs hbl (fun z => z.elim id (fun z => absurd hbl (Nat.not_lt.mpr z))) hS (vp_in_nI (by omega) (by omega)) d_W_law_1144 ?_
  refine W.eq (g2 := F0 m 1145 ls [.int (xs (i + 1)), .ref xr, .int (apF (dS (mirS mir (xs (i + 1)))) (dS rows) (mirS mir (xs (i + 1))).length 0)]) (by rw [nI_clamp (by omega)]) ?_
  refine aQ (rV (As := [.int (xs (i + 1))]) (rest := [.int (apF (dS (mirS mir (xs (i + 1)))) (dS rows) (mirS mir (xs (i + 1))).length 0)]) C0 (c_M_apart l g _ xr adr _ _ _ hm rows.length (TTr rows) (UUr rows) (rep_of hR.1.1) hrc.1 (fun j => (mir j).length) (RF_m hR) (xs (i + 1))) (zK_S hZ hS (fun _ h => h.elim)) k_W_law_1145 rfl rfl ⟨Nat.le_of_ble_eq_true rfl, Nat.le_of_ble_eq_true rfl⟩ (ob_recv hK hm.1 rfl) rfl hl.1 rfl (Nat.le_of_ble_eq_true rfl) d_W_law_1145 ⟨by show cl + 0 ≤ 632517; omega, by show sl + 0 ≤ 7198554; omega⟩) hS hold (fun v H locs F1 A1 B1 hm9 hq9 hz9 hp hS => ?_)
  have hX := cX_mv (Z' := (Zr xr adr o9)) hX (fun a h1 h2 => ⟨hq9 a h1.1, h1⟩)
  have ho := ar_kept ho (hq9 _ hom)
  rw [← apa_eq hR hO] at hp
  obtain ⟨rfl, rfl, rfl, b1, b2, rfl⟩ := hp
  have hR := RF_0 (v := nI 0) (RF_of hR ⟨rfl, rfl, rfl⟩ (lo_rf _) (hdB_k _ b1 b2))
  have hm := hm9
  refine W.eq (g2 := F0 m 1148 ls [.int (apF (dS (mirS mir (xs (i + 1)))) (dS rows) (mirS mir (xs (i + 1))).length 0), .int (apF (dS (mirS mir (xs (i + 1)))) (dS rows) (mirS mir (xs (i + 1))).length 0)]) rfl ?_
  refine lv_icmp_eq (tgt := 1289) hx hb d_W_law_1148 (by decide) (fun _ => ?_) (fun c9 => absurd rfl c9)
  refine W.widen (k := cl + 70) (n := sl + 2000) (by omega) (by omega) ?_
  exact kk H _ ⟨_, _, _, _, _, _, _, _, _, _, _, _, _, _, _, hX, hm, hR, hO, ho, ho9, hom⟩ hS ls (lv_sub hl [0, 1, 2, 3, 4] rfl)
