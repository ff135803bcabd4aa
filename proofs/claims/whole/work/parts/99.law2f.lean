theorem k_W_law_1029 : kV "RegistryLogLaw" 104 "RegistryLog" y_X_follow b_X_follow 7 (some .int) 2 := ⟨(in_3 (List.mem_of_getElem? (i := 152) rfl) rfl), (in_3 (List.mem_of_getElem? (i := 153) rfl) rfl), (in_3 (List.mem_of_getElem? (i := 154) rfl) rfl), (in_1 (List.mem_of_getElem? (i := 1) rfl) rfl), (in_3 (List.mem_of_getElem? (i := 155) rfl) rfl), ⟨by decide, by decide, by decide +kernel⟩⟩
theorem k_W_law_1045 : kV "RegistryLogLaw" 107 "RegistryLogModel" y_M_follow b_M_follow 4 (some .int) 2 := ⟨(in_6 (List.mem_of_getElem? (i := 33) rfl) rfl), (in_6 (List.mem_of_getElem? (i := 34) rfl) rfl), (in_6 (List.mem_of_getElem? (i := 35) rfl) rfl), (in_1 (List.mem_of_getElem? (i := 22) rfl) rfl), (in_6 (List.mem_of_getElem? (i := 36) rfl) rfl), ⟨by decide, by decide, by decide +kernel⟩⟩
set_option maxHeartbeats 4000000 in
set_option maxRecDepth 100000 in
theorem ca_15a {p : Program} {l : Launch} {e : Env} {s : State} {m : MethodId} {args : Array Value} {below : List Frame} {meth : Method} {c : Code} {g : gG} (C0 : cF g p s m args meth c b_W_law 7 "RegistryLogLaw" (some .boolean)) (htr : ∀ e, l.admits e → e.platform.stackTraces = false) (hZ : zK g s s.heap) (hg9 : g.2.2.1 = s.heap.size) (hE0 : pS (fun a => a < s.heap.size) g s.heap (g.2.2.2 1) []) {b L : Nat} {xs : Nat → Int32} (hXs : va_X b L xs s s.heap) (hbl : b < s.heap.size) (hL : L ≤ 3584) {x xr o9 : Nat} {adr : Nat → Nat} {i cl sl : Nat} (hi : i + 7 ≤ L) (hcl : cl + 70 ≤ 632517) (hsl : sl + 2000 ≤ 7198554) (hbad : decide (0 ≤ (xs (i + 1)) ∧ (xs (i + 1)) < 4) = false ∨ (xs (i + 2)) < 0) {Q : State → Prop} (kk : ∀ (H : Heap) (locs : List Loc), RL g H x xr adr o9 → va_S (fW s.heap no_) s.heap H locs → ∀ (ls : Array Slot), lv_has ls 7 [(0, .ref b), (1, .ref x), (2, .ref xr), (3, .ref o9), (4, .int (nI i))] → W p l e room_1 s m args below meth c H locs (cl + 70) (sl + 2000) Q (F0 m 1289 ls [])) : ∀ (H : Heap) (locs : List Loc), RL g H x xr adr o9 → va_S (fW s.heap no_) s.heap H locs → ∀ (ls : Array Slot), lv_has ls 7 [(0, .ref b), (1, .ref x), (2, .ref xr), (3, .ref o9), (4, .int (nI i))] → W p l e room_1 s m args below meth c H locs cl sl Q (F0 m 1016 ls []) := by
  obtain ⟨hx, hb, hml, hown, hts, hr, hlk, hK⟩ := id C0
  intro H locs hRL hS ls hl
  obtain ⟨ad, ms, nm, nw, rows, mir, T, f, k, f2, k2, F, A, B, fo, hX, hm, hR, hO, ho, ho9, hom⟩ := hRL
  have hsz : g.2.2.1 ≤ H.size := by rw [hg9]; exact hS.1
  have hZb := Z_new hm (ar_lt ho)
  have hold : ∀ q, mN xr adr q → s.heap.size ≤ q := fun q h => by rw [← hg9]; exact hm.2.2.2.2.2.2 q h
  have hTT := cX_T hX
  have hrc := RF_c hR
  refine lv_aload_n hx hb d_W_law_1016 rfl (lv_at hl 1 rfl) ?_
  refine lv_aload_n hx hb d_W_law_1017 rfl (lv_at hl 0 rfl) ?_
  refine lv_iload hx hb d_W_law_1018 (lv_at hl 4 rfl) ?_
  refine lv_iconst (v := nI 1) hx hb d_W_law_1020 (by decide) ?_
  refine n_iadd hx hb d_W_law_1021 ?_
  refine va_sld hx hb hXs hbl (fun z => z.elim id (fun z => absurd hbl (Nat.not_lt.mpr z))) hS (vp_in_nI (by omega) (by omega)) d_W_law_1022 ?_
  refine W.eq (g2 := F0 m 1023 ls [.int (xs (i + 1)), .ref x]) (by rw [nI_clamp (by omega)]) ?_
  refine lv_aload_n hx hb d_W_law_1023 rfl (lv_at hl 0 rfl) ?_
  refine lv_iload hx hb d_W_law_1024 (lv_at hl 4 rfl) ?_
  refine lv_iconst (v := nI 2) hx hb d_W_law_1026 (by decide) ?_
  refine n_iadd hx hb d_W_law_1027 ?_
  refine va_sld hx hb hXs hbl (fun z => z.elim id (fun z => absurd hbl (Nat.not_lt.mpr z))) hS (vp_in_nI (by omega) (by omega)) d_W_law_1028 ?_
  refine W.eq (g2 := F0 m 1029 ls [.int (xs (i + 2)), .int (xs (i + 1)), .ref x]) (by rw [nI_clamp (by omega)]) ?_
  refine aW (N := (NX ad)) (rV (As := [.int (xs (i + 1)), .int (xs (i + 2))]) (rest := []) C0 (c_X_follow0 l g _ (Zr xr adr o9) x ad ms nm nw rows mir T f k 0 f2 k2 hX (xs (i + 1)) (xs (i + 2)) hbad) (zK_S hZ hS (fun _ h => h.elim)) k_W_law_1029 rfl rfl ⟨Nat.le_of_ble_eq_true rfl, Nat.le_of_ble_eq_true rfl⟩ (ob_recv hK (cX_ob hX) rfl) rfl hl.1 rfl (Nat.le_of_ble_eq_true rfl) d_W_law_1029 ⟨by show cl + 0 ≤ 632517; omega, by show sl + 0 ≤ 7198554; omega⟩) (fun v H L hC1 hp hL => ?_)
  have hS0 := hS
  have hS := hS_call hS hC1 hL (fun a h => Or.inr (by rw [← hg9]; exact cX_old hX a h))
  have hm := mW_keep hm (fun a h => hC_at hC1 (mN_lt hm h) (Z_nm hX h))
  have ho := ar_kept ho (hC_at hC1 (ar_lt ho) (Z_no2 hX))
  obtain ⟨rfl, hX⟩ := hp
  refine W.eq (g2 := F0 m 1032 ls [.int ((-1))]) rfl ?_
  refine lv_aload_n hx hb d_W_law_1032 rfl (lv_at hl 2 rfl) ?_
  refine lv_aload_n hx hb d_W_law_1033 rfl (lv_at hl 0 rfl) ?_
  refine lv_iload hx hb d_W_law_1034 (lv_at hl 4 rfl) ?_
  refine lv_iconst (v := nI 1) hx hb d_W_law_1036 (by decide) ?_
  refine n_iadd hx hb d_W_law_1037 ?_
  refine va_sld hx hb hXs hbl (fun z => z.elim id (fun z => absurd hbl (Nat.not_lt.mpr z))) hS (vp_in_nI (by omega) (by omega)) d_W_law_1038 ?_
  refine W.eq (g2 := F0 m 1039 ls [.int (xs (i + 1)), .ref xr, .int ((-1))]) (by rw [nI_clamp (by omega)]) ?_
  refine lv_aload_n hx hb d_W_law_1039 rfl (lv_at hl 0 rfl) ?_
  refine lv_iload hx hb d_W_law_1040 (lv_at hl 4 rfl) ?_
  refine lv_iconst (v := nI 2) hx hb d_W_law_1042 (by decide) ?_
  refine n_iadd hx hb d_W_law_1043 ?_
  refine va_sld hx hb hXs hbl (fun z => z.elim id (fun z => absurd hbl (Nat.not_lt.mpr z))) hS (vp_in_nI (by omega) (by omega)) d_W_law_1044 ?_
  refine W.eq (g2 := F0 m 1045 ls [.int (xs (i + 2)), .int (xs (i + 1)), .ref xr, .int ((-1))]) (by rw [nI_clamp (by omega)]) ?_
  refine aQ (rV (As := [.int (xs (i + 1)), .int (xs (i + 2))]) (rest := [.int ((-1))]) C0 (c_M_follow l g _ xr adr _ _ _ hm rows.length hrc.1 hrc.2 (fun j => (mir j).length) (RF_m hR) (xs (i + 1)) (xs (i + 2))) (zK_S hZ hS (fun _ h => h.elim)) k_W_law_1045 rfl rfl ⟨Nat.le_of_ble_eq_true rfl, Nat.le_of_ble_eq_true rfl⟩ (ob_recv hK hm.1 rfl) rfl hl.1 rfl (Nat.le_of_ble_eq_true rfl) d_W_law_1045 ⟨by show cl + 0 + 0 ≤ 632517; omega, by show sl + 0 + 0 ≤ 7198554; omega⟩) hS hold (fun v H locs F1 A1 B1 hm9 hq9 hz9 hp hS => ?_)
  have hX := cX_mv (Z' := (Zr xr adr o9)) hX (fun a h1 h2 => ⟨hq9 a h1.1, h1⟩)
  have ho := ar_kept ho (hq9 _ hom)
  have hp := t_fo0 hR hbad hp
  obtain ⟨rfl, hR⟩ := hp
  have hm := hm9
  refine W.eq (g2 := F0 m 1048 ls [.int ((-1)), .int ((-1))]) rfl ?_
  refine lv_icmp_eq (tgt := 1289) hx hb d_W_law_1048 (by decide) (fun _ => ?_) (fun c9 => absurd rfl c9)
  refine W.widen (k := cl + 70) (n := sl + 2000) (by omega) (by omega) ?_
  exact kk H _ ⟨_, _, _, _, _, _, _, _, _, _, _, _, _, _, _, hX, hm, hR, hO, ho, ho9, hom⟩ hS ls (lv_sub hl [0, 1, 2, 3, 4] rfl)
set_option maxHeartbeats 4000000 in
set_option maxRecDepth 100000 in
theorem ca_15b {p : Program} {l : Launch} {e : Env} {s : State} {m : MethodId} {args : Array Value} {below : List Frame} {meth : Method} {c : Code} {g : gG} (C0 : cF g p s m args meth c b_W_law 7 "RegistryLogLaw" (some .boolean)) (htr : ∀ e, l.admits e → e.platform.stackTraces = false) (hZ : zK g s s.heap) (hg9 : g.2.2.1 = s.heap.size) (hE0 : pS (fun a => a < s.heap.size) g s.heap (g.2.2.2 1) []) {b L : Nat} {xs : Nat → Int32} (hXs : va_X b L xs s s.heap) (hbl : b < s.heap.size) (hL : L ≤ 3584) {x xr o9 : Nat} {adr : Nat → Nat} {i cl sl : Nat} (hi : i + 7 ≤ L) (hcl : cl + 70 ≤ 632517) (hsl : sl + 2000 ≤ 7198554) {q1 n1 : Nat} (eq1 : (xs (i + 1)) = nI q1) (en1 : (xs (i + 2)) = nI n1) (hq1 : q1 < 4) (hn1 : n1 < 2 ^ 31) {Q : State → Prop} (kk : ∀ (H : Heap) (locs : List Loc), RL g H x xr adr o9 → va_S (fW s.heap no_) s.heap H locs → ∀ (ls : Array Slot), lv_has ls 7 [(0, .ref b), (1, .ref x), (2, .ref xr), (3, .ref o9), (4, .int (nI i))] → W p l e room_1 s m args below meth c H locs (cl + 70) (sl + 2000) Q (F0 m 1289 ls [])) : ∀ (H : Heap) (locs : List Loc), RL g H x xr adr o9 → va_S (fW s.heap no_) s.heap H locs → ∀ (ls : Array Slot), lv_has ls 7 [(0, .ref b), (1, .ref x), (2, .ref xr), (3, .ref o9), (4, .int (nI i))] → W p l e room_1 s m args below meth c H locs cl sl Q (F0 m 1016 ls []) := by
  obtain ⟨hx, hb, hml, hown, hts, hr, hlk, hK⟩ := id C0
  intro H locs hRL hS ls hl
  obtain ⟨ad, ms, nm, nw, rows, mir, T, f, k, f2, k2, F, A, B, fo, hX, hm, hR, hO, ho, ho9, hom⟩ := hRL
  have hsz : g.2.2.1 ≤ H.size := by rw [hg9]; exact hS.1
  have hZb := Z_new hm (ar_lt ho)
  have hold : ∀ q, mN xr adr q → s.heap.size ≤ q := fun q h => by rw [← hg9]; exact hm.2.2.2.2.2.2 q h
  have hTT := cX_T hX
  have hrc := RF_c hR
  refine lv_aload_n hx hb d_W_law_1016 rfl (lv_at hl 1 rfl) ?_
  refine lv_aload_n hx hb d_W_law_1017 rfl (lv_at hl 0 rfl) ?_
  refine lv_iload hx hb d_W_law_1018 (lv_at hl 4 rfl) ?_
  refine lv_iconst (v := nI 1) hx hb d_W_law_1020 (by decide) ?_
  refine n_iadd hx hb d_W_law_1021 ?_
  refine va_sld hx hb hXs hbl (fun z => z.elim id (fun z => absurd hbl (Nat.not_lt.mpr z))) hS (vp_in_nI (by omega) (by omega)) d_W_law_1022 ?_
  refine W.eq (g2 := F0 m 1023 ls [.int (xs (i + 1)), .ref x]) (by rw [nI_clamp (by omega)]) ?_
  refine lv_aload_n hx hb d_W_law_1023 rfl (lv_at hl 0 rfl) ?_
  refine lv_iload hx hb d_W_law_1024 (lv_at hl 4 rfl) ?_
  refine lv_iconst (v := nI 2) hx hb d_W_law_1026 (by decide) ?_
  refine n_iadd hx hb d_W_law_1027 ?_
  refine va_sld hx hb hXs hbl (fun z => z.elim id (fun z => absurd hbl (Nat.not_lt.mpr z))) hS (vp_in_nI (by omega) (by omega)) d_W_law_1028 ?_
  refine W.eq (g2 := F0 m 1029 ls [.int (xs (i + 2)), .int (xs (i + 1)), .ref x]) (by rw [nI_clamp (by omega)]) ?_
  refine W.eq (g2 := F0 m 1029 ls [.int (nI n1), .int (nI q1), .ref x]) (by rw [eq1, en1]) ?_
  refine aW (N := (NX ad)) (rV (As := [.int (nI q1), .int (nI n1)]) (rest := []) C0 (c_X_follow1 l g _ (Zr xr adr o9) x ad ms nm nw rows mir T f k 0 f2 k2 hX q1 n1 hq1 hn1 (RF_m hR q1 hq1).2) (zK_S hZ hS (fun _ h => h.elim)) k_W_law_1029 rfl rfl ⟨Nat.le_of_ble_eq_true rfl, Nat.le_of_ble_eq_true rfl⟩ (ob_recv hK (cX_ob hX) rfl) rfl hl.1 rfl (Nat.le_of_ble_eq_true rfl) d_W_law_1029 ⟨by show cl + 0 ≤ 632517; omega, by show sl + 0 ≤ 7198554; omega⟩) (fun v H L hC1 hp hL => ?_)
  have hS0 := hS
  have hS := hS_call hS hC1 hL (fun a h => Or.inr (by rw [← hg9]; exact cX_old hX a h))
  have hm := mW_keep hm (fun a h => hC_at hC1 (mN_lt hm h) (Z_nm hX h))
  have ho := ar_kept ho (hC_at hC1 (ar_lt ho) (Z_no2 hX))
  obtain ⟨rfl, hX⟩ := hp
  refine W.eq (g2 := F0 m 1032 ls [.int (nI (min n1 (rows.length - (mir q1).length)))]) rfl ?_
  refine lv_aload_n hx hb d_W_law_1032 rfl (lv_at hl 2 rfl) ?_
  refine lv_aload_n hx hb d_W_law_1033 rfl (lv_at hl 0 rfl) ?_
  refine lv_iload hx hb d_W_law_1034 (lv_at hl 4 rfl) ?_
  refine lv_iconst (v := nI 1) hx hb d_W_law_1036 (by decide) ?_
  refine n_iadd hx hb d_W_law_1037 ?_
  refine va_sld hx hb hXs hbl (fun z => z.elim id (fun z => absurd hbl (Nat.not_lt.mpr z))) hS (vp_in_nI (by omega) (by omega)) d_W_law_1038 ?_
  refine W.eq (g2 := F0 m 1039 ls [.int (xs (i + 1)), .ref xr, .int (nI (min n1 (rows.length - (mir q1).length)))]) (by rw [nI_clamp (by omega)]) ?_
  refine lv_aload_n hx hb d_W_law_1039 rfl (lv_at hl 0 rfl) ?_
  refine lv_iload hx hb d_W_law_1040 (lv_at hl 4 rfl) ?_
  refine lv_iconst (v := nI 2) hx hb d_W_law_1042 (by decide) ?_
  refine n_iadd hx hb d_W_law_1043 ?_
  refine va_sld hx hb hXs hbl (fun z => z.elim id (fun z => absurd hbl (Nat.not_lt.mpr z))) hS (vp_in_nI (by omega) (by omega)) d_W_law_1044 ?_
  refine W.eq (g2 := F0 m 1045 ls [.int (xs (i + 2)), .int (xs (i + 1)), .ref xr, .int (nI (min n1 (rows.length - (mir q1).length)))]) (by rw [nI_clamp (by omega)]) ?_
  refine W.eq (g2 := F0 m 1045 ls [.int (nI n1), .int (nI q1), .ref xr, .int (nI (min n1 (rows.length - (mir q1).length)))]) (by rw [eq1, en1]) ?_
  refine aQ (rV (As := [.int (nI q1), .int (nI n1)]) (rest := [.int (nI (min n1 (rows.length - (mir q1).length)))]) C0 (c_M_follow l g _ xr adr _ _ _ hm rows.length hrc.1 hrc.2 (fun j => (mir j).length) (RF_m hR) (nI q1) (nI n1)) (zK_S hZ hS (fun _ h => h.elim)) k_W_law_1045 rfl rfl ⟨Nat.le_of_ble_eq_true rfl, Nat.le_of_ble_eq_true rfl⟩ (ob_recv hK hm.1 rfl) rfl hl.1 rfl (Nat.le_of_ble_eq_true rfl) d_W_law_1045 ⟨by show cl + 0 + 0 ≤ 632517; omega, by show sl + 0 + 0 ≤ 7198554; omega⟩) hS hold (fun v H locs F1 A1 B1 hm9 hq9 hz9 hp hS => ?_)
  have hX := cX_mv (Z' := (Zr xr adr o9)) hX (fun a h1 h2 => ⟨hq9 a h1.1, h1⟩)
  have ho := ar_kept ho (hq9 _ hom)
  have hO := OKR_fo hO hq1 (n := min n1 (rows.length - (mir q1).length)) (by have := (RF_m hR q1 hq1).2; omega)
  have hp := t_fo hR hq1 hn1 hp
  obtain ⟨rfl, hR⟩ := hp
  have hm := hm9
  refine W.eq (g2 := F0 m 1048 ls [.int (nI (min n1 (rows.length - (mir q1).length))), .int (nI (min n1 (rows.length - (mir q1).length)))]) rfl ?_
  refine lv_icmp_eq (tgt := 1289) hx hb d_W_law_1048 (by decide) (fun _ => ?_) (fun c9 => absurd rfl c9)
  refine W.widen (k := cl + 70) (n := sl + 2000) (by omega) (by omega) ?_
  exact kk H _ ⟨_, _, _, _, _, _, _, _, _, _, _, _, _, _, _, hX, hm, hR, hO, ho, ho9, hom⟩ hS ls (lv_sub hl [0, 1, 2, 3, 4] rfl)
set_option maxHeartbeats 4000000 in
set_option maxRecDepth 100000 in
theorem ca_15 {p : Program} {l : Launch} {e : Env} {s : State} {m : MethodId} {args : Array Value} {below : List Frame} {meth : Method} {c : Code} {g : gG} (C0 : cF g p s m args meth c b_W_law 7 "RegistryLogLaw" (some .boolean)) (htr : ∀ e, l.admits e → e.platform.stackTraces = false) (hZ : zK g s s.heap) (hg9 : g.2.2.1 = s.heap.size) (hE0 : pS (fun a => a < s.heap.size) g s.heap (g.2.2.2 1) []) {b L : Nat} {xs : Nat → Int32} (hXs : va_X b L xs s s.heap) (hbl : b < s.heap.size) (hL : L ≤ 3584) {x xr o9 : Nat} {adr : Nat → Nat} {i cl sl : Nat} (hi : i + 7 ≤ L) (hcl : cl + 70 ≤ 632517) (hsl : sl + 2000 ≤ 7198554) {Q : State → Prop} (kk : ∀ (H : Heap) (locs : List Loc), RL g H x xr adr o9 → va_S (fW s.heap no_) s.heap H locs → ∀ (ls : Array Slot), lv_has ls 7 [(0, .ref b), (1, .ref x), (2, .ref xr), (3, .ref o9), (4, .int (nI i))] → W p l e room_1 s m args below meth c H locs (cl + 70) (sl + 2000) Q (F0 m 1289 ls [])) : ∀ (H : Heap) (locs : List Loc), RL g H x xr adr o9 → va_S (fW s.heap no_) s.heap H locs → ∀ (ls : Array Slot), lv_has ls 7 [(0, .ref b), (1, .ref x), (2, .ref xr), (3, .ref o9), (4, .int (nI i))] → W p l e room_1 s m args below meth c H locs cl sl Q (F0 m 1016 ls []) := by
  by_cases hb : decide (0 ≤ (xs (i + 1)) ∧ (xs (i + 1)) < 4) = false ∨ (xs (i + 2)) < 0
  · exact ca_15a C0 htr hZ hg9 hE0 hXs hbl hL hi hcl hsl hb kk
  · have h4 : 0 ≤ (xs (i + 1)) ∧ (xs (i + 1)) < 4 := by
      rcases hd : decide (0 ≤ (xs (i + 1)) ∧ (xs (i + 1)) < 4) with _ | _
      · exact absurd (Or.inl hd) hb
      · exact of_decide_eq_true hd
    obtain ⟨q1, hq1, eq1⟩ := nI_of (Int32.not_lt.mpr h4.1)
    obtain ⟨n1, hn1, en1⟩ := nI_of (x := (xs (i + 2))) (fun z => hb (Or.inr z))
    have hq4 := i4_lt h4
    rw [eq1, nI_clamp hq1] at hq4
    exact ca_15b C0 htr hZ hg9 hE0 hXs hbl hL hi hcl hsl eq1 en1 hq4 hn1 kk
theorem k_W_law_1072 : kV "RegistryLogLaw" 108 "RegistryLog" y_X_spoil b_X_spoil 6 (some .boolean) 3 := ⟨(in_3 (List.mem_of_getElem? (i := 168) rfl) rfl), (in_3 (List.mem_of_getElem? (i := 169) rfl) rfl), (in_3 (List.mem_of_getElem? (i := 170) rfl) rfl), (in_1 (List.mem_of_getElem? (i := 1) rfl) rfl), (in_3 (List.mem_of_getElem? (i := 171) rfl) rfl), ⟨by decide, by decide, by decide +kernel⟩⟩
theorem k_W_law_1094 : kV "RegistryLogLaw" 112 "RegistryLogModel" y_M_spoil b_M_spoil 4 (some .boolean) 3 := ⟨(in_6 (List.mem_of_getElem? (i := 40) rfl) rfl), (in_6 (List.mem_of_getElem? (i := 41) rfl) rfl), (in_6 (List.mem_of_getElem? (i := 42) rfl) rfl), (in_1 (List.mem_of_getElem? (i := 22) rfl) rfl), (in_6 (List.mem_of_getElem? (i := 43) rfl) rfl), ⟨by decide, by decide, by decide +kernel⟩⟩
set_option maxHeartbeats 4000000 in
set_option maxRecDepth 100000 in
theorem ca_16 {p : Program} {l : Launch} {e : Env} {s : State} {m : MethodId} {args : Array Value} {below : List Frame} {meth : Method} {c : Code} {g : gG} (C0 : cF g p s m args meth c b_W_law 7 "RegistryLogLaw" (some .boolean)) (htr : ∀ e, l.admits e → e.platform.stackTraces = false) (hZ : zK g s s.heap) (hg9 : g.2.2.1 = s.heap.size) (hE0 : pS (fun a => a < s.heap.size) g s.heap (g.2.2.2 1) []) {b L : Nat} {xs : Nat → Int32} (hXs : va_X b L xs s s.heap) (hbl : b < s.heap.size) (hL : L ≤ 3584) {x xr o9 : Nat} {adr : Nat → Nat} {i cl sl : Nat} (hi : i + 7 ≤ L) (hcl : cl + 70 ≤ 632517) (hsl : sl + 2000 ≤ 7198554) {Q : State → Prop} (kk : ∀ (H : Heap) (locs : List Loc), RL g H x xr adr o9 → va_S (fW s.heap no_) s.heap H locs → ∀ (ls : Array Slot), lv_has ls 7 [(0, .ref b), (1, .ref x), (2, .ref xr), (3, .ref o9), (4, .int (nI i))] → W p l e room_1 s m args below meth c H locs (cl + 70) (sl + 2000) Q (F0 m 1289 ls [])) : ∀ (H : Heap) (locs : List Loc), RL g H x xr adr o9 → va_S (fW s.heap no_) s.heap H locs → ∀ (ls : Array Slot), lv_has ls 7 [(0, .ref b), (1, .ref x), (2, .ref xr), (3, .ref o9), (4, .int (nI i))] → W p l e room_1 s m args below meth c H locs cl sl Q (F0 m 1053 ls []) := by
  obtain ⟨hx, hb, hml, hown, hts, hr, hlk, hK⟩ := id C0
  intro H locs hRL hS ls hl
  obtain ⟨ad, ms, nm, nw, rows, mir, T, f, k, f2, k2, F, A, B, fo, hX, hm, hR, hO, ho, ho9, hom⟩ := hRL
  have hsz : g.2.2.1 ≤ H.size := by rw [hg9]; exact hS.1
  have hZb := Z_new hm (ar_lt ho)
  have hold : ∀ q, mN xr adr q → s.heap.size ≤ q := fun q h => by rw [← hg9]; exact hm.2.2.2.2.2.2 q h
  have hTT := cX_T hX
  have hrc := RF_c hR
  refine lv_aload_n hx hb d_W_law_1053 rfl (lv_at hl 1 rfl) ?_
  refine lv_aload_n hx hb d_W_law_1054 rfl (lv_at hl 0 rfl) ?_
  refine lv_iload hx hb d_W_law_1055 (lv_at hl 4 rfl) ?_
  refine lv_iconst (v := nI 1) hx hb d_W_law_1057 (by decide) ?_
  refine n_iadd hx hb d_W_law_1058 ?_
  refine va_sld hx hb hXs hbl (fun z => z.elim id (fun z => absurd hbl (Nat.not_lt.mpr z))) hS (vp_in_nI (by omega) (by omega)) d_W_law_1059 ?_
  refine W.eq (g2 := F0 m 1060 ls [.int (xs (i + 1)), .ref x]) (by rw [nI_clamp (by omega)]) ?_
  refine lv_aload_n hx hb d_W_law_1060 rfl (lv_at hl 0 rfl) ?_
  refine lv_iload hx hb d_W_law_1061 (lv_at hl 4 rfl) ?_
  refine lv_iconst (v := nI 2) hx hb d_W_law_1063 (by decide) ?_
  refine n_iadd hx hb d_W_law_1064 ?_
  refine va_sld hx hb hXs hbl (fun z => z.elim id (fun z => absurd hbl (Nat.not_lt.mpr z))) hS (vp_in_nI (by omega) (by omega)) d_W_law_1065 ?_
  refine W.eq (g2 := F0 m 1066 ls [.int (xs (i + 2)), .int (xs (i + 1)), .ref x]) (by rw [nI_clamp (by omega)]) ?_
  refine lv_aload_n hx hb d_W_law_1066 rfl (lv_at hl 0 rfl) ?_
  refine lv_iload hx hb d_W_law_1067 (lv_at hl 4 rfl) ?_
  refine lv_iconst (v := nI 3) hx hb d_W_law_1069 (by decide) ?_
  refine n_iadd hx hb d_W_law_1070 ?_
  refine va_sld hx hb hXs hbl (fun z => z.elim id (fun z => absurd hbl (Nat.not_lt.mpr z))) hS (vp_in_nI (by omega) (by omega)) d_W_law_1071 ?_
  refine W.eq (g2 := F0 m 1072 ls [.int (xs (i + 3)), .int (xs (i + 2)), .int (xs (i + 1)), .ref x]) (by rw [nI_clamp (by omega)]) ?_
  by_cases hs9 : rk (atS (mirS mir (xs (i + 1))) (xs (i + 2))) = 0
  · obtain ⟨q1, j1, eq1, hq1, ej1, hj1, hk1⟩ := sp_rg hR hs9
    rw [eq1, ej1] at hs9
    refine W.eq (g2 := F0 m 1072 ls [.int (xs (i + 3)), .int (nI j1), .int (nI q1), .ref x]) (by rw [eq1, ej1]) ?_
    have hm120 : (mir q1).length ≤ 120 := by have := (RF_m hR q1 hq1).2; omega
    refine aW (N := (NX ad)) (rV (As := [.int (nI q1), .int (nI j1), .int (xs (i + 3))]) (rest := []) C0 (c_X_spoil1 l g _ (Zr xr adr o9) x ad ms nm nw rows mir T f k 0 f2 k2 hX hsz hZb q1 j1 (xs (i + 3)) hq1 hj1 hm120 hk1) (zK_S hZ hS (fun _ h => h.elim)) k_W_law_1072 rfl rfl ⟨Nat.le_of_ble_eq_true rfl, Nat.le_of_ble_eq_true rfl⟩ (ob_recv hK (cX_ob hX) rfl) rfl hl.1 rfl (Nat.le_of_ble_eq_true rfl) d_W_law_1072 ⟨by show cl + 1 ≤ 632517; omega, by show sl + 8 ≤ 7198554; omega⟩) (fun v H L hC1 hp hL => ?_)
    have hS0 := hS
    have hS := hS_call hS hC1 hL (fun a h => Or.inr (by rw [← hg9]; exact cX_old hX a h))
    have hm := mW_keep hm (fun a h => hC_at hC1 (mN_lt hm h) (Z_nm hX h))
    have ho := ar_kept ho (hC_at hC1 (ar_lt ho) (Z_no2 hX))
    obtain ⟨rfl, hX⟩ := hp
    refine W.eq (g2 := F0 m 1075 ls [.int (nI 1)]) rfl ?_
    refine lv_aload_n hx hb d_W_law_1075 rfl (lv_at hl 2 rfl) ?_
    refine lv_aload_n hx hb d_W_law_1076 rfl (lv_at hl 0 rfl) ?_
    refine lv_iload hx hb d_W_law_1077 (lv_at hl 4 rfl) ?_
    refine lv_iconst (v := nI 1) hx hb d_W_law_1079 (by decide) ?_
    refine n_iadd hx hb d_W_law_1080 ?_
    refine va_sld hx hb hXs hbl (fun z => z.elim id (fun z => absurd hbl (Nat.not_lt.mpr z))) hS (vp_in_nI (by omega) (by omega)) d_W_law_1081 ?_
    refine W.eq (g2 := F0 m 1082 ls [.int (xs (i + 1)), .ref xr, .int (nI 1)]) (by rw [nI_clamp (by omega)]) ?_
    refine lv_aload_n hx hb d_W_law_1082 rfl (lv_at hl 0 rfl) ?_
    refine lv_iload hx hb d_W_law_1083 (lv_at hl 4 rfl) ?_
    refine lv_iconst (v := nI 2) hx hb d_W_law_1085 (by decide) ?_
    refine n_iadd hx hb d_W_law_1086 ?_
    refine va_sld hx hb hXs hbl (fun z => z.elim id (fun z => absurd hbl (Nat.not_lt.mpr z))) hS (vp_in_nI (by omega) (by omega)) d_W_law_1087 ?_
    refine W.eq (g2 := F0 m 1088 ls [.int (xs (i + 2)), .int (xs (i + 1)), .ref xr, .int (nI 1)]) (by rw [nI_clamp (by omega)]) ?_
    refine lv_aload_n hx hb d_W_law_1088 rfl (lv_at hl 0 rfl) ?_
    refine lv_iload hx hb d_W_law_1089 (lv_at hl 4 rfl) ?_
    refine lv_iconst (v := nI 3) hx hb d_W_law_1091 (by decide) ?_
    refine n_iadd hx hb d_W_law_1092 ?_
    refine va_sld hx hb hXs hbl (fun z => z.elim id (fun z => absurd hbl (Nat.not_lt.mpr z))) hS (vp_in_nI (by omega) (by omega)) d_W_law_1093 ?_
    refine W.eq (g2 := F0 m 1094 ls [.int (xs (i + 3)), .int (xs (i + 2)), .int (xs (i + 1)), .ref xr, .int (nI 1)]) (by rw [nI_clamp (by omega)]) ?_
    refine W.eq (g2 := F0 m 1094 ls [.int (xs (i + 3)), .int (nI j1), .int (nI q1), .ref xr, .int (nI 1)]) (by rw [eq1, ej1]) ?_
    refine aQ (rV (As := [.int (nI q1), .int (nI j1), .int (xs (i + 3))]) (rest := [.int (nI 1)]) C0 (c_M_spoil l g _ xr adr _ _ _ hm (fun j hj => ⟨(mir j).length, (RF_m hR j hj).1, by have := (RF_m hR j hj).2; omega⟩) (nI q1) (nI j1) (xs (i + 3))) (zK_S hZ hS (fun _ h => h.elim)) k_W_law_1094 rfl rfl ⟨Nat.le_of_ble_eq_true rfl, Nat.le_of_ble_eq_true rfl⟩ (ob_recv hK hm.1 rfl) rfl hl.1 rfl (Nat.le_of_ble_eq_true rfl) d_W_law_1094 ⟨by show cl + 1 + 0 ≤ 632517; omega, by show sl + 8 + 0 ≤ 7198554; omega⟩) hS hold (fun v H locs F1 A1 B1 hm9 hq9 hz9 hp hS => ?_)
    have hX := cX_mv (Z' := (Zr xr adr o9)) hX (fun a h1 h2 => ⟨hq9 a h1.1, h1⟩)
    have ho := ar_kept ho (hq9 _ hom)
    have hO := OKR_sp hO hq1 hj1 hk1 (R1 := (rk ((mir q1).getD j1 noRw), rp ((mir q1).getD j1 noRw), rn ((mir q1).getD j1 noRw), ra ((mir q1).getD j1 noRw), r2 ((mir q1).getD j1 noRw), (xs (i + 3)), ro ((mir q1).getD j1 noRw))) rfl
    have hp := t_sp hR hq1 hj1 hk1 (R1 := (rk ((mir q1).getD j1 noRw), rp ((mir q1).getD j1 noRw), rn ((mir q1).getD j1 noRw), ra ((mir q1).getD j1 noRw), r2 ((mir q1).getD j1 noRw), (xs (i + 3)), ro ((mir q1).getD j1 noRw))) rfl hs9 hp
    obtain ⟨rfl, hR⟩ := hp
    have hm := hm9
    refine W.eq (g2 := F0 m 1097 ls [.int (nI 1), .int (nI 1)]) rfl ?_
    refine lv_icmp_eq (tgt := 1289) hx hb d_W_law_1097 (by decide) (fun _ => ?_) (fun c9 => absurd rfl c9)
    refine W.widen (k := cl + 70) (n := sl + 2000) (by omega) (by omega) ?_
    exact kk H _ ⟨_, _, _, _, _, _, _, _, _, _, _, _, _, _, _, hX, hm, hR, hO, ho, ho9, hom⟩ hS ls (lv_sub hl [0, 1, 2, 3, 4] rfl)
  · skip
    refine aW (N := (NX ad)) (rV (As := [.int (xs (i + 1)), .int (xs (i + 2)), .int (xs (i + 3))]) (rest := []) C0 (c_X_spoil0 l g _ (Zr xr adr o9) x ad ms nm nw rows mir T f k 0 f2 k2 hX (xs (i + 1)) (xs (i + 2)) (xs (i + 3)) hs9) (zK_S hZ hS (fun _ h => h.elim)) k_W_law_1072 rfl rfl ⟨Nat.le_of_ble_eq_true rfl, Nat.le_of_ble_eq_true rfl⟩ (ob_recv hK (cX_ob hX) rfl) rfl hl.1 rfl (Nat.le_of_ble_eq_true rfl) d_W_law_1072 ⟨by show cl + 0 ≤ 632517; omega, by show sl + 0 ≤ 7198554; omega⟩) (fun v H L hC1 hp hL => ?_)
    have hS0 := hS
    have hS := hS_call hS hC1 hL (fun a h => Or.inr (by rw [← hg9]; exact cX_old hX a h))
    have hm := mW_keep hm (fun a h => hC_at hC1 (mN_lt hm h) (Z_nm hX h))
    have ho := ar_kept ho (hC_at hC1 (ar_lt ho) (Z_no2 hX))
    obtain ⟨rfl, hX⟩ := hp
    refine W.eq (g2 := F0 m 1075 ls [.int (nI 0)]) rfl ?_
    refine lv_aload_n hx hb d_W_law_1075 rfl (lv_at hl 2 rfl) ?_
    refine lv_aload_n hx hb d_W_law_1076 rfl (lv_at hl 0 rfl) ?_
    refine lv_iload hx hb d_W_law_1077 (lv_at hl 4 rfl) ?_
    refine lv_iconst (v := nI 1) hx hb d_W_law_1079 (by decide) ?_
    refine n_iadd hx hb d_W_law_1080 ?_
    refine va_sld hx hb hXs hbl (fun z => z.elim id (fun z => absurd hbl (Nat.not_lt.mpr z))) hS (vp_in_nI (by omega) (by omega)) d_W_law_1081 ?_
    refine W.eq (g2 := F0 m 1082 ls [.int (xs (i + 1)), .ref xr, .int (nI 0)]) (by rw [nI_clamp (by omega)]) ?_
    refine lv_aload_n hx hb d_W_law_1082 rfl (lv_at hl 0 rfl) ?_
    refine lv_iload hx hb d_W_law_1083 (lv_at hl 4 rfl) ?_
    refine lv_iconst (v := nI 2) hx hb d_W_law_1085 (by decide) ?_
    refine n_iadd hx hb d_W_law_1086 ?_
    refine va_sld hx hb hXs hbl (fun z => z.elim id (fun z => absurd hbl (Nat.not_lt.mpr z))) hS (vp_in_nI (by omega) (by omega)) d_W_law_1087 ?_
    refine W.eq (g2 := F0 m 1088 ls [.int (xs (i + 2)), .int (xs (i + 1)), .ref xr, .int (nI 0)]) (by rw [nI_clamp (by omega)]) ?_
    refine lv_aload_n hx hb d_W_law_1088 rfl (lv_at hl 0 rfl) ?_
    refine lv_iload hx hb d_W_law_1089 (lv_at hl 4 rfl) ?_
    refine lv_iconst (v := nI 3) hx hb d_W_law_1091 (by decide) ?_
    refine n_iadd hx hb d_W_law_1092 ?_
    refine va_sld hx hb hXs hbl (fun z => z.elim id (fun z => absurd hbl (Nat.not_lt.mpr z))) hS (vp_in_nI (by omega) (by omega)) d_W_law_1093 ?_
    refine W.eq (g2 := F0 m 1094 ls [.int (xs (i + 3)), .int (xs (i + 2)), .int (xs (i + 1)), .ref xr, .int (nI 0)]) (by rw [nI_clamp (by omega)]) ?_
    refine aQ (rV (As := [.int (xs (i + 1)), .int (xs (i + 2)), .int (xs (i + 3))]) (rest := [.int (nI 0)]) C0 (c_M_spoil l g _ xr adr _ _ _ hm (fun j hj => ⟨(mir j).length, (RF_m hR j hj).1, by have := (RF_m hR j hj).2; omega⟩) (xs (i + 1)) (xs (i + 2)) (xs (i + 3))) (zK_S hZ hS (fun _ h => h.elim)) k_W_law_1094 rfl rfl ⟨Nat.le_of_ble_eq_true rfl, Nat.le_of_ble_eq_true rfl⟩ (ob_recv hK hm.1 rfl) rfl hl.1 rfl (Nat.le_of_ble_eq_true rfl) d_W_law_1094 ⟨by show cl + 0 + 0 ≤ 632517; omega, by show sl + 0 + 0 ≤ 7198554; omega⟩) hS hold (fun v H locs F1 A1 B1 hm9 hq9 hz9 hp hS => ?_)
    have hX := cX_mv (Z' := (Zr xr adr o9)) hX (fun a h1 h2 => ⟨hq9 a h1.1, h1⟩)
    have ho := ar_kept ho (hq9 _ hom)
    have hp := t_sp0 hR hs9 hp
    obtain ⟨rfl, hR⟩ := hp
    have hm := hm9
    refine W.eq (g2 := F0 m 1097 ls [.int (nI 0), .int (nI 0)]) rfl ?_
    refine lv_icmp_eq (tgt := 1289) hx hb d_W_law_1097 (by decide) (fun _ => ?_) (fun c9 => absurd rfl c9)
    refine W.widen (k := cl + 70) (n := sl + 2000) (by omega) (by omega) ?_
    exact kk H _ ⟨_, _, _, _, _, _, _, _, _, _, _, _, _, _, _, hX, hm, hR, hO, ho, ho9, hom⟩ hS ls (lv_sub hl [0, 1, 2, 3, 4] rfl)
