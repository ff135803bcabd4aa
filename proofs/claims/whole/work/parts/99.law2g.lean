theorem k_W_law_195 : kSW "RegistryLogLaw" 37 y_W_publish b_W_publish 6 (some .int) [(0, 12, 15, 13), (0, 12, 19, 15)] 5 := ⟨(in_4 (List.mem_of_getElem? (i := 41) rfl) rfl), (in_4 (List.mem_of_getElem? (i := 42) rfl) rfl), (in_1 (List.mem_of_getElem? (i := 0) rfl) rfl), (in_4 (List.mem_of_getElem? (i := 43) rfl) rfl), ⟨by decide, by decide, by decide +kernel⟩⟩
theorem k_W_law_219 : kV "RegistryLogLaw" 42 "RegistryLogModel" y_M_publish b_M_publish 7 (some .int) 3 := ⟨(in_5 (List.mem_of_getElem? (i := 118) rfl) rfl), (in_5 (List.mem_of_getElem? (i := 119) rfl) rfl), (in_5 (List.mem_of_getElem? (i := 120) rfl) rfl), (in_1 (List.mem_of_getElem? (i := 22) rfl) rfl), (in_5 (List.mem_of_getElem? (i := 121) rfl) rfl), ⟨by decide, by decide, by decide +kernel⟩⟩
theorem k_W_law_225 : kV "RegistryLogLaw" 43 "RegistryLogModel" y_M_thrown b_M_thrown 1 (some .int) 0 := ⟨(in_5 (List.mem_of_getElem? (i := 110) rfl) rfl), (in_5 (List.mem_of_getElem? (i := 111) rfl) rfl), (in_5 (List.mem_of_getElem? (i := 112) rfl) rfl), (in_1 (List.mem_of_getElem? (i := 22) rfl) rfl), (in_5 (List.mem_of_getElem? (i := 113) rfl) rfl), ⟨by decide, by decide, by decide +kernel⟩⟩
set_option maxHeartbeats 4000000 in
set_option maxRecDepth 100000 in
theorem ca_1 {p : Program} {l : Launch} {e : Env} {s : State} {m : MethodId} {args : Array Value} {below : List Frame} {meth : Method} {c : Code} {g : gG} (C0 : cF g p s m args meth c b_W_law 7 "RegistryLogLaw" (some .boolean)) (htr : ∀ e, l.admits e → e.platform.stackTraces = false) (hZ : zK g s s.heap) (hg9 : g.2.2.1 = s.heap.size) (hE0 : pS (fun a => a < s.heap.size) g s.heap (g.2.2.2 1) []) {b L : Nat} {xs : Nat → Int32} (hXs : va_X b L xs s s.heap) (hbl : b < s.heap.size) (hL : L ≤ 3584) {x xr o9 : Nat} {adr : Nat → Nat} {i cl sl : Nat} (hi : i + 7 ≤ L) (hcl : cl + 70 ≤ 632517) (hsl : sl + 2000 ≤ 7198554) {Q : State → Prop} (kk : ∀ (H : Heap) (locs : List Loc), RL g H x xr adr o9 → va_S (fW s.heap no_) s.heap H locs → ∀ (ls : Array Slot), lv_has ls 7 [(0, .ref b), (1, .ref x), (2, .ref xr), (3, .ref o9), (4, .int (nI i))] → W p l e room_1 s m args below meth c H locs (cl + 70) (sl + 2000) Q (F0 m 1289 ls [])) : ∀ (H : Heap) (locs : List Loc), RL g H x xr adr o9 → va_S (fW s.heap no_) s.heap H locs → ∀ (ls : Array Slot), lv_has ls 7 [(0, .ref b), (1, .ref x), (2, .ref xr), (3, .ref o9), (4, .int (nI i))] → W p l e room_1 s m args below meth c H locs cl sl Q (F0 m 175 ls []) := by
  obtain ⟨hx, hb, hml, hown, hts, hr, hlk, hK⟩ := id C0
  intro H locs hRL hS ls hl
  obtain ⟨ad, ms, nm, nw, rows, mir, T, f, k, f2, k2, F, A, B, fo, hX, hm, hR, hO, ho, ho9, hom⟩ := hRL
  have hsz : g.2.2.1 ≤ H.size := by rw [hg9]; exact hS.1
  have hZb := Z_new hm (ar_lt ho)
  have hold : ∀ q, mN xr adr q → s.heap.size ≤ q := fun q h => by rw [← hg9]; exact hm.2.2.2.2.2.2 q h
  have hTT := cX_T hX
  have hrc := RF_c hR
  refine lv_aload_n hx hb d_W_law_175 rfl (lv_at hl 1 rfl) ?_
  refine lv_aload_n hx hb d_W_law_176 rfl (lv_at hl 0 rfl) ?_
  refine lv_iload hx hb d_W_law_177 (lv_at hl 4 rfl) ?_
  refine lv_iconst (v := nI 1) hx hb d_W_law_179 (by decide) ?_
  refine n_iadd hx hb d_W_law_180 ?_
  refine va_sld hx hb hXs hbl (fun z => z.elim id (fun z => absurd hbl (Nat.not_lt.mpr z))) hS (vp_in_nI (by omega) (by omega)) d_W_law_181 ?_
  refine W.eq (g2 := F0 m 182 ls [.int (xs (i + 1)), .ref x]) (by rw [nI_clamp (by omega)]) ?_
  refine lv_aload_n hx hb d_W_law_182 rfl (lv_at hl 0 rfl) ?_
  refine lv_iload hx hb d_W_law_183 (lv_at hl 4 rfl) ?_
  refine lv_iconst (v := nI 2) hx hb d_W_law_185 (by decide) ?_
  refine n_iadd hx hb d_W_law_186 ?_
  refine va_sld hx hb hXs hbl (fun z => z.elim id (fun z => absurd hbl (Nat.not_lt.mpr z))) hS (vp_in_nI (by omega) (by omega)) d_W_law_187 ?_
  refine W.eq (g2 := F0 m 188 ls [.int (xs (i + 2)), .int (xs (i + 1)), .ref x]) (by rw [nI_clamp (by omega)]) ?_
  refine lv_aload_n hx hb d_W_law_188 rfl (lv_at hl 0 rfl) ?_
  refine lv_iload hx hb d_W_law_189 (lv_at hl 4 rfl) ?_
  refine lv_iconst (v := nI 3) hx hb d_W_law_191 (by decide) ?_
  refine n_iadd hx hb d_W_law_192 ?_
  refine va_sld hx hb hXs hbl (fun z => z.elim id (fun z => absurd hbl (Nat.not_lt.mpr z))) hS (vp_in_nI (by omega) (by omega)) d_W_law_193 ?_
  refine W.eq (g2 := F0 m 194 ls [.int (xs (i + 3)), .int (xs (i + 2)), .int (xs (i + 1)), .ref x]) (by rw [nI_clamp (by omega)]) ?_
  refine lv_aload_n hx hb d_W_law_194 rfl (lv_at hl 3 rfl) ?_
  obtain ⟨og0, hog⟩ : ∃ y : Int32, (if oS T rows (-1) = -1 then nI rows.length else oS T rows (-1)) = y := ⟨_, rfl⟩
  obtain ⟨cd, hcd⟩ : ∃ y : Nat, endC (!(nameS T && (decide (0 ≤ (xs (i + 1)) ∧ (xs (i + 1)) < 8) && decide (0 ≤ (xs (i + 2)) ∧ (xs (i + 2)) < 1000)))) (pubC rows T (xs (i + 1)) (xs (i + 2))) rows.length = y := ⟨_, rfl⟩
  have hc3 : cd < 3 := by rw [← hcd]; exact endC_3 _ _ _
  refine aW (N := (fun a => NX ad a ∨ a = o9)) (rSW (As := [.ref x, .int (xs (i + 1)), .int (xs (i + 2)), .int (xs (i + 3)), .ref o9]) (rest := []) C0 (c_W_publish l g _ htr (Zr xr adr o9) x ad ms nm nw rows mir T f k 0 f2 k2 hX hsz hZb o9 fo ho (Z_no hX) ho9 (xs (i + 1)) (xs (i + 2)) (xs (i + 3)) (fun z => z.2 rfl) og0 hog cd hcd) (zK_S hZ hS (fun _ h => h.elim)) k_W_law_195 rfl rfl ⟨Nat.le_of_ble_eq_true rfl, Nat.le_of_ble_eq_true rfl⟩ rfl hl.1 rfl (Nat.le_of_ble_eq_true rfl) d_W_law_195 ⟨by show cl + 34 ≤ 632517; omega, by show sl + 968 ≤ 7198554; omega⟩) (fun v H L hC1 hp hL => ?_)
  have hS0 := hS
  have hS := hS_call hS hC1 hL (fun a h => Or.inr (by rw [← hg9]; exact h.elim (fun z => cX_old hX a z) (fun z => by rw [z]; exact ho9)))
  have hm := mW_keep hm (fun a h => hC_at hC1 (mN_lt hm h) (fun z => z.elim (Z_nm hX h) (fun z2 => hom (z2 ▸ h))))
  obtain ⟨rfl, ⟨v2, hX⟩, ho⟩ := hp
  refine W.eq (g2 := F0 m 198 ls [.int (nI cd)]) rfl ?_
  refine lv_istore (lv' := [(5, .int (nI cd)), (0, .ref b), (1, .ref x), (2, .ref xr), (3, .ref o9), (4, .int (nI i))]) hx hb d_W_law_198 hl (by decide) rfl (fun ls hl => ?_)
  refine lv_aload_n hx hb d_W_law_200 rfl (lv_at hl 3 rfl) ?_
  refine lv_aload_n hx hb d_W_law_201 rfl (lv_at hl 1 rfl) ?_
  refine lv_iload hx hb d_W_law_202 (lv_at hl 5 rfl) ?_
  refine lv_iconst (v := nI 1) hx hb d_W_law_204 (by decide) ?_
  refine n_iadd hx hb d_W_law_205 ?_
  refine va_sld hx hb hXs hbl (fun z => z.elim id (fun z => absurd hbl (Nat.not_lt.mpr z))) hS (vp_in_nI (by omega) (by omega)) d_W_law_206 ?_
  refine W.eq (g2 := F0 m 207 ls [.int (xs (i + 1)), .ref xr]) (by rw [nI_clamp (by omega)]) ?_
  refine lv_aload_n hx hb d_W_law_207 rfl (lv_at hl 1 rfl) ?_
  refine lv_iload hx hb d_W_law_208 (lv_at hl 5 rfl) ?_
  refine lv_iconst (v := nI 2) hx hb d_W_law_210 (by decide) ?_
  refine n_iadd hx hb d_W_law_211 ?_
  refine va_sld hx hb hXs hbl (fun z => z.elim id (fun z => absurd hbl (Nat.not_lt.mpr z))) hS (vp_in_nI (by omega) (by omega)) d_W_law_212 ?_
  refine W.eq (g2 := F0 m 213 ls [.int (xs (i + 2)), .int (xs (i + 1)), .ref xr]) (by rw [nI_clamp (by omega)]) ?_
  refine lv_aload_n hx hb d_W_law_213 rfl (lv_at hl 1 rfl) ?_
  refine lv_iload hx hb d_W_law_214 (lv_at hl 5 rfl) ?_
  refine lv_iconst (v := nI 3) hx hb d_W_law_216 (by decide) ?_
  refine n_iadd hx hb d_W_law_217 ?_
  refine va_sld hx hb hXs hbl (fun z => z.elim id (fun z => absurd hbl (Nat.not_lt.mpr z))) hS (vp_in_nI (by omega) (by omega)) d_W_law_218 ?_
  refine W.eq (g2 := F0 m 219 ls [.int (xs (i + 3)), .int (xs (i + 2)), .int (xs (i + 1)), .ref xr]) (by rw [nI_clamp (by omega)]) ?_
  refine aQ (rV (As := [.int (xs (i + 1)), .int (xs (i + 2)), .int (xs (i + 3))]) (rest := []) C0 (c_M_publish l g _ xr adr _ _ _ hm T hR.2.1.2 hTT.2 hTT.1 hR.2.1.1 rows mir hR.1 (tbL rows) (inv_log hO).choose_spec.2 (xs (i + 1)) (xs (i + 2)) (xs (i + 3)) cd ((cd_pub hO).trans hcd)) (zK_S hZ hS (fun _ h => h.elim)) k_W_law_219 rfl rfl ⟨Nat.le_of_ble_eq_true rfl, Nat.le_of_ble_eq_true rfl⟩ (ob_recv hK hm.1 rfl) rfl hl.1 rfl (Nat.le_of_ble_eq_true rfl) d_W_law_219 ⟨by show cl + 34 + 0 ≤ 632517; omega, by show sl + 968 + 0 ≤ 7198554; omega⟩) hS hold (fun v H locs F1 A1 B1 hm9 hq9 hz9 hp hS => ?_)
  have hX := cX_mv (Z' := (Zr xr adr o9)) hX (fun a h1 h2 => ⟨hq9 a h1.1, h1⟩)
  have ho := ar_kept ho (hq9 _ hom)
  obtain ⟨rfl, hF9, rfl, hA9⟩ := hp
  have hO : OKR (if cd = 0 then rows ++ [(0, (xs (i + 1)), T, T, (xs (i + 2)), (xs (i + 3)), og0)] else rows) mir := OKR_if hO (fun z9 => ok_pub hrc.2 hog (hcd.trans z9))
  have hR := RF_wr hR hF9 (hA9 og0)
  have hm := hm9
  refine W.eq (g2 := F0 m 222 ls [.int (if cd = 0 then nI rows.length else 0)]) rfl ?_
  refine lv_istore (lv' := [(6, .int (if cd = 0 then nI rows.length else 0)), (5, .int (nI cd)), (0, .ref b), (1, .ref x), (2, .ref xr), (3, .ref o9), (4, .int (nI i))]) hx hb d_W_law_222 hl (by decide) rfl (fun ls hl => ?_)
  refine lv_aload_n hx hb d_W_law_224 rfl (lv_at hl 4 rfl) ?_
  refine aP (rV (As := []) (rest := []) C0 (c_M_thrown l g _ xr adr _ _ _ hm) (zK_S hZ hS (fun _ h => h.elim)) k_W_law_225 rfl rfl ⟨Nat.le_of_ble_eq_true rfl, Nat.le_of_ble_eq_true rfl⟩ (ob_recv hK hm.1 rfl) rfl hl.1 rfl (Nat.le_of_ble_eq_true rfl) d_W_law_225 ⟨by show cl + 34 + 0 ≤ 632517; omega, by show sl + 968 + 0 ≤ 7198554; omega⟩) ?_
  intro v hv; subst hv
  refine W.eq (g2 := F0 m 228 ls [.int (F1 0)]) rfl ?_
  refine W.eq (g2 := F0 m 228 ls [.int (nI cd)]) (by rw [show F1 0 = nI cd from hF9 0 (by decide)]) ?_
  refine lv_iload hx hb d_W_law_228 (lv_at hl 1 rfl) ?_
  refine lv_icmp_eq (tgt := 235) hx hb d_W_law_230 (by decide) (fun _ => ?_) (fun c9 => absurd rfl c9)
  refine lv_iload hx hb d_W_law_235 (lv_at hl 1 rfl) ?_
  refine lv_if_ne (tgt := 252) hx hb d_W_law_237 (by decide) (fun _ => ?_) (fun c9 => ?_)
  · skip
    refine lv_goto (tgt := 1289) hx hb d_W_law_252 (by decide) ?_
    refine W.widen (k := cl + 70) (n := sl + 2000) (by omega) (by omega) ?_
    exact kk H _ ⟨_, _, _, _, _, _, _, _, _, _, _, _, _, _, _, hX, hm, hR, hO, ho, ho9, hom⟩ hS ls (lv_sub hl [2, 3, 4, 5, 6] rfl)
  · skip
    have h0 : cd = 0 := nI_z hc3 c9
    refine lv_aload_n hx hb d_W_law_240 rfl (lv_at hl 5 rfl) ?_
    refine lv_iconst (v := nI 0) hx hb d_W_law_241 (by decide) ?_
    refine va_lald (D := g.1) hx hb hK.1 ho 0 1 rfl rfl (show vp_in (nI 0) 1 from vp_in_nI (by omega) (by omega)) d_W_law_242 ?_
    refine W.eq (g2 := F0 m 243 ls [.long ((nI rows.length).toInt64)]) (by rw [if_pos h0]; rfl) ?_
    refine lv_iload hx hb d_W_law_243 (lv_at hl 0 rfl) ?_
    refine W.eq (g2 := F0 m 245 ls [.int (nI rows.length), .long ((nI rows.length).toInt64)]) (by rw [if_pos h0]) ?_
    refine lv_i2l hx hb d_W_law_245 rfl ?_
    refine W.lcmp hx hb d_W_law_246 ?_
    refine lv_if_eq (tgt := 252) hx hb d_W_law_247 (by decide) (fun _ => ?_) (fun c9 => absurd (lg_z.mpr rfl) c9)
    refine lv_goto (tgt := 1289) hx hb d_W_law_252 (by decide) ?_
    refine W.widen (k := cl + 70) (n := sl + 2000) (by omega) (by omega) ?_
    exact kk H _ ⟨_, _, _, _, _, _, _, _, _, _, _, _, _, _, _, hX, hm, hR, hO, ho, ho9, hom⟩ hS ls (lv_sub hl [2, 3, 4, 5, 6] rfl)
theorem k_W_law_283 : kSW "RegistryLogLaw" 47 y_W_yank b_W_yank 6 (some .int) [(0, 12, 15, 13), (0, 12, 19, 15)] 5 := ⟨(in_4 (List.mem_of_getElem? (i := 108) rfl) rfl), (in_4 (List.mem_of_getElem? (i := 109) rfl) rfl), (in_1 (List.mem_of_getElem? (i := 0) rfl) rfl), (in_4 (List.mem_of_getElem? (i := 110) rfl) rfl), ⟨by decide, by decide, by decide +kernel⟩⟩
theorem k_W_law_315 : kV "RegistryLogLaw" 50 "RegistryLogModel" y_M_yank b_M_yank 8 (some .int) 3 := ⟨(in_5 (List.mem_of_getElem? (i := 186) rfl) rfl), (in_5 (List.mem_of_getElem? (i := 187) rfl) rfl), (in_5 (List.mem_of_getElem? (i := 188) rfl) rfl), (in_1 (List.mem_of_getElem? (i := 22) rfl) rfl), (in_5 (List.mem_of_getElem? (i := 189) rfl) rfl), ⟨by decide, by decide, by decide +kernel⟩⟩
theorem k_W_law_321 : kV "RegistryLogLaw" 43 "RegistryLogModel" y_M_thrown b_M_thrown 1 (some .int) 0 := ⟨(in_5 (List.mem_of_getElem? (i := 110) rfl) rfl), (in_5 (List.mem_of_getElem? (i := 111) rfl) rfl), (in_5 (List.mem_of_getElem? (i := 112) rfl) rfl), (in_1 (List.mem_of_getElem? (i := 22) rfl) rfl), (in_5 (List.mem_of_getElem? (i := 113) rfl) rfl), ⟨by decide, by decide, by decide +kernel⟩⟩
set_option maxHeartbeats 4000000 in
set_option maxRecDepth 100000 in
theorem ca_2 {p : Program} {l : Launch} {e : Env} {s : State} {m : MethodId} {args : Array Value} {below : List Frame} {meth : Method} {c : Code} {g : gG} (C0 : cF g p s m args meth c b_W_law 7 "RegistryLogLaw" (some .boolean)) (htr : ∀ e, l.admits e → e.platform.stackTraces = false) (hZ : zK g s s.heap) (hg9 : g.2.2.1 = s.heap.size) (hE0 : pS (fun a => a < s.heap.size) g s.heap (g.2.2.2 1) []) {b L : Nat} {xs : Nat → Int32} (hXs : va_X b L xs s s.heap) (hbl : b < s.heap.size) (hL : L ≤ 3584) {x xr o9 : Nat} {adr : Nat → Nat} {i cl sl : Nat} (hi : i + 7 ≤ L) (hcl : cl + 70 ≤ 632517) (hsl : sl + 2000 ≤ 7198554) {Q : State → Prop} (kk : ∀ (H : Heap) (locs : List Loc), RL g H x xr adr o9 → va_S (fW s.heap no_) s.heap H locs → ∀ (ls : Array Slot), lv_has ls 7 [(0, .ref b), (1, .ref x), (2, .ref xr), (3, .ref o9), (4, .int (nI i))] → W p l e room_1 s m args below meth c H locs (cl + 70) (sl + 2000) Q (F0 m 1289 ls [])) : ∀ (H : Heap) (locs : List Loc), RL g H x xr adr o9 → va_S (fW s.heap no_) s.heap H locs → ∀ (ls : Array Slot), lv_has ls 7 [(0, .ref b), (1, .ref x), (2, .ref xr), (3, .ref o9), (4, .int (nI i))] → W p l e room_1 s m args below meth c H locs cl sl Q (F0 m 255 ls []) := by
  obtain ⟨hx, hb, hml, hown, hts, hr, hlk, hK⟩ := id C0
  intro H locs hRL hS ls hl
  obtain ⟨ad, ms, nm, nw, rows, mir, T, f, k, f2, k2, F, A, B, fo, hX, hm, hR, hO, ho, ho9, hom⟩ := hRL
  have hsz : g.2.2.1 ≤ H.size := by rw [hg9]; exact hS.1
  have hZb := Z_new hm (ar_lt ho)
  have hold : ∀ q, mN xr adr q → s.heap.size ≤ q := fun q h => by rw [← hg9]; exact hm.2.2.2.2.2.2 q h
  have hTT := cX_T hX
  have hrc := RF_c hR
  refine lv_aload_n hx hb d_W_law_255 rfl (lv_at hl 1 rfl) ?_
  refine lv_aload_n hx hb d_W_law_256 rfl (lv_at hl 0 rfl) ?_
  refine lv_iload hx hb d_W_law_257 (lv_at hl 4 rfl) ?_
  refine lv_iconst (v := nI 1) hx hb d_W_law_259 (by decide) ?_
  refine n_iadd hx hb d_W_law_260 ?_
  refine va_sld hx hb hXs hbl (fun z => z.elim id (fun z => absurd hbl (Nat.not_lt.mpr z))) hS (vp_in_nI (by omega) (by omega)) d_W_law_261 ?_
  refine W.eq (g2 := F0 m 262 ls [.int (xs (i + 1)), .ref x]) (by rw [nI_clamp (by omega)]) ?_
  refine lv_aload_n hx hb d_W_law_262 rfl (lv_at hl 0 rfl) ?_
  refine lv_iload hx hb d_W_law_263 (lv_at hl 4 rfl) ?_
  refine lv_iconst (v := nI 2) hx hb d_W_law_265 (by decide) ?_
  refine n_iadd hx hb d_W_law_266 ?_
  refine va_sld hx hb hXs hbl (fun z => z.elim id (fun z => absurd hbl (Nat.not_lt.mpr z))) hS (vp_in_nI (by omega) (by omega)) d_W_law_267 ?_
  refine W.eq (g2 := F0 m 268 ls [.int (xs (i + 2)), .int (xs (i + 1)), .ref x]) (by rw [nI_clamp (by omega)]) ?_
  refine lv_aload_n hx hb d_W_law_268 rfl (lv_at hl 0 rfl) ?_
  refine lv_iload hx hb d_W_law_269 (lv_at hl 4 rfl) ?_
  refine lv_iconst (v := nI 3) hx hb d_W_law_271 (by decide) ?_
  refine n_iadd hx hb d_W_law_272 ?_
  refine va_sld hx hb hXs hbl (fun z => z.elim id (fun z => absurd hbl (Nat.not_lt.mpr z))) hS (vp_in_nI (by omega) (by omega)) d_W_law_273 ?_
  refine W.eq (g2 := F0 m 274 ls [.int (xs (i + 3)), .int (xs (i + 2)), .int (xs (i + 1)), .ref x]) (by rw [nI_clamp (by omega)]) ?_
  refine lv_if_eq (tgt := 281) hx hb d_W_law_274 (by decide) (fun c1 => ?_) (fun c1 => ?_)
  · skip
    refine lv_iconst (v := nI 0) hx hb d_W_law_281 (by decide) ?_
    refine lv_aload_n hx hb d_W_law_282 rfl (lv_at hl 3 rfl) ?_
    refine W.eq (g2 := F0 m 283 ls [.ref o9, .int (bI false), .int (xs (i + 2)), .int (xs (i + 1)), .ref x]) rfl ?_
    obtain ⟨og0, hog⟩ : ∃ y : Int32, oS T rows (-1) = y := ⟨_, rfl⟩
    obtain ⟨cd, hcd⟩ : ∃ y : Nat, endC (!(nameS T && (decide (0 ≤ (xs (i + 1)) ∧ (xs (i + 1)) < 8) && decide (0 ≤ (xs (i + 2)) ∧ (xs (i + 2)) < 1000)))) (yanC rows T (xs (i + 1)) (xs (i + 2)) false) rows.length = y := ⟨_, rfl⟩
    have hc3 : cd < 3 := by rw [← hcd]; exact endC_3 _ _ _
    refine aW (N := (fun a => NX ad a ∨ a = o9)) (rSW (As := [.ref x, .int (xs (i + 1)), .int (xs (i + 2)), .int (bI false), .ref o9]) (rest := []) C0 (c_W_yank l g _ htr (Zr xr adr o9) x ad ms nm nw rows mir T f k 0 f2 k2 hX hsz hZb o9 fo ho (Z_no hX) ho9 (xs (i + 1)) (xs (i + 2)) false (fun z => z.2 rfl) og0 hog cd hcd) (zK_S hZ hS (fun _ h => h.elim)) k_W_law_283 rfl rfl ⟨Nat.le_of_ble_eq_true rfl, Nat.le_of_ble_eq_true rfl⟩ rfl hl.1 rfl (Nat.le_of_ble_eq_true rfl) d_W_law_283 ⟨by show cl + 34 ≤ 632517; omega, by show sl + 968 ≤ 7198554; omega⟩) (fun v H L hC1 hp hL => ?_)
    have hS0 := hS
    have hS := hS_call hS hC1 hL (fun a h => Or.inr (by rw [← hg9]; exact h.elim (fun z => cX_old hX a z) (fun z => by rw [z]; exact ho9)))
    have hm := mW_keep hm (fun a h => hC_at hC1 (mN_lt hm h) (fun z => z.elim (Z_nm hX h) (fun z2 => hom (z2 ▸ h))))
    obtain ⟨rfl, ⟨v2, hX⟩, ho⟩ := hp
    refine W.eq (g2 := F0 m 286 ls [.int (nI cd)]) rfl ?_
    refine lv_istore (lv' := [(5, .int (nI cd)), (0, .ref b), (1, .ref x), (2, .ref xr), (3, .ref o9), (4, .int (nI i))]) hx hb d_W_law_286 hl (by decide) rfl (fun ls hl => ?_)
    refine lv_aload_n hx hb d_W_law_288 rfl (lv_at hl 3 rfl) ?_
    refine lv_aload_n hx hb d_W_law_289 rfl (lv_at hl 1 rfl) ?_
    refine lv_iload hx hb d_W_law_290 (lv_at hl 5 rfl) ?_
    refine lv_iconst (v := nI 1) hx hb d_W_law_292 (by decide) ?_
    refine n_iadd hx hb d_W_law_293 ?_
    refine va_sld hx hb hXs hbl (fun z => z.elim id (fun z => absurd hbl (Nat.not_lt.mpr z))) hS (vp_in_nI (by omega) (by omega)) d_W_law_294 ?_
    refine W.eq (g2 := F0 m 295 ls [.int (xs (i + 1)), .ref xr]) (by rw [nI_clamp (by omega)]) ?_
    refine lv_aload_n hx hb d_W_law_295 rfl (lv_at hl 1 rfl) ?_
    refine lv_iload hx hb d_W_law_296 (lv_at hl 5 rfl) ?_
    refine lv_iconst (v := nI 2) hx hb d_W_law_298 (by decide) ?_
    refine n_iadd hx hb d_W_law_299 ?_
    refine va_sld hx hb hXs hbl (fun z => z.elim id (fun z => absurd hbl (Nat.not_lt.mpr z))) hS (vp_in_nI (by omega) (by omega)) d_W_law_300 ?_
    refine W.eq (g2 := F0 m 301 ls [.int (xs (i + 2)), .int (xs (i + 1)), .ref xr]) (by rw [nI_clamp (by omega)]) ?_
    refine lv_aload_n hx hb d_W_law_301 rfl (lv_at hl 1 rfl) ?_
    refine lv_iload hx hb d_W_law_302 (lv_at hl 5 rfl) ?_
    refine lv_iconst (v := nI 3) hx hb d_W_law_304 (by decide) ?_
    refine n_iadd hx hb d_W_law_305 ?_
    refine va_sld hx hb hXs hbl (fun z => z.elim id (fun z => absurd hbl (Nat.not_lt.mpr z))) hS (vp_in_nI (by omega) (by omega)) d_W_law_306 ?_
    refine W.eq (g2 := F0 m 307 ls [.int (xs (i + 3)), .int (xs (i + 2)), .int (xs (i + 1)), .ref xr]) (by rw [nI_clamp (by omega)]) ?_
    refine lv_if_eq (tgt := 314) hx hb d_W_law_307 (by decide) (fun _ => ?_) (fun c2 => absurd c1 c2)
    refine lv_iconst (v := nI 0) hx hb d_W_law_314 (by decide) ?_
    refine W.eq (g2 := F0 m 315 ls [.int (bI false), .int (xs (i + 2)), .int (xs (i + 1)), .ref xr]) rfl ?_
    refine aQ (rV (As := [.int (xs (i + 1)), .int (xs (i + 2)), .int (bI false)]) (rest := []) C0 (c_M_yank l g _ xr adr _ _ _ hm T hR.2.1.2 hTT.2 hTT.1 hR.2.1.1 rows mir hR.1 (tbL rows) (inv_log hO).choose_spec.2 (xs (i + 1)) (xs (i + 2)) false cd ((cd_yan hO).trans hcd)) (zK_S hZ hS (fun _ h => h.elim)) k_W_law_315 rfl rfl ⟨Nat.le_of_ble_eq_true rfl, Nat.le_of_ble_eq_true rfl⟩ (ob_recv hK hm.1 rfl) rfl hl.1 rfl (Nat.le_of_ble_eq_true rfl) d_W_law_315 ⟨by show cl + 34 + 0 ≤ 632517; omega, by show sl + 968 + 0 ≤ 7198554; omega⟩) hS hold (fun v H locs F1 A1 B1 hm9 hq9 hz9 hp hS => ?_)
    have hX := cX_mv (Z' := (Zr xr adr o9)) hX (fun a h1 h2 => ⟨hq9 a h1.1, h1⟩)
    have ho := ar_kept ho (hq9 _ hom)
    obtain ⟨rfl, hF9, rfl, hA9⟩ := hp
    have hO : OKR (if cd = 0 then rows ++ [(1, (xs (i + 1)), T, T, (xs (i + 2)), bI false, og0)] else rows) mir := OKR_if hO (fun z9 => ok_yan hrc.2 hog (hcd.trans z9))
    have hR := RF_wr hR hF9 (hA9 og0)
    have hm := hm9
    refine W.eq (g2 := F0 m 318 ls [.int (if cd = 0 then nI rows.length else 0)]) rfl ?_
    refine lv_istore (lv' := [(6, .int (if cd = 0 then nI rows.length else 0)), (5, .int (nI cd)), (0, .ref b), (1, .ref x), (2, .ref xr), (3, .ref o9), (4, .int (nI i))]) hx hb d_W_law_318 hl (by decide) rfl (fun ls hl => ?_)
    refine lv_aload_n hx hb d_W_law_320 rfl (lv_at hl 4 rfl) ?_
    refine aP (rV (As := []) (rest := []) C0 (c_M_thrown l g _ xr adr _ _ _ hm) (zK_S hZ hS (fun _ h => h.elim)) k_W_law_321 rfl rfl ⟨Nat.le_of_ble_eq_true rfl, Nat.le_of_ble_eq_true rfl⟩ (ob_recv hK hm.1 rfl) rfl hl.1 rfl (Nat.le_of_ble_eq_true rfl) d_W_law_321 ⟨by show cl + 34 + 0 ≤ 632517; omega, by show sl + 968 + 0 ≤ 7198554; omega⟩) ?_
    intro v hv; subst hv
    refine W.eq (g2 := F0 m 324 ls [.int (F1 0)]) rfl ?_
    refine W.eq (g2 := F0 m 324 ls [.int (nI cd)]) (by rw [show F1 0 = nI cd from hF9 0 (by decide)]) ?_
    refine lv_iload hx hb d_W_law_324 (lv_at hl 1 rfl) ?_
    refine lv_icmp_eq (tgt := 331) hx hb d_W_law_326 (by decide) (fun _ => ?_) (fun c9 => absurd rfl c9)
    refine lv_iload hx hb d_W_law_331 (lv_at hl 1 rfl) ?_
    refine lv_if_ne (tgt := 348) hx hb d_W_law_333 (by decide) (fun _ => ?_) (fun c9 => ?_)
    · skip
      refine lv_goto (tgt := 1289) hx hb d_W_law_348 (by decide) ?_
      refine W.widen (k := cl + 70) (n := sl + 2000) (by omega) (by omega) ?_
      exact kk H _ ⟨_, _, _, _, _, _, _, _, _, _, _, _, _, _, _, hX, hm, hR, hO, ho, ho9, hom⟩ hS ls (lv_sub hl [2, 3, 4, 5, 6] rfl)
    · skip
      have h0 : cd = 0 := nI_z hc3 c9
      refine lv_aload_n hx hb d_W_law_336 rfl (lv_at hl 5 rfl) ?_
      refine lv_iconst (v := nI 0) hx hb d_W_law_337 (by decide) ?_
      refine va_lald (D := g.1) hx hb hK.1 ho 0 1 rfl rfl (show vp_in (nI 0) 1 from vp_in_nI (by omega) (by omega)) d_W_law_338 ?_
      refine W.eq (g2 := F0 m 339 ls [.long ((nI rows.length).toInt64)]) (by rw [if_pos h0]; rfl) ?_
      refine lv_iload hx hb d_W_law_339 (lv_at hl 0 rfl) ?_
      refine W.eq (g2 := F0 m 341 ls [.int (nI rows.length), .long ((nI rows.length).toInt64)]) (by rw [if_pos h0]) ?_
      refine lv_i2l hx hb d_W_law_341 rfl ?_
      refine W.lcmp hx hb d_W_law_342 ?_
      refine lv_if_eq (tgt := 348) hx hb d_W_law_343 (by decide) (fun _ => ?_) (fun c9 => absurd (lg_z.mpr rfl) c9)
      refine lv_goto (tgt := 1289) hx hb d_W_law_348 (by decide) ?_
      refine W.widen (k := cl + 70) (n := sl + 2000) (by omega) (by omega) ?_
      exact kk H _ ⟨_, _, _, _, _, _, _, _, _, _, _, _, _, _, _, hX, hm, hR, hO, ho, ho9, hom⟩ hS ls (lv_sub hl [2, 3, 4, 5, 6] rfl)
  · skip
    refine lv_iconst (v := nI 1) hx hb d_W_law_277 (by decide) ?_
    refine lv_goto (tgt := 282) hx hb d_W_law_278 (by decide) ?_
    refine lv_aload_n hx hb d_W_law_282 rfl (lv_at hl 3 rfl) ?_
    refine W.eq (g2 := F0 m 283 ls [.ref o9, .int (bI true), .int (xs (i + 2)), .int (xs (i + 1)), .ref x]) rfl ?_
    obtain ⟨og0, hog⟩ : ∃ y : Int32, oS T rows (-1) = y := ⟨_, rfl⟩
    obtain ⟨cd, hcd⟩ : ∃ y : Nat, endC (!(nameS T && (decide (0 ≤ (xs (i + 1)) ∧ (xs (i + 1)) < 8) && decide (0 ≤ (xs (i + 2)) ∧ (xs (i + 2)) < 1000)))) (yanC rows T (xs (i + 1)) (xs (i + 2)) true) rows.length = y := ⟨_, rfl⟩
    have hc3 : cd < 3 := by rw [← hcd]; exact endC_3 _ _ _
    refine aW (N := (fun a => NX ad a ∨ a = o9)) (rSW (As := [.ref x, .int (xs (i + 1)), .int (xs (i + 2)), .int (bI true), .ref o9]) (rest := []) C0 (c_W_yank l g _ htr (Zr xr adr o9) x ad ms nm nw rows mir T f k 0 f2 k2 hX hsz hZb o9 fo ho (Z_no hX) ho9 (xs (i + 1)) (xs (i + 2)) true (fun z => z.2 rfl) og0 hog cd hcd) (zK_S hZ hS (fun _ h => h.elim)) k_W_law_283 rfl rfl ⟨Nat.le_of_ble_eq_true rfl, Nat.le_of_ble_eq_true rfl⟩ rfl hl.1 rfl (Nat.le_of_ble_eq_true rfl) d_W_law_283 ⟨by show cl + 34 ≤ 632517; omega, by show sl + 968 ≤ 7198554; omega⟩) (fun v H L hC1 hp hL => ?_)
    have hS0 := hS
    have hS := hS_call hS hC1 hL (fun a h => Or.inr (by rw [← hg9]; exact h.elim (fun z => cX_old hX a z) (fun z => by rw [z]; exact ho9)))
    have hm := mW_keep hm (fun a h => hC_at hC1 (mN_lt hm h) (fun z => z.elim (Z_nm hX h) (fun z2 => hom (z2 ▸ h))))
    obtain ⟨rfl, ⟨v2, hX⟩, ho⟩ := hp
    refine W.eq (g2 := F0 m 286 ls [.int (nI cd)]) rfl ?_
    refine lv_istore (lv' := [(5, .int (nI cd)), (0, .ref b), (1, .ref x), (2, .ref xr), (3, .ref o9), (4, .int (nI i))]) hx hb d_W_law_286 hl (by decide) rfl (fun ls hl => ?_)
    refine lv_aload_n hx hb d_W_law_288 rfl (lv_at hl 3 rfl) ?_
    refine lv_aload_n hx hb d_W_law_289 rfl (lv_at hl 1 rfl) ?_
    refine lv_iload hx hb d_W_law_290 (lv_at hl 5 rfl) ?_
    refine lv_iconst (v := nI 1) hx hb d_W_law_292 (by decide) ?_
    refine n_iadd hx hb d_W_law_293 ?_
    refine va_sld hx hb hXs hbl (fun z => z.elim id (fun z => absurd hbl (Nat.not_lt.mpr z))) hS (vp_in_nI (by omega) (by omega)) d_W_law_294 ?_
    refine W.eq (g2 := F0 m 295 ls [.int (xs (i + 1)), .ref xr]) (by rw [nI_clamp (by omega)]) ?_
    refine lv_aload_n hx hb d_W_law_295 rfl (lv_at hl 1 rfl) ?_
    refine lv_iload hx hb d_W_law_296 (lv_at hl 5 rfl) ?_
    refine lv_iconst (v := nI 2) hx hb d_W_law_298 (by decide) ?_
    refine n_iadd hx hb d_W_law_299 ?_
    refine va_sld hx hb hXs hbl (fun z => z.elim id (fun z => absurd hbl (Nat.not_lt.mpr z))) hS (vp_in_nI (by omega) (by omega)) d_W_law_300 ?_
    refine W.eq (g2 := F0 m 301 ls [.int (xs (i + 2)), .int (xs (i + 1)), .ref xr]) (by rw [nI_clamp (by omega)]) ?_
    refine lv_aload_n hx hb d_W_law_301 rfl (lv_at hl 1 rfl) ?_
    refine lv_iload hx hb d_W_law_302 (lv_at hl 5 rfl) ?_
    refine lv_iconst (v := nI 3) hx hb d_W_law_304 (by decide) ?_
    refine n_iadd hx hb d_W_law_305 ?_
    refine va_sld hx hb hXs hbl (fun z => z.elim id (fun z => absurd hbl (Nat.not_lt.mpr z))) hS (vp_in_nI (by omega) (by omega)) d_W_law_306 ?_
    refine W.eq (g2 := F0 m 307 ls [.int (xs (i + 3)), .int (xs (i + 2)), .int (xs (i + 1)), .ref xr]) (by rw [nI_clamp (by omega)]) ?_
    refine lv_if_eq (tgt := 314) hx hb d_W_law_307 (by decide) (fun c2 => absurd c2 c1) (fun _ => ?_)
    refine lv_iconst (v := nI 1) hx hb d_W_law_310 (by decide) ?_
    refine lv_goto (tgt := 315) hx hb d_W_law_311 (by decide) ?_
    refine W.eq (g2 := F0 m 315 ls [.int (bI true), .int (xs (i + 2)), .int (xs (i + 1)), .ref xr]) rfl ?_
    refine aQ (rV (As := [.int (xs (i + 1)), .int (xs (i + 2)), .int (bI true)]) (rest := []) C0 (c_M_yank l g _ xr adr _ _ _ hm T hR.2.1.2 hTT.2 hTT.1 hR.2.1.1 rows mir hR.1 (tbL rows) (inv_log hO).choose_spec.2 (xs (i + 1)) (xs (i + 2)) true cd ((cd_yan hO).trans hcd)) (zK_S hZ hS (fun _ h => h.elim)) k_W_law_315 rfl rfl ⟨Nat.le_of_ble_eq_true rfl, Nat.le_of_ble_eq_true rfl⟩ (ob_recv hK hm.1 rfl) rfl hl.1 rfl (Nat.le_of_ble_eq_true rfl) d_W_law_315 ⟨by show cl + 34 + 0 ≤ 632517; omega, by show sl + 968 + 0 ≤ 7198554; omega⟩) hS hold (fun v H locs F1 A1 B1 hm9 hq9 hz9 hp hS => ?_)
    have hX := cX_mv (Z' := (Zr xr adr o9)) hX (fun a h1 h2 => ⟨hq9 a h1.1, h1⟩)
    have ho := ar_kept ho (hq9 _ hom)
    obtain ⟨rfl, hF9, rfl, hA9⟩ := hp
    have hO : OKR (if cd = 0 then rows ++ [(1, (xs (i + 1)), T, T, (xs (i + 2)), bI true, og0)] else rows) mir := OKR_if hO (fun z9 => ok_yan hrc.2 hog (hcd.trans z9))
    have hR := RF_wr hR hF9 (hA9 og0)
    have hm := hm9
    refine W.eq (g2 := F0 m 318 ls [.int (if cd = 0 then nI rows.length else 0)]) rfl ?_
    refine lv_istore (lv' := [(6, .int (if cd = 0 then nI rows.length else 0)), (5, .int (nI cd)), (0, .ref b), (1, .ref x), (2, .ref xr), (3, .ref o9), (4, .int (nI i))]) hx hb d_W_law_318 hl (by decide) rfl (fun ls hl => ?_)
    refine lv_aload_n hx hb d_W_law_320 rfl (lv_at hl 4 rfl) ?_
    refine aP (rV (As := []) (rest := []) C0 (c_M_thrown l g _ xr adr _ _ _ hm) (zK_S hZ hS (fun _ h => h.elim)) k_W_law_321 rfl rfl ⟨Nat.le_of_ble_eq_true rfl, Nat.le_of_ble_eq_true rfl⟩ (ob_recv hK hm.1 rfl) rfl hl.1 rfl (Nat.le_of_ble_eq_true rfl) d_W_law_321 ⟨by show cl + 34 + 0 ≤ 632517; omega, by show sl + 968 + 0 ≤ 7198554; omega⟩) ?_
    intro v hv; subst hv
    refine W.eq (g2 := F0 m 324 ls [.int (F1 0)]) rfl ?_
    refine W.eq (g2 := F0 m 324 ls [.int (nI cd)]) (by rw [show F1 0 = nI cd from hF9 0 (by decide)]) ?_
    refine lv_iload hx hb d_W_law_324 (lv_at hl 1 rfl) ?_
    refine lv_icmp_eq (tgt := 331) hx hb d_W_law_326 (by decide) (fun _ => ?_) (fun c9 => absurd rfl c9)
    refine lv_iload hx hb d_W_law_331 (lv_at hl 1 rfl) ?_
    refine lv_if_ne (tgt := 348) hx hb d_W_law_333 (by decide) (fun _ => ?_) (fun c9 => ?_)
    · skip
      refine lv_goto (tgt := 1289) hx hb d_W_law_348 (by decide) ?_
      refine W.widen (k := cl + 70) (n := sl + 2000) (by omega) (by omega) ?_
      exact kk H _ ⟨_, _, _, _, _, _, _, _, _, _, _, _, _, _, _, hX, hm, hR, hO, ho, ho9, hom⟩ hS ls (lv_sub hl [2, 3, 4, 5, 6] rfl)
    · skip
      have h0 : cd = 0 := nI_z hc3 c9
      refine lv_aload_n hx hb d_W_law_336 rfl (lv_at hl 5 rfl) ?_
      refine lv_iconst (v := nI 0) hx hb d_W_law_337 (by decide) ?_
      refine va_lald (D := g.1) hx hb hK.1 ho 0 1 rfl rfl (show vp_in (nI 0) 1 from vp_in_nI (by omega) (by omega)) d_W_law_338 ?_
      refine W.eq (g2 := F0 m 339 ls [.long ((nI rows.length).toInt64)]) (by rw [if_pos h0]; rfl) ?_
      refine lv_iload hx hb d_W_law_339 (lv_at hl 0 rfl) ?_
      refine W.eq (g2 := F0 m 341 ls [.int (nI rows.length), .long ((nI rows.length).toInt64)]) (by rw [if_pos h0]) ?_
      refine lv_i2l hx hb d_W_law_341 rfl ?_
      refine W.lcmp hx hb d_W_law_342 ?_
      refine lv_if_eq (tgt := 348) hx hb d_W_law_343 (by decide) (fun _ => ?_) (fun c9 => absurd (lg_z.mpr rfl) c9)
      refine lv_goto (tgt := 1289) hx hb d_W_law_348 (by decide) ?_
      refine W.widen (k := cl + 70) (n := sl + 2000) (by omega) (by omega) ?_
      exact kk H _ ⟨_, _, _, _, _, _, _, _, _, _, _, _, _, _, _, hX, hm, hR, hO, ho, ho9, hom⟩ hS ls (lv_sub hl [2, 3, 4, 5, 6] rfl)
theorem k_W_law_379 : kSW "RegistryLogLaw" 51 y_W_grant b_W_grant 6 (some .int) [(0, 12, 15, 13), (0, 12, 19, 15)] 5 := ⟨(in_4 (List.mem_of_getElem? (i := 118) rfl) rfl), (in_4 (List.mem_of_getElem? (i := 119) rfl) rfl), (in_1 (List.mem_of_getElem? (i := 0) rfl) rfl), (in_4 (List.mem_of_getElem? (i := 120) rfl) rfl), ⟨by decide, by decide, by decide +kernel⟩⟩
theorem k_W_law_411 : kV "RegistryLogLaw" 53 "RegistryLogModel" y_M_grant b_M_grant 7 (some .int) 3 := ⟨(in_5 (List.mem_of_getElem? (i := 190) rfl) rfl), (in_5 (List.mem_of_getElem? (i := 191) rfl) rfl), (in_5 (List.mem_of_getElem? (i := 192) rfl) rfl), (in_1 (List.mem_of_getElem? (i := 22) rfl) rfl), (in_5 (List.mem_of_getElem? (i := 193) rfl) rfl), ⟨by decide, by decide, by decide +kernel⟩⟩
theorem k_W_law_417 : kV "RegistryLogLaw" 43 "RegistryLogModel" y_M_thrown b_M_thrown 1 (some .int) 0 := ⟨(in_5 (List.mem_of_getElem? (i := 110) rfl) rfl), (in_5 (List.mem_of_getElem? (i := 111) rfl) rfl), (in_5 (List.mem_of_getElem? (i := 112) rfl) rfl), (in_1 (List.mem_of_getElem? (i := 22) rfl) rfl), (in_5 (List.mem_of_getElem? (i := 113) rfl) rfl), ⟨by decide, by decide, by decide +kernel⟩⟩
set_option maxHeartbeats 4000000 in
set_option maxRecDepth 100000 in
theorem ca_3 {p : Program} {l : Launch} {e : Env} {s : State} {m : MethodId} {args : Array Value} {below : List Frame} {meth : Method} {c : Code} {g : gG} (C0 : cF g p s m args meth c b_W_law 7 "RegistryLogLaw" (some .boolean)) (htr : ∀ e, l.admits e → e.platform.stackTraces = false) (hZ : zK g s s.heap) (hg9 : g.2.2.1 = s.heap.size) (hE0 : pS (fun a => a < s.heap.size) g s.heap (g.2.2.2 1) []) {b L : Nat} {xs : Nat → Int32} (hXs : va_X b L xs s s.heap) (hbl : b < s.heap.size) (hL : L ≤ 3584) {x xr o9 : Nat} {adr : Nat → Nat} {i cl sl : Nat} (hi : i + 7 ≤ L) (hcl : cl + 70 ≤ 632517) (hsl : sl + 2000 ≤ 7198554) {Q : State → Prop} (kk : ∀ (H : Heap) (locs : List Loc), RL g H x xr adr o9 → va_S (fW s.heap no_) s.heap H locs → ∀ (ls : Array Slot), lv_has ls 7 [(0, .ref b), (1, .ref x), (2, .ref xr), (3, .ref o9), (4, .int (nI i))] → W p l e room_1 s m args below meth c H locs (cl + 70) (sl + 2000) Q (F0 m 1289 ls [])) : ∀ (H : Heap) (locs : List Loc), RL g H x xr adr o9 → va_S (fW s.heap no_) s.heap H locs → ∀ (ls : Array Slot), lv_has ls 7 [(0, .ref b), (1, .ref x), (2, .ref xr), (3, .ref o9), (4, .int (nI i))] → W p l e room_1 s m args below meth c H locs cl sl Q (F0 m 351 ls []) := by
  obtain ⟨hx, hb, hml, hown, hts, hr, hlk, hK⟩ := id C0
  intro H locs hRL hS ls hl
  obtain ⟨ad, ms, nm, nw, rows, mir, T, f, k, f2, k2, F, A, B, fo, hX, hm, hR, hO, ho, ho9, hom⟩ := hRL
  have hsz : g.2.2.1 ≤ H.size := by rw [hg9]; exact hS.1
  have hZb := Z_new hm (ar_lt ho)
  have hold : ∀ q, mN xr adr q → s.heap.size ≤ q := fun q h => by rw [← hg9]; exact hm.2.2.2.2.2.2 q h
  have hTT := cX_T hX
  have hrc := RF_c hR
  refine lv_aload_n hx hb d_W_law_351 rfl (lv_at hl 1 rfl) ?_
  refine lv_aload_n hx hb d_W_law_352 rfl (lv_at hl 0 rfl) ?_
  refine lv_iload hx hb d_W_law_353 (lv_at hl 4 rfl) ?_
  refine lv_iconst (v := nI 1) hx hb d_W_law_355 (by decide) ?_
  refine n_iadd hx hb d_W_law_356 ?_
  refine va_sld hx hb hXs hbl (fun z => z.elim id (fun z => absurd hbl (Nat.not_lt.mpr z))) hS (vp_in_nI (by omega) (by omega)) d_W_law_357 ?_
  refine W.eq (g2 := F0 m 358 ls [.int (xs (i + 1)), .ref x]) (by rw [nI_clamp (by omega)]) ?_
  refine lv_aload_n hx hb d_W_law_358 rfl (lv_at hl 0 rfl) ?_
  refine lv_iload hx hb d_W_law_359 (lv_at hl 4 rfl) ?_
  refine lv_iconst (v := nI 2) hx hb d_W_law_361 (by decide) ?_
  refine n_iadd hx hb d_W_law_362 ?_
  refine va_sld hx hb hXs hbl (fun z => z.elim id (fun z => absurd hbl (Nat.not_lt.mpr z))) hS (vp_in_nI (by omega) (by omega)) d_W_law_363 ?_
  refine W.eq (g2 := F0 m 364 ls [.int (xs (i + 2)), .int (xs (i + 1)), .ref x]) (by rw [nI_clamp (by omega)]) ?_
  refine lv_aload_n hx hb d_W_law_364 rfl (lv_at hl 0 rfl) ?_
  refine lv_iload hx hb d_W_law_365 (lv_at hl 4 rfl) ?_
  refine lv_iconst (v := nI 3) hx hb d_W_law_367 (by decide) ?_
  refine n_iadd hx hb d_W_law_368 ?_
  refine va_sld hx hb hXs hbl (fun z => z.elim id (fun z => absurd hbl (Nat.not_lt.mpr z))) hS (vp_in_nI (by omega) (by omega)) d_W_law_369 ?_
  refine W.eq (g2 := F0 m 370 ls [.int (xs (i + 3)), .int (xs (i + 2)), .int (xs (i + 1)), .ref x]) (by rw [nI_clamp (by omega)]) ?_
  refine lv_if_eq (tgt := 377) hx hb d_W_law_370 (by decide) (fun c1 => ?_) (fun c1 => ?_)
  · skip
    refine lv_iconst (v := nI 0) hx hb d_W_law_377 (by decide) ?_
    refine lv_aload_n hx hb d_W_law_378 rfl (lv_at hl 3 rfl) ?_
    refine W.eq (g2 := F0 m 379 ls [.ref o9, .int (bI false), .int (xs (i + 2)), .int (xs (i + 1)), .ref x]) rfl ?_
    obtain ⟨og0, hog⟩ : ∃ y : Int32, oS T rows (-1) = y := ⟨_, rfl⟩
    obtain ⟨cd, hcd⟩ : ∃ y : Nat, endC (!(nameS T && (decide (0 ≤ (xs (i + 1)) ∧ (xs (i + 1)) < 8) && decide (0 ≤ (xs (i + 2)) ∧ (xs (i + 2)) < 8)))) (graC rows T (xs (i + 1)) (xs (i + 2)) false) rows.length = y := ⟨_, rfl⟩
    have hc3 : cd < 3 := by rw [← hcd]; exact endC_3 _ _ _
    refine aW (N := (fun a => NX ad a ∨ a = o9)) (rSW (As := [.ref x, .int (xs (i + 1)), .int (xs (i + 2)), .int (bI false), .ref o9]) (rest := []) C0 (c_W_grant l g _ htr (Zr xr adr o9) x ad ms nm nw rows mir T f k 0 f2 k2 hX hsz hZb o9 fo ho (Z_no hX) ho9 (xs (i + 1)) (xs (i + 2)) false (fun z => z.2 rfl) og0 hog cd hcd) (zK_S hZ hS (fun _ h => h.elim)) k_W_law_379 rfl rfl ⟨Nat.le_of_ble_eq_true rfl, Nat.le_of_ble_eq_true rfl⟩ rfl hl.1 rfl (Nat.le_of_ble_eq_true rfl) d_W_law_379 ⟨by show cl + 34 ≤ 632517; omega, by show sl + 968 ≤ 7198554; omega⟩) (fun v H L hC1 hp hL => ?_)
    have hS0 := hS
    have hS := hS_call hS hC1 hL (fun a h => Or.inr (by rw [← hg9]; exact h.elim (fun z => cX_old hX a z) (fun z => by rw [z]; exact ho9)))
    have hm := mW_keep hm (fun a h => hC_at hC1 (mN_lt hm h) (fun z => z.elim (Z_nm hX h) (fun z2 => hom (z2 ▸ h))))
    obtain ⟨rfl, ⟨v2, hX⟩, ho⟩ := hp
    refine W.eq (g2 := F0 m 382 ls [.int (nI cd)]) rfl ?_
    refine lv_istore (lv' := [(5, .int (nI cd)), (0, .ref b), (1, .ref x), (2, .ref xr), (3, .ref o9), (4, .int (nI i))]) hx hb d_W_law_382 hl (by decide) rfl (fun ls hl => ?_)
    refine lv_aload_n hx hb d_W_law_384 rfl (lv_at hl 3 rfl) ?_
    refine lv_aload_n hx hb d_W_law_385 rfl (lv_at hl 1 rfl) ?_
    refine lv_iload hx hb d_W_law_386 (lv_at hl 5 rfl) ?_
    refine lv_iconst (v := nI 1) hx hb d_W_law_388 (by decide) ?_
    refine n_iadd hx hb d_W_law_389 ?_
    refine va_sld hx hb hXs hbl (fun z => z.elim id (fun z => absurd hbl (Nat.not_lt.mpr z))) hS (vp_in_nI (by omega) (by omega)) d_W_law_390 ?_
    refine W.eq (g2 := F0 m 391 ls [.int (xs (i + 1)), .ref xr]) (by rw [nI_clamp (by omega)]) ?_
    refine lv_aload_n hx hb d_W_law_391 rfl (lv_at hl 1 rfl) ?_
    refine lv_iload hx hb d_W_law_392 (lv_at hl 5 rfl) ?_
    refine lv_iconst (v := nI 2) hx hb d_W_law_394 (by decide) ?_
    refine n_iadd hx hb d_W_law_395 ?_
    refine va_sld hx hb hXs hbl (fun z => z.elim id (fun z => absurd hbl (Nat.not_lt.mpr z))) hS (vp_in_nI (by omega) (by omega)) d_W_law_396 ?_
    refine W.eq (g2 := F0 m 397 ls [.int (xs (i + 2)), .int (xs (i + 1)), .ref xr]) (by rw [nI_clamp (by omega)]) ?_
    refine lv_aload_n hx hb d_W_law_397 rfl (lv_at hl 1 rfl) ?_
    refine lv_iload hx hb d_W_law_398 (lv_at hl 5 rfl) ?_
    refine lv_iconst (v := nI 3) hx hb d_W_law_400 (by decide) ?_
    refine n_iadd hx hb d_W_law_401 ?_
    refine va_sld hx hb hXs hbl (fun z => z.elim id (fun z => absurd hbl (Nat.not_lt.mpr z))) hS (vp_in_nI (by omega) (by omega)) d_W_law_402 ?_
    refine W.eq (g2 := F0 m 403 ls [.int (xs (i + 3)), .int (xs (i + 2)), .int (xs (i + 1)), .ref xr]) (by rw [nI_clamp (by omega)]) ?_
    refine lv_if_eq (tgt := 410) hx hb d_W_law_403 (by decide) (fun _ => ?_) (fun c2 => absurd c1 c2)
    refine lv_iconst (v := nI 0) hx hb d_W_law_410 (by decide) ?_
    refine W.eq (g2 := F0 m 411 ls [.int (bI false), .int (xs (i + 2)), .int (xs (i + 1)), .ref xr]) rfl ?_
    refine aQ (rV (As := [.int (xs (i + 1)), .int (xs (i + 2)), .int (bI false)]) (rest := []) C0 (c_M_grant l g _ xr adr _ _ _ hm T hR.2.1.2 hTT.2 hTT.1 hR.2.1.1 rows mir hR.1 (tbL rows) (inv_log hO).choose_spec.2 (xs (i + 1)) (xs (i + 2)) false cd ((cd_gra hO).trans hcd)) (zK_S hZ hS (fun _ h => h.elim)) k_W_law_411 rfl rfl ⟨Nat.le_of_ble_eq_true rfl, Nat.le_of_ble_eq_true rfl⟩ (ob_recv hK hm.1 rfl) rfl hl.1 rfl (Nat.le_of_ble_eq_true rfl) d_W_law_411 ⟨by show cl + 34 + 0 ≤ 632517; omega, by show sl + 968 + 0 ≤ 7198554; omega⟩) hS hold (fun v H locs F1 A1 B1 hm9 hq9 hz9 hp hS => ?_)
    have hX := cX_mv (Z' := (Zr xr adr o9)) hX (fun a h1 h2 => ⟨hq9 a h1.1, h1⟩)
    have ho := ar_kept ho (hq9 _ hom)
    obtain ⟨rfl, hF9, rfl, hA9⟩ := hp
    have hO : OKR (if cd = 0 then rows ++ [(2, (xs (i + 1)), T, T, (xs (i + 2)), bI false, og0)] else rows) mir := OKR_if hO (fun z9 => ok_gra hrc.2 hog (hcd.trans z9))
    have hR := RF_wr hR hF9 (hA9 og0)
    have hm := hm9
    refine W.eq (g2 := F0 m 414 ls [.int (if cd = 0 then nI rows.length else 0)]) rfl ?_
    refine lv_istore (lv' := [(6, .int (if cd = 0 then nI rows.length else 0)), (5, .int (nI cd)), (0, .ref b), (1, .ref x), (2, .ref xr), (3, .ref o9), (4, .int (nI i))]) hx hb d_W_law_414 hl (by decide) rfl (fun ls hl => ?_)
    refine lv_aload_n hx hb d_W_law_416 rfl (lv_at hl 4 rfl) ?_
    refine aP (rV (As := []) (rest := []) C0 (c_M_thrown l g _ xr adr _ _ _ hm) (zK_S hZ hS (fun _ h => h.elim)) k_W_law_417 rfl rfl ⟨Nat.le_of_ble_eq_true rfl, Nat.le_of_ble_eq_true rfl⟩ (ob_recv hK hm.1 rfl) rfl hl.1 rfl (Nat.le_of_ble_eq_true rfl) d_W_law_417 ⟨by show cl + 34 + 0 ≤ 632517; omega, by show sl + 968 + 0 ≤ 7198554; omega⟩) ?_
    intro v hv; subst hv
    refine W.eq (g2 := F0 m 420 ls [.int (F1 0)]) rfl ?_
    refine W.eq (g2 := F0 m 420 ls [.int (nI cd)]) (by rw [show F1 0 = nI cd from hF9 0 (by decide)]) ?_
    refine lv_iload hx hb d_W_law_420 (lv_at hl 1 rfl) ?_
    refine lv_icmp_eq (tgt := 427) hx hb d_W_law_422 (by decide) (fun _ => ?_) (fun c9 => absurd rfl c9)
    refine lv_iload hx hb d_W_law_427 (lv_at hl 1 rfl) ?_
    refine lv_if_ne (tgt := 444) hx hb d_W_law_429 (by decide) (fun _ => ?_) (fun c9 => ?_)
    · skip
      refine lv_goto (tgt := 1289) hx hb d_W_law_444 (by decide) ?_
      refine W.widen (k := cl + 70) (n := sl + 2000) (by omega) (by omega) ?_
      exact kk H _ ⟨_, _, _, _, _, _, _, _, _, _, _, _, _, _, _, hX, hm, hR, hO, ho, ho9, hom⟩ hS ls (lv_sub hl [2, 3, 4, 5, 6] rfl)
    · skip
      have h0 : cd = 0 := nI_z hc3 c9
      refine lv_aload_n hx hb d_W_law_432 rfl (lv_at hl 5 rfl) ?_
      refine lv_iconst (v := nI 0) hx hb d_W_law_433 (by decide) ?_
      refine va_lald (D := g.1) hx hb hK.1 ho 0 1 rfl rfl (show vp_in (nI 0) 1 from vp_in_nI (by omega) (by omega)) d_W_law_434 ?_
      refine W.eq (g2 := F0 m 435 ls [.long ((nI rows.length).toInt64)]) (by rw [if_pos h0]; rfl) ?_
      refine lv_iload hx hb d_W_law_435 (lv_at hl 0 rfl) ?_
      refine W.eq (g2 := F0 m 437 ls [.int (nI rows.length), .long ((nI rows.length).toInt64)]) (by rw [if_pos h0]) ?_
      refine lv_i2l hx hb d_W_law_437 rfl ?_
      refine W.lcmp hx hb d_W_law_438 ?_
      refine lv_if_eq (tgt := 444) hx hb d_W_law_439 (by decide) (fun _ => ?_) (fun c9 => absurd (lg_z.mpr rfl) c9)
      refine lv_goto (tgt := 1289) hx hb d_W_law_444 (by decide) ?_
      refine W.widen (k := cl + 70) (n := sl + 2000) (by omega) (by omega) ?_
      exact kk H _ ⟨_, _, _, _, _, _, _, _, _, _, _, _, _, _, _, hX, hm, hR, hO, ho, ho9, hom⟩ hS ls (lv_sub hl [2, 3, 4, 5, 6] rfl)
  · skip
    refine lv_iconst (v := nI 1) hx hb d_W_law_373 (by decide) ?_
    refine lv_goto (tgt := 378) hx hb d_W_law_374 (by decide) ?_
    refine lv_aload_n hx hb d_W_law_378 rfl (lv_at hl 3 rfl) ?_
    refine W.eq (g2 := F0 m 379 ls [.ref o9, .int (bI true), .int (xs (i + 2)), .int (xs (i + 1)), .ref x]) rfl ?_
    obtain ⟨og0, hog⟩ : ∃ y : Int32, oS T rows (-1) = y := ⟨_, rfl⟩
    obtain ⟨cd, hcd⟩ : ∃ y : Nat, endC (!(nameS T && (decide (0 ≤ (xs (i + 1)) ∧ (xs (i + 1)) < 8) && decide (0 ≤ (xs (i + 2)) ∧ (xs (i + 2)) < 8)))) (graC rows T (xs (i + 1)) (xs (i + 2)) true) rows.length = y := ⟨_, rfl⟩
    have hc3 : cd < 3 := by rw [← hcd]; exact endC_3 _ _ _
    refine aW (N := (fun a => NX ad a ∨ a = o9)) (rSW (As := [.ref x, .int (xs (i + 1)), .int (xs (i + 2)), .int (bI true), .ref o9]) (rest := []) C0 (c_W_grant l g _ htr (Zr xr adr o9) x ad ms nm nw rows mir T f k 0 f2 k2 hX hsz hZb o9 fo ho (Z_no hX) ho9 (xs (i + 1)) (xs (i + 2)) true (fun z => z.2 rfl) og0 hog cd hcd) (zK_S hZ hS (fun _ h => h.elim)) k_W_law_379 rfl rfl ⟨Nat.le_of_ble_eq_true rfl, Nat.le_of_ble_eq_true rfl⟩ rfl hl.1 rfl (Nat.le_of_ble_eq_true rfl) d_W_law_379 ⟨by show cl + 34 ≤ 632517; omega, by show sl + 968 ≤ 7198554; omega⟩) (fun v H L hC1 hp hL => ?_)
    have hS0 := hS
    have hS := hS_call hS hC1 hL (fun a h => Or.inr (by rw [← hg9]; exact h.elim (fun z => cX_old hX a z) (fun z => by rw [z]; exact ho9)))
    have hm := mW_keep hm (fun a h => hC_at hC1 (mN_lt hm h) (fun z => z.elim (Z_nm hX h) (fun z2 => hom (z2 ▸ h))))
    obtain ⟨rfl, ⟨v2, hX⟩, ho⟩ := hp
    refine W.eq (g2 := F0 m 382 ls [.int (nI cd)]) rfl ?_
    refine lv_istore (lv' := [(5, .int (nI cd)), (0, .ref b), (1, .ref x), (2, .ref xr), (3, .ref o9), (4, .int (nI i))]) hx hb d_W_law_382 hl (by decide) rfl (fun ls hl => ?_)
    refine lv_aload_n hx hb d_W_law_384 rfl (lv_at hl 3 rfl) ?_
    refine lv_aload_n hx hb d_W_law_385 rfl (lv_at hl 1 rfl) ?_
    refine lv_iload hx hb d_W_law_386 (lv_at hl 5 rfl) ?_
    refine lv_iconst (v := nI 1) hx hb d_W_law_388 (by decide) ?_
    refine n_iadd hx hb d_W_law_389 ?_
    refine va_sld hx hb hXs hbl (fun z => z.elim id (fun z => absurd hbl (Nat.not_lt.mpr z))) hS (vp_in_nI (by omega) (by omega)) d_W_law_390 ?_
    refine W.eq (g2 := F0 m 391 ls [.int (xs (i + 1)), .ref xr]) (by rw [nI_clamp (by omega)]) ?_
    refine lv_aload_n hx hb d_W_law_391 rfl (lv_at hl 1 rfl) ?_
    refine lv_iload hx hb d_W_law_392 (lv_at hl 5 rfl) ?_
    refine lv_iconst (v := nI 2) hx hb d_W_law_394 (by decide) ?_
    refine n_iadd hx hb d_W_law_395 ?_
    refine va_sld hx hb hXs hbl (fun z => z.elim id (fun z => absurd hbl (Nat.not_lt.mpr z))) hS (vp_in_nI (by omega) (by omega)) d_W_law_396 ?_
    refine W.eq (g2 := F0 m 397 ls [.int (xs (i + 2)), .int (xs (i + 1)), .ref xr]) (by rw [nI_clamp (by omega)]) ?_
    refine lv_aload_n hx hb d_W_law_397 rfl (lv_at hl 1 rfl) ?_
    refine lv_iload hx hb d_W_law_398 (lv_at hl 5 rfl) ?_
    refine lv_iconst (v := nI 3) hx hb d_W_law_400 (by decide) ?_
    refine n_iadd hx hb d_W_law_401 ?_
    refine va_sld hx hb hXs hbl (fun z => z.elim id (fun z => absurd hbl (Nat.not_lt.mpr z))) hS (vp_in_nI (by omega) (by omega)) d_W_law_402 ?_
    refine W.eq (g2 := F0 m 403 ls [.int (xs (i + 3)), .int (xs (i + 2)), .int (xs (i + 1)), .ref xr]) (by rw [nI_clamp (by omega)]) ?_
    refine lv_if_eq (tgt := 410) hx hb d_W_law_403 (by decide) (fun c2 => absurd c2 c1) (fun _ => ?_)
    refine lv_iconst (v := nI 1) hx hb d_W_law_406 (by decide) ?_
    refine lv_goto (tgt := 411) hx hb d_W_law_407 (by decide) ?_
    refine W.eq (g2 := F0 m 411 ls [.int (bI true), .int (xs (i + 2)), .int (xs (i + 1)), .ref xr]) rfl ?_
    refine aQ (rV (As := [.int (xs (i + 1)), .int (xs (i + 2)), .int (bI true)]) (rest := []) C0 (c_M_grant l g _ xr adr _ _ _ hm T hR.2.1.2 hTT.2 hTT.1 hR.2.1.1 rows mir hR.1 (tbL rows) (inv_log hO).choose_spec.2 (xs (i + 1)) (xs (i + 2)) true cd ((cd_gra hO).trans hcd)) (zK_S hZ hS (fun _ h => h.elim)) k_W_law_411 rfl rfl ⟨Nat.le_of_ble_eq_true rfl, Nat.le_of_ble_eq_true rfl⟩ (ob_recv hK hm.1 rfl) rfl hl.1 rfl (Nat.le_of_ble_eq_true rfl) d_W_law_411 ⟨by show cl + 34 + 0 ≤ 632517; omega, by show sl + 968 + 0 ≤ 7198554; omega⟩) hS hold (fun v H locs F1 A1 B1 hm9 hq9 hz9 hp hS => ?_)
    have hX := cX_mv (Z' := (Zr xr adr o9)) hX (fun a h1 h2 => ⟨hq9 a h1.1, h1⟩)
    have ho := ar_kept ho (hq9 _ hom)
    obtain ⟨rfl, hF9, rfl, hA9⟩ := hp
    have hO : OKR (if cd = 0 then rows ++ [(2, (xs (i + 1)), T, T, (xs (i + 2)), bI true, og0)] else rows) mir := OKR_if hO (fun z9 => ok_gra hrc.2 hog (hcd.trans z9))
    have hR := RF_wr hR hF9 (hA9 og0)
    have hm := hm9
    refine W.eq (g2 := F0 m 414 ls [.int (if cd = 0 then nI rows.length else 0)]) rfl ?_
    refine lv_istore (lv' := [(6, .int (if cd = 0 then nI rows.length else 0)), (5, .int (nI cd)), (0, .ref b), (1, .ref x), (2, .ref xr), (3, .ref o9), (4, .int (nI i))]) hx hb d_W_law_414 hl (by decide) rfl (fun ls hl => ?_)
    refine lv_aload_n hx hb d_W_law_416 rfl (lv_at hl 4 rfl) ?_
    refine aP (rV (As := []) (rest := []) C0 (c_M_thrown l g _ xr adr _ _ _ hm) (zK_S hZ hS (fun _ h => h.elim)) k_W_law_417 rfl rfl ⟨Nat.le_of_ble_eq_true rfl, Nat.le_of_ble_eq_true rfl⟩ (ob_recv hK hm.1 rfl) rfl hl.1 rfl (Nat.le_of_ble_eq_true rfl) d_W_law_417 ⟨by show cl + 34 + 0 ≤ 632517; omega, by show sl + 968 + 0 ≤ 7198554; omega⟩) ?_
    intro v hv; subst hv
    refine W.eq (g2 := F0 m 420 ls [.int (F1 0)]) rfl ?_
    refine W.eq (g2 := F0 m 420 ls [.int (nI cd)]) (by rw [show F1 0 = nI cd from hF9 0 (by decide)]) ?_
    refine lv_iload hx hb d_W_law_420 (lv_at hl 1 rfl) ?_
    refine lv_icmp_eq (tgt := 427) hx hb d_W_law_422 (by decide) (fun _ => ?_) (fun c9 => absurd rfl c9)
    refine lv_iload hx hb d_W_law_427 (lv_at hl 1 rfl) ?_
    refine lv_if_ne (tgt := 444) hx hb d_W_law_429 (by decide) (fun _ => ?_) (fun c9 => ?_)
    · skip
      refine lv_goto (tgt := 1289) hx hb d_W_law_444 (by decide) ?_
      refine W.widen (k := cl + 70) (n := sl + 2000) (by omega) (by omega) ?_
      exact kk H _ ⟨_, _, _, _, _, _, _, _, _, _, _, _, _, _, _, hX, hm, hR, hO, ho, ho9, hom⟩ hS ls (lv_sub hl [2, 3, 4, 5, 6] rfl)
    · skip
      have h0 : cd = 0 := nI_z hc3 c9
      refine lv_aload_n hx hb d_W_law_432 rfl (lv_at hl 5 rfl) ?_
      refine lv_iconst (v := nI 0) hx hb d_W_law_433 (by decide) ?_
      refine va_lald (D := g.1) hx hb hK.1 ho 0 1 rfl rfl (show vp_in (nI 0) 1 from vp_in_nI (by omega) (by omega)) d_W_law_434 ?_
      refine W.eq (g2 := F0 m 435 ls [.long ((nI rows.length).toInt64)]) (by rw [if_pos h0]; rfl) ?_
      refine lv_iload hx hb d_W_law_435 (lv_at hl 0 rfl) ?_
      refine W.eq (g2 := F0 m 437 ls [.int (nI rows.length), .long ((nI rows.length).toInt64)]) (by rw [if_pos h0]) ?_
      refine lv_i2l hx hb d_W_law_437 rfl ?_
      refine W.lcmp hx hb d_W_law_438 ?_
      refine lv_if_eq (tgt := 444) hx hb d_W_law_439 (by decide) (fun _ => ?_) (fun c9 => absurd (lg_z.mpr rfl) c9)
      refine lv_goto (tgt := 1289) hx hb d_W_law_444 (by decide) ?_
      refine W.widen (k := cl + 70) (n := sl + 2000) (by omega) (by omega) ?_
      exact kk H _ ⟨_, _, _, _, _, _, _, _, _, _, _, _, _, _, _, hX, hm, hR, hO, ho, ho9, hom⟩ hS ls (lv_sub hl [2, 3, 4, 5, 6] rfl)
theorem k_W_law_455 : kSW "RegistryLogLaw" 54 y_W_move b_W_move 4 (some .int) [(0, 9, 12, 13), (0, 9, 15, 15)] 3 := ⟨(in_4 (List.mem_of_getElem? (i := 125) rfl) rfl), (in_4 (List.mem_of_getElem? (i := 126) rfl) rfl), (in_1 (List.mem_of_getElem? (i := 0) rfl) rfl), (in_4 (List.mem_of_getElem? (i := 127) rfl) rfl), ⟨by decide, by decide, by decide +kernel⟩⟩
theorem k_W_law_467 : kV "RegistryLogLaw" 57 "RegistryLogModel" y_M_move b_M_move 5 (some .int) 1 := ⟨(in_5 (List.mem_of_getElem? (i := 198) rfl) rfl), (in_5 (List.mem_of_getElem? (i := 199) rfl) rfl), (in_5 (List.mem_of_getElem? (i := 200) rfl) rfl), (in_1 (List.mem_of_getElem? (i := 22) rfl) rfl), (in_5 (List.mem_of_getElem? (i := 201) rfl) rfl), ⟨by decide, by decide, by decide +kernel⟩⟩
theorem k_W_law_473 : kV "RegistryLogLaw" 43 "RegistryLogModel" y_M_thrown b_M_thrown 1 (some .int) 0 := ⟨(in_5 (List.mem_of_getElem? (i := 110) rfl) rfl), (in_5 (List.mem_of_getElem? (i := 111) rfl) rfl), (in_5 (List.mem_of_getElem? (i := 112) rfl) rfl), (in_1 (List.mem_of_getElem? (i := 22) rfl) rfl), (in_5 (List.mem_of_getElem? (i := 113) rfl) rfl), ⟨by decide, by decide, by decide +kernel⟩⟩
set_option maxHeartbeats 4000000 in
set_option maxRecDepth 100000 in
theorem ca_4 {p : Program} {l : Launch} {e : Env} {s : State} {m : MethodId} {args : Array Value} {below : List Frame} {meth : Method} {c : Code} {g : gG} (C0 : cF g p s m args meth c b_W_law 7 "RegistryLogLaw" (some .boolean)) (htr : ∀ e, l.admits e → e.platform.stackTraces = false) (hZ : zK g s s.heap) (hg9 : g.2.2.1 = s.heap.size) (hE0 : pS (fun a => a < s.heap.size) g s.heap (g.2.2.2 1) []) {b L : Nat} {xs : Nat → Int32} (hXs : va_X b L xs s s.heap) (hbl : b < s.heap.size) (hL : L ≤ 3584) {x xr o9 : Nat} {adr : Nat → Nat} {i cl sl : Nat} (hi : i + 7 ≤ L) (hcl : cl + 70 ≤ 632517) (hsl : sl + 2000 ≤ 7198554) {Q : State → Prop} (kk : ∀ (H : Heap) (locs : List Loc), RL g H x xr adr o9 → va_S (fW s.heap no_) s.heap H locs → ∀ (ls : Array Slot), lv_has ls 7 [(0, .ref b), (1, .ref x), (2, .ref xr), (3, .ref o9), (4, .int (nI i))] → W p l e room_1 s m args below meth c H locs (cl + 70) (sl + 2000) Q (F0 m 1289 ls [])) : ∀ (H : Heap) (locs : List Loc), RL g H x xr adr o9 → va_S (fW s.heap no_) s.heap H locs → ∀ (ls : Array Slot), lv_has ls 7 [(0, .ref b), (1, .ref x), (2, .ref xr), (3, .ref o9), (4, .int (nI i))] → W p l e room_1 s m args below meth c H locs cl sl Q (F0 m 447 ls []) := by
  obtain ⟨hx, hb, hml, hown, hts, hr, hlk, hK⟩ := id C0
  intro H locs hRL hS ls hl
  obtain ⟨ad, ms, nm, nw, rows, mir, T, f, k, f2, k2, F, A, B, fo, hX, hm, hR, hO, ho, ho9, hom⟩ := hRL
  have hsz : g.2.2.1 ≤ H.size := by rw [hg9]; exact hS.1
  have hZb := Z_new hm (ar_lt ho)
  have hold : ∀ q, mN xr adr q → s.heap.size ≤ q := fun q h => by rw [← hg9]; exact hm.2.2.2.2.2.2 q h
  have hTT := cX_T hX
  have hrc := RF_c hR
  refine lv_aload_n hx hb d_W_law_447 rfl (lv_at hl 1 rfl) ?_
  refine lv_aload_n hx hb d_W_law_448 rfl (lv_at hl 0 rfl) ?_
  refine lv_iload hx hb d_W_law_449 (lv_at hl 4 rfl) ?_
  refine lv_iconst (v := nI 1) hx hb d_W_law_451 (by decide) ?_
  refine n_iadd hx hb d_W_law_452 ?_
  refine va_sld hx hb hXs hbl (fun z => z.elim id (fun z => absurd hbl (Nat.not_lt.mpr z))) hS (vp_in_nI (by omega) (by omega)) d_W_law_453 ?_
  refine W.eq (g2 := F0 m 454 ls [.int (xs (i + 1)), .ref x]) (by rw [nI_clamp (by omega)]) ?_
  refine lv_aload_n hx hb d_W_law_454 rfl (lv_at hl 3 rfl) ?_
  obtain ⟨og0, hog⟩ : ∃ y : Int32, oS (T.take (cutM T)) rows (-1) = y := ⟨_, rfl⟩
  obtain ⟨cd, hcd⟩ : ∃ y : Nat, endC (!((decide (cutM T < T.length) && (nameS (T.take (cutM T)) && nameS (T.drop (cutM T + 1)))) && decide (0 ≤ (xs (i + 1)) ∧ (xs (i + 1)) < 8))) (movC rows (T.take (cutM T)) (T.drop (cutM T + 1)) (xs (i + 1))) rows.length = y := ⟨_, rfl⟩
  have hc3 : cd < 3 := by rw [← hcd]; exact endC_3 _ _ _
  have hE := pS_mv hE0 (P' := PX (Zr xr adr o9) ad) (fun a h1 h2 => ⟨hS.2.1 a h1 (fun z => z.elim id (fun z => absurd h1 (Nat.not_lt.mpr z))), old_PX hX hm ho9 (by rw [hg9]; exact h1)⟩)
  refine aW (N := (fun a => NX ad a ∨ a = o9)) (rSW (As := [.ref x, .int (xs (i + 1)), .ref o9]) (rest := []) C0 (c_W_move l g _ htr (Zr xr adr o9) x ad ms nm nw rows mir T f k 0 f2 k2 hX hsz hZb hE o9 fo ho (Z_no hX) ho9 (xs (i + 1)) (fun z => z.2 rfl) og0 hog cd hcd) (zK_S hZ hS (fun _ h => h.elim)) k_W_law_455 rfl rfl ⟨Nat.le_of_ble_eq_true rfl, Nat.le_of_ble_eq_true rfl⟩ rfl hl.1 rfl (Nat.le_of_ble_eq_true rfl) d_W_law_455 ⟨by show cl + 67 ≤ 632517; omega, by show sl + 1926 ≤ 7198554; omega⟩) (fun v H L hC1 hp hL => ?_)
  have hS0 := hS
  have hS := hS_call hS hC1 hL (fun a h => Or.inr (by rw [← hg9]; exact h.elim (fun z => cX_old hX a z) (fun z => by rw [z]; exact ho9)))
  have hm := mW_keep hm (fun a h => hC_at hC1 (mN_lt hm h) (fun z => z.elim (Z_nm hX h) (fun z2 => hom (z2 ▸ h))))
  obtain ⟨rfl, ⟨v2, hX⟩, ho⟩ := hp
  refine W.eq (g2 := F0 m 458 ls [.int (nI cd)]) rfl ?_
  refine lv_istore (lv' := [(5, .int (nI cd)), (0, .ref b), (1, .ref x), (2, .ref xr), (3, .ref o9), (4, .int (nI i))]) hx hb d_W_law_458 hl (by decide) rfl (fun ls hl => ?_)
  refine lv_aload_n hx hb d_W_law_460 rfl (lv_at hl 3 rfl) ?_
  refine lv_aload_n hx hb d_W_law_461 rfl (lv_at hl 1 rfl) ?_
  refine lv_iload hx hb d_W_law_462 (lv_at hl 5 rfl) ?_
  refine lv_iconst (v := nI 1) hx hb d_W_law_464 (by decide) ?_
  refine n_iadd hx hb d_W_law_465 ?_
  refine va_sld hx hb hXs hbl (fun z => z.elim id (fun z => absurd hbl (Nat.not_lt.mpr z))) hS (vp_in_nI (by omega) (by omega)) d_W_law_466 ?_
  refine W.eq (g2 := F0 m 467 ls [.int (xs (i + 1)), .ref xr]) (by rw [nI_clamp (by omega)]) ?_
  refine aQ (rV (As := [.int (xs (i + 1))]) (rest := []) C0 (c_M_move l g _ xr adr _ _ _ hm T hR.2.1.2 hTT.2 hTT.1 hR.2.1.1 rows mir hR.1 (tbL rows) (inv_log hO).choose_spec.2 (xs (i + 1)) cd ((cd_mov hO).trans hcd)) (zK_S hZ hS (fun _ h => h.elim)) k_W_law_467 rfl rfl ⟨Nat.le_of_ble_eq_true rfl, Nat.le_of_ble_eq_true rfl⟩ (ob_recv hK hm.1 rfl) rfl hl.1 rfl (Nat.le_of_ble_eq_true rfl) d_W_law_467 ⟨by show cl + 67 + 0 ≤ 632517; omega, by show sl + 1926 + 0 ≤ 7198554; omega⟩) hS hold (fun v H locs F1 A1 B1 hm9 hq9 hz9 hp hS => ?_)
  have hX := cX_mv (Z' := (Zr xr adr o9)) hX (fun a h1 h2 => ⟨hq9 a h1.1, h1⟩)
  have ho := ar_kept ho (hq9 _ hom)
  obtain ⟨rfl, hF9, rfl, hA9⟩ := hp
  have hO : OKR (if cd = 0 then rows ++ [(3, (xs (i + 1)), T.take (cutM T), T.drop (cutM T + 1), -1, 0, og0)] else rows) mir := OKR_if hO (fun z9 => ok_mov hrc.2 hog (hcd.trans z9))
  have hR := RF_wr hR hF9 (hA9 og0)
  have hm := hm9
  refine W.eq (g2 := F0 m 470 ls [.int (if cd = 0 then nI rows.length else 0)]) rfl ?_
  refine lv_istore (lv' := [(6, .int (if cd = 0 then nI rows.length else 0)), (5, .int (nI cd)), (0, .ref b), (1, .ref x), (2, .ref xr), (3, .ref o9), (4, .int (nI i))]) hx hb d_W_law_470 hl (by decide) rfl (fun ls hl => ?_)
  refine lv_aload_n hx hb d_W_law_472 rfl (lv_at hl 4 rfl) ?_
  refine aP (rV (As := []) (rest := []) C0 (c_M_thrown l g _ xr adr _ _ _ hm) (zK_S hZ hS (fun _ h => h.elim)) k_W_law_473 rfl rfl ⟨Nat.le_of_ble_eq_true rfl, Nat.le_of_ble_eq_true rfl⟩ (ob_recv hK hm.1 rfl) rfl hl.1 rfl (Nat.le_of_ble_eq_true rfl) d_W_law_473 ⟨by show cl + 67 + 0 ≤ 632517; omega, by show sl + 1926 + 0 ≤ 7198554; omega⟩) ?_
  intro v hv; subst hv
  refine W.eq (g2 := F0 m 476 ls [.int (F1 0)]) rfl ?_
  refine W.eq (g2 := F0 m 476 ls [.int (nI cd)]) (by rw [show F1 0 = nI cd from hF9 0 (by decide)]) ?_
  refine lv_iload hx hb d_W_law_476 (lv_at hl 1 rfl) ?_
  refine lv_icmp_eq (tgt := 483) hx hb d_W_law_478 (by decide) (fun _ => ?_) (fun c9 => absurd rfl c9)
  refine lv_iload hx hb d_W_law_483 (lv_at hl 1 rfl) ?_
  refine lv_if_ne (tgt := 500) hx hb d_W_law_485 (by decide) (fun _ => ?_) (fun c9 => ?_)
  · skip
    refine lv_goto (tgt := 1289) hx hb d_W_law_500 (by decide) ?_
    refine W.widen (k := cl + 70) (n := sl + 2000) (by omega) (by omega) ?_
    exact kk H _ ⟨_, _, _, _, _, _, _, _, _, _, _, _, _, _, _, hX, hm, hR, hO, ho, ho9, hom⟩ hS ls (lv_sub hl [2, 3, 4, 5, 6] rfl)
  · skip
    have h0 : cd = 0 := nI_z hc3 c9
    refine lv_aload_n hx hb d_W_law_488 rfl (lv_at hl 5 rfl) ?_
    refine lv_iconst (v := nI 0) hx hb d_W_law_489 (by decide) ?_
    refine va_lald (D := g.1) hx hb hK.1 ho 0 1 rfl rfl (show vp_in (nI 0) 1 from vp_in_nI (by omega) (by omega)) d_W_law_490 ?_
    refine W.eq (g2 := F0 m 491 ls [.long ((nI rows.length).toInt64)]) (by rw [if_pos h0]; rfl) ?_
    refine lv_iload hx hb d_W_law_491 (lv_at hl 0 rfl) ?_
    refine W.eq (g2 := F0 m 493 ls [.int (nI rows.length), .long ((nI rows.length).toInt64)]) (by rw [if_pos h0]) ?_
    refine lv_i2l hx hb d_W_law_493 rfl ?_
    refine W.lcmp hx hb d_W_law_494 ?_
    refine lv_if_eq (tgt := 500) hx hb d_W_law_495 (by decide) (fun _ => ?_) (fun c9 => absurd (lg_z.mpr rfl) c9)
    refine lv_goto (tgt := 1289) hx hb d_W_law_500 (by decide) ?_
    refine W.widen (k := cl + 70) (n := sl + 2000) (by omega) (by omega) ?_
    exact kk H _ ⟨_, _, _, _, _, _, _, _, _, _, _, _, _, _, _, hX, hm, hR, hO, ho, ho9, hom⟩ hS ls (lv_sub hl [2, 3, 4, 5, 6] rfl)
