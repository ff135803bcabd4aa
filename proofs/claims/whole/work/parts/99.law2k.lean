theorem RF_start : RF (fun _ => 0) (fun _ _ => 0) (fun _ _ => 0) [] (fun _ => []) [] (fun _ => 0) 0 (fun _ => 0) 0 :=
  have hr : ∀ w, refR (fun _ _ => 0) w [] := fun w => ⟨Nat.zero_le _, nI_0.symm, fun j hj => absurd hj (Nat.not_lt_zero _)⟩
  ⟨⟨hr 4, fun q _ => ⟨hr q, Nat.le_refl _⟩, fun j hj => absurd hj (Nat.not_lt_zero _)⟩, ⟨nI_0.symm, fun i hi => absurd hi (Nat.not_lt_zero _)⟩, ⟨nI_0.symm, fun i hi => absurd hi (Nat.not_lt_zero _), Nat.zero_le _⟩, nI_0.symm, fun i hi => absurd hi (Nat.not_lt_zero _), Nat.zero_le _⟩
theorem OKR_start : OKR [] (fun _ => []) := ⟨trivial, fun q _ => ⟨rfl, Nat.le_refl _⟩⟩
theorem k_W_law_4 : kI "RegistryLogLaw" 28 y_X_init b_X_init 2 0 := ⟨(in_1 (List.mem_of_getElem? (i := 28) rfl) rfl), (in_1 (List.mem_of_getElem? (i := 29) rfl) rfl), (in_1 (List.mem_of_getElem? (i := 1) rfl) rfl), (in_1 (List.mem_of_getElem? (i := 30) rfl) rfl), rfl, ⟨by decide, by decide, by decide +kernel⟩⟩
theorem k_W_law_12 : kI "RegistryLogLaw" 31 y_M_init b_M_init 1 0 := ⟨(in_4 (List.mem_of_getElem? (i := 205) rfl) rfl), (in_4 (List.mem_of_getElem? (i := 206) rfl) rfl), (in_1 (List.mem_of_getElem? (i := 22) rfl) rfl), (in_4 (List.mem_of_getElem? (i := 207) rfl) rfl), rfl, ⟨by decide, by decide, by decide +kernel⟩⟩
set_option maxHeartbeats 4000000 in
set_option maxRecDepth 100000 in
theorem lw_pro {p : Program} {l : Launch} {e : Env} {s : State} {m : MethodId} {args : Array Value} {below : List Frame} {meth : Method} {c : Code} {g : gG} (C0 : cF g p s m args meth c b_W_law 7 "RegistryLogLaw" (some .boolean)) (htr : ∀ e, l.admits e → e.platform.stackTraces = false) (hZ : zK g s s.heap) (hg9 : g.2.2.1 = s.heap.size) (hE0 : pS (fun a => a < s.heap.size) g s.heap (g.2.2.2 0) []) (hE1 : pS (fun a => a < s.heap.size) g s.heap (g.2.2.2 1) []) {b L0 : Nat} {xs : Nat → Int32} (hXs : va_X b L0 xs s s.heap) (hbl : b < s.heap.size) (hL0 : L0 ≤ 3584) {Q : State → Prop} (kk : ∀ (H : Heap) (locs : List Loc), va_S (fW s.heap no_) s.heap H locs → ∀ (ls : Array Slot), W p l e room_1 s m args below meth c H locs 632517 7198554 Q (F0 m 1295 ls [])) : ∀ (ls : Array Slot), lv_has ls 7 [(0, .ref b)] → W p l e room_1 s m args below meth c s.heap [] 0 0 Q (F0 m 0 ls []) := by
  obtain ⟨hx, hb, hml, hown, hts, hr, hlk, hK⟩ := id C0
  intro ls hl
  have hS : va_S (fW s.heap no_) s.heap s.heap [] := hS_rf
  have hS0 := hS
  refine s_new (ci := 0) (C := R_X) (T := F_X) (N := 6) hx hb hts i_X t_X t_X_ok hown (hts _ (in_1 (List.mem_of_getElem? (i := 26) rfl) rfl)) (hts _ (in_1 (List.mem_of_getElem? (i := 27) rfl) rfl)) (hts _ (in_1 (List.mem_of_getElem? (i := 1) rfl) rfl)) hK hS rfl (fs := [.null, .null, .null, .null, .null, .null]) (by decide) (by show 0 + 1 ≤ 632517; omega) (by show 0 + 6 ≤ 7198554; omega) d_W_law_0 (fun q1 H hq f_q1 hz o1 hS => ?_)
  have ge_q1 : s.heap.size ≤ q1 := by rw [hq]; exact hS0.1
  refine lv_dup hx hb d_W_law_3 rfl ?_
  have hsz : g.2.2.1 ≤ H.size := by rw [hg9]; exact hS.1
  have hE := pS_mv hE0 (fun a h1 h2 => ⟨hS.2.1 a h1 (fun z => z.elim id (fun z => absurd h1 (Nat.not_lt.mpr z))), h1⟩)
  refine aW (N := (fun q => q = q1)) (rI (As := []) (rest := [.ref q1]) C0 (c_X_init l g _ (fun _ => True) (fun q => q < s.heap.size) q1 hsz (by rw [hg9]; exact ge_q1) f_q1 hE (fun q z => ⟨Nat.lt_of_lt_of_le z hS.1, Nat.ne_of_lt (Nat.lt_of_lt_of_le z ge_q1)⟩) trivial (fun _ _ => trivial) (fun _ _ => trivial)) (zK_S hZ hS (fun _ h => h.elim)) k_W_law_4 rfl rfl ⟨Nat.le_of_ble_eq_true rfl, Nat.le_of_ble_eq_true rfl⟩ rfl hl.1 rfl (Nat.le_of_ble_eq_true rfl) d_W_law_4 ⟨by show 0 + 1 + 199 ≤ 632517; omega, by show 0 + 6 + 6200 ≤ 7198554; omega⟩) (fun v H L hC1 hp hL => ?_)
  have hS0 := hS
  have hS := hS_call hS hC1 hL (fun a h => Or.inr (by rw [h]; exact ge_q1))
  obtain ⟨rfl, ad, ms, nm, nw, hX, -⟩ := hp
  obtain ⟨n2, hn2⟩ : ∃ n, n = H.size := ⟨_, rfl⟩
  have hX := cX_mv (Z' := fun q => q < n2) hX (fun q h1 h2 => ⟨rfl, by rw [hn2]; exact h2⟩)
  refine W.eq (g2 := F0 m 7 ls [.ref q1]) rfl ?_
  refine lv_astore_n (lv' := [(1, .ref q1), (0, .ref b)]) hx hb d_W_law_7 rfl hl (by decide) rfl (fun ls hl => ?_)
  have hS0 := hS
  refine s_new (ci := 8) (C := R_M) (T := F_M) (N := 46) hx hb hts i_M t_M t_M_ok hown (hts _ (in_4 (List.mem_of_getElem? (i := 203) rfl) rfl)) (hts _ (in_4 (List.mem_of_getElem? (i := 204) rfl) rfl)) (hts _ (in_1 (List.mem_of_getElem? (i := 22) rfl) rfl)) hK hS rfl (fs := [.int 0, .null, .int 0, .null, .null, .null, .null, .null, .null, .null, .null, .null, .null, .null, .null, .int 0, .int 0, .null, .null, .null, .null, .null, .null, .null, .null, .null, .null, .int 0, .int 0, .int 0, .null, .null, .int 0, .int 0, .null, .null, .null, .null, .null, .null, .null, .int 0, .int 0, .int 0, .int 0, .int 0]) (by decide) (by show 0 + 1 + 199 + 1 ≤ 632517; omega) (by show 0 + 6 + 6200 + 46 ≤ 7198554; omega) d_W_law_8 (fun q2 H hq f_q2 hz o1 hS => ?_)
  have hX := cX_mv (Z' := fun q => q < n2) hX (fun q h1 h2 => ⟨o1 q (by rw [hq]; exact h2), h1⟩)
  have ge_q2 : s.heap.size ≤ q2 := by rw [hq]; exact hS0.1
  have h2n : n2 ≤ q2 := by rw [hn2, hq]; exact Nat.le_refl _
  refine lv_dup hx hb d_W_law_11 rfl ?_
  obtain ⟨n3, hn3⟩ : ∃ n, H.size = n := ⟨_, rfl⟩
  have h3n : q2 < n3 := by rw [← hn3]; exact ob_lt f_q2
  refine aW (N := (fun q => q = q2)) (rI (As := []) (rest := [.ref q2]) C0 (c_M_init l g _ q2 (by rw [hg9]; exact ge_q2) f_q2) (zK_S hZ hS (fun _ h => h.elim)) k_W_law_12 rfl rfl ⟨Nat.le_of_ble_eq_true rfl, Nat.le_of_ble_eq_true rfl⟩ rfl hl.1 rfl (Nat.le_of_ble_eq_true rfl) d_W_law_12 ⟨by show 0 + 1 + 199 + 1 + 32 ≤ 632517; omega, by show 0 + 6 + 6200 + 46 + 7845 ≤ 7198554; omega⟩) (fun v H L hC1 hp hL => ?_)
  have hS0 := hS
  have hS := hS_call hS hC1 hL (fun a h => Or.inr (by rw [h]; exact ge_q2))
  have hX := cX_mv (Z' := fun q => q < n2) hX (fun q h1 h2 => ⟨hC_at hC1 h2 (fun z => by have h1 : q < n2 := h1; have z : q = q2 := z; omega), h1⟩)
  obtain ⟨rfl, hm⟩ := hp
  rw [hn3] at hm
  refine W.eq (g2 := F0 m 15 ls [.ref q2]) rfl ?_
  refine lv_astore_n (lv' := [(2, .ref q2), (1, .ref q1), (0, .ref b)]) hx hb d_W_law_15 rfl hl (by decide) rfl (fun ls hl => ?_)
  refine lv_iconst (v := nI 1) hx hb d_W_law_16 (by decide) ?_
  have hml9 : ∀ a, mN q2 (fun j => n3 + oL9.getD j 0) a → a < H.size := fun a h => mN_lt hm h
  have hS0 := hS
  refine s_newa hx hb (hts _ (in_3 (List.mem_of_getElem? (i := 8) rfl) rfl)) (ty := .long) rfl rfl hK hS 1 rfl (a0 := (1, .inr (.inl (fun _ => 0)))) (fun _ => rfl) (nI_pos (by omega)) (nI_clamp (by omega)) (by show 1 * 8 ≤ 536870912; omega) (by show 0 + 1 + 199 + 1 + 32 + 1 ≤ 632517; omega) (by show 0 + 6 + 6200 + 46 + 7845 + 1 ≤ 7198554; omega) d_W_law_17 (fun q3 H hq f_q3 hz o1 hS => ?_)
  have hX := cX_mv (Z' := fun q => q < n2) hX (fun q h1 h2 => ⟨o1 q (by rw [hq]; exact h2), h1⟩)
  have hm := mW_keep hm (fun a h => o1 a (by rw [hq]; exact mN_lt hm h))
  have ge_q3 : s.heap.size ≤ q3 := by rw [hq]; exact hS0.1
  have hom : ¬ mN q2 (fun j => n3 + oL9.getD j 0) q3 := fun z => absurd (hml9 _ z) (by rw [hq]; exact Nat.lt_irrefl _)
  have h23 : q2 < q3 := by rw [hq]; exact hml9 _ (Or.inl rfl)
  refine lv_astore_n (lv' := [(3, .ref q3), (2, .ref q2), (1, .ref q1), (0, .ref b)]) hx hb d_W_law_19 rfl hl (by decide) rfl (fun ls hl => ?_)
  refine lv_iconst (v := nI 0) hx hb d_W_law_20 (by decide) ?_
  refine lv_istore (lv' := [(4, .int (nI 0)), (3, .ref q3), (2, .ref q2), (1, .ref q1), (0, .ref b)]) hx hb d_W_law_21 hl (by decide) rfl (fun ls hl => ?_)
  have hX := cX_mv (Z' := Zr q2 (fun j => n3 + oL9.getD j 0) q3) hX (fun q h1 h2 => ⟨rfl, fun z => by
    have h1 : q < n2 := h1
    rcases z with z | ⟨j, -, z⟩
    · omega
    · have z : q = n3 + oL9.getD j 0 := z
      omega, by have h1 : q < n2 := h1; omega⟩)
  refine W.widen (k := 234 + 70 * 0) (n := 14098 + 2000 * 0) (by omega) (by omega) ?_
  exact lw_loop C0 htr hZ hg9 hE1 hXs hbl hL0 (k0 := 234) (n0 := 14098) (by decide) (by decide) kk (L0 + 1) 0 (by omega) (by omega) H _ ⟨_, _, _, _, _, _, _, _, _, _, _, _, _, _, _, hX, hm, RF_start, OKR_start, f_q3, by rw [hg9]; exact ge_q3, hom⟩ hS ls (lv_sub hl [4, 3, 2, 1, 0] rfl)
