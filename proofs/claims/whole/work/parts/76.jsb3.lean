theorem sB_ap {g : gG} {H : Heap} {b v cap cc : Nat} {mb : Bool} {t : List Nat} {f : Nat → Int32} (h1 : ob g H b 7 [.ref v, .int 0, .int (bI mb), .int (nI (t.length + 1))]) (h2 : ar g 0 H v (cap, .inl (upd f t.length (nI cc)))) (h3 : ∀ j, j < t.length → f j = nI (t.getD j 0)) (h4 : ∀ j, ∃ c, c < 128 ∧ f j = nI c) (hl : t.length + 1 ≤ cap) (hc : cap = 16 ∨ cap = 34) (hl2 : t.length + 1 ≤ 24) (h5 : ∀ c, t.getD c 0 < 128) (h6 : cc < 128) : sB g H b v (t ++ [cc]) := by
  have e : (t ++ [cc]).length = t.length + 1 := by simp
  refine ⟨mb, cap, _, by rw [e]; exact h1, h2, fun j hj => ?_, fun j => ?_, by omega, hc, by omega, fun k => ?_⟩
  · by_cases z : j = t.length
    · subst z; rw [upd_at, getD_ap2]
    · rw [upd_ne z, getD_ap (by omega)]; exact h3 j (by omega)
  · by_cases z : j = t.length
    · subst z; rw [upd_at]; exact ⟨cc, h6, rfl⟩
    · rw [upd_ne z]; exact h4 j
  · by_cases z : k < t.length
    · rw [getD_ap z]; exact h5 k
    · by_cases z2 : k = t.length
      · subst z2; rw [getD_ap2]; exact h6
      · rw [List.getD_eq_getElem?_getD, List.getElem?_eq_none (by simp; omega)]; decide
theorem k_A_append0_7 : kV "java/lang/AbstractStringBuilder" 100 "java/lang/StringBuilder" y_A_ensureCapacityInternal b_A_ensureCapacityInternal 3 none 1 := ⟨(in_1 (List.mem_of_getElem? (i := 139) rfl) rfl), (in_1 (List.mem_of_getElem? (i := 141) rfl) rfl), (in_7 (List.mem_of_getElem? (i := 0) rfl) rfl), (in_1 (List.mem_of_getElem? (i := 2) rfl) rfl), (in_1 (List.mem_of_getElem? (i := 142) rfl) rfl), ⟨by decide, by decide, by decide +kernel⟩⟩
theorem k_A_append0_11 : kV "java/lang/AbstractStringBuilder" 83 "java/lang/StringBuilder" y_A_isLatin1 b_A_isLatin1 1 (some .boolean) 0 := ⟨(in_1 (List.mem_of_getElem? (i := 174) rfl) rfl), (in_1 (List.mem_of_getElem? (i := 175) rfl) rfl), (in_1 (List.mem_of_getElem? (i := 177) rfl) rfl), (in_1 (List.mem_of_getElem? (i := 2) rfl) rfl), (in_1 (List.mem_of_getElem? (i := 178) rfl) rfl), ⟨by decide, by decide, by decide +kernel⟩⟩
theorem k_A_append0_18 : kS "java/lang/AbstractStringBuilder" 191 y_C_canEncode0 b_C_canEncode0 1 (some .boolean) 1 := ⟨(in_1 (List.mem_of_getElem? (i := 179) rfl) rfl), (in_1 (List.mem_of_getElem? (i := 180) rfl) rfl), (in_1 (List.mem_of_getElem? (i := 8) rfl) rfl), (in_1 (List.mem_of_getElem? (i := 181) rfl) rfl), ⟨by decide, by decide, by decide +kernel⟩⟩
set_option maxHeartbeats 4000000 in
set_option maxRecDepth 100000 in
/-- AbstractStringBuilder.append(char) -/
theorem c_A_append0 (l : Launch) (g : gG) (H : Heap) (b v cc : Nat) (t : List Nat) (hb9 : g.2.2.1 ≤ b) (hv9 : g.2.2.1 ≤ v) (hbv : b ≠ v) (h : sB g H b v t) (ht : t.length < 24) (hcc : cc < 128) : Met l y_A_append0 (wC y_A_append0 b_A_append0 2 (some (.object "java/lang/AbstractStringBuilder"))) (rmk 4 1 34 91) (pC g H [.ref b, .int (nI cc)]) (qW H (fun q => q = b ∨ q = v) (fun r H1 => r = some (.ref b) ∧ ∃ v2, sB g H1 b v2 (t ++ [cc]) ∧ (v2 = v ∨ H.size ≤ v2))) 1 34 (fW H (fun q => q = b ∨ q = v)) := by
  refine mB (by decide) (Nat.le_of_ble_eq_true rfl) ?_
  intro p e s m below meth c ls C0 hH hZ hnm hl
  have C0 : cF g p s m _ meth c b_A_append0 2 "java/lang/AbstractStringBuilder" (some (.object "java/lang/AbstractStringBuilder")) := C0
  obtain ⟨hx, hb, hml, hown, hts, hr, hlk, hK⟩ := id C0
  subst hH
  have hl : lv_has ls 2 [(0, .ref b), (1, .int (nI cc))] := hl
  have hS : va_S (fW s.heap (fun q => q = b ∨ q = v)) s.heap s.heap [] := hS_rf
  obtain ⟨mb, cap, f, f0, f1, hf3, hf4, hcl, hc, ht24, hch⟩ := h
  have f0b := f0
  have f1b := f1
  refine lv_aload_n hx hb d_A_append0_0 rfl (lv_at hl 0 rfl) ?_
  refine lv_aload_n hx hb d_A_append0_1 rfl (lv_at hl 0 rfl) ?_
  refine va_get (D := g.1) (ci := 7) (C := R_B) (T := F_B) (N := 4) hx hb hts i_B hown hK.1 f0 0 rfl rfl 3 (by decide) (hts (.fieldLink "java/lang/AbstractStringBuilder" 79 "java/lang/AbstractStringBuilder" "count" "I") (in_1 (List.mem_of_getElem? (i := 56) rfl) rfl)) (fun _ h9 => h9) rfl d_A_append0_2 ?_
  refine lv_iconst (v := nI 1) hx hb d_A_append0_5 (by decide) ?_
  refine n_iadd hx hb d_A_append0_6 ?_
  refine aW (N := (fun q => q = b)) (rV (As := [.int (nI (t.length + 1))]) (rest := []) C0 (c_A_ensureCapacityInternal l g _ b v t.length cap (t.length + 1) (bI mb) f hb9 f0 f1 hf4 hc (by omega) hbv) (zK_S hZ hS (fun q h => h.elim (fun z => by subst z; exact hb9) (fun z => by subst z; exact hv9))) k_A_append0_7 rfl rfl ⟨Nat.le_of_ble_eq_true rfl, Nat.le_of_ble_eq_true rfl⟩ (ob_recv hK f0 rfl) rfl hl.1 rfl (Nat.le_of_ble_eq_true rfl) d_A_append0_7 ⟨by show 0 + 1 ≤ 1; omega, by show 0 + 34 ≤ 34; omega⟩) (fun v H L hC1 hp hL => ?_)
  have hS0 := hS
  have hS := hS_call hS hC1 hL (fun q h => Or.inl (Or.inl h))
  obtain ⟨rfl, v2, cap2, f2, f0, f1, hk1, hf2, hd2, hcc2, hc2, hv2⟩ := hp
  have hbv2 : b ≠ v2 := hv2.elim (fun z => z ▸ hbv) (fun z => Nat.ne_of_lt (Nat.lt_of_lt_of_le (ob_lt f0b) z))
  refine W.eq (g2 := F0 m 10 ls []) rfl ?_
  refine lv_aload_n hx hb d_A_append0_10 rfl (lv_at hl 0 rfl) ?_
  refine aP (rV (As := []) (rest := []) C0 (c_A_isLatin1 l g _ b v2 t.length (bI mb) f0) (zK_S hZ hS (fun q h => h.elim (fun z => by subst z; exact hb9) (fun z => by subst z; exact hv9))) k_A_append0_11 rfl rfl ⟨Nat.le_of_ble_eq_true rfl, Nat.le_of_ble_eq_true rfl⟩ (ob_recv hK f0 rfl) rfl hl.1 rfl (Nat.le_of_ble_eq_true rfl) d_A_append0_11 ⟨by show 0 + 1 + 0 ≤ 1; omega, by show 0 + 34 + 0 ≤ 34; omega⟩) ?_
  intro v hv; subst hv
  refine W.eq (g2 := F0 m 14 ls [.int 1]) rfl ?_
  refine lv_if_eq (tgt := 45) hx hb d_A_append0_14 (by decide) (fun c14 => ?_) (fun c14 => ?_)
  · skip
    first | exact absurd c14 (by decide) | exact absurd (by decide) c14
  · skip
    refine lv_iload_n hx hb d_A_append0_17 rfl (lv_at hl 1 rfl) ?_
    refine aP (rS (As := [.int (nI cc)]) (rest := []) C0 (c_C_canEncode0 l g _ cc hcc) (zK_S hZ hS (fun q h => h.elim (fun z => by subst z; exact hb9) (fun z => by subst z; exact hv9))) k_A_append0_18 rfl rfl ⟨Nat.le_of_ble_eq_true rfl, Nat.le_of_ble_eq_true rfl⟩ rfl hl.1 rfl (Nat.le_of_ble_eq_true rfl) d_A_append0_18 ⟨by show 0 + 1 + 0 ≤ 1; omega, by show 0 + 34 + 0 ≤ 34; omega⟩) ?_
    intro v hv; subst hv
    refine W.eq (g2 := F0 m 21 ls [.int 1]) rfl ?_
    refine lv_if_eq (tgt := 45) hx hb d_A_append0_21 (by decide) (fun c21 => ?_) (fun c21 => ?_)
    · skip
      first | exact absurd c21 (by decide) | exact absurd (by decide) c21
    · skip
      refine lv_aload_n hx hb d_A_append0_24 rfl (lv_at hl 0 rfl) ?_
      refine va_get (D := g.1) (ci := 7) (C := R_B) (T := F_B) (N := 4) hx hb hts i_B hown hK.1 f0 0 rfl rfl 0 (by decide) (hts (.fieldLink "java/lang/AbstractStringBuilder" 15 "java/lang/AbstractStringBuilder" "value" "[B") (in_1 (List.mem_of_getElem? (i := 52) rfl) rfl)) (fun _ h9 => h9) rfl d_A_append0_25 ?_
      refine lv_aload_n hx hb d_A_append0_28 rfl (lv_at hl 0 rfl) ?_
      refine lv_dup hx hb d_A_append0_29 rfl ?_
      refine va_get (D := g.1) (ci := 7) (C := R_B) (T := F_B) (N := 4) hx hb hts i_B hown hK.1 f0 0 rfl rfl 3 (by decide) (hts (.fieldLink "java/lang/AbstractStringBuilder" 79 "java/lang/AbstractStringBuilder" "count" "I") (in_1 (List.mem_of_getElem? (i := 56) rfl) rfl)) (fun _ h9 => h9) rfl d_A_append0_30 ?_
      refine lv_dup_x1 hx hb d_A_append0_33 rfl rfl ?_
      refine lv_iconst (v := nI 1) hx hb d_A_append0_34 (by decide) ?_
      refine n_iadd hx hb d_A_append0_35 ?_
      refine s_put (ci := 7) (C := R_B) (T := F_B) (N := 4) hx hb hts i_B t_B t_B_ok n_B hown hK hS (Or.inl (Or.inl rfl)) f0 rfl 3 (by decide) (hts _ (in_1 (List.mem_of_getElem? (i := 56) rfl) rfl)) (fun _ h9 => h9) rfl (v := .int (nI (t.length + 1))) rfl rfl rfl (Nat.le_of_ble_eq_true rfl) (fs2 := [.ref v2, .int 0, .int (bI mb), .int (nI (t.length + 1))]) rfl d_A_append0_36 (fun H locs f0 hz oq hS => ?_)
      have f1 := ar_kept f1 (oq _ (Ne.symm (hbv2)))
      refine lv_iload_n hx hb d_A_append0_39 rfl (lv_at hl 1 rfl) ?_
      refine lv_i2b hx hb d_A_append0_40 rfl ?_
      refine s_bast hx hb hK hS (hv2.elim (fun z => Or.inl (Or.inr z)) (fun z => Or.inr z)) f1 t.length rfl (by omega) (by omega) (y := nI cc) (by_nar cc hcc) d_A_append0_41 (fun H locs f1 hz oq hS => ?_)
      have f0 := ob_kept f0 (oq _ (hbv2))
      refine lv_goto (tgt := 75) hx hb d_A_append0_42 (by decide) ?_
      refine lv_aload_n hx hb d_A_append0_75 rfl (lv_at hl 0 rfl) ?_
      refine W.widen (k := 1) (n := 34) (by omega) (by omega) ?_
      exact W.aret hx hb hr (Or.inl ⟨_, rfl⟩) (Or.inr ⟨_, rfl⟩) (fun t9 ht hW => ⟨_, rfl, by rw [ht]; exact hS_hC hS, by rw [ht]; exact ⟨rfl, v2, sB_ap f0 f1 (fun j hj => by rw [hk1 j (by omega)]; exact hf3 j hj) hf2 hd2 hc2 (by omega) hch hcc, hv2⟩⟩) hS.2.2 d_A_append0_76 hlk
theorem k_B_append2_2 : kU "java/lang/StringBuilder" 50 y_A_append0 b_A_append0 2 (some (.object "java/lang/AbstractStringBuilder")) 1 := ⟨(in_1 (List.mem_of_getElem? (i := 136) rfl) rfl), (in_6 (List.mem_of_getElem? (i := 77) rfl) rfl), (in_1 (List.mem_of_getElem? (i := 65) rfl) rfl), (in_1 (List.mem_of_getElem? (i := 137) rfl) rfl), (in_1 (List.mem_of_getElem? (i := 2) rfl) rfl), (in_1 (List.mem_of_getElem? (i := 138) rfl) rfl), by decide, ⟨by decide, by decide, by decide +kernel⟩⟩
set_option maxHeartbeats 4000000 in
set_option maxRecDepth 100000 in
/-- StringBuilder.append(char) -/
theorem c_B_append2 (l : Launch) (g : gG) (H : Heap) (b v cc : Nat) (t : List Nat) (hb9 : g.2.2.1 ≤ b) (hv9 : g.2.2.1 ≤ v) (hbv : b ≠ v) (h : sB g H b v t) (ht : t.length < 24) (hcc : cc < 128) : Met l y_B_append2 (wC y_B_append2 b_B_append2 2 (some (.object "java/lang/StringBuilder"))) (rmk 5 1 34 112) (pC g H [.ref b, .int (nI cc)]) (qW H (fun q => q = b ∨ q = v) (fun r H1 => r = some (.ref b) ∧ ∃ v2, sB g H1 b v2 (t ++ [cc]) ∧ (v2 = v ∨ H.size ≤ v2))) 1 34 (fW H (fun q => q = b ∨ q = v)) := by
  refine mB (by decide) (Nat.le_of_ble_eq_true rfl) ?_
  intro p e s m below meth c ls C0 hH hZ hnm hl
  have C0 : cF g p s m _ meth c b_B_append2 2 "java/lang/StringBuilder" (some (.object "java/lang/StringBuilder")) := C0
  obtain ⟨hx, hb, hml, hown, hts, hr, hlk, hK⟩ := id C0
  subst hH
  have hl : lv_has ls 2 [(0, .ref b), (1, .int (nI cc))] := hl
  have hS : va_S (fW s.heap (fun q => q = b ∨ q = v)) s.heap s.heap [] := hS_rf
  refine lv_aload_n hx hb d_B_append2_0 rfl (lv_at hl 0 rfl) ?_
  refine lv_iload_n hx hb d_B_append2_1 rfl (lv_at hl 1 rfl) ?_
  refine aW (N := (fun q => q = b ∨ q = v)) (rU (As := [.int (nI cc)]) (rest := []) C0 (c_A_append0 l g _ b v cc t hb9 hv9 hbv h ht hcc) (zK_S hZ hS (fun q h => h.elim (fun z => by subst z; exact hb9) (fun z => by subst z; exact hv9))) k_B_append2_2 rfl rfl ⟨Nat.le_of_ble_eq_true rfl, Nat.le_of_ble_eq_true rfl⟩ (ci := 7) (q := (R_B, F_B, 4)) rfl (by obtain ⟨_, _, _, f0, _⟩ := id h; exact ob_recv hK f0 rfl) rfl hl.1 rfl (Nat.le_of_ble_eq_true rfl) d_B_append2_2 ⟨by show 0 + 1 ≤ 1; omega, by show 0 + 34 ≤ 34; omega⟩) (fun v H L hC1 hp hL => ?_)
  have hS0 := hS
  have hS := hS_call hS hC1 hL (fun q h => Or.inl h)
  obtain ⟨rfl, hp⟩ := hp
  refine W.eq (g2 := F0 m 5 ls [.ref b]) rfl ?_
  refine lv_pop hx hb d_B_append2_5 rfl ?_
  refine lv_aload_n hx hb d_B_append2_6 rfl (lv_at hl 0 rfl) ?_
  refine W.widen (k := 1) (n := 34) (by omega) (by omega) ?_
  exact W.aret hx hb hr (Or.inl ⟨_, rfl⟩) (Or.inr ⟨_, rfl⟩) (fun t9 ht hW => ⟨_, rfl, by rw [ht]; exact hS_hC hS, by rw [ht]; exact ⟨rfl, hp⟩⟩) hS.2.2 d_B_append2_7 hlk
theorem k_A_setLength_15 : kV "java/lang/AbstractStringBuilder" 100 "java/lang/StringBuilder" y_A_ensureCapacityInternal b_A_ensureCapacityInternal 3 none 1 := ⟨(in_1 (List.mem_of_getElem? (i := 139) rfl) rfl), (in_1 (List.mem_of_getElem? (i := 141) rfl) rfl), (in_7 (List.mem_of_getElem? (i := 0) rfl) rfl), (in_1 (List.mem_of_getElem? (i := 2) rfl) rfl), (in_1 (List.mem_of_getElem? (i := 142) rfl) rfl), ⟨by decide, by decide, by decide +kernel⟩⟩
set_option maxHeartbeats 4000000 in
set_option maxRecDepth 100000 in
/-- AbstractStringBuilder.setLength(0) -/
theorem c_A_setLength (l : Launch) (g : gG) (H : Heap) (b v : Nat) (t : List Nat) (hb9 : g.2.2.1 ≤ b) (hbv : b ≠ v) (h : sB g H b v t) : Met l y_A_setLength (wC y_A_setLength b_A_setLength 2 none) (rmk 4 1 34 91) (pC g H [.ref b, .int (nI 0)]) (qW H (fun q => q = b) (fun r H1 => r = none ∧ ∃ v2, sB g H1 b v2 [] ∧ (v2 = v ∨ H.size ≤ v2))) 1 34 (fW H (fun q => q = b)) := by
  refine mB (by decide) (Nat.le_of_ble_eq_true rfl) ?_
  intro p e s m below meth c ls C0 hH hZ hnm hl
  have C0 : cF g p s m _ meth c b_A_setLength 2 "java/lang/AbstractStringBuilder" none := C0
  obtain ⟨hx, hb, hml, hown, hts, hr, hlk, hK⟩ := id C0
  subst hH
  have hl : lv_has ls 2 [(0, .ref b), (1, .int (nI 0))] := hl
  have hS : va_S (fW s.heap (fun q => q = b)) s.heap s.heap [] := hS_rf
  obtain ⟨mb, cap, f, f0, f1, hf3, hf4, hcl, hc, ht24, hch⟩ := h
  have f0b := f0
  have f1b := f1
  refine lv_iload_n hx hb d_A_setLength_0 rfl (lv_at hl 1 rfl) ?_
  refine lv_if_ge (tgt := 13) hx hb d_A_setLength_1 (by decide) (fun c1 => ?_) (fun c1 => ?_)
  · skip
    refine lv_aload_n hx hb d_A_setLength_13 rfl (lv_at hl 0 rfl) ?_
    refine lv_iload_n hx hb d_A_setLength_14 rfl (lv_at hl 1 rfl) ?_
    refine aW (N := (fun q => q = b)) (rV (As := [.int (nI 0)]) (rest := []) C0 (c_A_ensureCapacityInternal l g _ b v t.length cap 0 (bI mb) f hb9 f0 f1 hf4 hc (by omega) hbv) (zK_S hZ hS (fun q h => by subst h; exact hb9)) k_A_setLength_15 rfl rfl ⟨Nat.le_of_ble_eq_true rfl, Nat.le_of_ble_eq_true rfl⟩ (ob_recv hK f0 rfl) rfl hl.1 rfl (Nat.le_of_ble_eq_true rfl) d_A_setLength_15 ⟨by show 0 + 1 ≤ 1; omega, by show 0 + 34 ≤ 34; omega⟩) (fun v H L hC1 hp hL => ?_)
    have hS0 := hS
    have hS := hS_call hS hC1 hL (fun q h => Or.inl h)
    obtain ⟨rfl, v2, cap2, f2, f0, f1, hk1, hf2, hd2, hcc2, hc2, hv2⟩ := hp
    have hbv2 : b ≠ v2 := hv2.elim (fun z => z ▸ hbv) (fun z => Nat.ne_of_lt (Nat.lt_of_lt_of_le (ob_lt f0b) z))
    refine W.eq (g2 := F0 m 18 ls []) rfl ?_
    refine lv_aload_n hx hb d_A_setLength_18 rfl (lv_at hl 0 rfl) ?_
    refine va_get (D := g.1) (ci := 7) (C := R_B) (T := F_B) (N := 4) hx hb hts i_B hown hK.1 f0 0 rfl rfl 3 (by decide) (hts (.fieldLink "java/lang/AbstractStringBuilder" 79 "java/lang/AbstractStringBuilder" "count" "I") (in_1 (List.mem_of_getElem? (i := 56) rfl) rfl)) (fun _ h9 => h9) rfl d_A_setLength_19 ?_
    refine lv_iload_n hx hb d_A_setLength_22 rfl (lv_at hl 1 rfl) ?_
    refine n_ge (tgt := 63) (a := t.length) (b := 0) hx hb d_A_setLength_23 (by decide) (by omega) (by omega) (fun c23 => ?_) (fun c23 => ?_)
    · skip
      refine lv_aload_n hx hb d_A_setLength_63 rfl (lv_at hl 0 rfl) ?_
      refine va_get (D := g.1) (ci := 7) (C := R_B) (T := F_B) (N := 4) hx hb hts i_B hown hK.1 f0 0 rfl rfl 3 (by decide) (hts (.fieldLink "java/lang/AbstractStringBuilder" 79 "java/lang/AbstractStringBuilder" "count" "I") (in_1 (List.mem_of_getElem? (i := 56) rfl) rfl)) (fun _ h9 => h9) rfl d_A_setLength_64 ?_
      refine lv_iload_n hx hb d_A_setLength_67 rfl (lv_at hl 1 rfl) ?_
      refine n_le (tgt := 76) (a := t.length) (b := 0) hx hb d_A_setLength_68 (by decide) (by omega) (by omega) (fun c68 => ?_) (fun c68 => ?_)
      · skip
        refine lv_aload_n hx hb d_A_setLength_76 rfl (lv_at hl 0 rfl) ?_
        refine lv_iload_n hx hb d_A_setLength_77 rfl (lv_at hl 1 rfl) ?_
        refine s_put (ci := 7) (C := R_B) (T := F_B) (N := 4) hx hb hts i_B t_B t_B_ok n_B hown hK hS (Or.inl rfl) f0 rfl 3 (by decide) (hts _ (in_1 (List.mem_of_getElem? (i := 56) rfl) rfl)) (fun _ h9 => h9) rfl (v := .int (nI 0)) rfl rfl rfl (Nat.le_of_ble_eq_true rfl) (fs2 := [.ref v2, .int 0, .int (bI mb), .int (nI 0)]) rfl d_A_setLength_78 (fun H locs f0 hz oq hS => ?_)
        have f1 := ar_kept f1 (oq _ (Ne.symm (hbv2)))
        refine W.widen (k := 1) (n := 34) (by omega) (by omega) ?_
        exact W.vret hx hb hr (fun t9 ht hW => ⟨_, rfl, by rw [ht]; exact hS_hC hS, by rw [ht]; exact ⟨rfl, v2, ⟨mb, cap2, f2, f0, f1, (fun j hj => absurd hj (Nat.not_lt_zero _)), hf2, Nat.zero_le _, hc2, Nat.zero_le _, nil_c⟩, hv2⟩⟩) hS.2.2 d_A_setLength_81 hlk
      · skip
        refine lv_aload_n hx hb d_A_setLength_71 rfl (lv_at hl 0 rfl) ?_
        refine lv_iconst (v := nI 1) hx hb d_A_setLength_72 (by decide) ?_
        refine s_put (ci := 7) (C := R_B) (T := F_B) (N := 4) hx hb hts i_B t_B t_B_ok n_B hown hK hS (Or.inl rfl) f0 rfl 2 (by decide) (hts _ (in_1 (List.mem_of_getElem? (i := 54) rfl) rfl)) (fun _ h9 => h9) rfl (v := .int (nI 1)) rfl rfl rfl (Nat.le_of_ble_eq_true rfl) (fs2 := [.ref v2, .int 0, .int (nI 1), .int (nI t.length)]) rfl d_A_setLength_73 (fun H locs f0 hz oq hS => ?_)
        have f1 := ar_kept f1 (oq _ (Ne.symm (hbv2)))
        refine lv_aload_n hx hb d_A_setLength_76 rfl (lv_at hl 0 rfl) ?_
        refine lv_iload_n hx hb d_A_setLength_77 rfl (lv_at hl 1 rfl) ?_
        refine s_put (ci := 7) (C := R_B) (T := F_B) (N := 4) hx hb hts i_B t_B t_B_ok n_B hown hK hS (Or.inl rfl) f0 rfl 3 (by decide) (hts _ (in_1 (List.mem_of_getElem? (i := 56) rfl) rfl)) (fun _ h9 => h9) rfl (v := .int (nI 0)) rfl rfl rfl (Nat.le_of_ble_eq_true rfl) (fs2 := [.ref v2, .int 0, .int (nI 1), .int (nI 0)]) rfl d_A_setLength_78 (fun H locs f0 hz oq hS => ?_)
        have f1 := ar_kept f1 (oq _ (Ne.symm (hbv2)))
        refine W.widen (k := 1) (n := 34) (by omega) (by omega) ?_
        exact W.vret hx hb hr (fun t9 ht hW => ⟨_, rfl, by rw [ht]; exact hS_hC hS, by rw [ht]; exact ⟨rfl, v2, ⟨true, cap2, f2, f0, f1, (fun j hj => absurd hj (Nat.not_lt_zero _)), hf2, Nat.zero_le _, hc2, Nat.zero_le _, nil_c⟩, hv2⟩⟩) hS.2.2 d_A_setLength_81 hlk
    · skip
      exact absurd c23 (by omega)
  · skip
    exact absurd (nI_pos' (by omega)) c1
theorem k_B_setLength_2 : kU "java/lang/StringBuilder" 333 y_A_setLength b_A_setLength 2 none 1 := ⟨(in_3 (List.mem_of_getElem? (i := 212) rfl) rfl), (in_6 (List.mem_of_getElem? (i := 88) rfl) rfl), (in_1 (List.mem_of_getElem? (i := 65) rfl) rfl), (in_3 (List.mem_of_getElem? (i := 213) rfl) rfl), (in_1 (List.mem_of_getElem? (i := 2) rfl) rfl), (in_3 (List.mem_of_getElem? (i := 214) rfl) rfl), by decide, ⟨by decide, by decide, by decide +kernel⟩⟩
set_option maxHeartbeats 4000000 in
set_option maxRecDepth 100000 in
/-- StringBuilder.setLength(0) -/
theorem c_B_setLength (l : Launch) (g : gG) (H : Heap) (b v : Nat) (t : List Nat) (hb9 : g.2.2.1 ≤ b) (hbv : b ≠ v) (h : sB g H b v t) : Met l y_B_setLength (wC y_B_setLength b_B_setLength 2 none) (rmk 5 1 34 112) (pC g H [.ref b, .int (nI 0)]) (qW H (fun q => q = b) (fun r H1 => r = none ∧ ∃ v2, sB g H1 b v2 [] ∧ (v2 = v ∨ H.size ≤ v2))) 1 34 (fW H (fun q => q = b)) := by
  refine mB (by decide) (Nat.le_of_ble_eq_true rfl) ?_
  intro p e s m below meth c ls C0 hH hZ hnm hl
  have C0 : cF g p s m _ meth c b_B_setLength 2 "java/lang/StringBuilder" none := C0
  obtain ⟨hx, hb, hml, hown, hts, hr, hlk, hK⟩ := id C0
  subst hH
  have hl : lv_has ls 2 [(0, .ref b), (1, .int (nI 0))] := hl
  have hS : va_S (fW s.heap (fun q => q = b)) s.heap s.heap [] := hS_rf
  refine lv_aload_n hx hb d_B_setLength_0 rfl (lv_at hl 0 rfl) ?_
  refine lv_iload_n hx hb d_B_setLength_1 rfl (lv_at hl 1 rfl) ?_
  refine aW (N := (fun q => q = b)) (rU (As := [.int (nI 0)]) (rest := []) C0 (c_A_setLength l g _ b v t hb9 hbv h) (zK_S hZ hS (fun q h => by subst h; exact hb9)) k_B_setLength_2 rfl rfl ⟨Nat.le_of_ble_eq_true rfl, Nat.le_of_ble_eq_true rfl⟩ (ci := 7) (q := (R_B, F_B, 4)) rfl (by obtain ⟨_, _, _, f0, _⟩ := id h; exact ob_recv hK f0 rfl) rfl hl.1 rfl (Nat.le_of_ble_eq_true rfl) d_B_setLength_2 ⟨by show 0 + 1 ≤ 1; omega, by show 0 + 34 ≤ 34; omega⟩) (fun v H L hC1 hp hL => ?_)
  have hS0 := hS
  have hS := hS_call hS hC1 hL (fun q h => Or.inl h)
  obtain ⟨rfl, hp⟩ := hp
  refine W.eq (g2 := F0 m 5 ls []) rfl ?_
  refine W.widen (k := 1) (n := 34) (by omega) (by omega) ?_
  exact W.vret hx hb hr (fun t9 ht hW => ⟨_, rfl, by rw [ht]; exact hS_hC hS, by rw [ht]; exact ⟨rfl, hp⟩⟩) hS.2.2 d_B_setLength_5 hlk
