/-- a StringBuilder b with its bytes at v: the text t -/
def sB (g : gG) (H : Heap) (b v : Nat) (t : List Nat) : Prop := ∃ mb cap f, ob g H b 7 [.ref v, .int 0, .int (bI mb), .int (nI t.length)] ∧ ar g 0 H v (cap, .inl f) ∧ (∀ j, j < t.length → f j = nI (t.getD j 0)) ∧ (∀ j, ∃ c, c < 128 ∧ f j = nI c) ∧ t.length ≤ cap ∧ (cap = 16 ∨ cap = 34) ∧ t.length ≤ 24 ∧ (∀ c, t.getD c 0 < 128)
theorem sB_b {g : gG} {H : Heap} {b v : Nat} {t : List Nat} (h : sB g H b v t) : b < H.size ∧ v < H.size := by
  obtain ⟨mb, cap, f, h1, h2, -⟩ := h
  exact ⟨ob_lt h1, ar_lt h2⟩
theorem sB_kept {g : gG} {H H1 : Heap} {b v : Nat} {t : List Nat} (h : sB g H b v t) (hb : H1[b]? = H[b]?) (hv : H1[v]? = H[v]?) : sB g H1 b v t := by
  obtain ⟨mb, cap, f, h1, h2, h3⟩ := h
  exact ⟨mb, cap, f, ob_kept h1 hb, ar_kept h2 hv, h3⟩
theorem by_fit : ∀ c, c < 128 → fits .byte (.int (nI c)) = true := by decide +kernel
theorem by_nar : ∀ c, c < 128 → narrow .byte (.int (nI c).toInt8.toInt32) = .int (nI c) := by decide +kernel
theorem mxn_ {a b : Nat} (ha : a < 2 ^ 31) (hb : b < 2 ^ 31) : (if nI a < nI b then nI b else nI a) = nI (max a b) := by
  by_cases h : a < b
  · rw [if_pos (nI_lt h hb), Nat.max_eq_right (by omega)]
  · rw [if_neg (fun z => h ((nI_ltI ha hb).mp z)), Nat.max_eq_left (by omega)]
set_option maxHeartbeats 4000000 in
set_option maxRecDepth 100000 in
/-- AbstractStringBuilder.<init>(16) -/
theorem c_A_init1 (l : Launch) (g : gG) (H : Heap) (b : Nat) (f0 : ob g H b 7 [.null, .int 0, .int 0, .int 0]) : Met l y_A_init1 (wC y_A_init1 b_A_init1 2 none) (rmk 1 1 16 20) (pC g H [.ref b, .int (nI 16)]) (qW H (fun q => q = b) (fun v H1 => v = none ∧ ∃ q, H.size ≤ q ∧ ob g H1 b 7 [.ref q, .int 0, .int 0, .int 0] ∧ ar g 0 H1 q (16, .inl (fun _ => 0)))) 1 16 (fW H (fun q => q = b)) := by
  refine mB (by decide) (Nat.le_of_ble_eq_true rfl) ?_
  intro p e s m below meth c ls C0 hH hZ hnm hl
  have C0 : cF g p s m _ meth c b_A_init1 2 "java/lang/AbstractStringBuilder" none := C0
  obtain ⟨hx, hb, hml, hown, hts, hr, hlk, hK⟩ := id C0
  subst hH
  have hl : lv_has ls 2 [(0, .ref b), (1, .int (nI 16))] := hl
  have hS : va_S (fW s.heap (fun q => q = b)) s.heap s.heap [] := hS_rf
  refine lv_aload_n hx hb d_A_init1_0 rfl (lv_at hl 0 rfl) ?_
  refine W.objInit hx hb hown (hts (.methodLink "java/lang/AbstractStringBuilder" 3 Lib.objectInit) (in_1 (List.mem_of_getElem? (i := 42) rfl) rfl)) (hts (.instanceMethod Lib.objectInit) (in_1 (List.mem_of_getElem? (i := 32) rfl) rfl)) (hts (.code Lib.objectInit ⟨#[0xb1]⟩ 1 none) (in_1 (List.mem_of_getElem? (i := 33) rfl) rfl)) rfl (by rw [hml]; exact hl.1) rfl d_A_init1_1 (Nat.le_of_ble_eq_true rfl) (Nat.le_of_ble_eq_true rfl) ?_
  refine W.eq (g2 := F0 m 4 ls []) rfl ?_
  refine va_gets hx hb hZ.1 va_S.rf hown (hts (.fieldLink "java/lang/AbstractStringBuilder" 18 "java/lang/String" "COMPACT_STRINGS" "Z") (in_1 (List.mem_of_getElem? (i := 43) rfl) rfl)) (fun _ h9 => h9) d_A_init1_4 ?_
  refine lv_if_eq (tgt := 25) hx hb d_A_init1_7 (by decide) (fun c7 => ?_) (fun c7 => ?_)
  · skip
    first | exact absurd c7 (by decide) | exact absurd (by decide) c7
  · skip
    refine lv_aload_n hx hb d_A_init1_10 rfl (lv_at hl 0 rfl) ?_
    refine lv_iload_n hx hb d_A_init1_11 rfl (lv_at hl 1 rfl) ?_
    have hS0 := hS
    refine s_newa hx hb (hts _ (in_1 (List.mem_of_getElem? (i := 66) rfl) rfl)) (ty := .byte) rfl rfl hK hS 0 rfl (a0 := (16, .inl (fun _ => 0))) (fun _ => rfl) (nI_pos (by omega)) (nI_clamp (by omega)) (by show 16 * 1 ≤ 536870912; omega) (by show 0 + 1 ≤ 1; omega) (by show 0 + 16 ≤ 16; omega) d_A_init1_12 (fun q1 H hq f_q1 hz o1 hS => ?_)
    have lt_b_q1 : b < q1 := by rw [hq]; exact ob_lt f0
    have f0 := ob_kept f0 (o1 _ lt_b_q1)
    have ge_q1 : s.heap.size ≤ q1 := by rw [hq]; exact hS0.1
    refine s_put (ci := 7) (C := R_B) (T := F_B) (N := 4) hx hb hts i_B t_B t_B_ok n_B hown hK hS (Or.inl rfl) f0 rfl 0 (by decide) (hts _ (in_1 (List.mem_of_getElem? (i := 52) rfl) rfl)) (fun _ h9 => h9) rfl (v := .ref q1) rfl rfl rfl (Nat.le_of_ble_eq_true rfl) (fs2 := [.ref q1, .int 0, .int 0, .int 0]) rfl d_A_init1_14 (fun H locs f0 hz oq hS => ?_)
    have f_q1 := ar_kept f_q1 (oq _ (Ne.symm (Nat.ne_of_lt lt_b_q1)))
    refine lv_aload_n hx hb d_A_init1_17 rfl (lv_at hl 0 rfl) ?_
    refine lv_iconst (v := nI 0) hx hb d_A_init1_18 (by decide) ?_
    refine s_put (ci := 7) (C := R_B) (T := F_B) (N := 4) hx hb hts i_B t_B t_B_ok n_B hown hK hS (Or.inl rfl) f0 rfl 1 (by decide) (hts _ (in_1 (List.mem_of_getElem? (i := 53) rfl) rfl)) (fun _ h9 => h9) rfl (v := .int (nI 0)) rfl rfl rfl (Nat.le_of_ble_eq_true rfl) (fs2 := [.ref q1, .int (nI 0), .int 0, .int 0]) rfl d_A_init1_19 (fun H locs f0 hz oq hS => ?_)
    have f_q1 := ar_kept f_q1 (oq _ (Ne.symm (Nat.ne_of_lt lt_b_q1)))
    refine lv_goto (tgt := 38) hx hb d_A_init1_22 (by decide) ?_
    refine W.widen (k := 1) (n := 16) (by omega) (by omega) ?_
    exact W.vret hx hb hr (fun t9 ht hW => ⟨_, rfl, by rw [ht]; exact hS_hC hS, by rw [ht]; exact ⟨rfl, _, ge_q1, f0, f_q1⟩⟩) hS.2.2 d_A_init1_38 hlk
theorem k_B_init0_3 : kI "java/lang/StringBuilder" 1 y_A_init1 b_A_init1 2 1 := ⟨(in_1 (List.mem_of_getElem? (i := 39) rfl) rfl), (in_1 (List.mem_of_getElem? (i := 40) rfl) rfl), (in_1 (List.mem_of_getElem? (i := 2) rfl) rfl), (in_1 (List.mem_of_getElem? (i := 41) rfl) rfl), rfl, ⟨by decide, by decide, by decide +kernel⟩⟩
set_option maxHeartbeats 4000000 in
set_option maxRecDepth 100000 in
/-- StringBuilder.<init>() -/
theorem c_B_init0 (l : Launch) (g : gG) (H : Heap) (b : Nat) (hb9 : g.2.2.1 ≤ b) (f0 : ob g H b 7 [.null, .int 0, .int 0, .int 0]) : Met l y_B_init0 (wC y_B_init0 b_B_init0 1 none) (rmk 2 1 16 41) (pC g H [.ref b]) (qW H (fun q => q = b) (fun v H1 => v = none ∧ ∃ q, H.size ≤ q ∧ sB g H1 b q [])) 1 16 (fW H (fun q => q = b)) := by
  refine mB (by decide) (Nat.le_of_ble_eq_true rfl) ?_
  intro p e s m below meth c ls C0 hH hZ hnm hl
  have C0 : cF g p s m _ meth c b_B_init0 1 "java/lang/StringBuilder" none := C0
  obtain ⟨hx, hb, hml, hown, hts, hr, hlk, hK⟩ := id C0
  subst hH
  have hl : lv_has ls 1 [(0, .ref b)] := hl
  have hS : va_S (fW s.heap (fun q => q = b)) s.heap s.heap [] := hS_rf
  refine lv_aload_n hx hb d_B_init0_0 rfl (lv_at hl 0 rfl) ?_
  refine lv_bipush (v := nI 16) hx hb d_B_init0_1 (by decide) ?_
  refine aW (N := (fun q => q = b)) (rI (As := [.int (nI 16)]) (rest := []) C0 (c_A_init1 l g _ b f0) (zK_S hZ hS (fun q h => by subst h; exact hb9)) k_B_init0_3 rfl rfl ⟨Nat.le_of_ble_eq_true rfl, Nat.le_of_ble_eq_true rfl⟩ rfl hl.1 rfl (Nat.le_of_ble_eq_true rfl) d_B_init0_3 ⟨by show 0 + 1 ≤ 1; omega, by show 0 + 16 ≤ 16; omega⟩) (fun v H L hC1 hp hL => ?_)
  have hS0 := hS
  have hS := hS_call hS hC1 hL (fun q h => Or.inl h)
  obtain ⟨rfl, q, hq, f1, f2⟩ := hp
  refine W.eq (g2 := F0 m 6 ls []) rfl ?_
  refine W.widen (k := 1) (n := 16) (by omega) (by omega) ?_
  exact W.vret hx hb hr (fun t9 ht hW => ⟨_, rfl, by rw [ht]; exact hS_hC hS, by rw [ht]; exact ⟨rfl, q, hq, false, 16, _, f1, f2, (fun j hj => absurd hj (Nat.not_lt_zero _)), (fun j => ⟨0, by decide, rfl⟩), Nat.zero_le _, Or.inl rfl, Nat.zero_le _, nil_c⟩⟩) hS.2.2 d_B_init0_6 hlk
