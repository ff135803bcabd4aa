theorem k_X_init_9 : kI "RegistryLog" 9 y_B_init0 b_B_init0 1 0 := ⟨(in_1 (List.mem_of_getElem? (i := 36) rfl) rfl), (in_1 (List.mem_of_getElem? (i := 37) rfl) rfl), (in_1 (List.mem_of_getElem? (i := 3) rfl) rfl), (in_1 (List.mem_of_getElem? (i := 38) rfl) rfl), rfl, ⟨by decide, by decide, by decide +kernel⟩⟩
theorem k_X_init_20 : kI "RegistryLog" 18 y_L_init b_L_init 3 0 := ⟨(in_1 (List.mem_of_getElem? (i := 69) rfl) rfl), (in_1 (List.mem_of_getElem? (i := 70) rfl) rfl), (in_1 (List.mem_of_getElem? (i := 6) rfl) rfl), (in_1 (List.mem_of_getElem? (i := 71) rfl) rfl), rfl, ⟨by decide, by decide, by decide +kernel⟩⟩
theorem k_X_init_50 : kI "RegistryLog" 18 y_L_init b_L_init 3 0 := ⟨(in_1 (List.mem_of_getElem? (i := 69) rfl) rfl), (in_1 (List.mem_of_getElem? (i := 70) rfl) rfl), (in_1 (List.mem_of_getElem? (i := 6) rfl) rfl), (in_1 (List.mem_of_getElem? (i := 71) rfl) rfl), rfl, ⟨by decide, by decide, by decide +kernel⟩⟩
theorem k_X_init_65 : kI "RegistryLog" 18 y_L_init b_L_init 3 0 := ⟨(in_1 (List.mem_of_getElem? (i := 69) rfl) rfl), (in_1 (List.mem_of_getElem? (i := 70) rfl) rfl), (in_1 (List.mem_of_getElem? (i := 6) rfl) rfl), (in_1 (List.mem_of_getElem? (i := 71) rfl) rfl), rfl, ⟨by decide, by decide, by decide +kernel⟩⟩
theorem k_X_init_76 : kI "RegistryLog" 32 y_U_init b_U_init 1 0 := ⟨(in_2 (List.mem_of_getElem? (i := 234) rfl) rfl), (in_2 (List.mem_of_getElem? (i := 235) rfl) rfl), (in_1 (List.mem_of_getElem? (i := 21) rfl) rfl), (in_2 (List.mem_of_getElem? (i := 236) rfl) rfl), rfl, ⟨by decide, by decide, by decide +kernel⟩⟩
theorem k_X_init_87 : kI "RegistryLog" 32 y_U_init b_U_init 1 0 := ⟨(in_2 (List.mem_of_getElem? (i := 234) rfl) rfl), (in_2 (List.mem_of_getElem? (i := 235) rfl) rfl), (in_1 (List.mem_of_getElem? (i := 21) rfl) rfl), (in_2 (List.mem_of_getElem? (i := 236) rfl) rfl), rfl, ⟨by decide, by decide, by decide +kernel⟩⟩
set_option maxHeartbeats 4000000 in
set_option maxRecDepth 100000 in
/-- RegistryLog.<init> -/
theorem c_X_init (l : Launch) (g : gG) (H : Heap) (Z PE : Nat → Prop) (a : Nat) (hsz : g.2.2.1 ≤ H.size) (ha9 : g.2.2.1 ≤ a) (f9 : ob g H a 0 [.null, .null, .null, .null, .null, .null]) (hE : pS PE g H (g.2.2.2 0) []) (hPEx : ∀ q, PE q → q < H.size ∧ q ≠ a) (hZa : Z a) (hZE : ∀ q, PE q → Z q) (hZb : ∀ q, H.size ≤ q → Z q) : Met l y_X_init (wC y_X_init b_X_init 2 none) (rmk 9 199 6200 199) (pC g H [.ref a]) (qW H (fun q => q = a) (fun r H1 => r = none ∧ ∃ ad ms nm nw, cX Z g H1 a ad ms nm nw [] (fun _ => []) [] (fun _ => 0) 0 0 (fun _ => 0) 0 0 ∧ (∀ j, j < 16 → H.size ≤ ad j) ∧ H.size ≤ ms ∧ H.size ≤ nm ∧ H.size ≤ nw)) 199 6200 (fW H (fun q => q = a)) := by
  refine mB (by decide) (Nat.le_of_ble_eq_true rfl) ?_
  intro p e s m below meth c ls C0 hH hZ hnm hl
  have C0 : cF g p s m _ meth c b_X_init 2 "RegistryLog" none := C0
  obtain ⟨hx, hb, hml, hown, hts, hr, hlk, hK⟩ := id C0
  subst hH
  have hl : lv_has ls 2 [(0, .ref a)] := hl
  have hS : va_S (fW s.heap (fun q => q = a)) s.heap s.heap [] := hS_rf
  have hax := ob_lt f9
  refine lv_aload_n hx hb d_X_init_0 rfl (lv_at hl 0 rfl) ?_
  refine W.objInit hx hb hown (hts (.methodLink "RegistryLog" 1 Lib.objectInit) (in_1 (List.mem_of_getElem? (i := 31) rfl) rfl)) (hts (.instanceMethod Lib.objectInit) (in_1 (List.mem_of_getElem? (i := 32) rfl) rfl)) (hts (.code Lib.objectInit ⟨#[0xb1]⟩ 1 none) (in_1 (List.mem_of_getElem? (i := 33) rfl) rfl)) rfl (by rw [hml]; exact hl.1) rfl d_X_init_1 (Nat.le_of_ble_eq_true rfl) (Nat.le_of_ble_eq_true rfl) ?_
  refine W.eq (g2 := F0 m 4 ls []) rfl ?_
  refine lv_aload_n hx hb d_X_init_4 rfl (lv_at hl 0 rfl) ?_
  have hS0 := hS
  refine s_new (ci := 7) (C := R_B) (T := F_B) (N := 4) hx hb hts i_B t_B t_B_ok hown (hts _ (in_1 (List.mem_of_getElem? (i := 34) rfl) rfl)) (hts _ (in_1 (List.mem_of_getElem? (i := 35) rfl) rfl)) (hts _ (in_1 (List.mem_of_getElem? (i := 3) rfl) rfl)) hK hS rfl (fs := [.null, .int 0, .int 0, .int 0]) (by decide) (by show 0 + 1 ≤ 199; omega) (by show 0 + 4 ≤ 6200; omega) d_X_init_5 (fun q1 H hq f_q1 hz o1 hS => ?_)
  have lt_a_q1 : a < q1 := by rw [hq]; exact ob_lt f9
  have f9 := ob_kept f9 (o1 _ lt_a_q1)
  have hE := pS_mv hE (fun a9 h1 h2 => ⟨o1 a9 (by rw [hq]; exact h2), h1⟩)
  have ge_q1 : s.heap.size ≤ q1 := by rw [hq]; exact hS0.1
  have lq_q1 : q1 < H.size := by rw [hz]; exact Nat.lt_succ_self _
  have sz_q1 : H.size = q1 + 1 := hz
  refine lv_dup hx hb d_X_init_8 rfl ?_
  refine aW (N := (fun a9 => a9 = q1)) (rI (As := []) (rest := [.ref q1, .ref a]) C0 (c_B_init0 l g _ q1 (by omega) f_q1) (zK_S hZ hS (fun q h => by rw [h]; exact ha9)) k_X_init_9 rfl rfl ⟨Nat.le_of_ble_eq_true rfl, Nat.le_of_ble_eq_true rfl⟩ rfl hl.1 rfl (Nat.le_of_ble_eq_true rfl) d_X_init_9 ⟨by show 0 + 1 + 1 ≤ 199; omega, by show 0 + 4 + 16 ≤ 6200; omega⟩) (fun v H L hC1 hp hL => ?_)
  have hS0 := hS
  have hS := hS_call hS hC1 hL (fun a9 h => by rw [h]; exact Or.inr ge_q1)
  have f9 := ob_kept f9 (hC_at hC1 (ob_lt f9) (fun z => absurd z (by omega)))
  have hE := pS_mv hE (fun a9 h1 h2 => ⟨hC_at hC1 h2 (fun z => absurd z (by have := (hPEx a9 h1).1; omega)), h1⟩)
  obtain ⟨rfl, sv, hsv, hSB⟩ := hp
  have hb1 := sB_b hSB
  have hcs := hC1.1
  refine W.eq (g2 := F0 m 12 ls [.ref q1, .ref a]) rfl ?_
  refine s_putF (ci := 0) (C := R_X) (T := F_X) (N := 6) hx hb hts i_X t_X t_X_ok n_X hown hK hS (Or.inl rfl) f9 rfl 0 (by decide) (hts _ (in_3 (List.mem_of_getElem? (i := 9) rfl) rfl)) (fun _ h9 => h9) rfl hnm rfl (v := .ref q1) rfl rfl rfl (Nat.le_of_ble_eq_true rfl) (fs2 := [.ref q1, .null, .null, .null, .null, .null]) rfl d_X_init_12 (fun H locs f9 hz oq hS => ?_)
  have hE := pS_mv hE (fun a9 h1 h2 => ⟨oq a9 ((hPEx a9 h1).2), h1⟩)
  have hSB := sB_kept hSB (oq _ (by omega)) (oq _ (by omega))
  refine lv_aload_n hx hb d_X_init_15 rfl (lv_at hl 0 rfl) ?_
  have hS0 := hS
  refine s_new (ci := 1) (C := R_L) (T := F_L) (N := 3) hx hb hts i_L t_L t_L_ok hown (hts _ (in_1 (List.mem_of_getElem? (i := 67) rfl) rfl)) (hts _ (in_1 (List.mem_of_getElem? (i := 68) rfl) rfl)) (hts _ (in_1 (List.mem_of_getElem? (i := 6) rfl) rfl)) hK hS rfl (fs := [.null, .null, .int 0]) (by decide) (by show 0 + 1 + 1 + 1 ≤ 199; omega) (by show 0 + 4 + 16 + 3 ≤ 6200; omega) d_X_init_16 (fun q2 H hq f_q2 hz o1 hS => ?_)
  have lt_a_q2 : a < q2 := by rw [hq]; exact ob_lt f9
  have f9 := ob_kept f9 (o1 _ lt_a_q2)
  have hE := pS_mv hE (fun a9 h1 h2 => ⟨o1 a9 (by rw [hq]; exact h2), h1⟩)
  have hSB := sB_kept hSB (o1 _ (by rw [hq]; exact (sB_b hSB).1)) (o1 _ (by rw [hq]; exact (sB_b hSB).2))
  have ge_q2 : s.heap.size ≤ q2 := by rw [hq]; exact hS0.1
  have lq_q2 : q2 < H.size := by rw [hz]; exact Nat.lt_succ_self _
  have sz_q2 : H.size = q2 + 1 := hz
  refine lv_dup hx hb d_X_init_19 rfl ?_
  refine aW (N := (fun a9 => a9 = q2)) (rI (As := []) (rest := [.ref q2, .ref a]) C0 (c_L_init l g _ PE q2 (Nat.le_trans hsz hS.1) (by omega) f_q2 hE (fun z h9 => ⟨by have := (hPEx z h9).1; omega, by have := (hPEx z h9).1; omega⟩)) (zK_S hZ hS (fun q h => by rw [h]; exact ha9)) k_X_init_20 rfl rfl ⟨Nat.le_of_ble_eq_true rfl, Nat.le_of_ble_eq_true rfl⟩ rfl hl.1 rfl (Nat.le_of_ble_eq_true rfl) d_X_init_20 ⟨by show 0 + 1 + 1 + 1 + 31 ≤ 199; omega, by show 0 + 4 + 16 + 3 + 1020 ≤ 6200; omega⟩) (fun v H L hC1 hp hL => ?_)
  have hS0 := hS
  have hS := hS_call hS hC1 hL (fun a9 h => by rw [h]; exact Or.inr ge_q2)
  have f9 := ob_kept f9 (hC_at hC1 (ob_lt f9) (fun z => absurd z (by omega)))
  have hE := pS_mv hE (fun a9 h1 h2 => ⟨hC_at hC1 h2 (fun z => absurd z (by have := (hPEx a9 h1).1; omega)), h1⟩)
  have hSB := sB_kept hSB (hC_at hC1 (sB_b hSB).1 (fun z => absurd z (by omega))) (hC_at hC1 (sB_b hSB).2 (fun z => absurd z (by omega)))
  obtain ⟨rfl, w2, hw2, hL2⟩ := hp
  have hcs2 := hC1.1
  have hw2l := (pL_lt hL2).2
  have hML2 : ∀ m ∈ [q2, sv, q1], s.heap.size ≤ m ∧ m < q2 + 1 := by intro m9 hm9; simp only [List.mem_cons, List.not_mem_nil, or_false] at hm9; omega
  have hL2 := PZ_l (n0 := s.heap.size) hL2 (by omega) (fun z h9 => (hPEx z h9).1) (fun m9 hm9 => by have := hML2 m9 hm9; omega) hw2
  refine W.eq (g2 := F0 m 23 ls [.ref q2, .ref a]) rfl ?_
  refine s_putF (ci := 0) (C := R_X) (T := F_X) (N := 6) hx hb hts i_X t_X t_X_ok n_X hown hK hS (Or.inl rfl) f9 rfl 1 (by decide) (hts _ (in_3 (List.mem_of_getElem? (i := 10) rfl) rfl)) (fun _ h9 => h9) rfl hnm rfl (v := .ref q2) rfl rfl rfl (Nat.le_of_ble_eq_true rfl) (fs2 := [.ref q1, .ref q2, .null, .null, .null, .null]) rfl d_X_init_23 (fun H locs f9 hz oq hS => ?_)
  have hE := pS_mv hE (fun a9 h1 h2 => ⟨oq a9 ((hPEx a9 h1).2), h1⟩)
  have hSB := sB_kept hSB (oq _ (by omega)) (oq _ (by omega))
  have hL2 := pL_mv hL2 (oq _ (by omega)) (oq _ (by omega)) (fun a9 h1 h2 => ⟨oq a9 (PZ_x hPEx hax h1), h1⟩)
  refine lv_aload_n hx hb d_X_init_26 rfl (lv_at hl 0 rfl) ?_
  refine lv_iconst (v := nI 4) hx hb d_X_init_27 (by decide) ?_
  have hS0 := hS
  refine s_newq hx hb hown (hts _ (in_1 (List.mem_of_getElem? (i := 67) rfl) rfl)) hK.2.2.1.2 hK hS 3 rfl (nI_pos (by omega)) (nI_clamp (by omega)) (by omega) (by show 0 + 1 + 1 + 1 + 31 + 1 ≤ 199; omega) (by show 0 + 4 + 16 + 3 + 1020 + 4 ≤ 6200; omega) d_X_init_28 (fun q3 H hq f_q3 hz o1 hS => ?_)
  have lt_a_q3 : a < q3 := by rw [hq]; exact ob_lt f9
  have f9 := ob_kept f9 (o1 _ lt_a_q3)
  have hE := pS_mv hE (fun a9 h1 h2 => ⟨o1 a9 (by rw [hq]; exact h2), h1⟩)
  have hSB := sB_kept hSB (o1 _ (by rw [hq]; exact (sB_b hSB).1)) (o1 _ (by rw [hq]; exact (sB_b hSB).2))
  have hL2 := pL_mv hL2 (P' := PZ PE s.heap.size (q3 :: [w2, q2, sv, q1])) (o1 _ (by rw [hq]; exact (pL_lt hL2).1)) (o1 _ (by rw [hq]; exact (pL_lt hL2).2)) (fun a9 h1 h2 => ⟨o1 a9 (by rw [hq]; exact h2), PZ_c h1 (by omega)⟩)
  have ge_q3 : s.heap.size ≤ q3 := by rw [hq]; exact hS0.1
  have lq_q3 : q3 < H.size := by rw [hz]; exact Nat.lt_succ_self _
  have sz_q3 : H.size = q3 + 1 := hz
  refine s_putF (ci := 0) (C := R_X) (T := F_X) (N := 6) hx hb hts i_X t_X t_X_ok n_X hown hK hS (Or.inl rfl) f9 rfl 2 (by decide) (hts _ (in_3 (List.mem_of_getElem? (i := 11) rfl) rfl)) (fun _ h9 => h9) rfl hnm rfl (v := .ref q3) rfl rfl rfl (Nat.le_of_ble_eq_true rfl) (fs2 := [.ref q1, .ref q2, .ref q3, .null, .null, .null]) rfl d_X_init_31 (fun H locs f9 hz oq hS => ?_)
  have hE := pS_mv hE (fun a9 h1 h2 => ⟨oq a9 ((hPEx a9 h1).2), h1⟩)
  have hSB := sB_kept hSB (oq _ (by omega)) (oq _ (by omega))
  have hL2 := pL_mv hL2 (oq _ (by omega)) (oq _ (by omega)) (fun a9 h1 h2 => ⟨oq a9 (PZ_x hPEx hax h1), h1⟩)
  have f_q3 := ar_kept f_q3 (oq _ (Ne.symm (Nat.ne_of_lt lt_a_q3)))
  refine lv_iconst (v := nI 0) hx hb d_X_init_34 (by decide) ?_
  refine lv_istore_n (lv' := [(1, .int (nI 0)), (0, .ref a)]) hx hb d_X_init_35 rfl hl (by decide) rfl (fun ls hl => ?_)
  refine lv_iload_n hx hb d_X_init_36 rfl (lv_at hl 0 rfl) ?_
  refine lv_iconst (v := nI 4) hx hb d_X_init_37 (by decide) ?_
  refine lv_icmp_ge (tgt := 60) hx hb d_X_init_38 (by decide) (fun c38 => ?_) (fun c38 => ?_)
  · skip
    first | exact absurd c38 (by decide) | exact absurd (by decide) c38
  · skip
    refine lv_aload_n hx hb d_X_init_41 rfl (lv_at hl 1 rfl) ?_
    refine va_get (D := g.1) (ci := 0) (C := R_X) (T := F_X) (N := 6) hx hb hts i_X hown hK.1 f9 0 rfl rfl 2 (by decide) (hts (.fieldLink "RegistryLog" 23 "RegistryLog" "mirrors" "[LRegistryLog$Ledger;") (in_3 (List.mem_of_getElem? (i := 11) rfl) rfl)) (fun _ h9 => h9) rfl d_X_init_42 ?_
    refine lv_iload_n hx hb d_X_init_45 rfl (lv_at hl 0 rfl) ?_
    have hS0 := hS
    refine s_new (ci := 1) (C := R_L) (T := F_L) (N := 3) hx hb hts i_L t_L t_L_ok hown (hts _ (in_1 (List.mem_of_getElem? (i := 67) rfl) rfl)) (hts _ (in_1 (List.mem_of_getElem? (i := 68) rfl) rfl)) (hts _ (in_1 (List.mem_of_getElem? (i := 6) rfl) rfl)) hK hS rfl (fs := [.null, .null, .int 0]) (by decide) (by show 0 + 1 + 1 + 1 + 31 + 1 + 1 ≤ 199; omega) (by show 0 + 4 + 16 + 3 + 1020 + 4 + 3 ≤ 6200; omega) d_X_init_46 (fun q4 H hq f_q4 hz o1 hS => ?_)
    have lt_a_q4 : a < q4 := by rw [hq]; exact ob_lt f9
    have f9 := ob_kept f9 (o1 _ lt_a_q4)
    have hE := pS_mv hE (fun a9 h1 h2 => ⟨o1 a9 (by rw [hq]; exact h2), h1⟩)
    have hSB := sB_kept hSB (o1 _ (by rw [hq]; exact (sB_b hSB).1)) (o1 _ (by rw [hq]; exact (sB_b hSB).2))
    have hL2 := pL_mv hL2 (P' := PZ PE s.heap.size (q4 :: [q3, w2, q2, sv, q1])) (o1 _ (by rw [hq]; exact (pL_lt hL2).1)) (o1 _ (by rw [hq]; exact (pL_lt hL2).2)) (fun a9 h1 h2 => ⟨o1 a9 (by rw [hq]; exact h2), PZ_c h1 (by omega)⟩)
    have lt_q3_q4 : q3 < q4 := by rw [hq]; exact ar_lt f_q3
    have f_q3 := ar_kept f_q3 (o1 _ lt_q3_q4)
    have ge_q4 : s.heap.size ≤ q4 := by rw [hq]; exact hS0.1
    have lq_q4 : q4 < H.size := by rw [hz]; exact Nat.lt_succ_self _
    have sz_q4 : H.size = q4 + 1 := hz
    refine lv_dup hx hb d_X_init_49 rfl ?_
    refine aW (N := (fun a9 => a9 = q4)) (rI (As := []) (rest := [.ref q4, .int (nI 0), .ref q3]) C0 (c_L_init l g _ PE q4 (Nat.le_trans hsz hS.1) (by omega) f_q4 hE (fun z h9 => ⟨by have := (hPEx z h9).1; omega, by have := (hPEx z h9).1; omega⟩)) (zK_S hZ hS (fun q h => by rw [h]; exact ha9)) k_X_init_50 rfl rfl ⟨Nat.le_of_ble_eq_true rfl, Nat.le_of_ble_eq_true rfl⟩ rfl hl.1 rfl (Nat.le_of_ble_eq_true rfl) d_X_init_50 ⟨by show 0 + 1 + 1 + 1 + 31 + 1 + 1 + 31 ≤ 199; omega, by show 0 + 4 + 16 + 3 + 1020 + 4 + 3 + 1020 ≤ 6200; omega⟩) (fun v H L hC1 hp hL => ?_)
    have hS0 := hS
    have hS := hS_call hS hC1 hL (fun a9 h => by rw [h]; exact Or.inr ge_q4)
    have f9 := ob_kept f9 (hC_at hC1 (ob_lt f9) (fun z => absurd z (by omega)))
    have hE := pS_mv hE (fun a9 h1 h2 => ⟨hC_at hC1 h2 (fun z => absurd z (by have := (hPEx a9 h1).1; omega)), h1⟩)
    have hSB := sB_kept hSB (hC_at hC1 (sB_b hSB).1 (fun z => absurd z (by omega))) (hC_at hC1 (sB_b hSB).2 (fun z => absurd z (by omega)))
    have f_q3 := ar_kept f_q3 (hC_at hC1 (ar_lt f_q3) (fun z => absurd z (by omega)))
    obtain ⟨rfl, w4, hw4, hL4⟩ := hp
    have hcs4 := hC1.1
    have hw4l := (pL_lt hL4).2
    have hML4 : ∀ m ∈ [q4, q3, w2, q2, sv, q1], s.heap.size ≤ m ∧ m < q4 + 1 := by intro m9 hm9; simp only [List.mem_cons, List.not_mem_nil, or_false] at hm9; omega
    have hL4 := PZ_l (n0 := s.heap.size) hL4 (by omega) (fun z h9 => (hPEx z h9).1) (fun m9 hm9 => by have := hML4 m9 hm9; omega) hw4
    have hL2 := pL_mv (P' := PZ PE s.heap.size (w4 :: [q4, q3, w2, q2, sv, q1])) hL2 (hC_at hC1 (pL_lt hL2).1 (fun z => absurd z (by omega))) (hC_at hC1 (pL_lt hL2).2 (fun z => absurd z (by omega))) (fun a9 h1 h2 => ⟨hC_at hC1 h2 (fun z => h1.2 _ (List.mem_of_getElem? (i := 0) rfl) z), PZ_c h1 (by omega)⟩)
    refine W.eq (g2 := F0 m 53 ls [.ref q4, .int (nI 0), .ref q3]) rfl ?_
    obtain ⟨nn9, ff9, fo9, -⟩ := id hL4
    refine s_aast hx hb hK hS (Or.inr ge_q3) 3 1 (r := (R_L, F_L, 3)) f_q3 rfl fo9 rfl 0 rfl (by omega) (by omega) d_X_init_53 (fun H locs f_q3 hz oq hS => ?_)
    have f9 := ob_kept f9 (oq _ (Nat.ne_of_lt lt_a_q3))
    have hE := pS_mv hE (fun a9 h1 h2 => ⟨oq a9 (by have := (hPEx a9 h1).1; omega), h1⟩)
    have hSB := sB_kept hSB (oq _ (by omega)) (oq _ (by omega))
    have hL2 := pL_mv hL2 (oq _ (by omega)) (oq _ (by omega)) (fun a9 h1 h2 => ⟨oq a9 (h1.2 _ (List.mem_of_getElem? (i := 2) rfl)), h1⟩)
    have hL4 := pL_mv hL4 (oq _ (by omega)) (oq _ (by omega)) (fun a9 h1 h2 => ⟨oq a9 (h1.2 _ (List.mem_of_getElem? (i := 2) rfl)), h1⟩)
    refine n_inc (a := 0) (lv' := [(1, .int (nI 1)), (0, .ref a)]) hx hb d_X_init_54 hl (k := 0) rfl (by decide) rfl (fun ls hl => ?_)
    refine lv_goto (tgt := 36) hx hb d_X_init_57 (by decide) ?_
    refine lv_iload_n hx hb d_X_init_36 rfl (lv_at hl 0 rfl) ?_
    refine lv_iconst (v := nI 4) hx hb d_X_init_37 (by decide) ?_
    refine lv_icmp_ge (tgt := 60) hx hb d_X_init_38 (by decide) (fun c38 => ?_) (fun c38 => ?_)
    · skip
      first | exact absurd c38 (by decide) | exact absurd (by decide) c38
    · skip
      refine lv_aload_n hx hb d_X_init_41 rfl (lv_at hl 1 rfl) ?_
      refine va_get (D := g.1) (ci := 0) (C := R_X) (T := F_X) (N := 6) hx hb hts i_X hown hK.1 f9 0 rfl rfl 2 (by decide) (hts (.fieldLink "RegistryLog" 23 "RegistryLog" "mirrors" "[LRegistryLog$Ledger;") (in_3 (List.mem_of_getElem? (i := 11) rfl) rfl)) (fun _ h9 => h9) rfl d_X_init_42 ?_
      refine lv_iload_n hx hb d_X_init_45 rfl (lv_at hl 0 rfl) ?_
      have hS0 := hS
      refine s_new (ci := 1) (C := R_L) (T := F_L) (N := 3) hx hb hts i_L t_L t_L_ok hown (hts _ (in_1 (List.mem_of_getElem? (i := 67) rfl) rfl)) (hts _ (in_1 (List.mem_of_getElem? (i := 68) rfl) rfl)) (hts _ (in_1 (List.mem_of_getElem? (i := 6) rfl) rfl)) hK hS rfl (fs := [.null, .null, .int 0]) (by decide) (by show 0 + 1 + 1 + 1 + 31 + 1 + 1 + 31 + 1 ≤ 199; omega) (by show 0 + 4 + 16 + 3 + 1020 + 4 + 3 + 1020 + 3 ≤ 6200; omega) d_X_init_46 (fun q5 H hq f_q5 hz o1 hS => ?_)
      have lt_a_q5 : a < q5 := by rw [hq]; exact ob_lt f9
      have f9 := ob_kept f9 (o1 _ lt_a_q5)
      have hE := pS_mv hE (fun a9 h1 h2 => ⟨o1 a9 (by rw [hq]; exact h2), h1⟩)
      have hSB := sB_kept hSB (o1 _ (by rw [hq]; exact (sB_b hSB).1)) (o1 _ (by rw [hq]; exact (sB_b hSB).2))
      have lt_q3_q5 : q3 < q5 := by rw [hq]; exact ar_lt f_q3
      have f_q3 := ar_kept f_q3 (o1 _ lt_q3_q5)
      have hL2 := pL_mv hL2 (P' := PZ PE s.heap.size (q5 :: [w4, q4, q3, w2, q2, sv, q1])) (o1 _ (by rw [hq]; exact (pL_lt hL2).1)) (o1 _ (by rw [hq]; exact (pL_lt hL2).2)) (fun a9 h1 h2 => ⟨o1 a9 (by rw [hq]; exact h2), PZ_c h1 (by omega)⟩)
      have hL4 := pL_mv hL4 (P' := PZ PE s.heap.size (q5 :: [w4, q4, q3, w2, q2, sv, q1])) (o1 _ (by rw [hq]; exact (pL_lt hL4).1)) (o1 _ (by rw [hq]; exact (pL_lt hL4).2)) (fun a9 h1 h2 => ⟨o1 a9 (by rw [hq]; exact h2), PZ_c h1 (by omega)⟩)
      have ge_q5 : s.heap.size ≤ q5 := by rw [hq]; exact hS0.1
      have lq_q5 : q5 < H.size := by rw [hz]; exact Nat.lt_succ_self _
      have sz_q5 : H.size = q5 + 1 := hz
      refine lv_dup hx hb d_X_init_49 rfl ?_
      refine aW (N := (fun a9 => a9 = q5)) (rI (As := []) (rest := [.ref q5, .int (nI 1), .ref q3]) C0 (c_L_init l g _ PE q5 (Nat.le_trans hsz hS.1) (by omega) f_q5 hE (fun z h9 => ⟨by have := (hPEx z h9).1; omega, by have := (hPEx z h9).1; omega⟩)) (zK_S hZ hS (fun q h => by rw [h]; exact ha9)) k_X_init_50 rfl rfl ⟨Nat.le_of_ble_eq_true rfl, Nat.le_of_ble_eq_true rfl⟩ rfl hl.1 rfl (Nat.le_of_ble_eq_true rfl) d_X_init_50 ⟨by show 0 + 1 + 1 + 1 + 31 + 1 + 1 + 31 + 1 + 31 ≤ 199; omega, by show 0 + 4 + 16 + 3 + 1020 + 4 + 3 + 1020 + 3 + 1020 ≤ 6200; omega⟩) (fun v H L hC1 hp hL => ?_)
      have hS0 := hS
      have hS := hS_call hS hC1 hL (fun a9 h => by rw [h]; exact Or.inr ge_q5)
      have f9 := ob_kept f9 (hC_at hC1 (ob_lt f9) (fun z => absurd z (by omega)))
      have hE := pS_mv hE (fun a9 h1 h2 => ⟨hC_at hC1 h2 (fun z => absurd z (by have := (hPEx a9 h1).1; omega)), h1⟩)
      have hSB := sB_kept hSB (hC_at hC1 (sB_b hSB).1 (fun z => absurd z (by omega))) (hC_at hC1 (sB_b hSB).2 (fun z => absurd z (by omega)))
      have f_q3 := ar_kept f_q3 (hC_at hC1 (ar_lt f_q3) (fun z => absurd z (by omega)))
      obtain ⟨rfl, w5, hw5, hL5⟩ := hp
      have hcs5 := hC1.1
      have hw5l := (pL_lt hL5).2
      have hML5 : ∀ m ∈ [q5, w4, q4, q3, w2, q2, sv, q1], s.heap.size ≤ m ∧ m < q5 + 1 := by intro m9 hm9; simp only [List.mem_cons, List.not_mem_nil, or_false] at hm9; omega
      have hL5 := PZ_l (n0 := s.heap.size) hL5 (by omega) (fun z h9 => (hPEx z h9).1) (fun m9 hm9 => by have := hML5 m9 hm9; omega) hw5
      have hL2 := pL_mv (P' := PZ PE s.heap.size (w5 :: [q5, w4, q4, q3, w2, q2, sv, q1])) hL2 (hC_at hC1 (pL_lt hL2).1 (fun z => absurd z (by omega))) (hC_at hC1 (pL_lt hL2).2 (fun z => absurd z (by omega))) (fun a9 h1 h2 => ⟨hC_at hC1 h2 (fun z => h1.2 _ (List.mem_of_getElem? (i := 0) rfl) z), PZ_c h1 (by omega)⟩)
      have hL4 := pL_mv (P' := PZ PE s.heap.size (w5 :: [q5, w4, q4, q3, w2, q2, sv, q1])) hL4 (hC_at hC1 (pL_lt hL4).1 (fun z => absurd z (by omega))) (hC_at hC1 (pL_lt hL4).2 (fun z => absurd z (by omega))) (fun a9 h1 h2 => ⟨hC_at hC1 h2 (fun z => h1.2 _ (List.mem_of_getElem? (i := 0) rfl) z), PZ_c h1 (by omega)⟩)
      refine W.eq (g2 := F0 m 53 ls [.ref q5, .int (nI 1), .ref q3]) rfl ?_
      obtain ⟨nn9, ff9, fo9, -⟩ := id hL5
      refine s_aast hx hb hK hS (Or.inr ge_q3) 3 1 (r := (R_L, F_L, 3)) f_q3 rfl fo9 rfl 1 rfl (by omega) (by omega) d_X_init_53 (fun H locs f_q3 hz oq hS => ?_)
      have f9 := ob_kept f9 (oq _ (Nat.ne_of_lt lt_a_q3))
      have hE := pS_mv hE (fun a9 h1 h2 => ⟨oq a9 (by have := (hPEx a9 h1).1; omega), h1⟩)
      have hSB := sB_kept hSB (oq _ (by omega)) (oq _ (by omega))
      have hL2 := pL_mv hL2 (oq _ (by omega)) (oq _ (by omega)) (fun a9 h1 h2 => ⟨oq a9 (h1.2 _ (List.mem_of_getElem? (i := 4) rfl)), h1⟩)
      have hL4 := pL_mv hL4 (oq _ (by omega)) (oq _ (by omega)) (fun a9 h1 h2 => ⟨oq a9 (h1.2 _ (List.mem_of_getElem? (i := 4) rfl)), h1⟩)
      have hL5 := pL_mv hL5 (oq _ (by omega)) (oq _ (by omega)) (fun a9 h1 h2 => ⟨oq a9 (h1.2 _ (List.mem_of_getElem? (i := 4) rfl)), h1⟩)
      refine n_inc (a := 1) (lv' := [(1, .int (nI 2)), (0, .ref a)]) hx hb d_X_init_54 hl (k := 0) rfl (by decide) rfl (fun ls hl => ?_)
      refine lv_goto (tgt := 36) hx hb d_X_init_57 (by decide) ?_
      refine lv_iload_n hx hb d_X_init_36 rfl (lv_at hl 0 rfl) ?_
      refine lv_iconst (v := nI 4) hx hb d_X_init_37 (by decide) ?_
      refine lv_icmp_ge (tgt := 60) hx hb d_X_init_38 (by decide) (fun c38 => ?_) (fun c38 => ?_)
      · skip
        first | exact absurd c38 (by decide) | exact absurd (by decide) c38
      · skip
        refine lv_aload_n hx hb d_X_init_41 rfl (lv_at hl 1 rfl) ?_
        refine va_get (D := g.1) (ci := 0) (C := R_X) (T := F_X) (N := 6) hx hb hts i_X hown hK.1 f9 0 rfl rfl 2 (by decide) (hts (.fieldLink "RegistryLog" 23 "RegistryLog" "mirrors" "[LRegistryLog$Ledger;") (in_3 (List.mem_of_getElem? (i := 11) rfl) rfl)) (fun _ h9 => h9) rfl d_X_init_42 ?_
        refine lv_iload_n hx hb d_X_init_45 rfl (lv_at hl 0 rfl) ?_
        have hS0 := hS
        refine s_new (ci := 1) (C := R_L) (T := F_L) (N := 3) hx hb hts i_L t_L t_L_ok hown (hts _ (in_1 (List.mem_of_getElem? (i := 67) rfl) rfl)) (hts _ (in_1 (List.mem_of_getElem? (i := 68) rfl) rfl)) (hts _ (in_1 (List.mem_of_getElem? (i := 6) rfl) rfl)) hK hS rfl (fs := [.null, .null, .int 0]) (by decide) (by show 0 + 1 + 1 + 1 + 31 + 1 + 1 + 31 + 1 + 31 + 1 ≤ 199; omega) (by show 0 + 4 + 16 + 3 + 1020 + 4 + 3 + 1020 + 3 + 1020 + 3 ≤ 6200; omega) d_X_init_46 (fun q6 H hq f_q6 hz o1 hS => ?_)
        have lt_a_q6 : a < q6 := by rw [hq]; exact ob_lt f9
        have f9 := ob_kept f9 (o1 _ lt_a_q6)
        have hE := pS_mv hE (fun a9 h1 h2 => ⟨o1 a9 (by rw [hq]; exact h2), h1⟩)
        have hSB := sB_kept hSB (o1 _ (by rw [hq]; exact (sB_b hSB).1)) (o1 _ (by rw [hq]; exact (sB_b hSB).2))
        have lt_q3_q6 : q3 < q6 := by rw [hq]; exact ar_lt f_q3
        have f_q3 := ar_kept f_q3 (o1 _ lt_q3_q6)
        have hL2 := pL_mv hL2 (P' := PZ PE s.heap.size (q6 :: [w5, q5, w4, q4, q3, w2, q2, sv, q1])) (o1 _ (by rw [hq]; exact (pL_lt hL2).1)) (o1 _ (by rw [hq]; exact (pL_lt hL2).2)) (fun a9 h1 h2 => ⟨o1 a9 (by rw [hq]; exact h2), PZ_c h1 (by omega)⟩)
        have hL4 := pL_mv hL4 (P' := PZ PE s.heap.size (q6 :: [w5, q5, w4, q4, q3, w2, q2, sv, q1])) (o1 _ (by rw [hq]; exact (pL_lt hL4).1)) (o1 _ (by rw [hq]; exact (pL_lt hL4).2)) (fun a9 h1 h2 => ⟨o1 a9 (by rw [hq]; exact h2), PZ_c h1 (by omega)⟩)
        have hL5 := pL_mv hL5 (P' := PZ PE s.heap.size (q6 :: [w5, q5, w4, q4, q3, w2, q2, sv, q1])) (o1 _ (by rw [hq]; exact (pL_lt hL5).1)) (o1 _ (by rw [hq]; exact (pL_lt hL5).2)) (fun a9 h1 h2 => ⟨o1 a9 (by rw [hq]; exact h2), PZ_c h1 (by omega)⟩)
        have ge_q6 : s.heap.size ≤ q6 := by rw [hq]; exact hS0.1
        have lq_q6 : q6 < H.size := by rw [hz]; exact Nat.lt_succ_self _
        have sz_q6 : H.size = q6 + 1 := hz
        refine lv_dup hx hb d_X_init_49 rfl ?_
        refine aW (N := (fun a9 => a9 = q6)) (rI (As := []) (rest := [.ref q6, .int (nI 2), .ref q3]) C0 (c_L_init l g _ PE q6 (Nat.le_trans hsz hS.1) (by omega) f_q6 hE (fun z h9 => ⟨by have := (hPEx z h9).1; omega, by have := (hPEx z h9).1; omega⟩)) (zK_S hZ hS (fun q h => by rw [h]; exact ha9)) k_X_init_50 rfl rfl ⟨Nat.le_of_ble_eq_true rfl, Nat.le_of_ble_eq_true rfl⟩ rfl hl.1 rfl (Nat.le_of_ble_eq_true rfl) d_X_init_50 ⟨by show 0 + 1 + 1 + 1 + 31 + 1 + 1 + 31 + 1 + 31 + 1 + 31 ≤ 199; omega, by show 0 + 4 + 16 + 3 + 1020 + 4 + 3 + 1020 + 3 + 1020 + 3 + 1020 ≤ 6200; omega⟩) (fun v H L hC1 hp hL => ?_)
        have hS0 := hS
        have hS := hS_call hS hC1 hL (fun a9 h => by rw [h]; exact Or.inr ge_q6)
        have f9 := ob_kept f9 (hC_at hC1 (ob_lt f9) (fun z => absurd z (by omega)))
        have hE := pS_mv hE (fun a9 h1 h2 => ⟨hC_at hC1 h2 (fun z => absurd z (by have := (hPEx a9 h1).1; omega)), h1⟩)
        have hSB := sB_kept hSB (hC_at hC1 (sB_b hSB).1 (fun z => absurd z (by omega))) (hC_at hC1 (sB_b hSB).2 (fun z => absurd z (by omega)))
        have f_q3 := ar_kept f_q3 (hC_at hC1 (ar_lt f_q3) (fun z => absurd z (by omega)))
        obtain ⟨rfl, w6, hw6, hL6⟩ := hp
        have hcs6 := hC1.1
        have hw6l := (pL_lt hL6).2
        have hML6 : ∀ m ∈ [q6, w5, q5, w4, q4, q3, w2, q2, sv, q1], s.heap.size ≤ m ∧ m < q6 + 1 := by intro m9 hm9; simp only [List.mem_cons, List.not_mem_nil, or_false] at hm9; omega
        have hL6 := PZ_l (n0 := s.heap.size) hL6 (by omega) (fun z h9 => (hPEx z h9).1) (fun m9 hm9 => by have := hML6 m9 hm9; omega) hw6
        have hL2 := pL_mv (P' := PZ PE s.heap.size (w6 :: [q6, w5, q5, w4, q4, q3, w2, q2, sv, q1])) hL2 (hC_at hC1 (pL_lt hL2).1 (fun z => absurd z (by omega))) (hC_at hC1 (pL_lt hL2).2 (fun z => absurd z (by omega))) (fun a9 h1 h2 => ⟨hC_at hC1 h2 (fun z => h1.2 _ (List.mem_of_getElem? (i := 0) rfl) z), PZ_c h1 (by omega)⟩)
        have hL4 := pL_mv (P' := PZ PE s.heap.size (w6 :: [q6, w5, q5, w4, q4, q3, w2, q2, sv, q1])) hL4 (hC_at hC1 (pL_lt hL4).1 (fun z => absurd z (by omega))) (hC_at hC1 (pL_lt hL4).2 (fun z => absurd z (by omega))) (fun a9 h1 h2 => ⟨hC_at hC1 h2 (fun z => h1.2 _ (List.mem_of_getElem? (i := 0) rfl) z), PZ_c h1 (by omega)⟩)
        have hL5 := pL_mv (P' := PZ PE s.heap.size (w6 :: [q6, w5, q5, w4, q4, q3, w2, q2, sv, q1])) hL5 (hC_at hC1 (pL_lt hL5).1 (fun z => absurd z (by omega))) (hC_at hC1 (pL_lt hL5).2 (fun z => absurd z (by omega))) (fun a9 h1 h2 => ⟨hC_at hC1 h2 (fun z => h1.2 _ (List.mem_of_getElem? (i := 0) rfl) z), PZ_c h1 (by omega)⟩)
        refine W.eq (g2 := F0 m 53 ls [.ref q6, .int (nI 2), .ref q3]) rfl ?_
        obtain ⟨nn9, ff9, fo9, -⟩ := id hL6
        refine s_aast hx hb hK hS (Or.inr ge_q3) 3 1 (r := (R_L, F_L, 3)) f_q3 rfl fo9 rfl 2 rfl (by omega) (by omega) d_X_init_53 (fun H locs f_q3 hz oq hS => ?_)
        have f9 := ob_kept f9 (oq _ (Nat.ne_of_lt lt_a_q3))
        have hE := pS_mv hE (fun a9 h1 h2 => ⟨oq a9 (by have := (hPEx a9 h1).1; omega), h1⟩)
        have hSB := sB_kept hSB (oq _ (by omega)) (oq _ (by omega))
        have hL2 := pL_mv hL2 (oq _ (by omega)) (oq _ (by omega)) (fun a9 h1 h2 => ⟨oq a9 (h1.2 _ (List.mem_of_getElem? (i := 6) rfl)), h1⟩)
        have hL4 := pL_mv hL4 (oq _ (by omega)) (oq _ (by omega)) (fun a9 h1 h2 => ⟨oq a9 (h1.2 _ (List.mem_of_getElem? (i := 6) rfl)), h1⟩)
        have hL5 := pL_mv hL5 (oq _ (by omega)) (oq _ (by omega)) (fun a9 h1 h2 => ⟨oq a9 (h1.2 _ (List.mem_of_getElem? (i := 6) rfl)), h1⟩)
        have hL6 := pL_mv hL6 (oq _ (by omega)) (oq _ (by omega)) (fun a9 h1 h2 => ⟨oq a9 (h1.2 _ (List.mem_of_getElem? (i := 6) rfl)), h1⟩)
        refine n_inc (a := 2) (lv' := [(1, .int (nI 3)), (0, .ref a)]) hx hb d_X_init_54 hl (k := 0) rfl (by decide) rfl (fun ls hl => ?_)
        refine lv_goto (tgt := 36) hx hb d_X_init_57 (by decide) ?_
        refine lv_iload_n hx hb d_X_init_36 rfl (lv_at hl 0 rfl) ?_
        refine lv_iconst (v := nI 4) hx hb d_X_init_37 (by decide) ?_
        refine lv_icmp_ge (tgt := 60) hx hb d_X_init_38 (by decide) (fun c38 => ?_) (fun c38 => ?_)
        · skip
          first | exact absurd c38 (by decide) | exact absurd (by decide) c38
        · skip
          refine lv_aload_n hx hb d_X_init_41 rfl (lv_at hl 1 rfl) ?_
          refine va_get (D := g.1) (ci := 0) (C := R_X) (T := F_X) (N := 6) hx hb hts i_X hown hK.1 f9 0 rfl rfl 2 (by decide) (hts (.fieldLink "RegistryLog" 23 "RegistryLog" "mirrors" "[LRegistryLog$Ledger;") (in_3 (List.mem_of_getElem? (i := 11) rfl) rfl)) (fun _ h9 => h9) rfl d_X_init_42 ?_
          refine lv_iload_n hx hb d_X_init_45 rfl (lv_at hl 0 rfl) ?_
          have hS0 := hS
          refine s_new (ci := 1) (C := R_L) (T := F_L) (N := 3) hx hb hts i_L t_L t_L_ok hown (hts _ (in_1 (List.mem_of_getElem? (i := 67) rfl) rfl)) (hts _ (in_1 (List.mem_of_getElem? (i := 68) rfl) rfl)) (hts _ (in_1 (List.mem_of_getElem? (i := 6) rfl) rfl)) hK hS rfl (fs := [.null, .null, .int 0]) (by decide) (by show 0 + 1 + 1 + 1 + 31 + 1 + 1 + 31 + 1 + 31 + 1 + 31 + 1 ≤ 199; omega) (by show 0 + 4 + 16 + 3 + 1020 + 4 + 3 + 1020 + 3 + 1020 + 3 + 1020 + 3 ≤ 6200; omega) d_X_init_46 (fun q7 H hq f_q7 hz o1 hS => ?_)
          have lt_a_q7 : a < q7 := by rw [hq]; exact ob_lt f9
          have f9 := ob_kept f9 (o1 _ lt_a_q7)
          have hE := pS_mv hE (fun a9 h1 h2 => ⟨o1 a9 (by rw [hq]; exact h2), h1⟩)
          have hSB := sB_kept hSB (o1 _ (by rw [hq]; exact (sB_b hSB).1)) (o1 _ (by rw [hq]; exact (sB_b hSB).2))
          have lt_q3_q7 : q3 < q7 := by rw [hq]; exact ar_lt f_q3
          have f_q3 := ar_kept f_q3 (o1 _ lt_q3_q7)
          have hL2 := pL_mv hL2 (P' := PZ PE s.heap.size (q7 :: [w6, q6, w5, q5, w4, q4, q3, w2, q2, sv, q1])) (o1 _ (by rw [hq]; exact (pL_lt hL2).1)) (o1 _ (by rw [hq]; exact (pL_lt hL2).2)) (fun a9 h1 h2 => ⟨o1 a9 (by rw [hq]; exact h2), PZ_c h1 (by omega)⟩)
          have hL4 := pL_mv hL4 (P' := PZ PE s.heap.size (q7 :: [w6, q6, w5, q5, w4, q4, q3, w2, q2, sv, q1])) (o1 _ (by rw [hq]; exact (pL_lt hL4).1)) (o1 _ (by rw [hq]; exact (pL_lt hL4).2)) (fun a9 h1 h2 => ⟨o1 a9 (by rw [hq]; exact h2), PZ_c h1 (by omega)⟩)
          have hL5 := pL_mv hL5 (P' := PZ PE s.heap.size (q7 :: [w6, q6, w5, q5, w4, q4, q3, w2, q2, sv, q1])) (o1 _ (by rw [hq]; exact (pL_lt hL5).1)) (o1 _ (by rw [hq]; exact (pL_lt hL5).2)) (fun a9 h1 h2 => ⟨o1 a9 (by rw [hq]; exact h2), PZ_c h1 (by omega)⟩)
          have hL6 := pL_mv hL6 (P' := PZ PE s.heap.size (q7 :: [w6, q6, w5, q5, w4, q4, q3, w2, q2, sv, q1])) (o1 _ (by rw [hq]; exact (pL_lt hL6).1)) (o1 _ (by rw [hq]; exact (pL_lt hL6).2)) (fun a9 h1 h2 => ⟨o1 a9 (by rw [hq]; exact h2), PZ_c h1 (by omega)⟩)
          have ge_q7 : s.heap.size ≤ q7 := by rw [hq]; exact hS0.1
          have lq_q7 : q7 < H.size := by rw [hz]; exact Nat.lt_succ_self _
          have sz_q7 : H.size = q7 + 1 := hz
          refine lv_dup hx hb d_X_init_49 rfl ?_
          refine aW (N := (fun a9 => a9 = q7)) (rI (As := []) (rest := [.ref q7, .int (nI 3), .ref q3]) C0 (c_L_init l g _ PE q7 (Nat.le_trans hsz hS.1) (by omega) f_q7 hE (fun z h9 => ⟨by have := (hPEx z h9).1; omega, by have := (hPEx z h9).1; omega⟩)) (zK_S hZ hS (fun q h => by rw [h]; exact ha9)) k_X_init_50 rfl rfl ⟨Nat.le_of_ble_eq_true rfl, Nat.le_of_ble_eq_true rfl⟩ rfl hl.1 rfl (Nat.le_of_ble_eq_true rfl) d_X_init_50 ⟨by show 0 + 1 + 1 + 1 + 31 + 1 + 1 + 31 + 1 + 31 + 1 + 31 + 1 + 31 ≤ 199; omega, by show 0 + 4 + 16 + 3 + 1020 + 4 + 3 + 1020 + 3 + 1020 + 3 + 1020 + 3 + 1020 ≤ 6200; omega⟩) (fun v H L hC1 hp hL => ?_)
          have hS0 := hS
          have hS := hS_call hS hC1 hL (fun a9 h => by rw [h]; exact Or.inr ge_q7)
          have f9 := ob_kept f9 (hC_at hC1 (ob_lt f9) (fun z => absurd z (by omega)))
          have hE := pS_mv hE (fun a9 h1 h2 => ⟨hC_at hC1 h2 (fun z => absurd z (by have := (hPEx a9 h1).1; omega)), h1⟩)
          have hSB := sB_kept hSB (hC_at hC1 (sB_b hSB).1 (fun z => absurd z (by omega))) (hC_at hC1 (sB_b hSB).2 (fun z => absurd z (by omega)))
          have f_q3 := ar_kept f_q3 (hC_at hC1 (ar_lt f_q3) (fun z => absurd z (by omega)))
          obtain ⟨rfl, w7, hw7, hL7⟩ := hp
          have hcs7 := hC1.1
          have hw7l := (pL_lt hL7).2
          have hML7 : ∀ m ∈ [q7, w6, q6, w5, q5, w4, q4, q3, w2, q2, sv, q1], s.heap.size ≤ m ∧ m < q7 + 1 := by intro m9 hm9; simp only [List.mem_cons, List.not_mem_nil, or_false] at hm9; omega
          have hL7 := PZ_l (n0 := s.heap.size) hL7 (by omega) (fun z h9 => (hPEx z h9).1) (fun m9 hm9 => by have := hML7 m9 hm9; omega) hw7
          have hL2 := pL_mv (P' := PZ PE s.heap.size (w7 :: [q7, w6, q6, w5, q5, w4, q4, q3, w2, q2, sv, q1])) hL2 (hC_at hC1 (pL_lt hL2).1 (fun z => absurd z (by omega))) (hC_at hC1 (pL_lt hL2).2 (fun z => absurd z (by omega))) (fun a9 h1 h2 => ⟨hC_at hC1 h2 (fun z => h1.2 _ (List.mem_of_getElem? (i := 0) rfl) z), PZ_c h1 (by omega)⟩)
          have hL4 := pL_mv (P' := PZ PE s.heap.size (w7 :: [q7, w6, q6, w5, q5, w4, q4, q3, w2, q2, sv, q1])) hL4 (hC_at hC1 (pL_lt hL4).1 (fun z => absurd z (by omega))) (hC_at hC1 (pL_lt hL4).2 (fun z => absurd z (by omega))) (fun a9 h1 h2 => ⟨hC_at hC1 h2 (fun z => h1.2 _ (List.mem_of_getElem? (i := 0) rfl) z), PZ_c h1 (by omega)⟩)
          have hL5 := pL_mv (P' := PZ PE s.heap.size (w7 :: [q7, w6, q6, w5, q5, w4, q4, q3, w2, q2, sv, q1])) hL5 (hC_at hC1 (pL_lt hL5).1 (fun z => absurd z (by omega))) (hC_at hC1 (pL_lt hL5).2 (fun z => absurd z (by omega))) (fun a9 h1 h2 => ⟨hC_at hC1 h2 (fun z => h1.2 _ (List.mem_of_getElem? (i := 0) rfl) z), PZ_c h1 (by omega)⟩)
          have hL6 := pL_mv (P' := PZ PE s.heap.size (w7 :: [q7, w6, q6, w5, q5, w4, q4, q3, w2, q2, sv, q1])) hL6 (hC_at hC1 (pL_lt hL6).1 (fun z => absurd z (by omega))) (hC_at hC1 (pL_lt hL6).2 (fun z => absurd z (by omega))) (fun a9 h1 h2 => ⟨hC_at hC1 h2 (fun z => h1.2 _ (List.mem_of_getElem? (i := 0) rfl) z), PZ_c h1 (by omega)⟩)
          refine W.eq (g2 := F0 m 53 ls [.ref q7, .int (nI 3), .ref q3]) rfl ?_
          obtain ⟨nn9, ff9, fo9, -⟩ := id hL7
          refine s_aast hx hb hK hS (Or.inr ge_q3) 3 1 (r := (R_L, F_L, 3)) f_q3 rfl fo9 rfl 3 rfl (by omega) (by omega) d_X_init_53 (fun H locs f_q3 hz oq hS => ?_)
          have f9 := ob_kept f9 (oq _ (Nat.ne_of_lt lt_a_q3))
          have hE := pS_mv hE (fun a9 h1 h2 => ⟨oq a9 (by have := (hPEx a9 h1).1; omega), h1⟩)
          have hSB := sB_kept hSB (oq _ (by omega)) (oq _ (by omega))
          have hL2 := pL_mv hL2 (oq _ (by omega)) (oq _ (by omega)) (fun a9 h1 h2 => ⟨oq a9 (h1.2 _ (List.mem_of_getElem? (i := 8) rfl)), h1⟩)
          have hL4 := pL_mv hL4 (oq _ (by omega)) (oq _ (by omega)) (fun a9 h1 h2 => ⟨oq a9 (h1.2 _ (List.mem_of_getElem? (i := 8) rfl)), h1⟩)
          have hL5 := pL_mv hL5 (oq _ (by omega)) (oq _ (by omega)) (fun a9 h1 h2 => ⟨oq a9 (h1.2 _ (List.mem_of_getElem? (i := 8) rfl)), h1⟩)
          have hL6 := pL_mv hL6 (oq _ (by omega)) (oq _ (by omega)) (fun a9 h1 h2 => ⟨oq a9 (h1.2 _ (List.mem_of_getElem? (i := 8) rfl)), h1⟩)
          have hL7 := pL_mv hL7 (oq _ (by omega)) (oq _ (by omega)) (fun a9 h1 h2 => ⟨oq a9 (h1.2 _ (List.mem_of_getElem? (i := 8) rfl)), h1⟩)
          refine n_inc (a := 3) (lv' := [(1, .int (nI 4)), (0, .ref a)]) hx hb d_X_init_54 hl (k := 0) rfl (by decide) rfl (fun ls hl => ?_)
          refine lv_goto (tgt := 36) hx hb d_X_init_57 (by decide) ?_
          refine lv_iload_n hx hb d_X_init_36 rfl (lv_at hl 0 rfl) ?_
          refine lv_iconst (v := nI 4) hx hb d_X_init_37 (by decide) ?_
          refine lv_icmp_ge (tgt := 60) hx hb d_X_init_38 (by decide) (fun c38 => ?_) (fun c38 => ?_)
          · skip
            refine lv_aload_n hx hb d_X_init_60 rfl (lv_at hl 1 rfl) ?_
            have hS0 := hS
            refine s_new (ci := 1) (C := R_L) (T := F_L) (N := 3) hx hb hts i_L t_L t_L_ok hown (hts _ (in_1 (List.mem_of_getElem? (i := 67) rfl) rfl)) (hts _ (in_1 (List.mem_of_getElem? (i := 68) rfl) rfl)) (hts _ (in_1 (List.mem_of_getElem? (i := 6) rfl) rfl)) hK hS rfl (fs := [.null, .null, .int 0]) (by decide) (by show 0 + 1 + 1 + 1 + 31 + 1 + 1 + 31 + 1 + 31 + 1 + 31 + 1 + 31 + 1 ≤ 199; omega) (by show 0 + 4 + 16 + 3 + 1020 + 4 + 3 + 1020 + 3 + 1020 + 3 + 1020 + 3 + 1020 + 3 ≤ 6200; omega) d_X_init_61 (fun q8 H hq f_q8 hz o1 hS => ?_)
            have lt_a_q8 : a < q8 := by rw [hq]; exact ob_lt f9
            have f9 := ob_kept f9 (o1 _ lt_a_q8)
            have hE := pS_mv hE (fun a9 h1 h2 => ⟨o1 a9 (by rw [hq]; exact h2), h1⟩)
            have hSB := sB_kept hSB (o1 _ (by rw [hq]; exact (sB_b hSB).1)) (o1 _ (by rw [hq]; exact (sB_b hSB).2))
            have lt_q3_q8 : q3 < q8 := by rw [hq]; exact ar_lt f_q3
            have f_q3 := ar_kept f_q3 (o1 _ lt_q3_q8)
            have hL2 := pL_mv hL2 (P' := PZ PE s.heap.size (q8 :: [w7, q7, w6, q6, w5, q5, w4, q4, q3, w2, q2, sv, q1])) (o1 _ (by rw [hq]; exact (pL_lt hL2).1)) (o1 _ (by rw [hq]; exact (pL_lt hL2).2)) (fun a9 h1 h2 => ⟨o1 a9 (by rw [hq]; exact h2), PZ_c h1 (by omega)⟩)
            have hL4 := pL_mv hL4 (P' := PZ PE s.heap.size (q8 :: [w7, q7, w6, q6, w5, q5, w4, q4, q3, w2, q2, sv, q1])) (o1 _ (by rw [hq]; exact (pL_lt hL4).1)) (o1 _ (by rw [hq]; exact (pL_lt hL4).2)) (fun a9 h1 h2 => ⟨o1 a9 (by rw [hq]; exact h2), PZ_c h1 (by omega)⟩)
            have hL5 := pL_mv hL5 (P' := PZ PE s.heap.size (q8 :: [w7, q7, w6, q6, w5, q5, w4, q4, q3, w2, q2, sv, q1])) (o1 _ (by rw [hq]; exact (pL_lt hL5).1)) (o1 _ (by rw [hq]; exact (pL_lt hL5).2)) (fun a9 h1 h2 => ⟨o1 a9 (by rw [hq]; exact h2), PZ_c h1 (by omega)⟩)
            have hL6 := pL_mv hL6 (P' := PZ PE s.heap.size (q8 :: [w7, q7, w6, q6, w5, q5, w4, q4, q3, w2, q2, sv, q1])) (o1 _ (by rw [hq]; exact (pL_lt hL6).1)) (o1 _ (by rw [hq]; exact (pL_lt hL6).2)) (fun a9 h1 h2 => ⟨o1 a9 (by rw [hq]; exact h2), PZ_c h1 (by omega)⟩)
            have hL7 := pL_mv hL7 (P' := PZ PE s.heap.size (q8 :: [w7, q7, w6, q6, w5, q5, w4, q4, q3, w2, q2, sv, q1])) (o1 _ (by rw [hq]; exact (pL_lt hL7).1)) (o1 _ (by rw [hq]; exact (pL_lt hL7).2)) (fun a9 h1 h2 => ⟨o1 a9 (by rw [hq]; exact h2), PZ_c h1 (by omega)⟩)
            have ge_q8 : s.heap.size ≤ q8 := by rw [hq]; exact hS0.1
            have lq_q8 : q8 < H.size := by rw [hz]; exact Nat.lt_succ_self _
            have sz_q8 : H.size = q8 + 1 := hz
            refine lv_dup hx hb d_X_init_64 rfl ?_
            refine aW (N := (fun a9 => a9 = q8)) (rI (As := []) (rest := [.ref q8, .ref a]) C0 (c_L_init l g _ PE q8 (Nat.le_trans hsz hS.1) (by omega) f_q8 hE (fun z h9 => ⟨by have := (hPEx z h9).1; omega, by have := (hPEx z h9).1; omega⟩)) (zK_S hZ hS (fun q h => by rw [h]; exact ha9)) k_X_init_65 rfl rfl ⟨Nat.le_of_ble_eq_true rfl, Nat.le_of_ble_eq_true rfl⟩ rfl hl.1 rfl (Nat.le_of_ble_eq_true rfl) d_X_init_65 ⟨by show 0 + 1 + 1 + 1 + 31 + 1 + 1 + 31 + 1 + 31 + 1 + 31 + 1 + 31 + 1 + 31 ≤ 199; omega, by show 0 + 4 + 16 + 3 + 1020 + 4 + 3 + 1020 + 3 + 1020 + 3 + 1020 + 3 + 1020 + 3 + 1020 ≤ 6200; omega⟩) (fun v H L hC1 hp hL => ?_)
            have hS0 := hS
            have hS := hS_call hS hC1 hL (fun a9 h => by rw [h]; exact Or.inr ge_q8)
            have f9 := ob_kept f9 (hC_at hC1 (ob_lt f9) (fun z => absurd z (by omega)))
            have hE := pS_mv hE (fun a9 h1 h2 => ⟨hC_at hC1 h2 (fun z => absurd z (by have := (hPEx a9 h1).1; omega)), h1⟩)
            have hSB := sB_kept hSB (hC_at hC1 (sB_b hSB).1 (fun z => absurd z (by omega))) (hC_at hC1 (sB_b hSB).2 (fun z => absurd z (by omega)))
            have f_q3 := ar_kept f_q3 (hC_at hC1 (ar_lt f_q3) (fun z => absurd z (by omega)))
            obtain ⟨rfl, w8, hw8, hL8⟩ := hp
            have hcs8 := hC1.1
            have hw8l := (pL_lt hL8).2
            have hML8 : ∀ m ∈ [q8, w7, q7, w6, q6, w5, q5, w4, q4, q3, w2, q2, sv, q1], s.heap.size ≤ m ∧ m < q8 + 1 := by intro m9 hm9; simp only [List.mem_cons, List.not_mem_nil, or_false] at hm9; omega
            have hL8 := PZ_l (n0 := s.heap.size) hL8 (by omega) (fun z h9 => (hPEx z h9).1) (fun m9 hm9 => by have := hML8 m9 hm9; omega) hw8
            have hL2 := pL_mv (P' := PZ PE s.heap.size (w8 :: [q8, w7, q7, w6, q6, w5, q5, w4, q4, q3, w2, q2, sv, q1])) hL2 (hC_at hC1 (pL_lt hL2).1 (fun z => absurd z (by omega))) (hC_at hC1 (pL_lt hL2).2 (fun z => absurd z (by omega))) (fun a9 h1 h2 => ⟨hC_at hC1 h2 (fun z => h1.2 _ (List.mem_of_getElem? (i := 0) rfl) z), PZ_c h1 (by omega)⟩)
            have hL4 := pL_mv (P' := PZ PE s.heap.size (w8 :: [q8, w7, q7, w6, q6, w5, q5, w4, q4, q3, w2, q2, sv, q1])) hL4 (hC_at hC1 (pL_lt hL4).1 (fun z => absurd z (by omega))) (hC_at hC1 (pL_lt hL4).2 (fun z => absurd z (by omega))) (fun a9 h1 h2 => ⟨hC_at hC1 h2 (fun z => h1.2 _ (List.mem_of_getElem? (i := 0) rfl) z), PZ_c h1 (by omega)⟩)
            have hL5 := pL_mv (P' := PZ PE s.heap.size (w8 :: [q8, w7, q7, w6, q6, w5, q5, w4, q4, q3, w2, q2, sv, q1])) hL5 (hC_at hC1 (pL_lt hL5).1 (fun z => absurd z (by omega))) (hC_at hC1 (pL_lt hL5).2 (fun z => absurd z (by omega))) (fun a9 h1 h2 => ⟨hC_at hC1 h2 (fun z => h1.2 _ (List.mem_of_getElem? (i := 0) rfl) z), PZ_c h1 (by omega)⟩)
            have hL6 := pL_mv (P' := PZ PE s.heap.size (w8 :: [q8, w7, q7, w6, q6, w5, q5, w4, q4, q3, w2, q2, sv, q1])) hL6 (hC_at hC1 (pL_lt hL6).1 (fun z => absurd z (by omega))) (hC_at hC1 (pL_lt hL6).2 (fun z => absurd z (by omega))) (fun a9 h1 h2 => ⟨hC_at hC1 h2 (fun z => h1.2 _ (List.mem_of_getElem? (i := 0) rfl) z), PZ_c h1 (by omega)⟩)
            have hL7 := pL_mv (P' := PZ PE s.heap.size (w8 :: [q8, w7, q7, w6, q6, w5, q5, w4, q4, q3, w2, q2, sv, q1])) hL7 (hC_at hC1 (pL_lt hL7).1 (fun z => absurd z (by omega))) (hC_at hC1 (pL_lt hL7).2 (fun z => absurd z (by omega))) (fun a9 h1 h2 => ⟨hC_at hC1 h2 (fun z => h1.2 _ (List.mem_of_getElem? (i := 0) rfl) z), PZ_c h1 (by omega)⟩)
            refine W.eq (g2 := F0 m 68 ls [.ref q8, .ref a]) rfl ?_
            refine s_putF (ci := 0) (C := R_X) (T := F_X) (N := 6) hx hb hts i_X t_X t_X_ok n_X hown hK hS (Or.inl rfl) f9 rfl 3 (by decide) (hts _ (in_3 (List.mem_of_getElem? (i := 12) rfl) rfl)) (fun _ h9 => h9) rfl hnm rfl (v := .ref q8) rfl rfl rfl (Nat.le_of_ble_eq_true rfl) (fs2 := [.ref q1, .ref q2, .ref q3, .ref q8, .null, .null]) rfl d_X_init_68 (fun H locs f9 hz oq hS => ?_)
            have hE := pS_mv hE (fun a9 h1 h2 => ⟨oq a9 ((hPEx a9 h1).2), h1⟩)
            have hSB := sB_kept hSB (oq _ (by omega)) (oq _ (by omega))
            have f_q3 := ar_kept f_q3 (oq _ (Ne.symm (Nat.ne_of_lt lt_a_q3)))
            have hL2 := pL_mv hL2 (oq _ (by omega)) (oq _ (by omega)) (fun a9 h1 h2 => ⟨oq a9 (PZ_x hPEx hax h1), h1⟩)
            have hL4 := pL_mv hL4 (oq _ (by omega)) (oq _ (by omega)) (fun a9 h1 h2 => ⟨oq a9 (PZ_x hPEx hax h1), h1⟩)
            have hL5 := pL_mv hL5 (oq _ (by omega)) (oq _ (by omega)) (fun a9 h1 h2 => ⟨oq a9 (PZ_x hPEx hax h1), h1⟩)
            have hL6 := pL_mv hL6 (oq _ (by omega)) (oq _ (by omega)) (fun a9 h1 h2 => ⟨oq a9 (PZ_x hPEx hax h1), h1⟩)
            have hL7 := pL_mv hL7 (oq _ (by omega)) (oq _ (by omega)) (fun a9 h1 h2 => ⟨oq a9 (PZ_x hPEx hax h1), h1⟩)
            have hL8 := pL_mv hL8 (oq _ (by omega)) (oq _ (by omega)) (fun a9 h1 h2 => ⟨oq a9 (PZ_x hPEx hax h1), h1⟩)
            refine lv_aload_n hx hb d_X_init_71 rfl (lv_at hl 1 rfl) ?_
            have hS0 := hS
            refine s_new (ci := 3) (C := R_U) (T := F_U) (N := 3) hx hb hts i_U t_U t_U_ok hown (hts _ (in_2 (List.mem_of_getElem? (i := 232) rfl) rfl)) (hts _ (in_2 (List.mem_of_getElem? (i := 233) rfl) rfl)) (hts _ (in_1 (List.mem_of_getElem? (i := 21) rfl) rfl)) hK hS rfl (fs := [.null, .int 0, .int 0]) (by decide) (by show 0 + 1 + 1 + 1 + 31 + 1 + 1 + 31 + 1 + 31 + 1 + 31 + 1 + 31 + 1 + 31 + 1 ≤ 199; omega) (by show 0 + 4 + 16 + 3 + 1020 + 4 + 3 + 1020 + 3 + 1020 + 3 + 1020 + 3 + 1020 + 3 + 1020 + 3 ≤ 6200; omega) d_X_init_72 (fun q9 H hq f_q9 hz o1 hS => ?_)
            have lt_a_q9 : a < q9 := by rw [hq]; exact ob_lt f9
            have f9 := ob_kept f9 (o1 _ lt_a_q9)
            have hE := pS_mv hE (fun a9 h1 h2 => ⟨o1 a9 (by rw [hq]; exact h2), h1⟩)
            have hSB := sB_kept hSB (o1 _ (by rw [hq]; exact (sB_b hSB).1)) (o1 _ (by rw [hq]; exact (sB_b hSB).2))
            have lt_q3_q9 : q3 < q9 := by rw [hq]; exact ar_lt f_q3
            have f_q3 := ar_kept f_q3 (o1 _ lt_q3_q9)
            have hL2 := pL_mv hL2 (P' := PZ PE s.heap.size (q9 :: [w8, q8, w7, q7, w6, q6, w5, q5, w4, q4, q3, w2, q2, sv, q1])) (o1 _ (by rw [hq]; exact (pL_lt hL2).1)) (o1 _ (by rw [hq]; exact (pL_lt hL2).2)) (fun a9 h1 h2 => ⟨o1 a9 (by rw [hq]; exact h2), PZ_c h1 (by omega)⟩)
            have hL4 := pL_mv hL4 (P' := PZ PE s.heap.size (q9 :: [w8, q8, w7, q7, w6, q6, w5, q5, w4, q4, q3, w2, q2, sv, q1])) (o1 _ (by rw [hq]; exact (pL_lt hL4).1)) (o1 _ (by rw [hq]; exact (pL_lt hL4).2)) (fun a9 h1 h2 => ⟨o1 a9 (by rw [hq]; exact h2), PZ_c h1 (by omega)⟩)
            have hL5 := pL_mv hL5 (P' := PZ PE s.heap.size (q9 :: [w8, q8, w7, q7, w6, q6, w5, q5, w4, q4, q3, w2, q2, sv, q1])) (o1 _ (by rw [hq]; exact (pL_lt hL5).1)) (o1 _ (by rw [hq]; exact (pL_lt hL5).2)) (fun a9 h1 h2 => ⟨o1 a9 (by rw [hq]; exact h2), PZ_c h1 (by omega)⟩)
            have hL6 := pL_mv hL6 (P' := PZ PE s.heap.size (q9 :: [w8, q8, w7, q7, w6, q6, w5, q5, w4, q4, q3, w2, q2, sv, q1])) (o1 _ (by rw [hq]; exact (pL_lt hL6).1)) (o1 _ (by rw [hq]; exact (pL_lt hL6).2)) (fun a9 h1 h2 => ⟨o1 a9 (by rw [hq]; exact h2), PZ_c h1 (by omega)⟩)
            have hL7 := pL_mv hL7 (P' := PZ PE s.heap.size (q9 :: [w8, q8, w7, q7, w6, q6, w5, q5, w4, q4, q3, w2, q2, sv, q1])) (o1 _ (by rw [hq]; exact (pL_lt hL7).1)) (o1 _ (by rw [hq]; exact (pL_lt hL7).2)) (fun a9 h1 h2 => ⟨o1 a9 (by rw [hq]; exact h2), PZ_c h1 (by omega)⟩)
            have hL8 := pL_mv hL8 (P' := PZ PE s.heap.size (q9 :: [w8, q8, w7, q7, w6, q6, w5, q5, w4, q4, q3, w2, q2, sv, q1])) (o1 _ (by rw [hq]; exact (pL_lt hL8).1)) (o1 _ (by rw [hq]; exact (pL_lt hL8).2)) (fun a9 h1 h2 => ⟨o1 a9 (by rw [hq]; exact h2), PZ_c h1 (by omega)⟩)
            have ge_q9 : s.heap.size ≤ q9 := by rw [hq]; exact hS0.1
            have lq_q9 : q9 < H.size := by rw [hz]; exact Nat.lt_succ_self _
            have sz_q9 : H.size = q9 + 1 := hz
            refine lv_dup hx hb d_X_init_75 rfl ?_
            refine aW (N := (fun a9 => a9 = q9)) (rI (As := []) (rest := [.ref q9, .ref a]) C0 (c_U_init l g _ q9 f_q9) (zK_S hZ hS (fun q h => by rw [h]; exact ha9)) k_X_init_76 rfl rfl ⟨Nat.le_of_ble_eq_true rfl, Nat.le_of_ble_eq_true rfl⟩ rfl hl.1 rfl (Nat.le_of_ble_eq_true rfl) d_X_init_76 ⟨by show 0 + 1 + 1 + 1 + 31 + 1 + 1 + 31 + 1 + 31 + 1 + 31 + 1 + 31 + 1 + 31 + 1 + 1 ≤ 199; omega, by show 0 + 4 + 16 + 3 + 1020 + 4 + 3 + 1020 + 3 + 1020 + 3 + 1020 + 3 + 1020 + 3 + 1020 + 3 + 16 ≤ 6200; omega⟩) (fun v H L hC1 hp hL => ?_)
            have hS0 := hS
            have hS := hS_call hS hC1 hL (fun a9 h => by rw [h]; exact Or.inr ge_q9)
            have f9 := ob_kept f9 (hC_at hC1 (ob_lt f9) (fun z => absurd z (by omega)))
            have hE := pS_mv hE (fun a9 h1 h2 => ⟨hC_at hC1 h2 (fun z => absurd z (by have := (hPEx a9 h1).1; omega)), h1⟩)
            have hSB := sB_kept hSB (hC_at hC1 (sB_b hSB).1 (fun z => absurd z (by omega))) (hC_at hC1 (sB_b hSB).2 (fun z => absurd z (by omega)))
            have f_q3 := ar_kept f_q3 (hC_at hC1 (ar_lt f_q3) (fun z => absurd z (by omega)))
            obtain ⟨rfl, v9, hv9, hU9⟩ := hp
            have hcs9 := hC1.1
            have hv9l := ar_lt hU9.2.1
            have hL2 := pL_mv (P' := PZ PE s.heap.size (v9 :: [q9, w8, q8, w7, q7, w6, q6, w5, q5, w4, q4, q3, w2, q2, sv, q1])) hL2 (hC_at hC1 (pL_lt hL2).1 (fun z => absurd z (by omega))) (hC_at hC1 (pL_lt hL2).2 (fun z => absurd z (by omega))) (fun a9 h1 h2 => ⟨hC_at hC1 h2 (fun z => h1.2 _ (List.mem_of_getElem? (i := 0) rfl) z), PZ_c h1 (by omega)⟩)
            have hL4 := pL_mv (P' := PZ PE s.heap.size (v9 :: [q9, w8, q8, w7, q7, w6, q6, w5, q5, w4, q4, q3, w2, q2, sv, q1])) hL4 (hC_at hC1 (pL_lt hL4).1 (fun z => absurd z (by omega))) (hC_at hC1 (pL_lt hL4).2 (fun z => absurd z (by omega))) (fun a9 h1 h2 => ⟨hC_at hC1 h2 (fun z => h1.2 _ (List.mem_of_getElem? (i := 0) rfl) z), PZ_c h1 (by omega)⟩)
            have hL5 := pL_mv (P' := PZ PE s.heap.size (v9 :: [q9, w8, q8, w7, q7, w6, q6, w5, q5, w4, q4, q3, w2, q2, sv, q1])) hL5 (hC_at hC1 (pL_lt hL5).1 (fun z => absurd z (by omega))) (hC_at hC1 (pL_lt hL5).2 (fun z => absurd z (by omega))) (fun a9 h1 h2 => ⟨hC_at hC1 h2 (fun z => h1.2 _ (List.mem_of_getElem? (i := 0) rfl) z), PZ_c h1 (by omega)⟩)
            have hL6 := pL_mv (P' := PZ PE s.heap.size (v9 :: [q9, w8, q8, w7, q7, w6, q6, w5, q5, w4, q4, q3, w2, q2, sv, q1])) hL6 (hC_at hC1 (pL_lt hL6).1 (fun z => absurd z (by omega))) (hC_at hC1 (pL_lt hL6).2 (fun z => absurd z (by omega))) (fun a9 h1 h2 => ⟨hC_at hC1 h2 (fun z => h1.2 _ (List.mem_of_getElem? (i := 0) rfl) z), PZ_c h1 (by omega)⟩)
            have hL7 := pL_mv (P' := PZ PE s.heap.size (v9 :: [q9, w8, q8, w7, q7, w6, q6, w5, q5, w4, q4, q3, w2, q2, sv, q1])) hL7 (hC_at hC1 (pL_lt hL7).1 (fun z => absurd z (by omega))) (hC_at hC1 (pL_lt hL7).2 (fun z => absurd z (by omega))) (fun a9 h1 h2 => ⟨hC_at hC1 h2 (fun z => h1.2 _ (List.mem_of_getElem? (i := 0) rfl) z), PZ_c h1 (by omega)⟩)
            have hL8 := pL_mv (P' := PZ PE s.heap.size (v9 :: [q9, w8, q8, w7, q7, w6, q6, w5, q5, w4, q4, q3, w2, q2, sv, q1])) hL8 (hC_at hC1 (pL_lt hL8).1 (fun z => absurd z (by omega))) (hC_at hC1 (pL_lt hL8).2 (fun z => absurd z (by omega))) (fun a9 h1 h2 => ⟨hC_at hC1 h2 (fun z => h1.2 _ (List.mem_of_getElem? (i := 0) rfl) z), PZ_c h1 (by omega)⟩)
            refine W.eq (g2 := F0 m 79 ls [.ref q9, .ref a]) rfl ?_
            refine s_putF (ci := 0) (C := R_X) (T := F_X) (N := 6) hx hb hts i_X t_X t_X_ok n_X hown hK hS (Or.inl rfl) f9 rfl 4 (by decide) (hts _ (in_3 (List.mem_of_getElem? (i := 13) rfl) rfl)) (fun _ h9 => h9) rfl hnm rfl (v := .ref q9) rfl rfl rfl (Nat.le_of_ble_eq_true rfl) (fs2 := [.ref q1, .ref q2, .ref q3, .ref q8, .ref q9, .null]) rfl d_X_init_79 (fun H locs f9 hz oq hS => ?_)
            have hE := pS_mv hE (fun a9 h1 h2 => ⟨oq a9 ((hPEx a9 h1).2), h1⟩)
            have hSB := sB_kept hSB (oq _ (by omega)) (oq _ (by omega))
            have f_q3 := ar_kept f_q3 (oq _ (Ne.symm (Nat.ne_of_lt lt_a_q3)))
            have hL2 := pL_mv hL2 (oq _ (by omega)) (oq _ (by omega)) (fun a9 h1 h2 => ⟨oq a9 (PZ_x hPEx hax h1), h1⟩)
            have hL4 := pL_mv hL4 (oq _ (by omega)) (oq _ (by omega)) (fun a9 h1 h2 => ⟨oq a9 (PZ_x hPEx hax h1), h1⟩)
            have hL5 := pL_mv hL5 (oq _ (by omega)) (oq _ (by omega)) (fun a9 h1 h2 => ⟨oq a9 (PZ_x hPEx hax h1), h1⟩)
            have hL6 := pL_mv hL6 (oq _ (by omega)) (oq _ (by omega)) (fun a9 h1 h2 => ⟨oq a9 (PZ_x hPEx hax h1), h1⟩)
            have hL7 := pL_mv hL7 (oq _ (by omega)) (oq _ (by omega)) (fun a9 h1 h2 => ⟨oq a9 (PZ_x hPEx hax h1), h1⟩)
            have hL8 := pL_mv hL8 (oq _ (by omega)) (oq _ (by omega)) (fun a9 h1 h2 => ⟨oq a9 (PZ_x hPEx hax h1), h1⟩)
            have hU9 := isU_kept hU9 (oq _ (by omega)) (oq _ (by omega))
            refine lv_aload_n hx hb d_X_init_82 rfl (lv_at hl 1 rfl) ?_
            have hS0 := hS
            refine s_new (ci := 3) (C := R_U) (T := F_U) (N := 3) hx hb hts i_U t_U t_U_ok hown (hts _ (in_2 (List.mem_of_getElem? (i := 232) rfl) rfl)) (hts _ (in_2 (List.mem_of_getElem? (i := 233) rfl) rfl)) (hts _ (in_1 (List.mem_of_getElem? (i := 21) rfl) rfl)) hK hS rfl (fs := [.null, .int 0, .int 0]) (by decide) (by show 0 + 1 + 1 + 1 + 31 + 1 + 1 + 31 + 1 + 31 + 1 + 31 + 1 + 31 + 1 + 31 + 1 + 1 + 1 ≤ 199; omega) (by show 0 + 4 + 16 + 3 + 1020 + 4 + 3 + 1020 + 3 + 1020 + 3 + 1020 + 3 + 1020 + 3 + 1020 + 3 + 16 + 3 ≤ 6200; omega) d_X_init_83 (fun q10 H hq f_q10 hz o1 hS => ?_)
            have lt_a_q10 : a < q10 := by rw [hq]; exact ob_lt f9
            have f9 := ob_kept f9 (o1 _ lt_a_q10)
            have hE := pS_mv hE (fun a9 h1 h2 => ⟨o1 a9 (by rw [hq]; exact h2), h1⟩)
            have hSB := sB_kept hSB (o1 _ (by rw [hq]; exact (sB_b hSB).1)) (o1 _ (by rw [hq]; exact (sB_b hSB).2))
            have lt_q3_q10 : q3 < q10 := by rw [hq]; exact ar_lt f_q3
            have f_q3 := ar_kept f_q3 (o1 _ lt_q3_q10)
            have hL2 := pL_mv hL2 (P' := PZ PE s.heap.size (q10 :: [v9, q9, w8, q8, w7, q7, w6, q6, w5, q5, w4, q4, q3, w2, q2, sv, q1])) (o1 _ (by rw [hq]; exact (pL_lt hL2).1)) (o1 _ (by rw [hq]; exact (pL_lt hL2).2)) (fun a9 h1 h2 => ⟨o1 a9 (by rw [hq]; exact h2), PZ_c h1 (by omega)⟩)
            have hL4 := pL_mv hL4 (P' := PZ PE s.heap.size (q10 :: [v9, q9, w8, q8, w7, q7, w6, q6, w5, q5, w4, q4, q3, w2, q2, sv, q1])) (o1 _ (by rw [hq]; exact (pL_lt hL4).1)) (o1 _ (by rw [hq]; exact (pL_lt hL4).2)) (fun a9 h1 h2 => ⟨o1 a9 (by rw [hq]; exact h2), PZ_c h1 (by omega)⟩)
            have hL5 := pL_mv hL5 (P' := PZ PE s.heap.size (q10 :: [v9, q9, w8, q8, w7, q7, w6, q6, w5, q5, w4, q4, q3, w2, q2, sv, q1])) (o1 _ (by rw [hq]; exact (pL_lt hL5).1)) (o1 _ (by rw [hq]; exact (pL_lt hL5).2)) (fun a9 h1 h2 => ⟨o1 a9 (by rw [hq]; exact h2), PZ_c h1 (by omega)⟩)
            have hL6 := pL_mv hL6 (P' := PZ PE s.heap.size (q10 :: [v9, q9, w8, q8, w7, q7, w6, q6, w5, q5, w4, q4, q3, w2, q2, sv, q1])) (o1 _ (by rw [hq]; exact (pL_lt hL6).1)) (o1 _ (by rw [hq]; exact (pL_lt hL6).2)) (fun a9 h1 h2 => ⟨o1 a9 (by rw [hq]; exact h2), PZ_c h1 (by omega)⟩)
            have hL7 := pL_mv hL7 (P' := PZ PE s.heap.size (q10 :: [v9, q9, w8, q8, w7, q7, w6, q6, w5, q5, w4, q4, q3, w2, q2, sv, q1])) (o1 _ (by rw [hq]; exact (pL_lt hL7).1)) (o1 _ (by rw [hq]; exact (pL_lt hL7).2)) (fun a9 h1 h2 => ⟨o1 a9 (by rw [hq]; exact h2), PZ_c h1 (by omega)⟩)
            have hL8 := pL_mv hL8 (P' := PZ PE s.heap.size (q10 :: [v9, q9, w8, q8, w7, q7, w6, q6, w5, q5, w4, q4, q3, w2, q2, sv, q1])) (o1 _ (by rw [hq]; exact (pL_lt hL8).1)) (o1 _ (by rw [hq]; exact (pL_lt hL8).2)) (fun a9 h1 h2 => ⟨o1 a9 (by rw [hq]; exact h2), PZ_c h1 (by omega)⟩)
            have hU9 := isU_kept hU9 (o1 _ (by rw [hq]; exact ob_lt hU9.1)) (o1 _ (by rw [hq]; exact ar_lt hU9.2.1))
            have ge_q10 : s.heap.size ≤ q10 := by rw [hq]; exact hS0.1
            have lq_q10 : q10 < H.size := by rw [hz]; exact Nat.lt_succ_self _
            have sz_q10 : H.size = q10 + 1 := hz
            refine lv_dup hx hb d_X_init_86 rfl ?_
            refine aW (N := (fun a9 => a9 = q10)) (rI (As := []) (rest := [.ref q10, .ref a]) C0 (c_U_init l g _ q10 f_q10) (zK_S hZ hS (fun q h => by rw [h]; exact ha9)) k_X_init_87 rfl rfl ⟨Nat.le_of_ble_eq_true rfl, Nat.le_of_ble_eq_true rfl⟩ rfl hl.1 rfl (Nat.le_of_ble_eq_true rfl) d_X_init_87 ⟨by show 0 + 1 + 1 + 1 + 31 + 1 + 1 + 31 + 1 + 31 + 1 + 31 + 1 + 31 + 1 + 31 + 1 + 1 + 1 + 1 ≤ 199; omega, by show 0 + 4 + 16 + 3 + 1020 + 4 + 3 + 1020 + 3 + 1020 + 3 + 1020 + 3 + 1020 + 3 + 1020 + 3 + 16 + 3 + 16 ≤ 6200; omega⟩) (fun v H L hC1 hp hL => ?_)
            have hS0 := hS
            have hS := hS_call hS hC1 hL (fun a9 h => by rw [h]; exact Or.inr ge_q10)
            have f9 := ob_kept f9 (hC_at hC1 (ob_lt f9) (fun z => absurd z (by omega)))
            have hE := pS_mv hE (fun a9 h1 h2 => ⟨hC_at hC1 h2 (fun z => absurd z (by have := (hPEx a9 h1).1; omega)), h1⟩)
            have hSB := sB_kept hSB (hC_at hC1 (sB_b hSB).1 (fun z => absurd z (by omega))) (hC_at hC1 (sB_b hSB).2 (fun z => absurd z (by omega)))
            have f_q3 := ar_kept f_q3 (hC_at hC1 (ar_lt f_q3) (fun z => absurd z (by omega)))
            have hU9 := isU_kept hU9 (hC_at hC1 (ob_lt hU9.1) (fun z => absurd z (by omega))) (hC_at hC1 (ar_lt hU9.2.1) (fun z => absurd z (by omega)))
            obtain ⟨rfl, v10, hv10, hU10⟩ := hp
            have hcs10 := hC1.1
            have hv10l := ar_lt hU10.2.1
            have hL2 := pL_mv (P' := PZ PE s.heap.size (v10 :: [q10, v9, q9, w8, q8, w7, q7, w6, q6, w5, q5, w4, q4, q3, w2, q2, sv, q1])) hL2 (hC_at hC1 (pL_lt hL2).1 (fun z => absurd z (by omega))) (hC_at hC1 (pL_lt hL2).2 (fun z => absurd z (by omega))) (fun a9 h1 h2 => ⟨hC_at hC1 h2 (fun z => h1.2 _ (List.mem_of_getElem? (i := 0) rfl) z), PZ_c h1 (by omega)⟩)
            have hL4 := pL_mv (P' := PZ PE s.heap.size (v10 :: [q10, v9, q9, w8, q8, w7, q7, w6, q6, w5, q5, w4, q4, q3, w2, q2, sv, q1])) hL4 (hC_at hC1 (pL_lt hL4).1 (fun z => absurd z (by omega))) (hC_at hC1 (pL_lt hL4).2 (fun z => absurd z (by omega))) (fun a9 h1 h2 => ⟨hC_at hC1 h2 (fun z => h1.2 _ (List.mem_of_getElem? (i := 0) rfl) z), PZ_c h1 (by omega)⟩)
            have hL5 := pL_mv (P' := PZ PE s.heap.size (v10 :: [q10, v9, q9, w8, q8, w7, q7, w6, q6, w5, q5, w4, q4, q3, w2, q2, sv, q1])) hL5 (hC_at hC1 (pL_lt hL5).1 (fun z => absurd z (by omega))) (hC_at hC1 (pL_lt hL5).2 (fun z => absurd z (by omega))) (fun a9 h1 h2 => ⟨hC_at hC1 h2 (fun z => h1.2 _ (List.mem_of_getElem? (i := 0) rfl) z), PZ_c h1 (by omega)⟩)
            have hL6 := pL_mv (P' := PZ PE s.heap.size (v10 :: [q10, v9, q9, w8, q8, w7, q7, w6, q6, w5, q5, w4, q4, q3, w2, q2, sv, q1])) hL6 (hC_at hC1 (pL_lt hL6).1 (fun z => absurd z (by omega))) (hC_at hC1 (pL_lt hL6).2 (fun z => absurd z (by omega))) (fun a9 h1 h2 => ⟨hC_at hC1 h2 (fun z => h1.2 _ (List.mem_of_getElem? (i := 0) rfl) z), PZ_c h1 (by omega)⟩)
            have hL7 := pL_mv (P' := PZ PE s.heap.size (v10 :: [q10, v9, q9, w8, q8, w7, q7, w6, q6, w5, q5, w4, q4, q3, w2, q2, sv, q1])) hL7 (hC_at hC1 (pL_lt hL7).1 (fun z => absurd z (by omega))) (hC_at hC1 (pL_lt hL7).2 (fun z => absurd z (by omega))) (fun a9 h1 h2 => ⟨hC_at hC1 h2 (fun z => h1.2 _ (List.mem_of_getElem? (i := 0) rfl) z), PZ_c h1 (by omega)⟩)
            have hL8 := pL_mv (P' := PZ PE s.heap.size (v10 :: [q10, v9, q9, w8, q8, w7, q7, w6, q6, w5, q5, w4, q4, q3, w2, q2, sv, q1])) hL8 (hC_at hC1 (pL_lt hL8).1 (fun z => absurd z (by omega))) (hC_at hC1 (pL_lt hL8).2 (fun z => absurd z (by omega))) (fun a9 h1 h2 => ⟨hC_at hC1 h2 (fun z => h1.2 _ (List.mem_of_getElem? (i := 0) rfl) z), PZ_c h1 (by omega)⟩)
            refine W.eq (g2 := F0 m 90 ls [.ref q10, .ref a]) rfl ?_
            refine s_putF (ci := 0) (C := R_X) (T := F_X) (N := 6) hx hb hts i_X t_X t_X_ok n_X hown hK hS (Or.inl rfl) f9 rfl 5 (by decide) (hts _ (in_3 (List.mem_of_getElem? (i := 14) rfl) rfl)) (fun _ h9 => h9) rfl hnm rfl (v := .ref q10) rfl rfl rfl (Nat.le_of_ble_eq_true rfl) (fs2 := [.ref q1, .ref q2, .ref q3, .ref q8, .ref q9, .ref q10]) rfl d_X_init_90 (fun H locs f9 hz oq hS => ?_)
            have hE := pS_mv hE (fun a9 h1 h2 => ⟨oq a9 ((hPEx a9 h1).2), h1⟩)
            have hSB := sB_kept hSB (oq _ (by omega)) (oq _ (by omega))
            have f_q3 := ar_kept f_q3 (oq _ (Ne.symm (Nat.ne_of_lt lt_a_q3)))
            have hU9 := isU_kept hU9 (oq _ (by omega)) (oq _ (by omega))
            have hL2 := pL_mv hL2 (oq _ (by omega)) (oq _ (by omega)) (fun a9 h1 h2 => ⟨oq a9 (PZ_x hPEx hax h1), h1⟩)
            have hL4 := pL_mv hL4 (oq _ (by omega)) (oq _ (by omega)) (fun a9 h1 h2 => ⟨oq a9 (PZ_x hPEx hax h1), h1⟩)
            have hL5 := pL_mv hL5 (oq _ (by omega)) (oq _ (by omega)) (fun a9 h1 h2 => ⟨oq a9 (PZ_x hPEx hax h1), h1⟩)
            have hL6 := pL_mv hL6 (oq _ (by omega)) (oq _ (by omega)) (fun a9 h1 h2 => ⟨oq a9 (PZ_x hPEx hax h1), h1⟩)
            have hL7 := pL_mv hL7 (oq _ (by omega)) (oq _ (by omega)) (fun a9 h1 h2 => ⟨oq a9 (PZ_x hPEx hax h1), h1⟩)
            have hL8 := pL_mv hL8 (oq _ (by omega)) (oq _ (by omega)) (fun a9 h1 h2 => ⟨oq a9 (PZ_x hPEx hax h1), h1⟩)
            have hU10 := isU_kept hU10 (oq _ (by omega)) (oq _ (by omega))
            obtain ⟨ad, had⟩ : ∃ ad, ad = adF q1 sv q2 w2 (f4 q4 q5 q6 q7) (f4 w4 w5 w6 w7) q9 v9 q10 v10 := ⟨_, rfl⟩
            have ad0 : ad 0 = q1 := by rw [had]; rfl
            have ad1 : ad 1 = sv := by rw [had]; rfl
            have ad2 : ad 2 = q2 := by rw [had]; rfl
            have ad3 : ad 3 = w2 := by rw [had]; rfl
            have ad4 : ad 4 = q4 := by rw [had]; rfl
            have ad5 : ad 5 = q5 := by rw [had]; rfl
            have ad6 : ad 6 = q6 := by rw [had]; rfl
            have ad7 : ad 7 = q7 := by rw [had]; rfl
            have ad8 : ad 8 = w4 := by rw [had]; rfl
            have ad9 : ad 9 = w5 := by rw [had]; rfl
            have ad10 : ad 10 = w6 := by rw [had]; rfl
            have ad11 : ad 11 = w7 := by rw [had]; rfl
            have ad12 : ad 12 = q9 := by rw [had]; rfl
            have ad13 : ad 13 = v9 := by rw [had]; rfl
            have ad14 : ad 14 = q10 := by rw [had]; rfl
            have ad15 : ad 15 = v10 := by rw [had]; rfl
            have hcs16 : ∀ j, j < 16 → j = 0 ∨ j = 1 ∨ j = 2 ∨ j = 3 ∨ j = 4 ∨ j = 5 ∨ j = 6 ∨ j = 7 ∨ j = 8 ∨ j = 9 ∨ j = 10 ∨ j = 11 ∨ j = 12 ∨ j = 13 ∨ j = 14 ∨ j = 15 := by intro j hj; omega
            have hge : ∀ j, j < 16 → s.heap.size ≤ ad j ∧ ad j ≠ q3 ∧ ad j ≠ q8 ∧ ad j ≠ w8 := by intro j hj; rcases hcs16 j hj with z | z | z | z | z | z | z | z | z | z | z | z | z | z | z | z <;> subst z <;> omega
            have hinj : ∀ i j, i < 16 → j < 16 → i < j → ad i ≠ ad j := by intro i j hi hj hij; rcases hcs16 j hj with z | z | z | z | z | z | z | z | z | z | z | z | z | z | z | z <;> subst z <;> rcases hcs16 i hi with y | y | y | y | y | y | y | y | y | y | y | y | y | y | y | y <;> subst y <;> omega
            have hPX : ∀ a9, PZ PE s.heap.size [v10, q10, v9, q9, w8, q8, w7, q7, w6, q6, w5, q5, w4, q4, q3, w2, q2, sv, q1] a9 → PX Z ad a9 := by
              intro a9 h
              refine ⟨fun j hj => ?_, h.1.elim (hZE a9) (hZb a9)⟩
              rcases hcs16 j hj with z | z | z | z | z | z | z | z | z | z | z | z | z | z | z | z
              · subst z; rw [ad0]; exact h.2 _ (List.mem_of_getElem? (i := 18) rfl)
              · subst z; rw [ad1]; exact h.2 _ (List.mem_of_getElem? (i := 17) rfl)
              · subst z; rw [ad2]; exact h.2 _ (List.mem_of_getElem? (i := 16) rfl)
              · subst z; rw [ad3]; exact h.2 _ (List.mem_of_getElem? (i := 15) rfl)
              · subst z; rw [ad4]; exact h.2 _ (List.mem_of_getElem? (i := 13) rfl)
              · subst z; rw [ad5]; exact h.2 _ (List.mem_of_getElem? (i := 11) rfl)
              · subst z; rw [ad6]; exact h.2 _ (List.mem_of_getElem? (i := 9) rfl)
              · subst z; rw [ad7]; exact h.2 _ (List.mem_of_getElem? (i := 7) rfl)
              · subst z; rw [ad8]; exact h.2 _ (List.mem_of_getElem? (i := 12) rfl)
              · subst z; rw [ad9]; exact h.2 _ (List.mem_of_getElem? (i := 10) rfl)
              · subst z; rw [ad10]; exact h.2 _ (List.mem_of_getElem? (i := 8) rfl)
              · subst z; rw [ad11]; exact h.2 _ (List.mem_of_getElem? (i := 6) rfl)
              · subst z; rw [ad12]; exact h.2 _ (List.mem_of_getElem? (i := 3) rfl)
              · subst z; rw [ad13]; exact h.2 _ (List.mem_of_getElem? (i := 2) rfl)
              · subst z; rw [ad14]; exact h.2 _ (List.mem_of_getElem? (i := 1) rfl)
              · subst z; rw [ad15]; exact h.2 _ (List.mem_of_getElem? (i := 0) rfl)
            have hM2 := pL_mv (P' := PX Z ad) hL2 rfl rfl (fun a9 h1 _ => ⟨rfl, hPX a9 h1⟩)
            have hM4 := pL_mv (P' := PX Z ad) hL4 rfl rfl (fun a9 h1 _ => ⟨rfl, hPX a9 h1⟩)
            have hM5 := pL_mv (P' := PX Z ad) hL5 rfl rfl (fun a9 h1 _ => ⟨rfl, hPX a9 h1⟩)
            have hM6 := pL_mv (P' := PX Z ad) hL6 rfl rfl (fun a9 h1 _ => ⟨rfl, hPX a9 h1⟩)
            have hM7 := pL_mv (P' := PX Z ad) hL7 rfl rfl (fun a9 h1 _ => ⟨rfl, hPX a9 h1⟩)
            have hM8 := pL_mv (P' := PX Z ad) hL8 rfl rfl (fun a9 h1 _ => ⟨rfl, hPX a9 h1⟩)
            have hcx : cX Z g H a ad q3 q8 w8 [] (fun _ => []) [] (fun _ => 0) 0 0 (fun _ => 0) 0 0 := by
              refine ⟨⟨by rw [ad0, ad2, ad12, ad14]; exact f9, ⟨_, f_q3, fun j hj => ?_⟩, hM8, ⟨⟨fun j hj => by have := hge j hj; omega, hZa⟩, ⟨fun j hj => by have := hge j hj; omega, hZb _ (by omega)⟩, ⟨fun j hj => by have := hge j hj; omega, hZb _ (by omega)⟩, ⟨fun j hj => by have := hge j hj; omega, hZb _ (by omega)⟩⟩, fun i j hi hj e9 => ?_, fun j hj => ⟨by have := hge j hj; omega, hZb _ (hge j hj).1⟩⟩, by rw [ad2, ad3]; exact hM2, fun j hj => ?_, by rw [ad12, ad13]; exact hU9, by rw [ad14, ad15]; exact hU10, by rw [ad0, ad1]; exact hSB, Nat.zero_le _, nil_c⟩
              · have e9 : j = 0 ∨ j = 1 ∨ j = 2 ∨ j = 3 := by omega
                rcases e9 with z | z | z | z
                · subst z; show va_up _ _ _ _ = some (ad 4); rw [ad4]; rfl
                · subst z; show va_up _ _ _ _ = some (ad 5); rw [ad5]; rfl
                · subst z; show va_up _ _ _ _ = some (ad 6); rw [ad6]; rfl
                · subst z; show va_up _ _ _ _ = some (ad 7); rw [ad7]; rfl
              · rcases Nat.lt_trichotomy i j with z | z | z
                · exact absurd e9 (hinj i j hi hj z)
                · exact z
                · exact absurd e9.symm (hinj j i hj hi z)
              · have e9 : j = 0 ∨ j = 1 ∨ j = 2 ∨ j = 3 := by omega
                rcases e9 with z | z | z | z
                · subst z; show pL _ _ _ (ad 4) (ad 8) _; rw [ad4, ad8]; exact hM4
                · subst z; show pL _ _ _ (ad 5) (ad 9) _; rw [ad5, ad9]; exact hM5
                · subst z; show pL _ _ _ (ad 6) (ad 10) _; rw [ad6, ad10]; exact hM6
                · subst z; show pL _ _ _ (ad 7) (ad 11) _; rw [ad7, ad11]; exact hM7
            refine W.widen (k := 199) (n := 6200) (by omega) (by omega) ?_
            exact W.vret hx hb hr (fun t9 ht hW => ⟨_, rfl, by rw [ht]; exact hS_hC hS, by rw [ht]; exact ⟨rfl, ad, q3, q8, w8, hcx, fun j hj => (hge j hj).1, by omega, by omega, by omega⟩⟩) hS.2.2 d_X_init_93 hlk
          · skip
            first | exact absurd c38 (by decide) | exact absurd (by decide) c38
