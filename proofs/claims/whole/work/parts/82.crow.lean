theorem digS_n {r : Rw} (h : ¬ rk r = -1) : digS r = if rk r = 3 then mixT (mixS (mixT (mixS (mixS 0 (rk r).toInt64) (rp r).toInt64) (rn r)) 256) (ra r) else mixS (mixS (mixS (mixT (mixS (mixS 0 (rk r).toInt64) (rp r).toInt64) (rn r)) 256) (r2 r).toInt64) (r3 r).toInt64 := by
  rw [digS, if_neg h, hS]
theorem k_R_init_46 : kS "RegistryLog$Row" 34 y_T_mix b_T_mix 6 (some .long) 2 := ⟨(in_2 (List.mem_of_getElem? (i := 171) rfl) rfl), (in_2 (List.mem_of_getElem? (i := 172) rfl) rfl), (in_1 (List.mem_of_getElem? (i := 20) rfl) rfl), (in_2 (List.mem_of_getElem? (i := 173) rfl) rfl), ⟨by decide, by decide, by decide +kernel⟩⟩
theorem k_R_init_51 : kS "RegistryLog$Row" 34 y_T_mix b_T_mix 6 (some .long) 2 := ⟨(in_2 (List.mem_of_getElem? (i := 171) rfl) rfl), (in_2 (List.mem_of_getElem? (i := 172) rfl) rfl), (in_1 (List.mem_of_getElem? (i := 20) rfl) rfl), (in_2 (List.mem_of_getElem? (i := 173) rfl) rfl), ⟨by decide, by decide, by decide +kernel⟩⟩
theorem k_R_init_62 : kS "RegistryLog$Row" 46 y_T_mixText b_T_mixText 6 (some .long) 2 := ⟨(in_2 (List.mem_of_getElem? (i := 175) rfl) rfl), (in_2 (List.mem_of_getElem? (i := 176) rfl) rfl), (in_1 (List.mem_of_getElem? (i := 20) rfl) rfl), (in_2 (List.mem_of_getElem? (i := 177) rfl) rfl), ⟨by decide, by decide, by decide +kernel⟩⟩
theorem k_R_init_68 : kS "RegistryLog$Row" 34 y_T_mix b_T_mix 6 (some .long) 2 := ⟨(in_2 (List.mem_of_getElem? (i := 171) rfl) rfl), (in_2 (List.mem_of_getElem? (i := 172) rfl) rfl), (in_1 (List.mem_of_getElem? (i := 20) rfl) rfl), (in_2 (List.mem_of_getElem? (i := 173) rfl) rfl), ⟨by decide, by decide, by decide +kernel⟩⟩
theorem k_R_init_85 : kS "RegistryLog$Row" 46 y_T_mixText b_T_mixText 6 (some .long) 2 := ⟨(in_2 (List.mem_of_getElem? (i := 175) rfl) rfl), (in_2 (List.mem_of_getElem? (i := 176) rfl) rfl), (in_1 (List.mem_of_getElem? (i := 20) rfl) rfl), (in_2 (List.mem_of_getElem? (i := 177) rfl) rfl), ⟨by decide, by decide, by decide +kernel⟩⟩
theorem k_R_init_98 : kS "RegistryLog$Row" 34 y_T_mix b_T_mix 6 (some .long) 2 := ⟨(in_2 (List.mem_of_getElem? (i := 171) rfl) rfl), (in_2 (List.mem_of_getElem? (i := 172) rfl) rfl), (in_1 (List.mem_of_getElem? (i := 20) rfl) rfl), (in_2 (List.mem_of_getElem? (i := 173) rfl) rfl), ⟨by decide, by decide, by decide +kernel⟩⟩
theorem k_R_init_104 : kS "RegistryLog$Row" 34 y_T_mix b_T_mix 6 (some .long) 2 := ⟨(in_2 (List.mem_of_getElem? (i := 171) rfl) rfl), (in_2 (List.mem_of_getElem? (i := 172) rfl) rfl), (in_1 (List.mem_of_getElem? (i := 20) rfl) rfl), (in_2 (List.mem_of_getElem? (i := 173) rfl) rfl), ⟨by decide, by decide, by decide +kernel⟩⟩
set_option maxHeartbeats 4000000 in
set_option maxRecDepth 100000 in
/-- Row.<init> -/
theorem c_R_init (l : Launch) (g : gG) (H : Heap) (a na nb : Nat) (k0 p0 s2 t3 o0 : Int32) (t u : List Nat) (f9 : ob g H a 4 [.int 0, .int 0, .null, .null, .int 0, .int 0, .int 0, .long 0]) (ha9 : g.2.2.1 ≤ a) (hn : pN (fun q => q ≠ a) g H na t) (hn2 : pN (fun q => q ≠ a) g H nb u) : Met l y_R_init (wC y_R_init b_R_init 10 none) (rmk 5 0 0 110) (pC g H [.ref a, .int k0, .int p0, .ref na, .ref nb, .int s2, .int t3, .int o0]) (qW H (fun q => q = a) (fun r H1 => r = none ∧ ob g H1 a 4 [.int k0, .int p0, .ref na, .ref nb, .int s2, .int t3, .int o0, .long (digS (k0, p0, t, u, s2, t3, o0))])) 0 0 (fW H (fun q => q = a)) := by
  refine mB (by decide) (Nat.le_of_ble_eq_true rfl) ?_
  intro p e s m below meth c ls C0 hH hZ hnm hl
  have C0 : cF g p s m _ meth c b_R_init 10 "RegistryLog$Row" none := C0
  obtain ⟨hx, hb, hml, hown, hts, hr, hlk, hK⟩ := id C0
  subst hH
  have hl : lv_has ls 10 [(0, .ref a), (1, .int k0), (2, .int p0), (3, .ref na), (4, .ref nb), (5, .int s2), (6, .int t3), (7, .int o0)] := hl
  have hS : va_S (fW s.heap (fun q => q = a)) s.heap s.heap [] := hS_rf
  refine lv_aload_n hx hb d_R_init_0 rfl (lv_at hl 0 rfl) ?_
  refine W.objInit hx hb hown (hts (.methodLink "RegistryLog$Row" 3 Lib.objectInit) (in_2 (List.mem_of_getElem? (i := 170) rfl) rfl)) (hts (.instanceMethod Lib.objectInit) (in_1 (List.mem_of_getElem? (i := 32) rfl) rfl)) (hts (.code Lib.objectInit ⟨#[0xb1]⟩ 1 none) (in_1 (List.mem_of_getElem? (i := 33) rfl) rfl)) rfl (by rw [hml]; exact hl.1) rfl d_R_init_1 (Nat.le_of_ble_eq_true rfl) (Nat.le_of_ble_eq_true rfl) ?_
  refine W.eq (g2 := F0 m 4 ls []) rfl ?_
  refine lv_aload_n hx hb d_R_init_4 rfl (lv_at hl 0 rfl) ?_
  refine lv_iload_n hx hb d_R_init_5 rfl (lv_at hl 1 rfl) ?_
  refine s_putF (ci := 4) (C := R_R) (T := F_R) (N := 8) hx hb hts i_R t_R t_R_ok n_R hown hK hS (Or.inl rfl) f9 rfl 0 (by decide) (hts _ (in_2 (List.mem_of_getElem? (i := 182) rfl) rfl)) (fun _ h9 => h9) rfl hnm rfl (v := .int k0) rfl rfl rfl (Nat.le_of_ble_eq_true rfl) (fs2 := [.int k0, .int 0, .null, .null, .int 0, .int 0, .int 0, .long 0]) rfl d_R_init_6 (fun H locs f9 hz oq hS => ?_)
  have hn := pN_mv hn (fun q h1 _ => ⟨oq q h1, h1⟩)
  have hn2 := pN_mv hn2 (fun q h1 _ => ⟨oq q h1, h1⟩)
  refine lv_aload_n hx hb d_R_init_9 rfl (lv_at hl 0 rfl) ?_
  refine lv_iload_n hx hb d_R_init_10 rfl (lv_at hl 2 rfl) ?_
  refine s_putF (ci := 4) (C := R_R) (T := F_R) (N := 8) hx hb hts i_R t_R t_R_ok n_R hown hK hS (Or.inl rfl) f9 rfl 1 (by decide) (hts _ (in_2 (List.mem_of_getElem? (i := 185) rfl) rfl)) (fun _ h9 => h9) rfl hnm rfl (v := .int p0) rfl rfl rfl (Nat.le_of_ble_eq_true rfl) (fs2 := [.int k0, .int p0, .null, .null, .int 0, .int 0, .int 0, .long 0]) rfl d_R_init_11 (fun H locs f9 hz oq hS => ?_)
  have hn := pN_mv hn (fun q h1 _ => ⟨oq q h1, h1⟩)
  have hn2 := pN_mv hn2 (fun q h1 _ => ⟨oq q h1, h1⟩)
  refine lv_aload_n hx hb d_R_init_14 rfl (lv_at hl 0 rfl) ?_
  refine lv_aload_n hx hb d_R_init_15 rfl (lv_at hl 3 rfl) ?_
  refine s_putF (ci := 4) (C := R_R) (T := F_R) (N := 8) hx hb hts i_R t_R t_R_ok n_R hown hK hS (Or.inl rfl) f9 rfl 2 (by decide) (hts _ (in_2 (List.mem_of_getElem? (i := 188) rfl) rfl)) (fun _ h9 => h9) rfl hnm rfl (v := .ref na) rfl rfl rfl (Nat.le_of_ble_eq_true rfl) (fs2 := [.int k0, .int p0, .ref na, .null, .int 0, .int 0, .int 0, .long 0]) rfl d_R_init_16 (fun H locs f9 hz oq hS => ?_)
  have hn := pN_mv hn (fun q h1 _ => ⟨oq q h1, h1⟩)
  have hn2 := pN_mv hn2 (fun q h1 _ => ⟨oq q h1, h1⟩)
  refine lv_aload_n hx hb d_R_init_19 rfl (lv_at hl 0 rfl) ?_
  refine lv_aload hx hb d_R_init_20 (lv_at hl 4 rfl) ?_
  refine s_putF (ci := 4) (C := R_R) (T := F_R) (N := 8) hx hb hts i_R t_R t_R_ok n_R hown hK hS (Or.inl rfl) f9 rfl 3 (by decide) (hts _ (in_2 (List.mem_of_getElem? (i := 190) rfl) rfl)) (fun _ h9 => h9) rfl hnm rfl (v := .ref nb) rfl rfl rfl (Nat.le_of_ble_eq_true rfl) (fs2 := [.int k0, .int p0, .ref na, .ref nb, .int 0, .int 0, .int 0, .long 0]) rfl d_R_init_22 (fun H locs f9 hz oq hS => ?_)
  have hn := pN_mv hn (fun q h1 _ => ⟨oq q h1, h1⟩)
  have hn2 := pN_mv hn2 (fun q h1 _ => ⟨oq q h1, h1⟩)
  refine lv_aload_n hx hb d_R_init_25 rfl (lv_at hl 0 rfl) ?_
  refine lv_iload hx hb d_R_init_26 (lv_at hl 5 rfl) ?_
  refine s_putF (ci := 4) (C := R_R) (T := F_R) (N := 8) hx hb hts i_R t_R t_R_ok n_R hown hK hS (Or.inl rfl) f9 rfl 4 (by decide) (hts _ (in_2 (List.mem_of_getElem? (i := 192) rfl) rfl)) (fun _ h9 => h9) rfl hnm rfl (v := .int s2) rfl rfl rfl (Nat.le_of_ble_eq_true rfl) (fs2 := [.int k0, .int p0, .ref na, .ref nb, .int s2, .int 0, .int 0, .long 0]) rfl d_R_init_28 (fun H locs f9 hz oq hS => ?_)
  have hn := pN_mv hn (fun q h1 _ => ⟨oq q h1, h1⟩)
  have hn2 := pN_mv hn2 (fun q h1 _ => ⟨oq q h1, h1⟩)
  refine lv_aload_n hx hb d_R_init_31 rfl (lv_at hl 0 rfl) ?_
  refine lv_iload hx hb d_R_init_32 (lv_at hl 6 rfl) ?_
  refine s_putF (ci := 4) (C := R_R) (T := F_R) (N := 8) hx hb hts i_R t_R t_R_ok n_R hown hK hS (Or.inl rfl) f9 rfl 5 (by decide) (hts _ (in_2 (List.mem_of_getElem? (i := 195) rfl) rfl)) (fun _ h9 => h9) rfl hnm rfl (v := .int t3) rfl rfl rfl (Nat.le_of_ble_eq_true rfl) (fs2 := [.int k0, .int p0, .ref na, .ref nb, .int s2, .int t3, .int 0, .long 0]) rfl d_R_init_34 (fun H locs f9 hz oq hS => ?_)
  have hn := pN_mv hn (fun q h1 _ => ⟨oq q h1, h1⟩)
  have hn2 := pN_mv hn2 (fun q h1 _ => ⟨oq q h1, h1⟩)
  refine lv_aload_n hx hb d_R_init_37 rfl (lv_at hl 0 rfl) ?_
  refine lv_iload hx hb d_R_init_38 (lv_at hl 7 rfl) ?_
  refine s_putF (ci := 4) (C := R_R) (T := F_R) (N := 8) hx hb hts i_R t_R t_R_ok n_R hown hK hS (Or.inl rfl) f9 rfl 6 (by decide) (hts _ (in_2 (List.mem_of_getElem? (i := 198) rfl) rfl)) (fun _ h9 => h9) rfl hnm rfl (v := .int o0) rfl rfl rfl (Nat.le_of_ble_eq_true rfl) (fs2 := [.int k0, .int p0, .ref na, .ref nb, .int s2, .int t3, .int o0, .long 0]) rfl d_R_init_40 (fun H locs f9 hz oq hS => ?_)
  have hn := pN_mv hn (fun q h1 _ => ⟨oq q h1, h1⟩)
  have hn2 := pN_mv hn2 (fun q h1 _ => ⟨oq q h1, h1⟩)
  refine lv_lconst (v := 0) hx hb d_R_init_43 (by decide) ?_
  refine lv_iload_n hx hb d_R_init_44 rfl (lv_at hl 1 rfl) ?_
  refine lv_i2l hx hb d_R_init_45 rfl ?_
  refine aP (rS (As := [.long 0, .long k0.toInt64]) (rest := []) C0 (c_T_mix l g _ 0 k0.toInt64) (zK_S hZ hS (fun q h => by subst h; exact ha9)) k_R_init_46 rfl rfl ⟨Nat.le_of_ble_eq_true rfl, Nat.le_of_ble_eq_true rfl⟩ rfl hl.1 rfl (Nat.le_of_ble_eq_true rfl) d_R_init_46 ⟨by show 0 + 0 ≤ 0; omega, by show 0 + 0 ≤ 0; omega⟩) ?_
  intro v hv; subst hv
  refine W.eq (g2 := F0 m 49 ls [.long (mixS 0 k0.toInt64)]) rfl ?_
  refine lv_iload_n hx hb d_R_init_49 rfl (lv_at hl 2 rfl) ?_
  refine lv_i2l hx hb d_R_init_50 rfl ?_
  refine aP (rS (As := [.long (mixS 0 k0.toInt64), .long p0.toInt64]) (rest := []) C0 (c_T_mix l g _ (mixS 0 k0.toInt64) p0.toInt64) (zK_S hZ hS (fun q h => by subst h; exact ha9)) k_R_init_51 rfl rfl ⟨Nat.le_of_ble_eq_true rfl, Nat.le_of_ble_eq_true rfl⟩ rfl hl.1 rfl (Nat.le_of_ble_eq_true rfl) d_R_init_51 ⟨by show 0 + 0 ≤ 0; omega, by show 0 + 0 ≤ 0; omega⟩) ?_
  intro v hv; subst hv
  refine W.eq (g2 := F0 m 54 ls [.long (mixS (mixS 0 k0.toInt64) p0.toInt64)]) rfl ?_
  refine lv_topl (fun x_1 ex_1 => ?_)
  refine lv_lstore (lv' := [(8, .long x_1), (0, .ref a), (1, .int k0), (2, .int p0), (3, .ref na), (4, .ref nb), (5, .int s2), (6, .int t3), (7, .int o0)]) hx hb d_R_init_54 hl (by decide) rfl (fun ls hl => ?_)
  refine lv_lload hx hb d_R_init_56 (lv_at hl 0 rfl) ?_
  refine lv_aload_n hx hb d_R_init_58 rfl (lv_at hl 4 rfl) ?_
  obtain ⟨sa, sa_f, _, sa_o, sa_p, _⟩ := id hn
  refine va_get (D := g.1) (ci := 2) (C := R_N) (T := F_N) (N := 2) hx hb hts i_N hown hK.1 sa_o 0 rfl rfl 0 (by decide) (hts (.fieldLink "RegistryLog$Row" 40 "RegistryLog$Name" "typed" "Ljava/lang/String;") (in_2 (List.mem_of_getElem? (i := 158) rfl) rfl)) (fun _ h9 => h9) rfl d_R_init_59 ?_
  refine aP (rS (As := [.long x_1, .ref sa]) (rest := []) C0 (c_T_mixText l g _ sa t x_1 (pS_isS sa_p)) (zK_S hZ hS (fun q h => by subst h; exact ha9)) k_R_init_62 rfl rfl ⟨Nat.le_of_ble_eq_true rfl, Nat.le_of_ble_eq_true rfl⟩ rfl hl.1 rfl (Nat.le_of_ble_eq_true rfl) d_R_init_62 ⟨by show 0 + 0 ≤ 0; omega, by show 0 + 0 ≤ 0; omega⟩) ?_
  intro v hv; subst hv
  refine W.eq (g2 := F0 m 65 ls [.long (mixT x_1 t)]) rfl ?_
  refine lv_ldc2 (v := 256) hx hb hown (hts (.constantLong "RegistryLog$Row" 50 256) (in_2 (List.mem_of_getElem? (i := 181) rfl) rfl)) d_R_init_65 ?_
  refine aP (rS (As := [.long (mixT x_1 t), .long 256]) (rest := []) C0 (c_T_mix l g _ (mixT x_1 t) 256) (zK_S hZ hS (fun q h => by subst h; exact ha9)) k_R_init_68 rfl rfl ⟨Nat.le_of_ble_eq_true rfl, Nat.le_of_ble_eq_true rfl⟩ rfl hl.1 rfl (Nat.le_of_ble_eq_true rfl) d_R_init_68 ⟨by show 0 + 0 ≤ 0; omega, by show 0 + 0 ≤ 0; omega⟩) ?_
  intro v hv; subst hv
  refine W.eq (g2 := F0 m 71 ls [.long (mixS (mixT x_1 t) 256)]) rfl ?_
  refine lv_lstore (lv' := [(8, .long (mixS (mixT x_1 t) 256)), (0, .ref a), (1, .int k0), (2, .int p0), (3, .ref na), (4, .ref nb), (5, .int s2), (6, .int t3), (7, .int o0)]) hx hb d_R_init_71 hl (by decide) rfl (fun ls hl => ?_)
  refine lv_iload_n hx hb d_R_init_73 rfl (lv_at hl 2 rfl) ?_
  refine lv_iconst (v := nI 3) hx hb d_R_init_74 (by decide) ?_
  refine lv_icmp_ne (tgt := 93) hx hb d_R_init_75 (by decide) (fun c75 => ?_) (fun c75 => ?_)
  · skip
    refine lv_lload hx hb d_R_init_93 (lv_at hl 0 rfl) ?_
    refine lv_iload hx hb d_R_init_95 (lv_at hl 6 rfl) ?_
    refine lv_i2l hx hb d_R_init_97 rfl ?_
    refine aP (rS (As := [.long (mixS (mixT x_1 t) 256), .long s2.toInt64]) (rest := []) C0 (c_T_mix l g _ (mixS (mixT x_1 t) 256) s2.toInt64) (zK_S hZ hS (fun q h => by subst h; exact ha9)) k_R_init_98 rfl rfl ⟨Nat.le_of_ble_eq_true rfl, Nat.le_of_ble_eq_true rfl⟩ rfl hl.1 rfl (Nat.le_of_ble_eq_true rfl) d_R_init_98 ⟨by show 0 + 0 ≤ 0; omega, by show 0 + 0 ≤ 0; omega⟩) ?_
    intro v hv; subst hv
    refine W.eq (g2 := F0 m 101 ls [.long (mixS (mixS (mixT x_1 t) 256) s2.toInt64)]) rfl ?_
    refine lv_iload hx hb d_R_init_101 (lv_at hl 7 rfl) ?_
    refine lv_i2l hx hb d_R_init_103 rfl ?_
    refine aP (rS (As := [.long (mixS (mixS (mixT x_1 t) 256) s2.toInt64), .long t3.toInt64]) (rest := []) C0 (c_T_mix l g _ (mixS (mixS (mixT x_1 t) 256) s2.toInt64) t3.toInt64) (zK_S hZ hS (fun q h => by subst h; exact ha9)) k_R_init_104 rfl rfl ⟨Nat.le_of_ble_eq_true rfl, Nat.le_of_ble_eq_true rfl⟩ rfl hl.1 rfl (Nat.le_of_ble_eq_true rfl) d_R_init_104 ⟨by show 0 + 0 ≤ 0; omega, by show 0 + 0 ≤ 0; omega⟩) ?_
    intro v hv; subst hv
    refine W.eq (g2 := F0 m 107 ls [.long (mixS (mixS (mixS (mixT x_1 t) 256) s2.toInt64) t3.toInt64)]) rfl ?_
    refine lv_topl (fun x_2 ex_2 => ?_)
    refine lv_lstore (lv' := [(8, .long x_2), (0, .ref a), (1, .int k0), (2, .int p0), (3, .ref na), (4, .ref nb), (5, .int s2), (6, .int t3), (7, .int o0)]) hx hb d_R_init_107 hl (by decide) rfl (fun ls hl => ?_)
    refine lv_aload_n hx hb d_R_init_109 rfl (lv_at hl 1 rfl) ?_
    refine lv_iload_n hx hb d_R_init_110 rfl (lv_at hl 2 rfl) ?_
    refine lv_iconst (v := (-1)) hx hb d_R_init_111 (by decide) ?_
    refine lv_icmp_ne (tgt := 119) hx hb d_R_init_112 (by decide) (fun c112 => ?_) (fun c112 => ?_)
    · skip
      refine lv_lload hx hb d_R_init_119 (lv_at hl 0 rfl) ?_
      refine s_putF (ci := 4) (C := R_R) (T := F_R) (N := 8) hx hb hts i_R t_R t_R_ok n_R hown hK hS (Or.inl rfl) f9 rfl 7 (by decide) (hts _ (in_2 (List.mem_of_getElem? (i := 200) rfl) rfl)) (fun _ h9 => h9) rfl hnm rfl (v := .long x_2) rfl rfl rfl (Nat.le_of_ble_eq_true rfl) (fs2 := [.int k0, .int p0, .ref na, .ref nb, .int s2, .int t3, .int o0, .long x_2]) rfl d_R_init_121 (fun H locs f9 hz oq hS => ?_)
      have hn := pN_mv hn (fun q h1 _ => ⟨oq q h1, h1⟩)
      have hn2 := pN_mv hn2 (fun q h1 _ => ⟨oq q h1, h1⟩)
      have ed : digS (k0, p0, t, u, s2, t3, o0) = x_2 := by
        rw [digS_n (show ¬ k0 = -1 from c112)]
        show (if k0 = 3 then _ else _) = _
        rw [if_neg (show ¬ k0 = 3 from c75)]
        rw [ex_2, ex_1]
      refine W.widen (k := 0) (n := 0) (by omega) (by omega) ?_
      exact W.vret hx hb hr (fun t9 ht hW => ⟨_, rfl, by rw [ht]; exact hS_hC hS, by rw [ht]; exact ⟨rfl, by rw [ed]; exact f9⟩⟩) hS.2.2 d_R_init_124 hlk
    · skip
      refine lv_lconst (v := 0) hx hb d_R_init_115 (by decide) ?_
      refine lv_goto (tgt := 121) hx hb d_R_init_116 (by decide) ?_
      refine s_putF (ci := 4) (C := R_R) (T := F_R) (N := 8) hx hb hts i_R t_R t_R_ok n_R hown hK hS (Or.inl rfl) f9 rfl 7 (by decide) (hts _ (in_2 (List.mem_of_getElem? (i := 200) rfl) rfl)) (fun _ h9 => h9) rfl hnm rfl (v := .long 0) rfl rfl rfl (Nat.le_of_ble_eq_true rfl) (fs2 := [.int k0, .int p0, .ref na, .ref nb, .int s2, .int t3, .int o0, .long 0]) rfl d_R_init_121 (fun H locs f9 hz oq hS => ?_)
      have hn := pN_mv hn (fun q h1 _ => ⟨oq q h1, h1⟩)
      have hn2 := pN_mv hn2 (fun q h1 _ => ⟨oq q h1, h1⟩)
      have ed : digS (k0, p0, t, u, s2, t3, o0) = 0 := by rw [digS, if_pos (show k0 = -1 from c112)]
      refine W.widen (k := 0) (n := 0) (by omega) (by omega) ?_
      exact W.vret hx hb hr (fun t9 ht hW => ⟨_, rfl, by rw [ht]; exact hS_hC hS, by rw [ht]; exact ⟨rfl, by rw [ed]; exact f9⟩⟩) hS.2.2 d_R_init_124 hlk
  · skip
    refine lv_lload hx hb d_R_init_78 (lv_at hl 0 rfl) ?_
    refine lv_aload hx hb d_R_init_80 (lv_at hl 5 rfl) ?_
    obtain ⟨sb, sb_f, _, sb_o, sb_p, _⟩ := id hn2
    refine va_get (D := g.1) (ci := 2) (C := R_N) (T := F_N) (N := 2) hx hb hts i_N hown hK.1 sb_o 0 rfl rfl 0 (by decide) (hts (.fieldLink "RegistryLog$Row" 40 "RegistryLog$Name" "typed" "Ljava/lang/String;") (in_2 (List.mem_of_getElem? (i := 158) rfl) rfl)) (fun _ h9 => h9) rfl d_R_init_82 ?_
    refine aP (rS (As := [.long (mixS (mixT x_1 t) 256), .ref sb]) (rest := []) C0 (c_T_mixText l g _ sb u (mixS (mixT x_1 t) 256) (pS_isS sb_p)) (zK_S hZ hS (fun q h => by subst h; exact ha9)) k_R_init_85 rfl rfl ⟨Nat.le_of_ble_eq_true rfl, Nat.le_of_ble_eq_true rfl⟩ rfl hl.1 rfl (Nat.le_of_ble_eq_true rfl) d_R_init_85 ⟨by show 0 + 0 ≤ 0; omega, by show 0 + 0 ≤ 0; omega⟩) ?_
    intro v hv; subst hv
    refine W.eq (g2 := F0 m 88 ls [.long (mixT (mixS (mixT x_1 t) 256) u)]) rfl ?_
    refine lv_lstore (lv' := [(8, .long (mixT (mixS (mixT x_1 t) 256) u)), (0, .ref a), (1, .int k0), (2, .int p0), (3, .ref na), (4, .ref nb), (5, .int s2), (6, .int t3), (7, .int o0)]) hx hb d_R_init_88 hl (by decide) rfl (fun ls hl => ?_)
    refine lv_goto (tgt := 109) hx hb d_R_init_90 (by decide) ?_
    refine lv_aload_n hx hb d_R_init_109 rfl (lv_at hl 1 rfl) ?_
    refine lv_iload_n hx hb d_R_init_110 rfl (lv_at hl 2 rfl) ?_
    refine lv_iconst (v := (-1)) hx hb d_R_init_111 (by decide) ?_
    refine lv_icmp_ne (tgt := 119) hx hb d_R_init_112 (by decide) (fun c112 => ?_) (fun c112 => ?_)
    · skip
      refine lv_lload hx hb d_R_init_119 (lv_at hl 0 rfl) ?_
      refine s_putF (ci := 4) (C := R_R) (T := F_R) (N := 8) hx hb hts i_R t_R t_R_ok n_R hown hK hS (Or.inl rfl) f9 rfl 7 (by decide) (hts _ (in_2 (List.mem_of_getElem? (i := 200) rfl) rfl)) (fun _ h9 => h9) rfl hnm rfl (v := .long (mixT (mixS (mixT x_1 t) 256) u)) rfl rfl rfl (Nat.le_of_ble_eq_true rfl) (fs2 := [.int k0, .int p0, .ref na, .ref nb, .int s2, .int t3, .int o0, .long (mixT (mixS (mixT x_1 t) 256) u)]) rfl d_R_init_121 (fun H locs f9 hz oq hS => ?_)
      have hn := pN_mv hn (fun q h1 _ => ⟨oq q h1, h1⟩)
      have hn2 := pN_mv hn2 (fun q h1 _ => ⟨oq q h1, h1⟩)
      have ed : digS (k0, p0, t, u, s2, t3, o0) = mixT (mixS (mixT x_1 t) 256) u := by
        rw [digS_n (show ¬ k0 = -1 from c112)]
        show (if k0 = 3 then _ else _) = _
        rw [if_pos (show k0 = 3 from c75)]
        rw [ex_1]
      refine W.widen (k := 0) (n := 0) (by omega) (by omega) ?_
      exact W.vret hx hb hr (fun t9 ht hW => ⟨_, rfl, by rw [ht]; exact hS_hC hS, by rw [ht]; exact ⟨rfl, by rw [ed]; exact f9⟩⟩) hS.2.2 d_R_init_124 hlk
    · skip
      refine lv_lconst (v := 0) hx hb d_R_init_115 (by decide) ?_
      refine lv_goto (tgt := 121) hx hb d_R_init_116 (by decide) ?_
      refine s_putF (ci := 4) (C := R_R) (T := F_R) (N := 8) hx hb hts i_R t_R t_R_ok n_R hown hK hS (Or.inl rfl) f9 rfl 7 (by decide) (hts _ (in_2 (List.mem_of_getElem? (i := 200) rfl) rfl)) (fun _ h9 => h9) rfl hnm rfl (v := .long 0) rfl rfl rfl (Nat.le_of_ble_eq_true rfl) (fs2 := [.int k0, .int p0, .ref na, .ref nb, .int s2, .int t3, .int o0, .long 0]) rfl d_R_init_121 (fun H locs f9 hz oq hS => ?_)
      have hn := pN_mv hn (fun q h1 _ => ⟨oq q h1, h1⟩)
      have hn2 := pN_mv hn2 (fun q h1 _ => ⟨oq q h1, h1⟩)
      have ed : digS (k0, p0, t, u, s2, t3, o0) = 0 := by rw [digS, if_pos (show k0 = -1 from c112)]
      refine W.widen (k := 0) (n := 0) (by omega) (by omega) ?_
      exact W.vret hx hb hr (fun t9 ht hW => ⟨_, rfl, by rw [ht]; exact hS_hC hS, by rw [ht]; exact ⟨rfl, by rw [ed]; exact f9⟩⟩) hS.2.2 d_R_init_124 hlk
theorem k_R_withSum_29 : kI "RegistryLog$Row" 56 y_R_init b_R_init 10 7 := ⟨(in_3 (List.mem_of_getElem? (i := 177) rfl) rfl), (in_2 (List.mem_of_getElem? (i := 168) rfl) rfl), (in_1 (List.mem_of_getElem? (i := 19) rfl) rfl), (in_2 (List.mem_of_getElem? (i := 169) rfl) rfl), rfl, ⟨by decide, by decide, by decide +kernel⟩⟩
set_option maxHeartbeats 4000000 in
set_option maxRecDepth 100000 in
/-- Row.withSum -/
theorem c_R_withSum (l : Launch) (g : gG) (H : Heap) (P : Nat → Prop) (a na nb : Nat) (r0 : Rw) (sm : Int32) (hsz : g.2.2.1 ≤ H.size) (f0 : ob g H a 4 [.int (rk r0), .int (rp r0), .ref na, .ref nb, .int (r2 r0), .int (r3 r0), .int (ro r0), .long (digS r0)]) (hn : pN P g H na (rn r0)) (hn2 : pN P g H nb (ra r0)) : Met l y_R_withSum (wC y_R_withSum b_R_withSum 2 (some (.object "RegistryLog$Row"))) (rmk 6 1 8 139) (pC g H [.ref a, .int sm]) (qW H no_ (fun r H1 => ∃ q, H.size ≤ q ∧ r = some (.ref q) ∧ ob g H1 q 4 [.int (rk r0), .int (rp r0), .ref na, .ref nb, .int (r2 r0), .int sm, .int (ro r0), .long (digS (rk r0, rp r0, rn r0, ra r0, r2 r0, sm, ro r0))])) 1 8 (fW H no_) := by
  refine mB (by decide) (Nat.le_of_ble_eq_true rfl) ?_
  intro p e s m below meth c ls C0 hH hZ hnm hl
  have C0 : cF g p s m _ meth c b_R_withSum 2 "RegistryLog$Row" (some (.object "RegistryLog$Row")) := C0
  obtain ⟨hx, hb, hml, hown, hts, hr, hlk, hK⟩ := id C0
  subst hH
  have hl : lv_has ls 2 [(0, .ref a), (1, .int sm)] := hl
  have hS : va_S (fW s.heap no_) s.heap s.heap [] := hS_rf
  have hS0 := hS
  refine s_new (ci := 4) (C := R_R) (T := F_R) (N := 8) hx hb hts i_R t_R t_R_ok hown (hts _ (in_3 (List.mem_of_getElem? (i := 176) rfl) rfl)) (hts _ (in_2 (List.mem_of_getElem? (i := 166) rfl) rfl)) (hts _ (in_1 (List.mem_of_getElem? (i := 19) rfl) rfl)) hK hS rfl (fs := [.int 0, .int 0, .null, .null, .int 0, .int 0, .int 0, .long 0]) (by decide) (by show 0 + 1 ≤ 1; omega) (by show 0 + 8 ≤ 8; omega) d_R_withSum_0 (fun q1 H hq f_q1 hz o1 hS => ?_)
  have lt_a_q1 : a < q1 := by rw [hq]; exact ob_lt f0
  have f0 := ob_kept f0 (o1 _ lt_a_q1)
  have ge_q1 : s.heap.size ≤ q1 := by rw [hq]; exact hS0.1
  refine lv_dup hx hb d_R_withSum_3 rfl ?_
  refine lv_aload_n hx hb d_R_withSum_4 rfl (lv_at hl 0 rfl) ?_
  refine va_get (D := g.1) (ci := 4) (C := R_R) (T := F_R) (N := 8) hx hb hts i_R hown hK.1 f0 0 rfl rfl 0 (by decide) (hts (.fieldLink "RegistryLog$Row" 9 "RegistryLog$Row" "kind" "I") (in_2 (List.mem_of_getElem? (i := 182) rfl) rfl)) (fun _ h9 => h9) rfl d_R_withSum_5 ?_
  refine lv_aload_n hx hb d_R_withSum_8 rfl (lv_at hl 0 rfl) ?_
  refine va_get (D := g.1) (ci := 4) (C := R_R) (T := F_R) (N := 8) hx hb hts i_R hown hK.1 f0 0 rfl rfl 1 (by decide) (hts (.fieldLink "RegistryLog$Row" 15 "RegistryLog$Row" "person" "I") (in_2 (List.mem_of_getElem? (i := 185) rfl) rfl)) (fun _ h9 => h9) rfl d_R_withSum_9 ?_
  refine lv_aload_n hx hb d_R_withSum_12 rfl (lv_at hl 0 rfl) ?_
  refine va_get (D := g.1) (ci := 4) (C := R_R) (T := F_R) (N := 8) hx hb hts i_R hown hK.1 f0 0 rfl rfl 2 (by decide) (hts (.fieldLink "RegistryLog$Row" 18 "RegistryLog$Row" "name" "LRegistryLog$Name;") (in_2 (List.mem_of_getElem? (i := 188) rfl) rfl)) (fun _ h9 => h9) rfl d_R_withSum_13 ?_
  refine lv_aload_n hx hb d_R_withSum_16 rfl (lv_at hl 0 rfl) ?_
  refine va_get (D := g.1) (ci := 4) (C := R_R) (T := F_R) (N := 8) hx hb hts i_R hown hK.1 f0 0 rfl rfl 3 (by decide) (hts (.fieldLink "RegistryLog$Row" 22 "RegistryLog$Row" "nameAfter" "LRegistryLog$Name;") (in_2 (List.mem_of_getElem? (i := 190) rfl) rfl)) (fun _ h9 => h9) rfl d_R_withSum_17 ?_
  refine lv_aload_n hx hb d_R_withSum_20 rfl (lv_at hl 0 rfl) ?_
  refine va_get (D := g.1) (ci := 4) (C := R_R) (T := F_R) (N := 8) hx hb hts i_R hown hK.1 f0 0 rfl rfl 4 (by decide) (hts (.fieldLink "RegistryLog$Row" 25 "RegistryLog$Row" "second" "I") (in_2 (List.mem_of_getElem? (i := 192) rfl) rfl)) (fun _ h9 => h9) rfl d_R_withSum_21 ?_
  refine lv_iload_n hx hb d_R_withSum_24 rfl (lv_at hl 1 rfl) ?_
  refine lv_aload_n hx hb d_R_withSum_25 rfl (lv_at hl 0 rfl) ?_
  refine va_get (D := g.1) (ci := 4) (C := R_R) (T := F_R) (N := 8) hx hb hts i_R hown hK.1 f0 0 rfl rfl 6 (by decide) (hts (.fieldLink "RegistryLog$Row" 31 "RegistryLog$Row" "origin" "I") (in_2 (List.mem_of_getElem? (i := 198) rfl) rfl)) (fun _ h9 => h9) rfl d_R_withSum_26 ?_
  refine aW (N := (fun q => q = q1)) (rI (As := [.int (rk r0), .int (rp r0), .ref na, .ref nb, .int (r2 r0), .int sm, .int (ro r0)]) (rest := [.ref q1]) C0 (c_R_init l g _ q1 na nb (rk r0) (rp r0) (r2 r0) sm (ro r0) (rn r0) (ra r0) f_q1 (by omega) (pN_mv hn (fun q h1 h2 => ⟨o1 q (by rw [hq]; exact h2), Nat.ne_of_lt (Nat.lt_of_lt_of_le h2 ge_q1)⟩)) (pN_mv hn2 (fun q h1 h2 => ⟨o1 q (by rw [hq]; exact h2), Nat.ne_of_lt (Nat.lt_of_lt_of_le h2 ge_q1)⟩))) (zK_S hZ hS (fun _ h => h.elim)) k_R_withSum_29 rfl rfl ⟨Nat.le_of_ble_eq_true rfl, Nat.le_of_ble_eq_true rfl⟩ rfl hl.1 rfl (Nat.le_of_ble_eq_true rfl) d_R_withSum_29 ⟨by show 0 + 1 + 0 ≤ 1; omega, by show 0 + 8 + 0 ≤ 8; omega⟩) (fun v H L hC1 hp hL => ?_)
  have hS0 := hS
  have hS := hS_call hS hC1 hL (fun q h => by subst h; exact Or.inr ge_q1)
  have f0 := ob_kept f0 (hC_at hC1 (ob_lt f0) (fun z => absurd z (Nat.ne_of_lt lt_a_q1)))
  obtain ⟨rfl, f8⟩ := hp
  refine W.eq (g2 := F0 m 32 ls [.ref q1]) rfl ?_
  refine W.widen (k := 1) (n := 8) (by omega) (by omega) ?_
  exact W.aret hx hb hr (Or.inl ⟨_, rfl⟩) (Or.inr ⟨_, rfl⟩) (fun t9 ht hW => ⟨_, rfl, by rw [ht]; exact hS_hC hS, by rw [ht]; exact ⟨q1, ge_q1, rfl, f8⟩⟩) hS.2.2 d_R_withSum_32 hlk
set_option maxHeartbeats 4000000 in
set_option maxRecDepth 100000 in
/-- TwoHeads.<init> -/
theorem c_H_init (l : Launch) (g : gG) (H : Heap) (a : Nat) (x y : Int64) (f9 : ob g H a 5 [.long 0, .long 0]) : Met l y_H_init (wC y_H_init b_H_init 5 none) (rmk 1 0 0 20) (pC g H [.ref a, .long x, .long y]) (qW H (fun q => q = a) (fun r H1 => r = none ∧ ob g H1 a 5 [.long x, .long y])) 0 0 (fW H (fun q => q = a)) := by
  refine mB (by decide) (Nat.le_of_ble_eq_true rfl) ?_
  intro p e s m below meth c ls C0 hH hZ hnm hl
  have C0 : cF g p s m _ meth c b_H_init 5 "RegistryLog$TwoHeads" none := C0
  obtain ⟨hx, hb, hml, hown, hts, hr, hlk, hK⟩ := id C0
  subst hH
  have hl : lv_has ls 5 [(0, .ref a), (1, .long x), (3, .long y)] := hl
  have hS : va_S (fW s.heap (fun q => q = a)) s.heap s.heap [] := hS_rf
  refine lv_aload_n hx hb d_H_init_0 rfl (lv_at hl 0 rfl) ?_
  refine W.objInit hx hb hown (hts (.methodLink "RegistryLog$TwoHeads" 1 Lib.objectInit) (in_3 (List.mem_of_getElem? (i := 139) rfl) rfl)) (hts (.instanceMethod Lib.objectInit) (in_1 (List.mem_of_getElem? (i := 32) rfl) rfl)) (hts (.code Lib.objectInit ⟨#[0xb1]⟩ 1 none) (in_1 (List.mem_of_getElem? (i := 33) rfl) rfl)) rfl (by rw [hml]; exact hl.1) rfl d_H_init_1 (Nat.le_of_ble_eq_true rfl) (Nat.le_of_ble_eq_true rfl) ?_
  refine W.eq (g2 := F0 m 4 ls []) rfl ?_
  refine lv_aload_n hx hb d_H_init_4 rfl (lv_at hl 0 rfl) ?_
  refine lv_lload_n hx hb d_H_init_5 rfl (lv_at hl 1 rfl) ?_
  refine s_putF (ci := 5) (C := R_H) (T := F_H) (N := 2) hx hb hts i_H t_H t_H_ok n_H hown hK hS (Or.inl rfl) f9 rfl 0 (by decide) (hts _ (in_3 (List.mem_of_getElem? (i := 140) rfl) rfl)) (fun _ h9 => h9) rfl hnm rfl (v := .long x) rfl rfl rfl (Nat.le_of_ble_eq_true rfl) (fs2 := [.long x, .long 0]) rfl d_H_init_6 (fun H locs f9 hz oq hS => ?_)
  refine lv_aload_n hx hb d_H_init_9 rfl (lv_at hl 0 rfl) ?_
  refine lv_lload_n hx hb d_H_init_10 rfl (lv_at hl 2 rfl) ?_
  refine s_putF (ci := 5) (C := R_H) (T := F_H) (N := 2) hx hb hts i_H t_H t_H_ok n_H hown hK hS (Or.inl rfl) f9 rfl 1 (by decide) (hts _ (in_3 (List.mem_of_getElem? (i := 143) rfl) rfl)) (fun _ h9 => h9) rfl hnm rfl (v := .long y) rfl rfl rfl (Nat.le_of_ble_eq_true rfl) (fs2 := [.long x, .long y]) rfl d_H_init_11 (fun H locs f9 hz oq hS => ?_)
  refine W.widen (k := 0) (n := 0) (by omega) (by omega) ?_
  exact W.vret hx hb hr (fun t9 ht hW => ⟨_, rfl, by rw [ht]; exact hS_hC hS, by rw [ht]; exact ⟨rfl, f9⟩⟩) hS.2.2 d_H_init_14 hlk
set_option maxHeartbeats 4000000 in
set_option maxRecDepth 100000 in
/-- Numbers.<init> -/
theorem c_U_init (l : Launch) (g : gG) (H : Heap) (a : Nat) (f9 : ob g H a 3 [.null, .int 0, .int 0]) : Met l y_U_init (wC y_U_init b_U_init 1 none) (rmk 1 1 16 20) (pC g H [.ref a]) (qW H (fun q => q = a) (fun r H1 => r = none ∧ ∃ v, H.size ≤ v ∧ isU g H1 a v (fun _ => 0) 0 0)) 1 16 (fW H (fun q => q = a)) := by
  refine mB (by decide) (Nat.le_of_ble_eq_true rfl) ?_
  intro p e s m below meth c ls C0 hH hZ hnm hl
  have C0 : cF g p s m _ meth c b_U_init 1 "RegistryLog$Numbers" none := C0
  obtain ⟨hx, hb, hml, hown, hts, hr, hlk, hK⟩ := id C0
  subst hH
  have hl : lv_has ls 1 [(0, .ref a)] := hl
  have hS : va_S (fW s.heap (fun q => q = a)) s.heap s.heap [] := hS_rf
  refine lv_aload_n hx hb d_U_init_0 rfl (lv_at hl 0 rfl) ?_
  refine W.objInit hx hb hown (hts (.methodLink "RegistryLog$Numbers" 3 Lib.objectInit) (in_2 (List.mem_of_getElem? (i := 237) rfl) rfl)) (hts (.instanceMethod Lib.objectInit) (in_1 (List.mem_of_getElem? (i := 32) rfl) rfl)) (hts (.code Lib.objectInit ⟨#[0xb1]⟩ 1 none) (in_1 (List.mem_of_getElem? (i := 33) rfl) rfl)) rfl (by rw [hml]; exact hl.1) rfl d_U_init_1 (Nat.le_of_ble_eq_true rfl) (Nat.le_of_ble_eq_true rfl) ?_
  refine W.eq (g2 := F0 m 4 ls []) rfl ?_
  refine lv_aload_n hx hb d_U_init_4 rfl (lv_at hl 0 rfl) ?_
  refine lv_bipush (v := nI 16) hx hb d_U_init_5 (by decide) ?_
  have hS0 := hS
  refine s_newa hx hb (hts _ (in_3 (List.mem_of_getElem? (i := 8) rfl) rfl)) (ty := .long) rfl rfl hK hS 1 rfl (a0 := (16, .inr (.inl (fun _ => 0)))) (fun _ => rfl) (nI_pos (by omega)) (nI_clamp (by omega)) (by show 16 * 8 ≤ 536870912; omega) (by show 0 + 1 ≤ 1; omega) (by show 0 + 16 ≤ 16; omega) d_U_init_7 (fun q1 H hq f_q1 hz o1 hS => ?_)
  have lt_a_q1 : a < q1 := by rw [hq]; exact ob_lt f9
  have f9 := ob_kept f9 (o1 _ lt_a_q1)
  have ge_q1 : s.heap.size ≤ q1 := by rw [hq]; exact hS0.1
  refine s_putF (ci := 3) (C := R_U) (T := F_U) (N := 3) hx hb hts i_U t_U t_U_ok n_U hown hK hS (Or.inl rfl) f9 rfl 0 (by decide) (hts _ (in_2 (List.mem_of_getElem? (i := 238) rfl) rfl)) (fun _ h9 => h9) rfl hnm rfl (v := .ref q1) rfl rfl rfl (Nat.le_of_ble_eq_true rfl) (fs2 := [.ref q1, .int 0, .int 0]) rfl d_U_init_9 (fun H locs f9 hz oq hS => ?_)
  have f_q1 := ar_kept f_q1 (oq _ (Ne.symm (Nat.ne_of_lt lt_a_q1)))
  refine lv_aload_n hx hb d_U_init_12 rfl (lv_at hl 0 rfl) ?_
  refine lv_iconst (v := nI 0) hx hb d_U_init_13 (by decide) ?_
  refine s_put (ci := 3) (C := R_U) (T := F_U) (N := 3) hx hb hts i_U t_U t_U_ok n_U hown hK hS (Or.inl rfl) f9 rfl 1 (by decide) (hts _ (in_2 (List.mem_of_getElem? (i := 239) rfl) rfl)) (fun _ h9 => h9) rfl (v := .int (nI 0)) rfl rfl rfl (Nat.le_of_ble_eq_true rfl) (fs2 := [.ref q1, .int (nI 0), .int 0]) rfl d_U_init_14 (fun H locs f9 hz oq hS => ?_)
  have f_q1 := ar_kept f_q1 (oq _ (Ne.symm (Nat.ne_of_lt lt_a_q1)))
  refine lv_aload_n hx hb d_U_init_17 rfl (lv_at hl 0 rfl) ?_
  refine lv_iconst (v := nI 0) hx hb d_U_init_18 (by decide) ?_
  refine s_put (ci := 3) (C := R_U) (T := F_U) (N := 3) hx hb hts i_U t_U t_U_ok n_U hown hK hS (Or.inl rfl) f9 rfl 2 (by decide) (hts _ (in_3 (List.mem_of_getElem? (i := 0) rfl) rfl)) (fun _ h9 => h9) rfl (v := .int (nI 0)) rfl rfl rfl (Nat.le_of_ble_eq_true rfl) (fs2 := [.ref q1, .int (nI 0), .int (nI 0)]) rfl d_U_init_19 (fun H locs f9 hz oq hS => ?_)
  have f_q1 := ar_kept f_q1 (oq _ (Ne.symm (Nat.ne_of_lt lt_a_q1)))
  refine W.widen (k := 1) (n := 16) (by omega) (by omega) ?_
  exact W.vret hx hb hr (fun t9 ht hW => ⟨_, rfl, by rw [ht]; exact hS_hC hS, by rw [ht]; exact ⟨rfl, q1, ge_q1, f9, f_q1, Nat.zero_le _, Nat.zero_le _⟩⟩) hS.2.2 d_U_init_22 hlk
set_option maxHeartbeats 4000000 in
set_option maxRecDepth 100000 in
/-- Numbers.clear -/
theorem c_U_clear (l : Launch) (g : gG) (H : Heap) (a v k q : Nat) (f : Nat → Int64) (h : isU g H a v f k q) (hav : a ≠ v) : Met l y_U_clear (wC y_U_clear b_U_clear 1 none) (rmk 0 0 0 0) (pC g H [.ref a]) (qW H (fun q => q = a) (fun r H1 => r = none ∧ isU g H1 a v f 0 0)) 0 0 (fW H (fun q => q = a)) := by
  refine mB (by decide) (Nat.le_of_ble_eq_true rfl) ?_
  intro p e s m below meth c ls C0 hH hZ hnm hl
  have C0 : cF g p s m _ meth c b_U_clear 1 "RegistryLog$Numbers" none := C0
  obtain ⟨hx, hb, hml, hown, hts, hr, hlk, hK⟩ := id C0
  subst hH
  have hl : lv_has ls 1 [(0, .ref a)] := hl
  have hS : va_S (fW s.heap (fun q => q = a)) s.heap s.heap [] := hS_rf
  obtain ⟨f0, f1, hk16, hq1⟩ := h
  refine lv_aload_n hx hb d_U_clear_0 rfl (lv_at hl 0 rfl) ?_
  refine lv_iconst (v := nI 0) hx hb d_U_clear_1 (by decide) ?_
  refine s_put (ci := 3) (C := R_U) (T := F_U) (N := 3) hx hb hts i_U t_U t_U_ok n_U hown hK hS (Or.inl rfl) f0 rfl 1 (by decide) (hts _ (in_2 (List.mem_of_getElem? (i := 239) rfl) rfl)) (fun _ h9 => h9) rfl (v := .int (nI 0)) rfl rfl rfl (Nat.le_of_ble_eq_true rfl) (fs2 := [.ref v, .int (nI 0), .int (nI q)]) rfl d_U_clear_2 (fun H locs f0 hz oq hS => ?_)
  have f1 := ar_kept f1 (oq _ (Ne.symm (hav)))
  refine lv_aload_n hx hb d_U_clear_5 rfl (lv_at hl 0 rfl) ?_
  refine lv_iconst (v := nI 0) hx hb d_U_clear_6 (by decide) ?_
  refine s_put (ci := 3) (C := R_U) (T := F_U) (N := 3) hx hb hts i_U t_U t_U_ok n_U hown hK hS (Or.inl rfl) f0 rfl 2 (by decide) (hts _ (in_3 (List.mem_of_getElem? (i := 0) rfl) rfl)) (fun _ h9 => h9) rfl (v := .int (nI 0)) rfl rfl rfl (Nat.le_of_ble_eq_true rfl) (fs2 := [.ref v, .int (nI 0), .int (nI 0)]) rfl d_U_clear_7 (fun H locs f0 hz oq hS => ?_)
  have f1 := ar_kept f1 (oq _ (Ne.symm (hav)))
  refine W.widen (k := 0) (n := 0) (by omega) (by omega) ?_
  exact W.vret hx hb hr (fun t9 ht hW => ⟨_, rfl, by rw [ht]; exact hS_hC hS, by rw [ht]; exact ⟨rfl, f0, f1, Nat.zero_le _, Nat.zero_le _⟩⟩) hS.2.2 d_U_clear_10 hlk
set_option maxHeartbeats 4000000 in
set_option maxRecDepth 100000 in
/-- Numbers.add -/
theorem c_U_add (l : Launch) (g : gG) (H : Heap) (a v k q : Nat) (f : Nat → Int64) (h : isU g H a v f k q) (hav : a ≠ v) (x : Int64) : Met l y_U_add (wC y_U_add b_U_add 3 (some .boolean)) (rmk 0 0 0 0) (pC g H [.ref a, .long x]) (qW H (fun q => q = a ∨ q = v) (fun r H1 => if k < 16 then (r = some (.int 1) ∧ isU g H1 a v (vp_updL f k x) (k + 1) q) else (r = some (.int 0) ∧ isU g H1 a v f k q))) 0 0 (fW H (fun q => q = a ∨ q = v)) := by
  refine mB (by decide) (Nat.le_of_ble_eq_true rfl) ?_
  intro p e s m below meth c ls C0 hH hZ hnm hl
  have C0 : cF g p s m _ meth c b_U_add 3 "RegistryLog$Numbers" (some .boolean) := C0
  obtain ⟨hx, hb, hml, hown, hts, hr, hlk, hK⟩ := id C0
  subst hH
  have hl : lv_has ls 3 [(0, .ref a), (1, .long x)] := hl
  have hS : va_S (fW s.heap (fun q => q = a ∨ q = v)) s.heap s.heap [] := hS_rf
  obtain ⟨f0, f1, hk16, hq1⟩ := h
  refine lv_aload_n hx hb d_U_add_0 rfl (lv_at hl 0 rfl) ?_
  refine va_get (D := g.1) (ci := 3) (C := R_U) (T := F_U) (N := 3) hx hb hts i_U hown hK.1 f0 0 rfl rfl 1 (by decide) (hts (.fieldLink "RegistryLog$Numbers" 15 "RegistryLog$Numbers" "count" "I") (in_2 (List.mem_of_getElem? (i := 239) rfl) rfl)) (fun _ h9 => h9) rfl d_U_add_1 ?_
  refine lv_bipush (v := nI 16) hx hb d_U_add_4 (by decide) ?_
  refine n_lt (tgt := 11) (a := k) (b := 16) hx hb d_U_add_6 (by decide) (by omega) (by omega) (fun c6 => ?_) (fun c6 => ?_)
  · skip
    refine lv_aload_n hx hb d_U_add_11 rfl (lv_at hl 0 rfl) ?_
    refine va_get (D := g.1) (ci := 3) (C := R_U) (T := F_U) (N := 3) hx hb hts i_U hown hK.1 f0 0 rfl rfl 0 (by decide) (hts (.fieldLink "RegistryLog$Numbers" 9 "RegistryLog$Numbers" "values" "[J") (in_2 (List.mem_of_getElem? (i := 238) rfl) rfl)) (fun _ h9 => h9) rfl d_U_add_12 ?_
    refine lv_aload_n hx hb d_U_add_15 rfl (lv_at hl 0 rfl) ?_
    refine va_get (D := g.1) (ci := 3) (C := R_U) (T := F_U) (N := 3) hx hb hts i_U hown hK.1 f0 0 rfl rfl 1 (by decide) (hts (.fieldLink "RegistryLog$Numbers" 15 "RegistryLog$Numbers" "count" "I") (in_2 (List.mem_of_getElem? (i := 239) rfl) rfl)) (fun _ h9 => h9) rfl d_U_add_16 ?_
    refine lv_lload_n hx hb d_U_add_19 rfl (lv_at hl 1 rfl) ?_
    refine s_last hx hb hK hS (Or.inl (Or.inr rfl)) f1 k rfl (by omega) (by omega) d_U_add_20 (fun H locs f1 hz oq hS => ?_)
    have f0 := ob_kept f0 (oq _ (hav))
    refine lv_aload_n hx hb d_U_add_21 rfl (lv_at hl 0 rfl) ?_
    refine lv_dup hx hb d_U_add_22 rfl ?_
    refine va_get (D := g.1) (ci := 3) (C := R_U) (T := F_U) (N := 3) hx hb hts i_U hown hK.1 f0 0 rfl rfl 1 (by decide) (hts (.fieldLink "RegistryLog$Numbers" 15 "RegistryLog$Numbers" "count" "I") (in_2 (List.mem_of_getElem? (i := 239) rfl) rfl)) (fun _ h9 => h9) rfl d_U_add_23 ?_
    refine lv_iconst (v := nI 1) hx hb d_U_add_26 (by decide) ?_
    refine n_iadd hx hb d_U_add_27 ?_
    refine s_put (ci := 3) (C := R_U) (T := F_U) (N := 3) hx hb hts i_U t_U t_U_ok n_U hown hK hS (Or.inl (Or.inl rfl)) f0 rfl 1 (by decide) (hts _ (in_2 (List.mem_of_getElem? (i := 239) rfl) rfl)) (fun _ h9 => h9) rfl (v := .int (nI (k + 1))) rfl rfl rfl (Nat.le_of_ble_eq_true rfl) (fs2 := [.ref v, .int (nI (k + 1)), .int (nI q)]) rfl d_U_add_28 (fun H locs f0 hz oq hS => ?_)
    have f1 := ar_kept f1 (oq _ (Ne.symm (hav)))
    refine lv_iconst (v := nI 1) hx hb d_U_add_31 (by decide) ?_
    refine W.widen (k := 0) (n := 0) (by omega) (by omega) ?_
    exact W.zret hx hb hr rfl (fun t9 ht hW => ⟨_, rfl, by rw [ht]; exact hS_hC hS, by rw [ht]; exact by (try dsimp only); rw [if_pos (by omega)]; exact ⟨rfl, f0, f1, by omega, hq1⟩⟩) hS.2.2 d_U_add_32 hlk
  · skip
    refine lv_iconst (v := nI 0) hx hb d_U_add_9 (by decide) ?_
    refine W.widen (k := 0) (n := 0) (by omega) (by omega) ?_
    exact W.zret hx hb hr rfl (fun t9 ht hW => ⟨_, rfl, by rw [ht]; exact hS_hC hS, by rw [ht]; exact by (try dsimp only); rw [if_neg (by omega)]; exact ⟨rfl, f0, f1, hk16, hq1⟩⟩) hS.2.2 d_U_add_10 hlk
theorem k_U_next_5 : kV "RegistryLog$Numbers" 22 "RegistryLog$Numbers" y_U_get b_U_get 2 (some .long) 1 := ⟨(in_3 (List.mem_of_getElem? (i := 122) rfl) rfl), (in_3 (List.mem_of_getElem? (i := 102) rfl) rfl), (in_3 (List.mem_of_getElem? (i := 103) rfl) rfl), (in_1 (List.mem_of_getElem? (i := 21) rfl) rfl), (in_3 (List.mem_of_getElem? (i := 104) rfl) rfl), ⟨by decide, by decide, by decide +kernel⟩⟩
set_option maxHeartbeats 4000000 in
set_option maxRecDepth 100000 in
/-- Numbers.next -/
theorem c_U_next (l : Launch) (g : gG) (H : Heap) (a v k q : Nat) (f : Nat → Int64) (h : isU g H a v f k q) (hav : a ≠ v) (hq9 : q < 1000) (ha9 : g.2.2.1 ≤ a) : Met l y_U_next (wC y_U_next b_U_next 3 (some .long)) (rmk 1 0 0 21) (pC g H [.ref a]) (qW H (fun q => q = a) (fun r H1 => r = some (.long (getS f k (nI q))) ∧ isU g H1 a v f k (q + 1))) 0 0 (fW H (fun q => q = a)) := by
  refine mB (by decide) (Nat.le_of_ble_eq_true rfl) ?_
  intro p e s m below meth c ls C0 hH hZ hnm hl
  have C0 : cF g p s m _ meth c b_U_next 3 "RegistryLog$Numbers" (some .long) := C0
  obtain ⟨hx, hb, hml, hown, hts, hr, hlk, hK⟩ := id C0
  subst hH
  have hl : lv_has ls 3 [(0, .ref a)] := hl
  have hS : va_S (fW s.heap (fun q => q = a)) s.heap s.heap [] := hS_rf
  obtain ⟨f0, f1, hk16, hq1⟩ := h
  refine lv_aload_n hx hb d_U_next_0 rfl (lv_at hl 0 rfl) ?_
  refine lv_aload_n hx hb d_U_next_1 rfl (lv_at hl 0 rfl) ?_
  refine va_get (D := g.1) (ci := 3) (C := R_U) (T := F_U) (N := 3) hx hb hts i_U hown hK.1 f0 0 rfl rfl 2 (by decide) (hts (.fieldLink "RegistryLog$Numbers" 19 "RegistryLog$Numbers" "asked" "I") (in_3 (List.mem_of_getElem? (i := 0) rfl) rfl)) (fun _ h9 => h9) rfl d_U_next_2 ?_
  refine aP (rV (As := [.int (nI q)]) (rest := []) C0 (c_U_get l g _ a v f k q (nI q) ⟨f0, f1, hk16, hq1⟩) (zK_S hZ hS (fun q h => by subst h; exact ha9)) k_U_next_5 rfl rfl ⟨Nat.le_of_ble_eq_true rfl, Nat.le_of_ble_eq_true rfl⟩ (ob_recv hK f0 rfl) rfl hl.1 rfl (Nat.le_of_ble_eq_true rfl) d_U_next_5 ⟨by show 0 + 0 ≤ 0; omega, by show 0 + 0 ≤ 0; omega⟩) ?_
  intro v hv; subst hv
  refine W.eq (g2 := F0 m 8 ls [.long (getS f k (nI q))]) rfl ?_
  refine lv_lstore_n (lv' := [(1, .long (getS f k (nI q))), (0, .ref a)]) hx hb d_U_next_8 rfl hl (by decide) rfl (fun ls hl => ?_)
  refine lv_aload_n hx hb d_U_next_9 rfl (lv_at hl 1 rfl) ?_
  refine lv_dup hx hb d_U_next_10 rfl ?_
  refine va_get (D := g.1) (ci := 3) (C := R_U) (T := F_U) (N := 3) hx hb hts i_U hown hK.1 f0 0 rfl rfl 2 (by decide) (hts (.fieldLink "RegistryLog$Numbers" 19 "RegistryLog$Numbers" "asked" "I") (in_3 (List.mem_of_getElem? (i := 0) rfl) rfl)) (fun _ h9 => h9) rfl d_U_next_11 ?_
  refine lv_iconst (v := nI 1) hx hb d_U_next_14 (by decide) ?_
  refine n_iadd hx hb d_U_next_15 ?_
  refine s_put (ci := 3) (C := R_U) (T := F_U) (N := 3) hx hb hts i_U t_U t_U_ok n_U hown hK hS (Or.inl rfl) f0 rfl 2 (by decide) (hts _ (in_3 (List.mem_of_getElem? (i := 0) rfl) rfl)) (fun _ h9 => h9) rfl (v := .int (nI (q + 1))) rfl rfl rfl (Nat.le_of_ble_eq_true rfl) (fs2 := [.ref v, .int (nI k), .int (nI (q + 1))]) rfl d_U_next_16 (fun H locs f0 hz oq hS => ?_)
  have f1 := ar_kept f1 (oq _ (Ne.symm (hav)))
  refine lv_lload_n hx hb d_U_next_19 rfl (lv_at hl 0 rfl) ?_
  refine W.widen (k := 0) (n := 0) (by omega) (by omega) ?_
  exact W.lret hx hb hr (fun t9 ht hW => ⟨_, rfl, by rw [ht]; exact hS_hC hS, by rw [ht]; exact ⟨rfl, f0, f1, hk16, by omega⟩⟩) hS.2.2 d_U_next_20 hlk
set_option maxHeartbeats 4000000 in
set_option maxRecDepth 100000 in
/-- Ledger.append -/
theorem c_L_append (l : Launch) (g : gG) (H : Heap) (a w n k rr : Nat) (f : Nat → Option Nat) (vs : List Value) (f0 : ob g H a 1 [.ref w, .ref n, .int (nI k)]) (f1 : ar g 2 H w (120, .inr (.inr (.inr (.inr f))))) (f2 : ob g H rr 4 vs) (haw : a ≠ w) (har : rr ≠ a) (hrw : rr ≠ w) (hk : k < 120) : Met l y_L_append (wC y_L_append b_L_append 2 none) (rmk 0 0 0 0) (pC g H [.ref a, .ref rr]) (qW H (fun q => q = a ∨ q = w) (fun r H1 => r = none ∧ ob g H1 a 1 [.ref w, .ref n, .int (nI (k + 1))] ∧ ar g 2 H1 w (120, .inr (.inr (.inr (.inr (va_up f k (some rr)))))))) 0 0 (fW H (fun q => q = a ∨ q = w)) := by
  refine mB (by decide) (Nat.le_of_ble_eq_true rfl) ?_
  intro p e s m below meth c ls C0 hH hZ hnm hl
  have C0 : cF g p s m _ meth c b_L_append 2 "RegistryLog$Ledger" none := C0
  obtain ⟨hx, hb, hml, hown, hts, hr, hlk, hK⟩ := id C0
  subst hH
  have hl : lv_has ls 2 [(0, .ref a), (1, .ref rr)] := hl
  have hS : va_S (fW s.heap (fun q => q = a ∨ q = w)) s.heap s.heap [] := hS_rf
  refine lv_aload_n hx hb d_L_append_0 rfl (lv_at hl 0 rfl) ?_
  refine va_get (D := g.1) (ci := 1) (C := R_L) (T := F_L) (N := 3) hx hb hts i_L hown hK.1 f0 0 rfl rfl 2 (by decide) (hts (.fieldLink "RegistryLog$Ledger" 31 "RegistryLog$Ledger" "count" "I") (in_2 (List.mem_of_getElem? (i := 223) rfl) rfl)) (fun _ h9 => h9) rfl d_L_append_1 ?_
  refine lv_bipush (v := nI 120) hx hb d_L_append_4 (by decide) ?_
  refine n_ge (tgt := 29) (a := k) (b := 120) hx hb d_L_append_6 (by decide) (by omega) (by omega) (fun c6 => ?_) (fun c6 => ?_)
  · skip
    exact absurd c6 (by omega)
  · skip
    refine lv_aload_n hx hb d_L_append_9 rfl (lv_at hl 0 rfl) ?_
    refine va_get (D := g.1) (ci := 1) (C := R_L) (T := F_L) (N := 3) hx hb hts i_L hown hK.1 f0 0 rfl rfl 0 (by decide) (hts (.fieldLink "RegistryLog$Ledger" 27 "RegistryLog$Ledger" "written" "[LRegistryLog$Row;") (in_2 (List.mem_of_getElem? (i := 221) rfl) rfl)) (fun _ h9 => h9) rfl d_L_append_10 ?_
    refine lv_aload_n hx hb d_L_append_13 rfl (lv_at hl 0 rfl) ?_
    refine va_get (D := g.1) (ci := 1) (C := R_L) (T := F_L) (N := 3) hx hb hts i_L hown hK.1 f0 0 rfl rfl 2 (by decide) (hts (.fieldLink "RegistryLog$Ledger" 31 "RegistryLog$Ledger" "count" "I") (in_2 (List.mem_of_getElem? (i := 223) rfl) rfl)) (fun _ h9 => h9) rfl d_L_append_14 ?_
    refine lv_aload_n hx hb d_L_append_17 rfl (lv_at hl 1 rfl) ?_
    refine s_aast hx hb hK hS (Or.inl (Or.inr rfl)) 2 4 (r := (R_R, F_R, 8)) f1 rfl f2 rfl k rfl (by omega) (by omega) d_L_append_18 (fun H locs f1 hz oq hS => ?_)
    have f0 := ob_kept f0 (oq _ (haw))
    have f2 := ob_kept f2 (oq _ (hrw))
    refine lv_aload_n hx hb d_L_append_19 rfl (lv_at hl 0 rfl) ?_
    refine lv_dup hx hb d_L_append_20 rfl ?_
    refine va_get (D := g.1) (ci := 1) (C := R_L) (T := F_L) (N := 3) hx hb hts i_L hown hK.1 f0 0 rfl rfl 2 (by decide) (hts (.fieldLink "RegistryLog$Ledger" 31 "RegistryLog$Ledger" "count" "I") (in_2 (List.mem_of_getElem? (i := 223) rfl) rfl)) (fun _ h9 => h9) rfl d_L_append_21 ?_
    refine lv_iconst (v := nI 1) hx hb d_L_append_24 (by decide) ?_
    refine n_iadd hx hb d_L_append_25 ?_
    refine s_put (ci := 1) (C := R_L) (T := F_L) (N := 3) hx hb hts i_L t_L t_L_ok n_L hown hK hS (Or.inl (Or.inl rfl)) f0 rfl 2 (by decide) (hts _ (in_2 (List.mem_of_getElem? (i := 223) rfl) rfl)) (fun _ h9 => h9) rfl (v := .int (nI (k + 1))) rfl rfl rfl (Nat.le_of_ble_eq_true rfl) (fs2 := [.ref w, .ref n, .int (nI (k + 1))]) rfl d_L_append_26 (fun H locs f0 hz oq hS => ?_)
    have f1 := ar_kept f1 (oq _ (Ne.symm (haw)))
    have f2 := ob_kept f2 (oq _ (har))
    refine W.widen (k := 0) (n := 0) (by omega) (by omega) ?_
    exact W.vret hx hb hr (fun t9 ht hW => ⟨_, rfl, by rw [ht]; exact hS_hC hS, by rw [ht]; exact ⟨rfl, f0, f1⟩⟩) hS.2.2 d_L_append_29 hlk
set_option maxHeartbeats 4000000 in
set_option maxRecDepth 100000 in
/-- Ledger.replace -/
theorem c_L_replace (l : Launch) (g : gG) (H : Heap) (a w n k rr : Nat) (f : Nat → Option Nat) (vs : List Value) (f0 : ob g H a 1 [.ref w, .ref n, .int (nI k)]) (f1 : ar g 2 H w (120, .inr (.inr (.inr (.inr f))))) (f2 : ob g H rr 4 vs) (haw : a ≠ w) (har : rr ≠ a) (hrw : rr ≠ w) (i : Nat) (hi : i < k) (hk : k ≤ 120) : Met l y_L_replace (wC y_L_replace b_L_replace 3 none) (rmk 0 0 0 0) (pC g H [.ref a, .int (nI i), .ref rr]) (qW H (fun q => q = a ∨ q = w) (fun r H1 => r = none ∧ ob g H1 a 1 [.ref w, .ref n, .int (nI k)] ∧ ar g 2 H1 w (120, .inr (.inr (.inr (.inr (va_up f i (some rr)))))))) 0 0 (fW H (fun q => q = a ∨ q = w)) := by
  refine mB (by decide) (Nat.le_of_ble_eq_true rfl) ?_
  intro p e s m below meth c ls C0 hH hZ hnm hl
  have C0 : cF g p s m _ meth c b_L_replace 3 "RegistryLog$Ledger" none := C0
  obtain ⟨hx, hb, hml, hown, hts, hr, hlk, hK⟩ := id C0
  subst hH
  have hl : lv_has ls 3 [(0, .ref a), (1, .int (nI i)), (2, .ref rr)] := hl
  have hS : va_S (fW s.heap (fun q => q = a ∨ q = w)) s.heap s.heap [] := hS_rf
  refine lv_iload_n hx hb d_L_replace_0 rfl (lv_at hl 1 rfl) ?_
  refine lv_if_lt (tgt := 19) hx hb d_L_replace_1 (by decide) (fun c1 => ?_) (fun c1 => ?_)
  · skip
    exact absurd c1 (nI_pos (by omega))
  · skip
    refine lv_iload_n hx hb d_L_replace_4 rfl (lv_at hl 1 rfl) ?_
    refine lv_aload_n hx hb d_L_replace_5 rfl (lv_at hl 0 rfl) ?_
    refine va_get (D := g.1) (ci := 1) (C := R_L) (T := F_L) (N := 3) hx hb hts i_L hown hK.1 f0 0 rfl rfl 2 (by decide) (hts (.fieldLink "RegistryLog$Ledger" 31 "RegistryLog$Ledger" "count" "I") (in_2 (List.mem_of_getElem? (i := 223) rfl) rfl)) (fun _ h9 => h9) rfl d_L_replace_6 ?_
    refine n_ge (tgt := 19) (a := i) (b := k) hx hb d_L_replace_9 (by decide) (by omega) (by omega) (fun c9 => ?_) (fun c9 => ?_)
    · skip
      exact absurd c9 (by omega)
    · skip
      refine lv_aload_n hx hb d_L_replace_12 rfl (lv_at hl 0 rfl) ?_
      refine va_get (D := g.1) (ci := 1) (C := R_L) (T := F_L) (N := 3) hx hb hts i_L hown hK.1 f0 0 rfl rfl 0 (by decide) (hts (.fieldLink "RegistryLog$Ledger" 27 "RegistryLog$Ledger" "written" "[LRegistryLog$Row;") (in_2 (List.mem_of_getElem? (i := 221) rfl) rfl)) (fun _ h9 => h9) rfl d_L_replace_13 ?_
      refine lv_iload_n hx hb d_L_replace_16 rfl (lv_at hl 1 rfl) ?_
      refine lv_aload_n hx hb d_L_replace_17 rfl (lv_at hl 2 rfl) ?_
      refine s_aast hx hb hK hS (Or.inl (Or.inr rfl)) 2 4 (r := (R_R, F_R, 8)) f1 rfl f2 rfl i rfl (by omega) (by omega) d_L_replace_18 (fun H locs f1 hz oq hS => ?_)
      have f0 := ob_kept f0 (oq _ (haw))
      have f2 := ob_kept f2 (oq _ (hrw))
      refine W.widen (k := 0) (n := 0) (by omega) (by omega) ?_
      exact W.vret hx hb hr (fun t9 ht hW => ⟨_, rfl, by rw [ht]; exact hS_hC hS, by rw [ht]; exact ⟨rfl, f0, f1⟩⟩) hS.2.2 d_L_replace_19 hlk
