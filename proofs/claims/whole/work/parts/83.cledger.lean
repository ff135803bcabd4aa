theorem k_L_init_10 : kI "RegistryLog$Ledger" 13 y_N_init b_N_init 2 1 := ⟨(in_1 (List.mem_of_getElem? (i := 76) rfl) rfl), (in_1 (List.mem_of_getElem? (i := 77) rfl) rfl), (in_1 (List.mem_of_getElem? (i := 7) rfl) rfl), (in_1 (List.mem_of_getElem? (i := 78) rfl) rfl), rfl, ⟨by decide, by decide, by decide +kernel⟩⟩
theorem k_L_init_26 : kI "RegistryLog$Ledger" 18 y_R_init b_R_init 10 7 := ⟨(in_2 (List.mem_of_getElem? (i := 167) rfl) rfl), (in_2 (List.mem_of_getElem? (i := 168) rfl) rfl), (in_1 (List.mem_of_getElem? (i := 19) rfl) rfl), (in_2 (List.mem_of_getElem? (i := 169) rfl) rfl), rfl, ⟨by decide, by decide, by decide +kernel⟩⟩
set_option maxHeartbeats 4000000 in
set_option maxRecDepth 100000 in
theorem lp_L_init {p : Program} {l : Launch} {e : Env} {s : State} {m : MethodId} {args : Array Value} {below : List Frame} {meth : Method} {c : Code} {g : gG} (C0 : cF g p s m args meth c b_L_init 3 "RegistryLog$Ledger" none) {PE : Nat → Prop} {a q2 q3 : Nat} (hPE : ∀ q, PE q → q < s.heap.size ∧ q ≠ a) (halt : a < s.heap.size) (ge_q3 : s.heap.size ≤ q3) (vs : List Value) (h23 : q2 ≠ q3) (ha2 : q2 ≠ a) :
    ∀ (n i : Nat) (f : Nat → Option Nat) (H : Heap) (locs : List Loc), i ≤ 120 → 121 ≤ i + n → ob g H a 1 [.ref q3, .ref q2, .int 0] → ar g 2 H q3 (120, .inr (.inr (.inr (.inr f)))) → ob g H q2 4 vs → pR (fun q => (s.heap.size ≤ q ∧ q ≠ q3) ∨ PE q) g H q2 noRw → va_S (fW s.heap (fun q => q = a)) s.heap H locs → ∀ (ls : Array Slot), lv_has ls 3 [(0, .ref a), (2, .int (nI i))] → W p l e (rmk 8 31 1020 177) s m args below meth c H locs 31 1020 (MQ below (qW s.heap (fun q => q = a) (fun r H1 => r = none ∧ ∃ w, s.heap.size ≤ w ∧ pL (fun q => (s.heap.size ≤ q ∧ q ≠ w) ∨ PE q) g H1 a w [])) args s 31 1020 (fW s.heap (fun q => q = a))) (F0 m 43 ls []) := by
  obtain ⟨hx, hb, hml, hown, hts, hr, hlk, hK⟩ := id C0
  intro n
  induction n with
  | zero => intro i f H locs h1 h2; exact absurd h2 (by omega)
  | succ n ih =>
    intro i f H locs hi hin f0 f1 f2 h3 hS ls hl
    refine lv_iload_n hx hb d_L_init_43 rfl (lv_at hl 1 rfl) ?_
    refine lv_bipush (v := nI 120) hx hb d_L_init_44 (by decide) ?_
    refine n_ge (tgt := 65) (a := i) (b := 120) hx hb d_L_init_46 (by decide) (by omega) (by omega) (fun c46 => ?_) (fun c46 => ?_)
    · skip
      refine lv_aload_n hx hb d_L_init_65 rfl (lv_at hl 0 rfl) ?_
      refine lv_iconst (v := nI 0) hx hb d_L_init_66 (by decide) ?_
      refine s_put (ci := 1) (C := R_L) (T := F_L) (N := 3) hx hb hts i_L t_L t_L_ok n_L hown hK hS (Or.inl rfl) f0 rfl 2 (by decide) (hts _ (in_2 (List.mem_of_getElem? (i := 223) rfl) rfl)) (fun _ h9 => h9) rfl (v := .int (nI 0)) rfl rfl rfl (Nat.le_of_ble_eq_true rfl) (fs2 := [.ref q3, .ref q2, .int (nI 0)]) rfl d_L_init_67 (fun H locs f0 hz oq hS => ?_)
      have f1 := ar_kept f1 (oq _ (Ne.symm (Nat.ne_of_lt (Nat.lt_of_lt_of_le halt ge_q3))))
      have f2 := ob_kept f2 (oq _ (ha2))
      have h3 := pR_mv h3 (fun q h1 _ => ⟨oq q (h1.elim (fun z => Ne.symm (Nat.ne_of_lt (Nat.lt_of_lt_of_le halt z.1))) (fun z => (hPE q z).2)), h1⟩)
      refine W.widen (k := 31) (n := 1020) (by omega) (by omega) ?_
      exact W.vret hx hb hr (fun t9 ht hW => ⟨_, rfl, by rw [ht]; exact hS_hC hS, by rw [ht]; exact ⟨rfl, q3, ge_q3, q2, _, f0, f1, h3, Nat.zero_le _, fun i hi => absurd hi (Nat.not_lt_zero _)⟩⟩) hS.2.2 d_L_init_70 hlk
    · skip
      refine lv_aload_n hx hb d_L_init_49 rfl (lv_at hl 0 rfl) ?_
      refine va_get (D := g.1) (ci := 1) (C := R_L) (T := F_L) (N := 3) hx hb hts i_L hown hK.1 f0 0 rfl rfl 0 (by decide) (hts (.fieldLink "RegistryLog$Ledger" 27 "RegistryLog$Ledger" "written" "[LRegistryLog$Row;") (in_2 (List.mem_of_getElem? (i := 221) rfl) rfl)) (fun _ h9 => h9) rfl d_L_init_50 ?_
      refine lv_iload_n hx hb d_L_init_53 rfl (lv_at hl 1 rfl) ?_
      refine lv_aload_n hx hb d_L_init_54 rfl (lv_at hl 0 rfl) ?_
      refine va_get (D := g.1) (ci := 1) (C := R_L) (T := F_L) (N := 3) hx hb hts i_L hown hK.1 f0 0 rfl rfl 1 (by decide) (hts (.fieldLink "RegistryLog$Ledger" 21 "RegistryLog$Ledger" "noRow" "LRegistryLog$Row;") (in_2 (List.mem_of_getElem? (i := 222) rfl) rfl)) (fun _ h9 => h9) rfl d_L_init_55 ?_
      refine s_aast hx hb hK hS (Or.inr ge_q3) 2 4 (r := (R_R, F_R, 8)) f1 rfl f2 rfl i rfl (by omega) (by omega) d_L_init_58 (fun H locs f1 hz oq hS => ?_)
      have f0 := ob_kept f0 (oq _ (Nat.ne_of_lt (Nat.lt_of_lt_of_le halt ge_q3)))
      have f2 := ob_kept f2 (oq _ (h23))
      have h3 := pR_mv h3 (fun q h1 _ => ⟨oq q (h1.elim (fun z => z.2) (fun z => Nat.ne_of_lt (Nat.lt_of_lt_of_le (hPE q z).1 ge_q3))), h1⟩)
      refine n_inc (a := i) (lv' := [(2, .int (nI (i + 1))), (0, .ref a)]) hx hb d_L_init_59 hl (k := 1) rfl (by decide) rfl (fun ls hl => ?_)
      refine lv_goto (tgt := 43) hx hb d_L_init_62 (by decide) ?_
      exact ih (i + 1) _ H locs (by omega) (by omega) f0 f1 f2 h3 hS ls (lv_sub hl [1, 0] rfl)
set_option maxHeartbeats 4000000 in
set_option maxRecDepth 100000 in
/-- Ledger.<init> -/
theorem c_L_init (l : Launch) (g : gG) (H : Heap) (PE : Nat → Prop) (a : Nat) (hsz : g.2.2.1 ≤ H.size) (ha9 : g.2.2.1 ≤ a) (f0 : ob g H a 1 [.null, .null, .int 0]) (hE : pS PE g H (g.2.2.2 0) []) (hPE : ∀ q, PE q → q < H.size ∧ q ≠ a) : Met l y_L_init (wC y_L_init b_L_init 3 none) (rmk 8 31 1020 177) (pC g H [.ref a]) (qW H (fun q => q = a) (fun r H1 => r = none ∧ ∃ w, H.size ≤ w ∧ pL (fun q => (H.size ≤ q ∧ q ≠ w) ∨ PE q) g H1 a w [])) 31 1020 (fW H (fun q => q = a)) := by
  refine mB (by decide) (Nat.le_of_ble_eq_true rfl) ?_
  intro p e s m below meth c ls C0 hH hZ hnm hl
  have C0 : cF g p s m _ meth c b_L_init 3 "RegistryLog$Ledger" none := C0
  obtain ⟨hx, hb, hml, hown, hts, hr, hlk, hK⟩ := id C0
  subst hH
  have hl : lv_has ls 3 [(0, .ref a)] := hl
  have hS : va_S (fW s.heap (fun q => q = a)) s.heap s.heap [] := hS_rf
  have halt := ob_lt f0
  refine lv_aload_n hx hb d_L_init_0 rfl (lv_at hl 0 rfl) ?_
  refine W.objInit hx hb hown (hts (.methodLink "RegistryLog$Ledger" 3 Lib.objectInit) (in_1 (List.mem_of_getElem? (i := 72) rfl) rfl)) (hts (.instanceMethod Lib.objectInit) (in_1 (List.mem_of_getElem? (i := 32) rfl) rfl)) (hts (.code Lib.objectInit ⟨#[0xb1]⟩ 1 none) (in_1 (List.mem_of_getElem? (i := 33) rfl) rfl)) rfl (by rw [hml]; exact hl.1) rfl d_L_init_1 (Nat.le_of_ble_eq_true rfl) (Nat.le_of_ble_eq_true rfl) ?_
  refine W.eq (g2 := F0 m 4 ls []) rfl ?_
  have hS0 := hS
  refine s_new (ci := 2) (C := R_N) (T := F_N) (N := 2) hx hb hts i_N t_N t_N_ok hown (hts _ (in_1 (List.mem_of_getElem? (i := 73) rfl) rfl)) (hts _ (in_1 (List.mem_of_getElem? (i := 74) rfl) rfl)) (hts _ (in_1 (List.mem_of_getElem? (i := 7) rfl) rfl)) hK hS rfl (fs := [.null, .null]) (by decide) (by show 0 + 1 ≤ 31; omega) (by show 0 + 2 ≤ 1020; omega) d_L_init_4 (fun q1 H hq f_q1 hz o1 hS => ?_)
  have lt_a_q1 : a < q1 := by rw [hq]; exact ob_lt f0
  have f0 := ob_kept f0 (o1 _ lt_a_q1)
  have hE := pS_mv hE (fun q h1 h2 => ⟨o1 q (by rw [hq]; exact h2), h1⟩)
  have ge_q1 : s.heap.size ≤ q1 := by rw [hq]; exact hS0.1
  refine lv_dup hx hb d_L_init_7 rfl ?_
  refine va_ldcS hx hb hown hK.2.2.2.2.1 d_L_init_8 ?_
  have hq1lt := ob_lt f_q1
  obtain ⟨ev, pe1, pe2, e0, e1, _, _⟩ := id hE
  have he0 := (hPE _ pe1).1
  have he1 := (hPE _ pe2).1
  refine aW (N := (fun q => q = q1)) (rI (As := [.ref (g.2.2.2 0)]) (rest := [.ref q1]) C0 (c_N_init l g _ q1 (g.2.2.2 0) ev [] (by omega) (by omega) f_q1 e0 e1 (by omega) (by omega) (Nat.zero_le _) nil_c) (zK_S hZ hS (fun q h => by subst h; exact ha9)) k_L_init_10 rfl rfl ⟨Nat.le_of_ble_eq_true rfl, Nat.le_of_ble_eq_true rfl⟩ rfl hl.1 rfl (Nat.le_of_ble_eq_true rfl) d_L_init_10 ⟨by show 0 + 1 + 28 ≤ 31; omega, by show 0 + 2 + 880 ≤ 1020; omega⟩) (fun v H L hC1 hp hL => ?_)
  have hS0 := hS
  have hS := hS_call hS hC1 hL (fun q h => by subst h; exact Or.inr ge_q1)
  have f0 := ob_kept f0 (hC_at hC1 (ob_lt f0) (fun z => absurd z (Nat.ne_of_lt lt_a_q1)))
  have hE := pS_mv hE (fun q h1 h2 => ⟨hC_at hC1 h2 (fun z => absurd z (by have := (hPE q h1).1; omega)), h1⟩)
  obtain ⟨rfl, fa9, fw9, hfa, hfw, f_q1, hfs⟩ := hp
  have hfa : s.heap.size ≤ fa9 := Nat.le_trans hS0.1 hfa
  have hfw : s.heap.size ≤ fw9 := Nat.le_trans hS0.1 hfw
  have hfl := sS_lt hfs
  have hq1b := ob_lt f_q1
  refine W.eq (g2 := F0 m 13 ls [.ref q1]) rfl ?_
  refine lv_astore_n (lv' := [(1, .ref q1), (0, .ref a)]) hx hb d_L_init_13 rfl hl (by decide) rfl (fun ls hl => ?_)
  refine lv_aload_n hx hb d_L_init_14 rfl (lv_at hl 1 rfl) ?_
  have hS0 := hS
  refine s_new (ci := 4) (C := R_R) (T := F_R) (N := 8) hx hb hts i_R t_R t_R_ok hown (hts _ (in_2 (List.mem_of_getElem? (i := 165) rfl) rfl)) (hts _ (in_2 (List.mem_of_getElem? (i := 166) rfl) rfl)) (hts _ (in_1 (List.mem_of_getElem? (i := 19) rfl) rfl)) hK hS rfl (fs := [.int 0, .int 0, .null, .null, .int 0, .int 0, .int 0, .long 0]) (by decide) (by show 0 + 1 + 28 + 1 ≤ 31; omega) (by show 0 + 2 + 880 + 8 ≤ 1020; omega) d_L_init_15 (fun q2 H hq f_q2 hz o1 hS => ?_)
  have lt_a_q2 : a < q2 := by rw [hq]; exact ob_lt f0
  have f0 := ob_kept f0 (o1 _ lt_a_q2)
  have hE := pS_mv hE (fun q h1 h2 => ⟨o1 q (by rw [hq]; exact h2), h1⟩)
  have lt_q1_q2 : q1 < q2 := by rw [hq]; exact ob_lt f_q1
  have f_q1 := ob_kept f_q1 (o1 _ lt_q1_q2)
  have hfs := sS_kept hfs (o1 _ (by rw [hq]; exact (sS_lt hfs).1)) (o1 _ (by rw [hq]; exact (sS_lt hfs).2))
  have ge_q2 : s.heap.size ≤ q2 := by rw [hq]; exact hS0.1
  have hfa2 : fa9 < q2 := by rw [hq]; exact hfl.1
  have hfw2 : fw9 < q2 := by rw [hq]; exact hfl.2
  have hq1q2 : q1 < q2 := lt_q1_q2
  refine lv_dup hx hb d_L_init_18 rfl ?_
  refine lv_iconst (v := (-1)) hx hb d_L_init_19 (by decide) ?_
  refine lv_iconst (v := (-1)) hx hb d_L_init_20 (by decide) ?_
  refine lv_aload_n hx hb d_L_init_21 rfl (lv_at hl 0 rfl) ?_
  refine lv_aload_n hx hb d_L_init_22 rfl (lv_at hl 0 rfl) ?_
  refine lv_iconst (v := (-1)) hx hb d_L_init_23 (by decide) ?_
  refine lv_iconst (v := (-1)) hx hb d_L_init_24 (by decide) ?_
  refine lv_iconst (v := (-1)) hx hb d_L_init_25 (by decide) ?_
  refine aW (N := (fun q => q = q2)) (rI (As := [.int ((-1)), .int ((-1)), .ref q1, .ref q1, .int ((-1)), .int ((-1)), .int ((-1))]) (rest := [.ref q2, .ref a]) C0 (c_R_init l g _ q2 q1 q1 (-1) (-1) (-1) (-1) (-1) [] [] f_q2 (by omega) ⟨g.2.2.2 0, fa9, by omega, f_q1, pS_P hE (fun q h1 _ => by have := (hPE q h1).1; omega), sS_pS hfs (by omega) (by omega)⟩ ⟨g.2.2.2 0, fa9, by omega, f_q1, pS_P hE (fun q h1 _ => by have := (hPE q h1).1; omega), sS_pS hfs (by omega) (by omega)⟩) (zK_S hZ hS (fun q h => by subst h; exact ha9)) k_L_init_26 rfl rfl ⟨Nat.le_of_ble_eq_true rfl, Nat.le_of_ble_eq_true rfl⟩ rfl hl.1 rfl (Nat.le_of_ble_eq_true rfl) d_L_init_26 ⟨by show 0 + 1 + 28 + 1 + 0 ≤ 31; omega, by show 0 + 2 + 880 + 8 + 0 ≤ 1020; omega⟩) (fun v H L hC1 hp hL => ?_)
  have hS0 := hS
  have hS := hS_call hS hC1 hL (fun q h => by subst h; exact Or.inr ge_q2)
  have f0 := ob_kept f0 (hC_at hC1 (ob_lt f0) (fun z => absurd z (by omega)))
  have hE := pS_mv hE (fun q h1 h2 => ⟨hC_at hC1 h2 (fun z => absurd z (by have := (hPE q h1).1; omega)), h1⟩)
  have f_q1 := ob_kept f_q1 (hC_at hC1 (ob_lt f_q1) (fun z => absurd z (by omega)))
  have hfs := sS_kept hfs (hC_at hC1 (sS_lt hfs).1 (fun z => absurd z (by omega))) (hC_at hC1 (sS_lt hfs).2 (fun z => absurd z (by omega)))
  obtain ⟨rfl, f_q2⟩ := hp
  have hq2b := ob_lt f_q2
  refine W.eq (g2 := F0 m 29 ls [.ref q2, .ref a]) rfl ?_
  refine s_putF (ci := 1) (C := R_L) (T := F_L) (N := 3) hx hb hts i_L t_L t_L_ok n_L hown hK hS (Or.inl rfl) f0 rfl 1 (by decide) (hts _ (in_2 (List.mem_of_getElem? (i := 222) rfl) rfl)) (fun _ h9 => h9) rfl hnm rfl (v := .ref q2) rfl rfl rfl (Nat.le_of_ble_eq_true rfl) (fs2 := [.null, .ref q2, .int 0]) rfl d_L_init_29 (fun H locs f0 hz oq hS => ?_)
  have hE := pS_mv hE (fun q h1 _ => ⟨oq q (hPE q h1).2, h1⟩)
  have f_q1 := ob_kept f_q1 (oq _ (Ne.symm (Nat.ne_of_lt lt_a_q1)))
  have hfs := sS_kept hfs (oq _ (by omega)) (oq _ (by omega))
  have f_q2 := ob_kept f_q2 (oq _ (Ne.symm (Nat.ne_of_lt lt_a_q2)))
  refine lv_aload_n hx hb d_L_init_32 rfl (lv_at hl 1 rfl) ?_
  refine lv_bipush (v := nI 120) hx hb d_L_init_33 (by decide) ?_
  have hS0 := hS
  refine s_newq hx hb hown (hts _ (in_2 (List.mem_of_getElem? (i := 165) rfl) rfl)) hK.2.2.1.1 hK hS 2 rfl (nI_pos (by omega)) (nI_clamp (by omega)) (by omega) (by show 0 + 1 + 28 + 1 + 0 + 1 ≤ 31; omega) (by show 0 + 2 + 880 + 8 + 0 + 120 ≤ 1020; omega) d_L_init_35 (fun q3 H hq f_q3 hz o1 hS => ?_)
  have lt_a_q3 : a < q3 := by rw [hq]; exact ob_lt f0
  have f0 := ob_kept f0 (o1 _ lt_a_q3)
  have hE := pS_mv hE (fun q h1 h2 => ⟨o1 q (by rw [hq]; exact h2), h1⟩)
  have lt_q1_q3 : q1 < q3 := by rw [hq]; exact ob_lt f_q1
  have f_q1 := ob_kept f_q1 (o1 _ lt_q1_q3)
  have hfs := sS_kept hfs (o1 _ (by rw [hq]; exact (sS_lt hfs).1)) (o1 _ (by rw [hq]; exact (sS_lt hfs).2))
  have lt_q2_q3 : q2 < q3 := by rw [hq]; exact ob_lt f_q2
  have f_q2 := ob_kept f_q2 (o1 _ lt_q2_q3)
  have ge_q3 : s.heap.size ≤ q3 := by rw [hq]; exact hS0.1
  have hq2q3 : q2 < q3 := lt_q2_q3
  refine s_putF (ci := 1) (C := R_L) (T := F_L) (N := 3) hx hb hts i_L t_L t_L_ok n_L hown hK hS (Or.inl rfl) f0 rfl 0 (by decide) (hts _ (in_2 (List.mem_of_getElem? (i := 221) rfl) rfl)) (fun _ h9 => h9) rfl hnm rfl (v := .ref q3) rfl rfl rfl (Nat.le_of_ble_eq_true rfl) (fs2 := [.ref q3, .ref q2, .int 0]) rfl d_L_init_38 (fun H locs f0 hz oq hS => ?_)
  have hE := pS_mv hE (fun q h1 _ => ⟨oq q (hPE q h1).2, h1⟩)
  have f_q1 := ob_kept f_q1 (oq _ (Ne.symm (Nat.ne_of_lt lt_a_q1)))
  have hfs := sS_kept hfs (oq _ (by omega)) (oq _ (by omega))
  have f_q2 := ob_kept f_q2 (oq _ (Ne.symm (Nat.ne_of_lt lt_a_q2)))
  have f_q3 := ar_kept f_q3 (oq _ (Ne.symm (Nat.ne_of_lt lt_a_q3)))
  refine lv_iconst (v := nI 0) hx hb d_L_init_41 (by decide) ?_
  refine lv_istore_n (lv' := [(2, .int (nI 0)), (1, .ref q1), (0, .ref a)]) hx hb d_L_init_42 rfl hl (by decide) rfl (fun ls hl => ?_)
  refine W.widen (k := 31) (n := 1020) (by omega) (by omega) ?_
  exact lp_L_init C0 hPE halt ge_q3 _ (by omega) (by omega) 121 0 _ H locs (by omega) (by omega) f0 f_q3 f_q2 ⟨q1, q1, Or.inl ⟨ge_q2, by omega⟩, f_q2, ⟨g.2.2.2 0, fa9, Or.inl ⟨ge_q1, by omega⟩, f_q1, pS_P hE (fun q h1 _ => Or.inr h1), sS_pS hfs (Or.inl ⟨hfa, by omega⟩) (Or.inl ⟨hfw, by omega⟩)⟩, ⟨g.2.2.2 0, fa9, Or.inl ⟨ge_q1, by omega⟩, f_q1, pS_P hE (fun q h1 _ => Or.inr h1), sS_pS hfs (Or.inl ⟨hfa, by omega⟩) (Or.inl ⟨hfw, by omega⟩)⟩⟩ hS ls (lv_sub hl [2, 0] rfl)
