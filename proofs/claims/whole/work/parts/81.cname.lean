theorem k_N_fold_4 : kI "RegistryLog$Name" 55 y_B_init0 b_B_init0 1 0 := ⟨(in_1 (List.mem_of_getElem? (i := 84) rfl) rfl), (in_1 (List.mem_of_getElem? (i := 37) rfl) rfl), (in_1 (List.mem_of_getElem? (i := 3) rfl) rfl), (in_1 (List.mem_of_getElem? (i := 38) rfl) rfl), rfl, ⟨by decide, by decide, by decide +kernel⟩⟩
theorem k_N_fold_12 : kV "RegistryLog$Name" 22 "java/lang/String" y_S_length b_S_length 1 (some .int) 0 := ⟨(in_1 (List.mem_of_getElem? (i := 85) rfl) rfl), (in_1 (List.mem_of_getElem? (i := 86) rfl) rfl), (in_1 (List.mem_of_getElem? (i := 87) rfl) rfl), (in_1 (List.mem_of_getElem? (i := 4) rfl) rfl), (in_1 (List.mem_of_getElem? (i := 88) rfl) rfl), ⟨by decide, by decide, by decide +kernel⟩⟩
theorem k_N_fold_20 : kV "RegistryLog$Name" 28 "java/lang/String" y_S_charAt b_S_charAt 2 (some .char) 1 := ⟨(in_1 (List.mem_of_getElem? (i := 94) rfl) rfl), (in_1 (List.mem_of_getElem? (i := 95) rfl) rfl), (in_1 (List.mem_of_getElem? (i := 96) rfl) rfl), (in_1 (List.mem_of_getElem? (i := 4) rfl) rfl), (in_1 (List.mem_of_getElem? (i := 97) rfl) rfl), ⟨by decide, by decide, by decide +kernel⟩⟩
theorem k_N_fold_32 : kV "RegistryLog$Name" 56 "java/lang/StringBuilder" y_B_append2 b_B_append2 2 (some (.object "java/lang/StringBuilder")) 1 := ⟨(in_1 (List.mem_of_getElem? (i := 132) rfl) rfl), (in_1 (List.mem_of_getElem? (i := 133) rfl) rfl), (in_1 (List.mem_of_getElem? (i := 134) rfl) rfl), (in_1 (List.mem_of_getElem? (i := 3) rfl) rfl), (in_1 (List.mem_of_getElem? (i := 135) rfl) rfl), ⟨by decide, by decide, by decide +kernel⟩⟩
theorem k_N_fold_43 : kV "RegistryLog$Name" 60 "java/lang/StringBuilder" y_B_toString b_B_toString 1 (some (.object "java/lang/String")) 0 := ⟨(in_1 (List.mem_of_getElem? (i := 207) rfl) rfl), (in_1 (List.mem_of_getElem? (i := 208) rfl) rfl), (in_1 (List.mem_of_getElem? (i := 209) rfl) rfl), (in_1 (List.mem_of_getElem? (i := 3) rfl) rfl), (in_1 (List.mem_of_getElem? (i := 210) rfl) rfl), ⟨by decide, by decide, by decide +kernel⟩⟩
set_option maxHeartbeats 4000000 in
set_option maxRecDepth 100000 in
theorem lp_N_fold {p : Program} {l : Launch} {e : Env} {s : State} {m : MethodId} {args : Array Value} {below : List Frame} {meth : Method} {c : Code} {g : gG} (C0 : cF g p s m args meth c b_N_fold 4 "RegistryLog$Name" (some (.object "java/lang/String"))) (hZ : zK g s s.heap) (hsz : g.2.2.1 ≤ s.heap.size) {sa sv q1 : Nat} {t : List Nat} (ht : t.length ≤ 24) (hch : ∀ c, t.getD c 0 < 128) (ge_q1 : s.heap.size ≤ q1) :
    ∀ (n i v : Nat) (H : Heap) (locs : List Loc), i ≤ t.length → t.length + 1 ≤ i + n → sO g H sa sv → bA g H sv t.length (ch t) → sa < s.heap.size → sv < s.heap.size → sB g H q1 v (foldT (t.take i)) → s.heap.size ≤ v → q1 ≠ v → va_S (fW s.heap no_) s.heap H locs → ∀ (ls : Array Slot), lv_has ls 4 [(0, .ref sa), (1, .ref q1), (2, .int (nI i))] → W p l e (rmk 6 28 880 133) s m args below meth c H locs (2 + i) (20 + 34 * i) (MQ below (qW s.heap no_ (fun r H1 => ∃ a w, s.heap.size ≤ a ∧ s.heap.size ≤ w ∧ r = some (.ref a) ∧ sS g H1 a w (foldT t))) args s 28 880 (fW s.heap no_)) (F0 m 10 ls []) := by
  obtain ⟨hx, hb, hml, hown, hts, hr, hlk, hK⟩ := id C0
  intro n
  induction n with
  | zero => intro i v H locs h1 h2; exact absurd h2 (by omega)
  | succ n ih =>
    intro i v H locs hi hin f0 f1 hsa hsv hB hv hqv hS ls hl
    have hle := fo_le t i
    refine lv_iload_n hx hb d_N_fold_10 rfl (lv_at hl 2 rfl) ?_
    refine lv_aload_n hx hb d_N_fold_11 rfl (lv_at hl 0 rfl) ?_
    refine aP (rV (As := []) (rest := [.int (nI i)]) C0 (c_S_length l g _ sa sv t.length (ch t) f0 f1) (zK_S hZ hS (fun _ h => h.elim)) k_N_fold_12 rfl rfl ⟨Nat.le_of_ble_eq_true rfl, Nat.le_of_ble_eq_true rfl⟩ (s_recv hK f0) rfl hl.1 rfl (Nat.le_of_ble_eq_true rfl) d_N_fold_12 ⟨by show (2 + i) + 0 ≤ 28; omega, by show (20 + 34 * i) + 0 ≤ 880; omega⟩) ?_
    intro v hv; subst hv
    refine W.eq (g2 := F0 m 15 ls [.int (nI t.length), .int (nI i)]) rfl ?_
    refine n_ge (tgt := 42) (a := i) (b := t.length) hx hb d_N_fold_15 (by decide) (by omega) (by omega) (fun c15 => ?_) (fun c15 => ?_)
    · skip
      refine lv_aload_n hx hb d_N_fold_42 rfl (lv_at hl 1 rfl) ?_
      have e9 : t.take i = t := List.take_of_length_le (by omega)
      rw [e9] at hB
      refine aW (N := no_) (rV (As := []) (rest := []) C0 (c_B_toString l g _ q1 v (foldT t) (by omega) hB) (zK_S hZ hS (fun _ h => h.elim)) k_N_fold_43 rfl rfl ⟨Nat.le_of_ble_eq_true rfl, Nat.le_of_ble_eq_true rfl⟩ (by obtain ⟨_, _, _, z0, _⟩ := id hB; exact ob_recv hK z0 rfl) rfl hl.1 rfl (Nat.le_of_ble_eq_true rfl) d_N_fold_43 ⟨by show (2 + i) + 2 ≤ 28; omega, by show (20 + 34 * i) + 38 ≤ 880; omega⟩) (fun v H L hC1 hp hL => ?_)
      have hS0 := hS
      have hS := hS_call hS hC1 hL (fun q h => h.elim)
      have f0 := sO_kept f0 (hC_at hC1 (sO_lt f0) (fun z => z))
      have f1 := bA_kept f1 (hC_at hC1 (bA_lt f1) (fun z => z))
      obtain ⟨a9, w9, ha9, hw9, rfl, hp⟩ := hp
      refine W.eq (g2 := F0 m 46 ls [.ref a9]) rfl ?_
      refine W.widen (k := 28) (n := 880) (by omega) (by omega) ?_
      exact W.aret hx hb hr (Or.inl ⟨_, rfl⟩) (Or.inr ⟨_, rfl⟩) (fun t9 ht hW => ⟨_, rfl, by rw [ht]; exact hS_hC hS, by rw [ht]; exact ⟨a9, w9, Nat.le_trans hS0.1 ha9, Nat.le_trans hS0.1 hw9, rfl, hp⟩⟩) hS.2.2 d_N_fold_46 hlk
    · skip
      refine lv_aload_n hx hb d_N_fold_18 rfl (lv_at hl 0 rfl) ?_
      refine lv_iload_n hx hb d_N_fold_19 rfl (lv_at hl 2 rfl) ?_
      have hci := hch i
      refine aP (rV (As := [.int (nI i)]) (rest := []) C0 (c_S_charAt l g _ sa sv t.length (ch t) (nI i) f0 f1 (vp_in_nI (by omega) (by omega)) (by omega) (by rw [nI_clamp (by omega)]; exact (ch_c _ (hch i)).1) (by rw [nI_clamp (by omega)]; exact (ch_c _ (hch i)).2)) (zK_S hZ hS (fun _ h => h.elim)) k_N_fold_20 rfl rfl ⟨Nat.le_of_ble_eq_true rfl, Nat.le_of_ble_eq_true rfl⟩ (s_recv hK f0) rfl hl.1 rfl (Nat.le_of_ble_eq_true rfl) d_N_fold_20 ⟨by show (2 + i) + 0 ≤ 28; omega, by show (20 + 34 * i) + 0 ≤ 880; omega⟩) ?_
      intro v hv
      subst hv
      refine W.eq (g2 := F0 m 23 ls [.int (nI (t.getD i 0))]) (by rw [nI_clamp (by omega)]; rfl) ?_
      refine lv_istore_n (lv' := [(3, .int (nI (t.getD i 0))), (0, .ref sa), (1, .ref q1), (2, .int (nI i))]) hx hb d_N_fold_23 rfl hl (by decide) rfl (fun ls hl => ?_)
      refine lv_iload_n hx hb d_N_fold_24 rfl (lv_at hl 0 rfl) ?_
      refine lv_bipush (v := nI 45) hx hb d_N_fold_25 (by decide) ?_
      refine n_eq (tgt := 36) (a := t.getD i 0) (b := 45) hx hb d_N_fold_27 (by decide) (by omega) (by omega) (fun c27 => ?_) (fun c27 => ?_)
      · skip
        refine n_inc (a := i) (lv' := [(2, .int (nI (i + 1))), (3, .int (nI (t.getD i 0))), (0, .ref sa), (1, .ref q1)]) hx hb d_N_fold_36 hl (k := 3) rfl (by decide) rfl (fun ls hl => ?_)
        refine lv_goto (tgt := 10) hx hb d_N_fold_39 (by decide) ?_
        have hB : sB g H q1 v (foldT (t.take (i + 1))) := by rw [fo_s (by omega), if_pos c27]; exact hB
        refine W.widen (k := 2 + (i + 1)) (n := 20 + 34 * (i + 1)) (by omega) (by omega) ?_
        exact ih (i + 1) _ H _ (by omega) (by omega) f0 f1 hsa hsv hB hv hqv hS ls (lv_sub hl [2, 3, 0] rfl)
      · skip
        refine lv_aload_n hx hb d_N_fold_30 rfl (lv_at hl 2 rfl) ?_
        refine lv_iload_n hx hb d_N_fold_31 rfl (lv_at hl 0 rfl) ?_
        have h45 : foldT (t.take (i + 1)) = foldT (t.take i) ++ [t.getD i 0] := by rw [fo_s (by omega), if_neg c27]
        refine aW (N := (fun q => q = q1 ∨ q = v)) (rV (As := [.int (nI (t.getD i 0))]) (rest := []) C0 (c_B_append2 l g _ q1 v (t.getD i 0) (foldT (t.take i)) (by omega) (by omega) hqv hB (by omega) hci) (zK_S hZ hS (fun _ h => h.elim)) k_N_fold_32 rfl rfl ⟨Nat.le_of_ble_eq_true rfl, Nat.le_of_ble_eq_true rfl⟩ (by obtain ⟨_, _, _, z0, _⟩ := id hB; exact ob_recv hK z0 rfl) rfl hl.1 rfl (Nat.le_of_ble_eq_true rfl) d_N_fold_32 ⟨by show (2 + i) + 1 ≤ 28; omega, by show (20 + 34 * i) + 34 ≤ 880; omega⟩) (fun v H L hC1 hp hL => ?_)
        have hS0 := hS
        have hS := hS_call hS hC1 hL (fun q h => h.elim (fun z => by subst z; exact Or.inr ge_q1) (fun z => by subst z; exact Or.inr hv))
        have f0 := sO_kept f0 (hC_at hC1 (sO_lt f0) (fun z => z.elim (fun z => absurd z (by omega)) (fun z => absurd z (by omega))))
        have f1 := bA_kept f1 (hC_at hC1 (bA_lt f1) (fun z => z.elim (fun z => absurd z (by omega)) (fun z => absurd z (by omega))))
        obtain ⟨rfl, v2, hB2, hv2⟩ := hp
        have hv : s.heap.size ≤ v2 := hv2.elim (fun z => by rw [z]; exact hv) (fun z => Nat.le_trans hS0.1 z)
        have hqv : q1 ≠ v2 := hv2.elim (fun z => by rw [z]; exact hqv) (fun z => Nat.ne_of_lt (Nat.lt_of_lt_of_le (sB_b hB).1 z))
        have hB := hB2
        rw [← h45] at hB
        refine W.eq (g2 := F0 m 35 ls [.ref q1]) rfl ?_
        refine lv_pop hx hb d_N_fold_35 rfl ?_
        refine n_inc (a := i) (lv' := [(2, .int (nI (i + 1))), (3, .int (nI (t.getD i 0))), (0, .ref sa), (1, .ref q1)]) hx hb d_N_fold_36 hl (k := 3) rfl (by decide) rfl (fun ls hl => ?_)
        refine lv_goto (tgt := 10) hx hb d_N_fold_39 (by decide) ?_
        refine W.widen (k := 2 + (i + 1)) (n := 20 + 34 * (i + 1)) (by omega) (by omega) ?_
        exact ih (i + 1) _ H _ (by omega) (by omega) f0 f1 hsa hsv hB hv hqv hS ls (lv_sub hl [2, 3, 0] rfl)
set_option maxHeartbeats 4000000 in
set_option maxRecDepth 100000 in
/-- Name.fold -/
theorem c_N_fold (l : Launch) (g : gG) (H : Heap) (sa sv : Nat) (t : List Nat) (hsz : g.2.2.1 ≤ H.size) (f0 : sO g H sa sv) (f1 : bA g H sv t.length (ch t)) (ht : t.length ≤ 24) (hch : ∀ c, t.getD c 0 < 128) : Met l y_N_fold (wC y_N_fold b_N_fold 4 (some (.object "java/lang/String"))) (rmk 6 28 880 133) (pC g H [.ref sa]) (qW H no_ (fun r H1 => ∃ a w, H.size ≤ a ∧ H.size ≤ w ∧ r = some (.ref a) ∧ sS g H1 a w (foldT t))) 28 880 (fW H no_) := by
  refine mB (by decide) (Nat.le_of_ble_eq_true rfl) ?_
  intro p e s m below meth c ls C0 hH hZ hnm hl
  have C0 : cF g p s m _ meth c b_N_fold 4 "RegistryLog$Name" (some (.object "java/lang/String")) := C0
  obtain ⟨hx, hb, hml, hown, hts, hr, hlk, hK⟩ := id C0
  subst hH
  have hl : lv_has ls 4 [(0, .ref sa)] := hl
  have hS : va_S (fW s.heap no_) s.heap s.heap [] := hS_rf
  have hsa := sO_lt f0
  have hsv := bA_lt f1
  have hS0 := hS
  refine s_new (ci := 7) (C := R_B) (T := F_B) (N := 4) hx hb hts i_B t_B t_B_ok hown (hts _ (in_1 (List.mem_of_getElem? (i := 83) rfl) rfl)) (hts _ (in_1 (List.mem_of_getElem? (i := 35) rfl) rfl)) (hts _ (in_1 (List.mem_of_getElem? (i := 3) rfl) rfl)) hK hS rfl (fs := [.null, .int 0, .int 0, .int 0]) (by decide) (by show 0 + 1 ≤ 28; omega) (by show 0 + 4 ≤ 880; omega) d_N_fold_0 (fun q1 H hq f_q1 hz o1 hS => ?_)
  have lt_sa_q1 : sa < q1 := by rw [hq]; exact sO_lt f0
  have f0 := sO_kept f0 (o1 _ lt_sa_q1)
  have lt_sv_q1 : sv < q1 := by rw [hq]; exact bA_lt f1
  have f1 := bA_kept f1 (o1 _ lt_sv_q1)
  have ge_q1 : s.heap.size ≤ q1 := by rw [hq]; exact hS0.1
  have hq1lt := ob_lt f_q1
  refine lv_dup hx hb d_N_fold_3 rfl ?_
  refine aW (N := (fun q => q = q1)) (rI (As := []) (rest := [.ref q1]) C0 (c_B_init0 l g _ q1 (by omega) f_q1) (zK_S hZ hS (fun _ h => h.elim)) k_N_fold_4 rfl rfl ⟨Nat.le_of_ble_eq_true rfl, Nat.le_of_ble_eq_true rfl⟩ rfl hl.1 rfl (Nat.le_of_ble_eq_true rfl) d_N_fold_4 ⟨by show 0 + 1 + 1 ≤ 28; omega, by show 0 + 4 + 16 ≤ 880; omega⟩) (fun v H L hC1 hp hL => ?_)
  have hS0 := hS
  have hS := hS_call hS hC1 hL (fun q h => by subst h; exact Or.inr ge_q1)
  have f0 := sO_kept f0 (hC_at hC1 (sO_lt f0) (fun z => absurd z (by omega)))
  have f1 := bA_kept f1 (hC_at hC1 (bA_lt f1) (fun z => absurd z (by omega)))
  obtain ⟨rfl, v9, hv9, hB⟩ := hp
  have hqv : q1 ≠ v9 := Nat.ne_of_lt (Nat.lt_of_lt_of_le hq1lt hv9)
  refine W.eq (g2 := F0 m 7 ls [.ref q1]) rfl ?_
  refine lv_astore_n (lv' := [(1, .ref q1), (0, .ref sa)]) hx hb d_N_fold_7 rfl hl (by decide) rfl (fun ls hl => ?_)
  refine lv_iconst (v := nI 0) hx hb d_N_fold_8 (by decide) ?_
  refine lv_istore_n (lv' := [(2, .int (nI 0)), (1, .ref q1), (0, .ref sa)]) hx hb d_N_fold_9 rfl hl (by decide) rfl (fun ls hl => ?_)
  exact lp_N_fold C0 hZ hsz ht hch ge_q1 (t.length + 1) 0 v9 H _ (Nat.zero_le _) (by omega) f0 f1 hsa hsv (by rw [List.take_zero]; exact hB) (Nat.le_trans hS0.1 hv9) hqv hS ls (lv_sub hl [2, 1, 0] rfl)
theorem k_N_init_11 : kS "RegistryLog$Name" 15 y_N_fold b_N_fold 4 (some (.object "java/lang/String")) 1 := ⟨(in_1 (List.mem_of_getElem? (i := 80) rfl) rfl), (in_1 (List.mem_of_getElem? (i := 81) rfl) rfl), (in_1 (List.mem_of_getElem? (i := 7) rfl) rfl), (in_1 (List.mem_of_getElem? (i := 82) rfl) rfl), ⟨by decide, by decide, by decide +kernel⟩⟩
set_option maxHeartbeats 4000000 in
set_option maxRecDepth 100000 in
/-- Name.<init> -/
theorem c_N_init (l : Launch) (g : gG) (H : Heap) (a sa sv : Nat) (t : List Nat) (hsz : g.2.2.1 ≤ H.size) (ha9 : g.2.2.1 ≤ a) (f9 : ob g H a 2 [.null, .null]) (f0 : sO g H sa sv) (f1 : bA g H sv t.length (ch t)) (hasa : a ≠ sa) (hasv : a ≠ sv) (ht : t.length ≤ 24) (hch : ∀ c, t.getD c 0 < 128) : Met l y_N_init (wC y_N_init b_N_init 2 none) (rmk 7 28 880 156) (pC g H [.ref a, .ref sa]) (qW H (fun q => q = a) (fun r H1 => r = none ∧ ∃ fa w, H.size ≤ fa ∧ H.size ≤ w ∧ ob g H1 a 2 [.ref sa, .ref fa] ∧ sS g H1 fa w (foldT t))) 28 880 (fW H (fun q => q = a)) := by
  refine mB (by decide) (Nat.le_of_ble_eq_true rfl) ?_
  intro p e s m below meth c ls C0 hH hZ hnm hl
  have C0 : cF g p s m _ meth c b_N_init 2 "RegistryLog$Name" none := C0
  obtain ⟨hx, hb, hml, hown, hts, hr, hlk, hK⟩ := id C0
  subst hH
  have hl : lv_has ls 2 [(0, .ref a), (1, .ref sa)] := hl
  have hS : va_S (fW s.heap (fun q => q = a)) s.heap s.heap [] := hS_rf
  have a9lt := ob_lt f9
  refine lv_aload_n hx hb d_N_init_0 rfl (lv_at hl 0 rfl) ?_
  refine W.objInit hx hb hown (hts (.methodLink "RegistryLog$Name" 3 Lib.objectInit) (in_1 (List.mem_of_getElem? (i := 79) rfl) rfl)) (hts (.instanceMethod Lib.objectInit) (in_1 (List.mem_of_getElem? (i := 32) rfl) rfl)) (hts (.code Lib.objectInit ⟨#[0xb1]⟩ 1 none) (in_1 (List.mem_of_getElem? (i := 33) rfl) rfl)) rfl (by rw [hml]; exact hl.1) rfl d_N_init_1 (Nat.le_of_ble_eq_true rfl) (Nat.le_of_ble_eq_true rfl) ?_
  refine W.eq (g2 := F0 m 4 ls []) rfl ?_
  refine lv_aload_n hx hb d_N_init_4 rfl (lv_at hl 0 rfl) ?_
  refine lv_aload_n hx hb d_N_init_5 rfl (lv_at hl 1 rfl) ?_
  refine s_putF (ci := 2) (C := R_N) (T := F_N) (N := 2) hx hb hts i_N t_N t_N_ok n_N hown hK hS (Or.inl rfl) f9 rfl 0 (by decide) (hts _ (in_2 (List.mem_of_getElem? (i := 157) rfl) rfl)) (fun _ h9 => h9) rfl hnm rfl (v := .ref sa) rfl rfl rfl (Nat.le_of_ble_eq_true rfl) (fs2 := [.ref sa, .null]) rfl d_N_init_6 (fun H locs f9 hz oq hS => ?_)
  have f0 := sO_kept f0 (oq _ (Ne.symm (hasa)))
  have f1 := bA_kept f1 (oq _ (Ne.symm (hasv)))
  refine lv_aload_n hx hb d_N_init_9 rfl (lv_at hl 0 rfl) ?_
  refine lv_aload_n hx hb d_N_init_10 rfl (lv_at hl 1 rfl) ?_
  refine aW (N := no_) (rS (As := [.ref sa]) (rest := [.ref a]) C0 (c_N_fold l g _ sa sv t (Nat.le_trans hsz hS.1) f0 f1 ht hch) (zK_S hZ hS (fun q h => by subst h; exact ha9)) k_N_init_11 rfl rfl ⟨Nat.le_of_ble_eq_true rfl, Nat.le_of_ble_eq_true rfl⟩ rfl hl.1 rfl (Nat.le_of_ble_eq_true rfl) d_N_init_11 ⟨by show 0 + 28 ≤ 28; omega, by show 0 + 880 ≤ 880; omega⟩) (fun v H L hC1 hp hL => ?_)
  have hS0 := hS
  have hS := hS_call hS hC1 hL (fun q h => h.elim)
  have f9 := ob_kept f9 (hC_at hC1 (ob_lt f9) (fun z => z))
  have f0 := sO_kept f0 (hC_at hC1 (sO_lt f0) (fun z => z))
  have f1 := bA_kept f1 (hC_at hC1 (bA_lt f1) (fun z => z))
  obtain ⟨fa9, fw9, hfa, hfw, rfl, hp⟩ := hp
  have hfa : s.heap.size ≤ fa9 := Nat.le_trans hS0.1 hfa
  have hfw : s.heap.size ≤ fw9 := Nat.le_trans hS0.1 hfw
  have ltf := sS_lt hp
  refine W.eq (g2 := F0 m 14 ls [.ref fa9, .ref a]) rfl ?_
  refine s_putF (ci := 2) (C := R_N) (T := F_N) (N := 2) hx hb hts i_N t_N t_N_ok n_N hown hK hS (Or.inl rfl) f9 rfl 1 (by decide) (hts _ (in_2 (List.mem_of_getElem? (i := 159) rfl) rfl)) (fun _ h9 => h9) rfl hnm rfl (v := .ref fa9) rfl rfl rfl (Nat.le_of_ble_eq_true rfl) (fs2 := [.ref sa, .ref fa9]) rfl d_N_init_14 (fun H locs f9 hz oq hS => ?_)
  have f0 := sO_kept f0 (oq _ (Ne.symm (hasa)))
  have f1 := bA_kept f1 (oq _ (Ne.symm (hasv)))
  have hp := sS_kept hp (oq _ (Ne.symm (Nat.ne_of_lt (Nat.lt_of_lt_of_le a9lt hfa)))) (oq _ (Ne.symm (Nat.ne_of_lt (Nat.lt_of_lt_of_le a9lt hfw))))
  refine W.widen (k := 28) (n := 880) (by omega) (by omega) ?_
  exact W.vret hx hb hr (fun t9 ht hW => ⟨_, rfl, by rw [ht]; exact hS_hC hS, by rw [ht]; exact ⟨rfl, fa9, fw9, hfa, hfw, f9, hp⟩⟩) hS.2.2 d_N_init_17 hlk
