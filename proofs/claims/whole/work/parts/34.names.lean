theorem cbS_le : ∀ (t u : List Nat), cbS t u ≤ t.length
  | [], u => by unfold cbS; exact Nat.zero_le _
  | x :: t, [] => by unfold cbS; exact Nat.zero_le _
  | x :: t, y :: u => by
    unfold cbS
    split
    · have := cbS_le t u; simp only [List.length_cons]; omega
    · exact Nat.zero_le _
theorem ab_ {a b : Nat} (ha : a < 2 ^ 30) (hb : b < 2 ^ 30) : (if 0 ≤ nI a - nI b then nI a - nI b else 0 - (nI a - nI b)) = nI (if b ≤ a then a - b else b - a) := by
  by_cases h : b ≤ a
  · rw [if_pos h, pk_sub h, if_pos (nI_pos' (by omega))]
  · have h2 : nI a - nI b < 0 := pk_sneg hb (by omega)
    rw [if_neg h, if_neg (Int32.not_le.mpr h2), Int32.zero_sub, Int32.neg_sub, pk_sub (by omega)]
/-- NAMES -/
def nmS : List Nat → Bool → Bool
  | [], b => b
  | c :: t, b => if 97 ≤ c ∧ c ≤ 122 then nmS t true else if c = 45 ∧ b = true then nmS t false else false
def nameS (t : List Nat) : Bool := decide (1 ≤ t.length ∧ t.length ≤ 10) && nmS t false

theorem k_N_isNear_4 : kV "RegistryLog$Name" 22 "java/lang/String" y_S_length b_S_length 1 (some .int) 0 := ⟨(in_1 (List.mem_of_getElem? (i := 85) rfl) rfl), (in_1 (List.mem_of_getElem? (i := 86) rfl) rfl), (in_1 (List.mem_of_getElem? (i := 87) rfl) rfl), (in_1 (List.mem_of_getElem? (i := 4) rfl) rfl), (in_1 (List.mem_of_getElem? (i := 88) rfl) rfl), ⟨by decide, by decide, by decide +kernel⟩⟩
theorem k_N_isNear_12 : kV "RegistryLog$Name" 22 "java/lang/String" y_S_length b_S_length 1 (some .int) 0 := ⟨(in_1 (List.mem_of_getElem? (i := 85) rfl) rfl), (in_1 (List.mem_of_getElem? (i := 86) rfl) rfl), (in_1 (List.mem_of_getElem? (i := 87) rfl) rfl), (in_1 (List.mem_of_getElem? (i := 4) rfl) rfl), (in_1 (List.mem_of_getElem? (i := 88) rfl) rfl), ⟨by decide, by decide, by decide +kernel⟩⟩
theorem k_N_isNear_36 : kS "RegistryLog$Name" 42 y_N_commonBeginning b_N_commonBeginning 4 (some .int) 2 := ⟨(in_4 (List.mem_of_getElem? (i := 74) rfl) rfl), (in_4 (List.mem_of_getElem? (i := 75) rfl) rfl), (in_1 (List.mem_of_getElem? (i := 7) rfl) rfl), (in_4 (List.mem_of_getElem? (i := 76) rfl) rfl), ⟨by decide, by decide, by decide +kernel⟩⟩
theorem k_N_isNear_47 : kS "RegistryLog$Name" 46 y_N_commonEnd b_N_commonEnd 4 (some .int) 2 := ⟨(in_4 (List.mem_of_getElem? (i := 78) rfl) rfl), (in_4 (List.mem_of_getElem? (i := 79) rfl) rfl), (in_1 (List.mem_of_getElem? (i := 7) rfl) rfl), (in_4 (List.mem_of_getElem? (i := 80) rfl) rfl), ⟨by decide, by decide, by decide +kernel⟩⟩
set_option maxHeartbeats 4000000 in
set_option maxRecDepth 100000 in
/-- Name.isNear -/
theorem c_N_isNear (l : Launch) (g : gG) (H : Heap) (a b : Nat) (t u : List Nat) (h : isN g H a t) (h2 : isN g H b u) : Met l y_N_isNear (wC y_N_isNear b_N_isNear 4 (some .boolean)) (rmk 5 0 0 108) (pC g H [.ref a, .ref b]) (qP H (fun v => v = some (.int (bI (nearS t u))))) 0 0 no_ := by
  refine mB (by decide) (Nat.le_of_ble_eq_true rfl) ?_
  intro p e s m below meth c ls C0 hH hZ hnm hl
  have C0 : cF g p s m _ meth c b_N_isNear 4 "RegistryLog$Name" (some .boolean) := C0
  obtain ⟨hx, hb, hml, hown, hts, hr, hlk, hK⟩ := id C0
  subst hH
  have hl : lv_has ls 4 [(0, .ref a), (1, .ref b)] := hl
  obtain ⟨sa, fa, n0, n1, n2⟩ := h
  obtain ⟨sb, fb, k0, k1, k2⟩ := h2
  obtain ⟨_, _, _, hc1, hn1⟩ := id n2
  obtain ⟨_, _, _, hc2, hn2⟩ := id k2
  refine lv_aload_n hx hb d_N_isNear_0 rfl (lv_at hl 0 rfl) ?_
  refine va_get (D := g.1) (ci := 2) (C := R_N) (T := F_N) (N := 2) hx hb hts i_N hown hK.1 n0 0 rfl rfl 1 (by decide) (hts (.fieldLink "RegistryLog$Name" 19 "RegistryLog$Name" "folded" "Ljava/lang/String;") (in_2 (List.mem_of_getElem? (i := 159) rfl) rfl)) (fun _ h9 => h9) rfl d_N_isNear_1 ?_
  refine aP (rV (As := []) (rest := []) C0 (s_len n2) hZ k_N_isNear_4 rfl rfl ⟨Nat.le_of_ble_eq_true rfl, Nat.le_of_ble_eq_true rfl⟩ (isS_recv hK n2) rfl hl.1 rfl (Nat.le_of_ble_eq_true rfl) d_N_isNear_4 ⟨Nat.zero_le _, Nat.zero_le _⟩) ?_
  intro v hv; subst hv
  refine W.eq (g2 := F0 m 7 ls [.int (nI (foldT t).length)]) rfl ?_
  refine lv_istore_n (lv' := [(2, .int (nI (foldT t).length)), (0, .ref a), (1, .ref b)]) hx hb d_N_isNear_7 rfl hl (by decide) rfl (fun ls hl => ?_)
  refine lv_aload_n hx hb d_N_isNear_8 rfl (lv_at hl 2 rfl) ?_
  refine va_get (D := g.1) (ci := 2) (C := R_N) (T := F_N) (N := 2) hx hb hts i_N hown hK.1 k0 0 rfl rfl 1 (by decide) (hts (.fieldLink "RegistryLog$Name" 19 "RegistryLog$Name" "folded" "Ljava/lang/String;") (in_2 (List.mem_of_getElem? (i := 159) rfl) rfl)) (fun _ h9 => h9) rfl d_N_isNear_9 ?_
  refine aP (rV (As := []) (rest := []) C0 (s_len k2) hZ k_N_isNear_12 rfl rfl ⟨Nat.le_of_ble_eq_true rfl, Nat.le_of_ble_eq_true rfl⟩ (isS_recv hK k2) rfl hl.1 rfl (Nat.le_of_ble_eq_true rfl) d_N_isNear_12 ⟨Nat.zero_le _, Nat.zero_le _⟩) ?_
  intro v hv; subst hv
  refine W.eq (g2 := F0 m 15 ls [.int (nI (foldT u).length)]) rfl ?_
  refine lv_istore_n (lv' := [(3, .int (nI (foldT u).length)), (2, .int (nI (foldT t).length)), (0, .ref a), (1, .ref b)]) hx hb d_N_isNear_15 rfl hl (by decide) rfl (fun ls hl => ?_)
  refine lv_iload_n hx hb d_N_isNear_16 rfl (lv_at hl 1 rfl) ?_
  refine lv_iload_n hx hb d_N_isNear_17 rfl (lv_at hl 0 rfl) ?_
  refine lv_isub hx hb d_N_isNear_18 ?_
  refine va_mabs hx hb (by rw [hml]; exact hl.1.symm) hown (hts _ (in_4 (List.mem_of_getElem? (i := 71) rfl) rfl)) (hts _ (in_4 (List.mem_of_getElem? (i := 72) rfl) rfl)) (hts _ (in_1 (List.mem_of_getElem? (i := 11) rfl) rfl)) (hts _ (in_4 (List.mem_of_getElem? (i := 73) rfl) rfl)) (Nat.le_of_ble_eq_true rfl) (Nat.le_of_ble_eq_true rfl) (Nat.zero_le _) (Nat.zero_le _) d_N_isNear_19 ?_
  rw [ab_ (by omega) (by omega)]
  refine lv_iconst (v := 1) hx hb d_N_isNear_22 (by decide) ?_
  refine lv_icmp_le (tgt := 28) hx hb d_N_isNear_23 (by decide) (fun c23 => ?_) (fun c23 => ?_)
  · skip
    have hd : (foldT t).length ≤ (foldT u).length + 1 ∧ (foldT u).length ≤ (foldT t).length + 1 := by
      have := (nI_leI (by split <;> omega) (by omega)).mp (show nI _ ≤ nI 1 from c23)
      split at this <;> omega
    refine lv_aload_n hx hb d_N_isNear_28 rfl (lv_at hl 2 rfl) ?_
    refine va_get (D := g.1) (ci := 2) (C := R_N) (T := F_N) (N := 2) hx hb hts i_N hown hK.1 n0 0 rfl rfl 1 (by decide) (hts (.fieldLink "RegistryLog$Name" 19 "RegistryLog$Name" "folded" "Ljava/lang/String;") (in_2 (List.mem_of_getElem? (i := 159) rfl) rfl)) (fun _ h9 => h9) rfl d_N_isNear_29 ?_
    refine lv_aload_n hx hb d_N_isNear_32 rfl (lv_at hl 3 rfl) ?_
    refine va_get (D := g.1) (ci := 2) (C := R_N) (T := F_N) (N := 2) hx hb hts i_N hown hK.1 k0 0 rfl rfl 1 (by decide) (hts (.fieldLink "RegistryLog$Name" 19 "RegistryLog$Name" "folded" "Ljava/lang/String;") (in_2 (List.mem_of_getElem? (i := 159) rfl) rfl)) (fun _ h9 => h9) rfl d_N_isNear_33 ?_
    refine aP (rS (As := [.ref fa, .ref fb]) (rest := []) C0 (c_N_commonBeginning l g s.heap fa fb _ _ n2 k2) hZ k_N_isNear_36 rfl rfl ⟨Nat.le_of_ble_eq_true rfl, Nat.le_of_ble_eq_true rfl⟩ rfl hl.1 rfl (Nat.le_of_ble_eq_true rfl) d_N_isNear_36 ⟨Nat.zero_le _, Nat.zero_le _⟩) ?_
    intro v hv; subst hv
    refine W.eq (g2 := F0 m 39 ls [.int (nI (cbS (foldT t) (foldT u)))]) rfl ?_
    refine lv_aload_n hx hb d_N_isNear_39 rfl (lv_at hl 2 rfl) ?_
    refine va_get (D := g.1) (ci := 2) (C := R_N) (T := F_N) (N := 2) hx hb hts i_N hown hK.1 n0 0 rfl rfl 1 (by decide) (hts (.fieldLink "RegistryLog$Name" 19 "RegistryLog$Name" "folded" "Ljava/lang/String;") (in_2 (List.mem_of_getElem? (i := 159) rfl) rfl)) (fun _ h9 => h9) rfl d_N_isNear_40 ?_
    refine lv_aload_n hx hb d_N_isNear_43 rfl (lv_at hl 3 rfl) ?_
    refine va_get (D := g.1) (ci := 2) (C := R_N) (T := F_N) (N := 2) hx hb hts i_N hown hK.1 k0 0 rfl rfl 1 (by decide) (hts (.fieldLink "RegistryLog$Name" 19 "RegistryLog$Name" "folded" "Ljava/lang/String;") (in_2 (List.mem_of_getElem? (i := 159) rfl) rfl)) (fun _ h9 => h9) rfl d_N_isNear_44 ?_
    refine aP (rS (As := [.ref fa, .ref fb]) (rest := [.int (nI (cbS (foldT t) (foldT u)))]) C0 (c_N_commonEnd l g s.heap fa fb _ _ n2 k2) hZ k_N_isNear_47 rfl rfl ⟨Nat.le_of_ble_eq_true rfl, Nat.le_of_ble_eq_true rfl⟩ rfl hl.1 rfl (Nat.le_of_ble_eq_true rfl) d_N_isNear_47 ⟨Nat.zero_le _, Nat.zero_le _⟩) ?_
    intro v hv; subst hv
    refine W.eq (g2 := F0 m 50 ls [.int (nI (cbS (foldT t).reverse (foldT u).reverse)), .int (nI (cbS (foldT t) (foldT u)))]) rfl ?_
    refine lv_iadd hx hb d_N_isNear_50 ?_
    refine lv_iload_n hx hb d_N_isNear_51 rfl (lv_at hl 1 rfl) ?_
    refine lv_iload_n hx hb d_N_isNear_52 rfl (lv_at hl 0 rfl) ?_
    refine va_mmax hx hb (by rw [hml]; exact hl.1.symm) hown (hts _ (in_4 (List.mem_of_getElem? (i := 81) rfl) rfl)) (hts _ (in_1 (List.mem_of_getElem? (i := 151) rfl) rfl)) (hts _ (in_1 (List.mem_of_getElem? (i := 11) rfl) rfl)) (hts _ (in_1 (List.mem_of_getElem? (i := 152) rfl) rfl)) (Nat.le_of_ble_eq_true rfl) (Nat.le_of_ble_eq_true rfl) (Nat.zero_le _) (Nat.zero_le _) d_N_isNear_53 ?_
    rw [mx_ (by omega) (by omega)]
    refine lv_iconst (v := 1) hx hb d_N_isNear_56 (by decide) ?_
    refine lv_isub hx hb d_N_isNear_57 ?_
    rw [nI_add]
    have hcmp : (nI (cbS (foldT t) (foldT u) + cbS (foldT t).reverse (foldT u).reverse) < nI (max (foldT t).length (foldT u).length) - 1) ↔ cbS (foldT t) (foldT u) + cbS (foldT t).reverse (foldT u).reverse + 1 < max (foldT t).length (foldT u).length := by
      have q1 := cbS_le (foldT t) (foldT u)
      have q2 := cbS_le (foldT t).reverse (foldT u).reverse
      rw [List.length_reverse] at q2
      rw [Int32.lt_iff_toInt_lt, nI_toInt (by omega), show (1 : Int32) = nI 1 from rfl, pk_sub_toInt (by omega) (by omega)]
      omega
    refine lv_icmp_lt (tgt := 65) hx hb d_N_isNear_58 (by decide) (fun c58 => ?_) (fun c58 => ?_)
    · skip
      refine lv_iconst (v := 0) hx hb d_N_isNear_65 (by decide) ?_
      have c58 := hcmp.mp c58
      exact W.zret hx hb hr rfl (fun t9 ht hW => ⟨_, rfl, by rw [nearS, decide_eq_false (fun z => absurd z.2.2 (by omega))]; rfl, ht⟩) (fun q h => by cases h) d_N_isNear_66 hlk
    · skip
      refine lv_iconst (v := 1) hx hb d_N_isNear_61 (by decide) ?_
      refine lv_goto (tgt := 66) hx hb d_N_isNear_62 (by decide) ?_
      have c58 := Nat.le_of_not_lt (fun z => c58 (hcmp.mpr z))
      exact W.zret hx hb hr rfl (fun t9 ht hW => ⟨_, rfl, by rw [nearS, decide_eq_true ⟨hd.1, hd.2, by omega⟩]; rfl, ht⟩) (fun q h => by cases h) d_N_isNear_66 hlk
  · skip
    refine lv_iconst (v := 0) hx hb d_N_isNear_26 (by decide) ?_
    exact W.zret hx hb hr rfl (fun t9 ht hW => ⟨_, rfl, by rw [nearS, decide_eq_false (fun z => c23 (show nI _ ≤ nI 1 from nI_le (by split <;> omega) (by omega)))]; rfl, ht⟩) (fun q h => by cases h) d_N_isNear_27 hlk
theorem k_L_isFree_12 : kV "RegistryLog$Ledger" 35 "RegistryLog$Ledger" y_L_at b_L_at 2 (some (.object "RegistryLog$Row")) 1 := ⟨(in_3 (List.mem_of_getElem? (i := 236) rfl) rfl), (in_3 (List.mem_of_getElem? (i := 47) rfl) rfl), (in_3 (List.mem_of_getElem? (i := 48) rfl) rfl), (in_1 (List.mem_of_getElem? (i := 6) rfl) rfl), (in_3 (List.mem_of_getElem? (i := 49) rfl) rfl), ⟨by decide, by decide, by decide +kernel⟩⟩
theorem k_L_isFree_23 : kV "RegistryLog$Ledger" 46 "RegistryLog$Name" y_N_isSame b_N_isSame 2 (some .boolean) 1 := ⟨(in_3 (List.mem_of_getElem? (i := 237) rfl) rfl), (in_3 (List.mem_of_getElem? (i := 238) rfl) rfl), (in_3 (List.mem_of_getElem? (i := 239) rfl) rfl), (in_1 (List.mem_of_getElem? (i := 7) rfl) rfl), (in_4 (List.mem_of_getElem? (i := 0) rfl) rfl), ⟨by decide, by decide, by decide +kernel⟩⟩
theorem k_L_isFree_46 : kV "RegistryLog$Ledger" 56 "RegistryLog$Name" y_N_isNear b_N_isNear 4 (some .boolean) 1 := ⟨(in_4 (List.mem_of_getElem? (i := 67) rfl) rfl), (in_4 (List.mem_of_getElem? (i := 68) rfl) rfl), (in_4 (List.mem_of_getElem? (i := 69) rfl) rfl), (in_1 (List.mem_of_getElem? (i := 7) rfl) rfl), (in_4 (List.mem_of_getElem? (i := 70) rfl) rfl), ⟨by decide, by decide, by decide +kernel⟩⟩
theorem k_L_isFree_58 : kV "RegistryLog$Ledger" 59 "RegistryLog$Ledger" y_L_originOf b_L_originOf 5 (some .int) 1 := ⟨(in_4 (List.mem_of_getElem? (i := 82) rfl) rfl), (in_3 (List.mem_of_getElem? (i := 233) rfl) rfl), (in_3 (List.mem_of_getElem? (i := 234) rfl) rfl), (in_1 (List.mem_of_getElem? (i := 6) rfl) rfl), (in_3 (List.mem_of_getElem? (i := 235) rfl) rfl), ⟨by decide, by decide, by decide +kernel⟩⟩
set_option maxHeartbeats 4000000 in
set_option maxRecDepth 100000 in
theorem lp_L_isFree {p : Program} {l : Launch} {e : Env} {s : State} {m : MethodId} {args : Array Value} {below : List Frame} {meth : Method} {c : Code} {g : gG} (C0 : cF g p s m args meth c b_L_isFree 5 "RegistryLog$Ledger" (some .boolean)) (hZ : zK g s s.heap) (a : Nat) (rows : List Rw) (h : isL g s.heap a rows) (b : Nat) (t : List Nat) (mine : Int32) (hb9 : isN g s.heap b t) (res : Bool) :
    ∀ (n i : Nat), i ≤ rows.length → rows.length + 1 ≤ i + n → freeS t mine rows (rows.drop i) = res → ∀ (ls : Array Slot), lv_has ls 5 [(0, .ref a), (1, .ref b), (2, .int mine), (3, .int (nI i))] → W p l e (rmk 6 0 0 131) s m args below meth c s.heap [] 0 0 (MQ below (qP s.heap (fun v => v = some (.int (bI res)))) args s 0 0 no_) (F0 m 2 ls []) := by
  obtain ⟨hx, hb, hml, hown, hts, hr, hlk, hK⟩ := id C0
  obtain ⟨w, n0, f, f0, f1, hn9, hlen, hrs⟩ := id h
  intro n
  induction n with
  | zero => intro i h1 h2; exact absurd h2 (by omega)
  | succ n ih =>
    intro i hi hin hres ls hl
    refine lv_iload_n hx hb d_L_isFree_2 rfl (lv_at hl 3 rfl) ?_
    refine lv_aload_n hx hb d_L_isFree_3 rfl (lv_at hl 0 rfl) ?_
    refine va_get (D := g.1) (ci := 1) (C := R_L) (T := F_L) (N := 3) hx hb hts i_L hown hK.1 f0 0 rfl rfl 2 (by decide) (hts (.fieldLink "RegistryLog$Ledger" 31 "RegistryLog$Ledger" "count" "I") (in_2 (List.mem_of_getElem? (i := 223) rfl) rfl)) (fun _ h9 => h9) rfl d_L_isFree_4 ?_
    refine lv_icmp_ge (tgt := 73) hx hb d_L_isFree_7 (by decide) (fun c7 => ?_) (fun c7 => ?_)
    · skip
      refine lv_iconst (v := 1) hx hb d_L_isFree_73 (by decide) ?_
      have he : i = rows.length := by have := (nI_leI (by omega) (by omega)).mp c7; omega
      subst he
      rw [List.drop_length] at hres
      exact W.zret hx hb hr rfl (fun t9 ht hW => ⟨_, rfl, by rw [← hres]; rfl, ht⟩) (fun q h => by cases h) d_L_isFree_74 hlk
    · skip
      have hlt : i < rows.length := by rcases Nat.lt_or_ge i rows.length with q | q; exact q; exact absurd (nI_le q (by omega)) c7
      refine lv_aload_n hx hb d_L_isFree_10 rfl (lv_at hl 0 rfl) ?_
      refine lv_iload_n hx hb d_L_isFree_11 rfl (lv_at hl 3 rfl) ?_
      refine aP (rV (As := [.int (nI i)]) (rest := []) C0 (c_L_at l g s.heap a rows (nI i) h) hZ k_L_isFree_12 rfl rfl ⟨Nat.le_of_ble_eq_true rfl, Nat.le_of_ble_eq_true rfl⟩ (isL_recv hK h) rfl hl.1 rfl (Nat.le_of_ble_eq_true rfl) d_L_isFree_12 ⟨Nat.zero_le _, Nat.zero_le _⟩) ?_
      rintro v ⟨r, rfl, hr9⟩
      rw [atS_in hlt hlen] at hr9
      obtain ⟨R9, eR⟩ : ∃ R9, R9 = rows.getD i noRw := ⟨_, rfl⟩
      rw [← eR] at hr9
      rw [dropR hlt eR] at hres
      refine W.eq (g2 := F0 m 15 ls [.ref r]) rfl ?_
      obtain ⟨na, nb, hr90, hr9n, hr9a⟩ := hr9
      refine lv_astore (lv' := [(4, .ref r), (0, .ref a), (1, .ref b), (2, .int mine), (3, .int (nI i))]) hx hb d_L_isFree_15 hl (by decide) rfl (fun ls hl => ?_)
      refine lv_aload hx hb d_L_isFree_17 (lv_at hl 0 rfl) ?_
      refine va_get (D := g.1) (ci := 4) (C := R_R) (T := F_R) (N := 8) hx hb hts i_R hown hK.1 hr90 0 rfl rfl 3 (by decide) (hts (.fieldLink "RegistryLog$Ledger" 50 "RegistryLog$Row" "nameAfter" "LRegistryLog$Name;") (in_2 (List.mem_of_getElem? (i := 191) rfl) rfl)) (fun _ h9 => h9) rfl d_L_isFree_19 ?_
      refine lv_aload_n hx hb d_L_isFree_22 rfl (lv_at hl 2 rfl) ?_
      refine aP (rV (As := [.ref b]) (rest := []) C0 (c_N_isSame l g s.heap nb b _ t hr9a hb9) hZ k_L_isFree_23 rfl rfl ⟨Nat.le_of_ble_eq_true rfl, Nat.le_of_ble_eq_true rfl⟩ (isN_recv hK hr9a) rfl hl.1 rfl (Nat.le_of_ble_eq_true rfl) d_L_isFree_23 ⟨Nat.zero_le _, Nat.zero_le _⟩) ?_
      intro v hv; subst hv
      refine W.eq (g2 := F0 m 26 ls [.int (bI (decide (ra R9 = t)))]) rfl ?_
      refine lv_if_eq (tgt := 31) hx hb d_L_isFree_26 (by decide) (fun c26 => ?_) (fun c26 => ?_)
      · skip
        refine lv_aload hx hb d_L_isFree_31 (lv_at hl 0 rfl) ?_
        refine va_get (D := g.1) (ci := 4) (C := R_R) (T := F_R) (N := 8) hx hb hts i_R hown hK.1 hr90 0 rfl rfl 6 (by decide) (hts (.fieldLink "RegistryLog$Ledger" 53 "RegistryLog$Row" "origin" "I") (in_2 (List.mem_of_getElem? (i := 199) rfl) rfl)) (fun _ h9 => h9) rfl d_L_isFree_33 ?_
        refine lv_iload_n hx hb d_L_isFree_36 rfl (lv_at hl 3 rfl) ?_
        refine lv_icmp_eq (tgt := 67) hx hb d_L_isFree_37 (by decide) (fun c37 => ?_) (fun c37 => ?_)
        · skip
          obtain ⟨x_1, ex_1⟩ : ∃ y : Int32, y = (nI i) + 1 := ⟨_, rfl⟩
          refine lv_iinc (v := x_1) (lv' := [(3, .int x_1), (4, .ref r), (0, .ref a), (1, .ref b), (2, .int mine)]) hx hb d_L_isFree_67 hl (k := 4) rfl (by rw [ex_1]; rfl) (by decide) rfl (fun ls hl => ?_)
          refine lv_goto (tgt := 2) hx hb d_L_isFree_70 (by decide) ?_
          rw [ex_1, nI_1] at hl
          rw [freeS, if_neg (of_decide_eq_false (bI_z.mp c26)), if_neg (fun z => z.1 c37)] at hres
          exact ih (i + 1) hlt (by omega) hres ls (lv_sub hl [2, 3, 4, 0] rfl)
        · skip
          refine lv_aload hx hb d_L_isFree_40 (lv_at hl 0 rfl) ?_
          refine va_get (D := g.1) (ci := 4) (C := R_R) (T := F_R) (N := 8) hx hb hts i_R hown hK.1 hr90 0 rfl rfl 3 (by decide) (hts (.fieldLink "RegistryLog$Ledger" 50 "RegistryLog$Row" "nameAfter" "LRegistryLog$Name;") (in_2 (List.mem_of_getElem? (i := 191) rfl) rfl)) (fun _ h9 => h9) rfl d_L_isFree_42 ?_
          refine lv_aload_n hx hb d_L_isFree_45 rfl (lv_at hl 2 rfl) ?_
          refine aP (rV (As := [.ref b]) (rest := []) C0 (c_N_isNear l g s.heap nb b _ t hr9a hb9) hZ k_L_isFree_46 rfl rfl ⟨Nat.le_of_ble_eq_true rfl, Nat.le_of_ble_eq_true rfl⟩ (isN_recv hK hr9a) rfl hl.1 rfl (Nat.le_of_ble_eq_true rfl) d_L_isFree_46 ⟨Nat.zero_le _, Nat.zero_le _⟩) ?_
          intro v hv; subst hv
          refine W.eq (g2 := F0 m 49 ls [.int (bI (nearS (ra R9) t))]) rfl ?_
          refine lv_if_eq (tgt := 67) hx hb d_L_isFree_49 (by decide) (fun c49 => ?_) (fun c49 => ?_)
          · skip
            obtain ⟨x_2, ex_2⟩ : ∃ y : Int32, y = (nI i) + 1 := ⟨_, rfl⟩
            refine lv_iinc (v := x_2) (lv' := [(3, .int x_2), (4, .ref r), (0, .ref a), (1, .ref b), (2, .int mine)]) hx hb d_L_isFree_67 hl (k := 4) rfl (by rw [ex_2]; rfl) (by decide) rfl (fun ls hl => ?_)
            refine lv_goto (tgt := 2) hx hb d_L_isFree_70 (by decide) ?_
            rw [ex_2, nI_1] at hl
            rw [freeS, if_neg (of_decide_eq_false (bI_z.mp c26)), if_neg (fun z => absurd z.2.1 (by rw [bI_z.mp c49]; decide))] at hres
            exact ih (i + 1) hlt (by omega) hres ls (lv_sub hl [2, 3, 4, 0] rfl)
          · skip
            refine lv_aload_n hx hb d_L_isFree_52 rfl (lv_at hl 1 rfl) ?_
            refine lv_aload hx hb d_L_isFree_53 (lv_at hl 0 rfl) ?_
            refine va_get (D := g.1) (ci := 4) (C := R_R) (T := F_R) (N := 8) hx hb hts i_R hown hK.1 hr90 0 rfl rfl 3 (by decide) (hts (.fieldLink "RegistryLog$Ledger" 50 "RegistryLog$Row" "nameAfter" "LRegistryLog$Name;") (in_2 (List.mem_of_getElem? (i := 191) rfl) rfl)) (fun _ h9 => h9) rfl d_L_isFree_55 ?_
            refine aP (rV (As := [.ref nb]) (rest := []) C0 (c_L_originOf l g s.heap a nb rows _ h hr9a) hZ k_L_isFree_58 rfl rfl ⟨Nat.le_of_ble_eq_true rfl, Nat.le_of_ble_eq_true rfl⟩ (isL_recv hK h) rfl hl.1 rfl (Nat.le_of_ble_eq_true rfl) d_L_isFree_58 ⟨Nat.zero_le _, Nat.zero_le _⟩) ?_
            intro v hv; subst hv
            refine W.eq (g2 := F0 m 61 ls [.int (oS (ra R9) rows (-1))]) rfl ?_
            refine lv_iconst (v := (-1)) hx hb d_L_isFree_61 (by decide) ?_
            refine lv_icmp_eq (tgt := 67) hx hb d_L_isFree_62 (by decide) (fun c62 => ?_) (fun c62 => ?_)
            · skip
              obtain ⟨x_3, ex_3⟩ : ∃ y : Int32, y = (nI i) + 1 := ⟨_, rfl⟩
              refine lv_iinc (v := x_3) (lv' := [(3, .int x_3), (4, .ref r), (0, .ref a), (1, .ref b), (2, .int mine)]) hx hb d_L_isFree_67 hl (k := 4) rfl (by rw [ex_3]; rfl) (by decide) rfl (fun ls hl => ?_)
              refine lv_goto (tgt := 2) hx hb d_L_isFree_70 (by decide) ?_
              rw [ex_3, nI_1] at hl
              rw [freeS, if_neg (of_decide_eq_false (bI_z.mp c26)), if_neg (fun z => z.2.2 c62)] at hres
              exact ih (i + 1) hlt (by omega) hres ls (lv_sub hl [2, 3, 4, 0] rfl)
            · skip
              refine lv_iconst (v := 0) hx hb d_L_isFree_65 (by decide) ?_
              rw [freeS, if_neg (of_decide_eq_false (bI_z.mp c26)), if_pos ⟨c37, bI_n.mp c49, c62⟩] at hres
              exact W.zret hx hb hr rfl (fun t9 ht hW => ⟨_, rfl, by rw [← hres]; rfl, ht⟩) (fun q h => by cases h) d_L_isFree_66 hlk
      · skip
        refine lv_iconst (v := 0) hx hb d_L_isFree_29 (by decide) ?_
        rw [freeS, if_pos (of_decide_eq_true (bI_n.mp c26))] at hres
        exact W.zret hx hb hr rfl (fun t9 ht hW => ⟨_, rfl, by rw [← hres]; rfl, ht⟩) (fun q h => by cases h) d_L_isFree_30 hlk
set_option maxHeartbeats 4000000 in
set_option maxRecDepth 100000 in
/-- Ledger.isFree -/
theorem c_L_isFree (l : Launch) (g : gG) (H : Heap) (a b : Nat) (rows : List Rw) (t : List Nat) (mine : Int32) (h : isL g H a rows) (hb9 : isN g H b t) : Met l y_L_isFree (wC y_L_isFree b_L_isFree 5 (some .boolean)) (rmk 6 0 0 131) (pC g H [.ref a, .ref b, .int mine]) (qP H (fun v => v = some (.int (bI (freeS t mine rows rows))))) 0 0 no_ := by
  refine mB (by decide) (Nat.le_of_ble_eq_true rfl) ?_
  intro p e s m below meth c ls C0 hH hZ hnm hl
  have C0 : cF g p s m _ meth c b_L_isFree 5 "RegistryLog$Ledger" (some .boolean) := C0
  obtain ⟨hx, hb, hml, hown, hts, hr, hlk, hK⟩ := id C0
  subst hH
  have hl : lv_has ls 5 [(0, .ref a), (1, .ref b), (2, .int mine)] := hl
  refine lv_iconst (v := 0) hx hb d_L_isFree_0 (by decide) ?_
  refine lv_istore_n (lv' := [(3, .int 0), (0, .ref a), (1, .ref b), (2, .int mine)]) hx hb d_L_isFree_1 rfl hl (by decide) rfl (fun ls hl => ?_)
  exact lp_L_isFree C0 hZ a rows h b t mine hb9 _ (rows.length + 1) 0 (Nat.zero_le _) (by omega) rfl ls (lv_sub hl [1, 2, 3, 0] rfl)
theorem k_N_isName_4 : kV "RegistryLog$Name" 22 "java/lang/String" y_S_length b_S_length 1 (some .int) 0 := ⟨(in_1 (List.mem_of_getElem? (i := 85) rfl) rfl), (in_1 (List.mem_of_getElem? (i := 86) rfl) rfl), (in_1 (List.mem_of_getElem? (i := 87) rfl) rfl), (in_1 (List.mem_of_getElem? (i := 4) rfl) rfl), (in_1 (List.mem_of_getElem? (i := 88) rfl) rfl), ⟨by decide, by decide, by decide +kernel⟩⟩
theorem k_N_isName_35 : kV "RegistryLog$Name" 28 "java/lang/String" y_S_charAt b_S_charAt 2 (some .char) 1 := ⟨(in_1 (List.mem_of_getElem? (i := 94) rfl) rfl), (in_1 (List.mem_of_getElem? (i := 95) rfl) rfl), (in_1 (List.mem_of_getElem? (i := 96) rfl) rfl), (in_1 (List.mem_of_getElem? (i := 4) rfl) rfl), (in_1 (List.mem_of_getElem? (i := 97) rfl) rfl), ⟨by decide, by decide, by decide +kernel⟩⟩
set_option maxHeartbeats 4000000 in
set_option maxRecDepth 100000 in
theorem lp_N_isName {p : Program} {l : Launch} {e : Env} {s : State} {m : MethodId} {args : Array Value} {below : List Frame} {meth : Method} {c : Code} {g : gG} (C0 : cF g p s m args meth c b_N_isName 6 "RegistryLog$Name" (some .boolean)) (hZ : zK g s s.heap) (a sa fa : Nat) (t : List Nat) (n0 : ob g s.heap a 2 [.ref sa, .ref fa]) (n1 : isS g s.heap sa t) (hc1 : ∀ c ∈ t, c < 128) (hn1 : t.length ≤ 100) (res : Bool) :
    ∀ (n i : Nat) (b0 : Bool), i ≤ t.length → t.length + 1 ≤ i + n → nmS (t.drop i) b0 = res → ∀ (ls : Array Slot), lv_has ls 6 [(0, .ref a), (1, .int (nI t.length)), (2, .int (bI b0)), (3, .int (nI i))] → W p l e (rmk 4 0 0 85) s m args below meth c s.heap [] 0 0 (MQ below (qP s.heap (fun v => v = some (.int (bI res)))) args s 0 0 no_) (F0 m 25 ls []) := by
  obtain ⟨hx, hb, hml, hown, hts, hr, hlk, hK⟩ := id C0
  intro n
  induction n with
  | zero => intro i b0 h1 h2; exact absurd h2 (by omega)
  | succ n ih =>
    intro i b0 hi hin hres ls hl
    refine lv_iload_n hx hb d_N_isName_25 rfl (lv_at hl 3 rfl) ?_
    refine lv_iload_n hx hb d_N_isName_26 rfl (lv_at hl 1 rfl) ?_
    refine lv_icmp_ge (tgt := 88) hx hb d_N_isName_27 (by decide) (fun c27 => ?_) (fun c27 => ?_)
    · skip
      refine lv_iload_n hx hb d_N_isName_88 rfl (lv_at hl 2 rfl) ?_
      have he : i = t.length := by have := (nI_leI (by omega) (by omega)).mp c27; omega
      subst he
      rw [List.drop_length] at hres
      exact W.zret hx hb hr (by cases b0 <;> rfl) (fun t9 ht hW => ⟨_, rfl, by rw [← hres]; rfl, ht⟩) (fun q h => by cases h) d_N_isName_89 hlk
    · skip
      have hlt : i < t.length := by rcases Nat.lt_or_ge i t.length with q | q; exact q; exact absurd (nI_le q (by omega)) c27
      refine lv_aload_n hx hb d_N_isName_30 rfl (lv_at hl 0 rfl) ?_
      refine va_get (D := g.1) (ci := 2) (C := R_N) (T := F_N) (N := 2) hx hb hts i_N hown hK.1 n0 0 rfl rfl 0 (by decide) (hts (.fieldLink "RegistryLog$Name" 9 "RegistryLog$Name" "typed" "Ljava/lang/String;") (in_2 (List.mem_of_getElem? (i := 157) rfl) rfl)) (fun _ h9 => h9) rfl d_N_isName_31 ?_
      refine lv_iload_n hx hb d_N_isName_34 rfl (lv_at hl 3 rfl) ?_
      refine aP (rV (As := [.int (nI i)]) (rest := []) C0 (s_ch n1 hlt) hZ k_N_isName_35 rfl rfl ⟨Nat.le_of_ble_eq_true rfl, Nat.le_of_ble_eq_true rfl⟩ (isS_recv hK n1) rfl hl.1 rfl (Nat.le_of_ble_eq_true rfl) d_N_isName_35 ⟨Nat.zero_le _, Nat.zero_le _⟩) ?_
      intro v hv; subst hv
      refine W.eq (g2 := F0 m 38 ls [.int (nI (t.getD i 0))]) rfl ?_
      refine lv_istore (lv' := [(4, .int (nI (t.getD i 0))), (0, .ref a), (1, .int (nI t.length)), (2, .int (bI b0)), (3, .int (nI i))]) hx hb d_N_isName_38 hl (by decide) rfl (fun ls hl => ?_)
      refine lv_iload hx hb d_N_isName_40 (lv_at hl 0 rfl) ?_
      refine lv_bipush (v := 97) hx hb d_N_isName_42 (by decide) ?_
      refine lv_icmp_lt (tgt := 58) hx hb d_N_isName_44 (by decide) (fun c44 => ?_) (fun c44 => ?_)
      · skip
        refine lv_iconst (v := 0) hx hb d_N_isName_58 (by decide) ?_
        have hcb := gd_lt hc1 i
        have hle : ¬ (97 ≤ t.getD i 0 ∧ t.getD i 0 ≤ 122) := by have := (nI_ltI (by omega) (by omega)).mp (show nI (t.getD i 0) < nI 97 from c44); omega
        refine lv_istore (lv' := [(5, .int 0), (4, .int (nI (t.getD i 0))), (0, .ref a), (1, .int (nI t.length)), (2, .int (bI b0)), (3, .int (nI i))]) hx hb d_N_isName_59 hl (by decide) rfl (fun ls hl => ?_)
        refine lv_iload hx hb d_N_isName_61 (lv_at hl 0 rfl) ?_
        refine lv_if_ne (tgt := 79) hx hb d_N_isName_63 (by decide) (fun c63 => ?_) (fun c63 => ?_)
        · skip
          first | exact absurd c63 (by decide) | exact absurd (by decide) c63
        · skip
          refine lv_iload hx hb d_N_isName_66 (lv_at hl 1 rfl) ?_
          refine lv_bipush (v := 45) hx hb d_N_isName_68 (by decide) ?_
          refine lv_icmp_ne (tgt := 77) hx hb d_N_isName_70 (by decide) (fun c70 => ?_) (fun c70 => ?_)
          · skip
            refine lv_iconst (v := 0) hx hb d_N_isName_77 (by decide) ?_
            rw [dropT hlt, nmS, if_neg hle, if_neg (fun z => c70 (by rw [z.1]; rfl))] at hres
            exact W.zret hx hb hr rfl (fun t9 ht hW => ⟨_, rfl, by rw [← hres]; rfl, ht⟩) (fun q h => by cases h) d_N_isName_78 hlk
          · skip
            refine lv_iload_n hx hb d_N_isName_73 rfl (lv_at hl 4 rfl) ?_
            refine lv_if_ne (tgt := 79) hx hb d_N_isName_74 (by decide) (fun c74 => ?_) (fun c74 => ?_)
            · skip
              refine lv_iload hx hb d_N_isName_79 (lv_at hl 0 rfl) ?_
              refine lv_istore_n (lv' := [(2, .int 0), (5, .int 0), (4, .int (nI (t.getD i 0))), (0, .ref a), (1, .int (nI t.length)), (3, .int (nI i))]) hx hb d_N_isName_81 rfl hl (by decide) rfl (fun ls hl => ?_)
              obtain ⟨x_1, ex_1⟩ : ∃ y : Int32, y = (nI i) + 1 := ⟨_, rfl⟩
              refine lv_iinc (v := x_1) (lv' := [(3, .int x_1), (2, .int 0), (5, .int 0), (4, .int (nI (t.getD i 0))), (0, .ref a), (1, .int (nI t.length))]) hx hb d_N_isName_82 hl (k := 5) rfl (by rw [ex_1]; rfl) (by decide) rfl (fun ls hl => ?_)
              refine lv_goto (tgt := 25) hx hb d_N_isName_85 (by decide) ?_
              rw [ex_1, nI_1] at hl
              rw [dropT hlt, nmS, if_neg hle, if_pos ⟨(nI_eq (by omega) (by omega)).mp (show nI (t.getD i 0) = nI 45 from c70), bI_n.mp c74⟩] at hres
              exact ih (i + 1) false hlt (by omega) hres ls (lv_sub hl [4, 5, 1, 0] rfl)
            · skip
              refine lv_iconst (v := 0) hx hb d_N_isName_77 (by decide) ?_
              rw [dropT hlt, nmS, if_neg hle, if_neg (fun z => absurd z.2 (by rw [bI_z.mp c74]; decide))] at hres
              exact W.zret hx hb hr rfl (fun t9 ht hW => ⟨_, rfl, by rw [← hres]; rfl, ht⟩) (fun q h => by cases h) d_N_isName_78 hlk
      · skip
        refine lv_iload hx hb d_N_isName_47 (lv_at hl 0 rfl) ?_
        refine lv_bipush (v := 122) hx hb d_N_isName_49 (by decide) ?_
        refine lv_icmp_gt (tgt := 58) hx hb d_N_isName_51 (by decide) (fun c51 => ?_) (fun c51 => ?_)
        · skip
          refine lv_iconst (v := 0) hx hb d_N_isName_58 (by decide) ?_
          have hcb := gd_lt hc1 i
          have hle : ¬ (97 ≤ t.getD i 0 ∧ t.getD i 0 ≤ 122) := by have := (nI_ltI (by omega) (by omega)).mp (show nI 122 < nI (t.getD i 0) from c51); omega
          refine lv_istore (lv' := [(5, .int 0), (4, .int (nI (t.getD i 0))), (0, .ref a), (1, .int (nI t.length)), (2, .int (bI b0)), (3, .int (nI i))]) hx hb d_N_isName_59 hl (by decide) rfl (fun ls hl => ?_)
          refine lv_iload hx hb d_N_isName_61 (lv_at hl 0 rfl) ?_
          refine lv_if_ne (tgt := 79) hx hb d_N_isName_63 (by decide) (fun c63 => ?_) (fun c63 => ?_)
          · skip
            first | exact absurd c63 (by decide) | exact absurd (by decide) c63
          · skip
            refine lv_iload hx hb d_N_isName_66 (lv_at hl 1 rfl) ?_
            refine lv_bipush (v := 45) hx hb d_N_isName_68 (by decide) ?_
            refine lv_icmp_ne (tgt := 77) hx hb d_N_isName_70 (by decide) (fun c70 => ?_) (fun c70 => ?_)
            · skip
              refine lv_iconst (v := 0) hx hb d_N_isName_77 (by decide) ?_
              rw [dropT hlt, nmS, if_neg hle, if_neg (fun z => c70 (by rw [z.1]; rfl))] at hres
              exact W.zret hx hb hr rfl (fun t9 ht hW => ⟨_, rfl, by rw [← hres]; rfl, ht⟩) (fun q h => by cases h) d_N_isName_78 hlk
            · skip
              refine lv_iload_n hx hb d_N_isName_73 rfl (lv_at hl 4 rfl) ?_
              refine lv_if_ne (tgt := 79) hx hb d_N_isName_74 (by decide) (fun c74 => ?_) (fun c74 => ?_)
              · skip
                refine lv_iload hx hb d_N_isName_79 (lv_at hl 0 rfl) ?_
                refine lv_istore_n (lv' := [(2, .int 0), (5, .int 0), (4, .int (nI (t.getD i 0))), (0, .ref a), (1, .int (nI t.length)), (3, .int (nI i))]) hx hb d_N_isName_81 rfl hl (by decide) rfl (fun ls hl => ?_)
                obtain ⟨x_2, ex_2⟩ : ∃ y : Int32, y = (nI i) + 1 := ⟨_, rfl⟩
                refine lv_iinc (v := x_2) (lv' := [(3, .int x_2), (2, .int 0), (5, .int 0), (4, .int (nI (t.getD i 0))), (0, .ref a), (1, .int (nI t.length))]) hx hb d_N_isName_82 hl (k := 5) rfl (by rw [ex_2]; rfl) (by decide) rfl (fun ls hl => ?_)
                refine lv_goto (tgt := 25) hx hb d_N_isName_85 (by decide) ?_
                rw [ex_2, nI_1] at hl
                rw [dropT hlt, nmS, if_neg hle, if_pos ⟨(nI_eq (by omega) (by omega)).mp (show nI (t.getD i 0) = nI 45 from c70), bI_n.mp c74⟩] at hres
                exact ih (i + 1) false hlt (by omega) hres ls (lv_sub hl [4, 5, 1, 0] rfl)
              · skip
                refine lv_iconst (v := 0) hx hb d_N_isName_77 (by decide) ?_
                rw [dropT hlt, nmS, if_neg hle, if_neg (fun z => absurd z.2 (by rw [bI_z.mp c74]; decide))] at hres
                exact W.zret hx hb hr rfl (fun t9 ht hW => ⟨_, rfl, by rw [← hres]; rfl, ht⟩) (fun q h => by cases h) d_N_isName_78 hlk
        · skip
          refine lv_iconst (v := 1) hx hb d_N_isName_54 (by decide) ?_
          refine lv_goto (tgt := 59) hx hb d_N_isName_55 (by decide) ?_
          have hcb := gd_lt hc1 i
          have hle : 97 ≤ t.getD i 0 ∧ t.getD i 0 ≤ 122 := by
            refine ⟨?_, ?_⟩
            · rcases Nat.lt_or_ge (t.getD i 0) 97 with q | q; exact absurd (show nI (t.getD i 0) < nI 97 from nI_lt q (by omega)) c44; exact q
            · rcases Nat.lt_or_ge 122 (t.getD i 0) with q | q; exact absurd (show nI 122 < nI (t.getD i 0) from nI_lt q (by omega)) c51; exact q
          refine lv_istore (lv' := [(5, .int 1), (4, .int (nI (t.getD i 0))), (0, .ref a), (1, .int (nI t.length)), (2, .int (bI b0)), (3, .int (nI i))]) hx hb d_N_isName_59 hl (by decide) rfl (fun ls hl => ?_)
          refine lv_iload hx hb d_N_isName_61 (lv_at hl 0 rfl) ?_
          refine lv_if_ne (tgt := 79) hx hb d_N_isName_63 (by decide) (fun c63 => ?_) (fun c63 => ?_)
          · skip
            refine lv_iload hx hb d_N_isName_79 (lv_at hl 0 rfl) ?_
            refine lv_istore_n (lv' := [(2, .int 1), (5, .int 1), (4, .int (nI (t.getD i 0))), (0, .ref a), (1, .int (nI t.length)), (3, .int (nI i))]) hx hb d_N_isName_81 rfl hl (by decide) rfl (fun ls hl => ?_)
            obtain ⟨x_3, ex_3⟩ : ∃ y : Int32, y = (nI i) + 1 := ⟨_, rfl⟩
            refine lv_iinc (v := x_3) (lv' := [(3, .int x_3), (2, .int 1), (5, .int 1), (4, .int (nI (t.getD i 0))), (0, .ref a), (1, .int (nI t.length))]) hx hb d_N_isName_82 hl (k := 5) rfl (by rw [ex_3]; rfl) (by decide) rfl (fun ls hl => ?_)
            refine lv_goto (tgt := 25) hx hb d_N_isName_85 (by decide) ?_
            rw [ex_3, nI_1] at hl
            rw [dropT hlt, nmS, if_pos hle] at hres
            exact ih (i + 1) true hlt (by omega) hres ls (lv_sub hl [4, 5, 1, 0] rfl)
          · skip
            first | exact absurd c63 (by decide) | exact absurd (by decide) c63
set_option maxHeartbeats 4000000 in
set_option maxRecDepth 100000 in
/-- Name.isName -/
theorem c_N_isName (l : Launch) (g : gG) (H : Heap) (a : Nat) (t : List Nat) (h : isN g H a t) : Met l y_N_isName (wC y_N_isName b_N_isName 6 (some .boolean)) (rmk 4 0 0 85) (pC g H [.ref a]) (qP H (fun v => v = some (.int (bI (nameS t))))) 0 0 no_ := by
  refine mB (by decide) (Nat.le_of_ble_eq_true rfl) ?_
  intro p e s m below meth c ls C0 hH hZ hnm hl
  have C0 : cF g p s m _ meth c b_N_isName 6 "RegistryLog$Name" (some .boolean) := C0
  obtain ⟨hx, hb, hml, hown, hts, hr, hlk, hK⟩ := id C0
  subst hH
  have hl : lv_has ls 6 [(0, .ref a)] := hl
  obtain ⟨sa, fa, n0, n1, n2⟩ := h
  obtain ⟨_, _, _, hc1, hn1⟩ := id n1
  refine lv_aload_n hx hb d_N_isName_0 rfl (lv_at hl 0 rfl) ?_
  refine va_get (D := g.1) (ci := 2) (C := R_N) (T := F_N) (N := 2) hx hb hts i_N hown hK.1 n0 0 rfl rfl 0 (by decide) (hts (.fieldLink "RegistryLog$Name" 9 "RegistryLog$Name" "typed" "Ljava/lang/String;") (in_2 (List.mem_of_getElem? (i := 157) rfl) rfl)) (fun _ h9 => h9) rfl d_N_isName_1 ?_
  refine aP (rV (As := []) (rest := []) C0 (s_len n1) hZ k_N_isName_4 rfl rfl ⟨Nat.le_of_ble_eq_true rfl, Nat.le_of_ble_eq_true rfl⟩ (isS_recv hK n1) rfl hl.1 rfl (Nat.le_of_ble_eq_true rfl) d_N_isName_4 ⟨Nat.zero_le _, Nat.zero_le _⟩) ?_
  intro v hv; subst hv
  refine W.eq (g2 := F0 m 7 ls [.int (nI t.length)]) rfl ?_
  refine lv_istore_n (lv' := [(1, .int (nI t.length)), (0, .ref a)]) hx hb d_N_isName_7 rfl hl (by decide) rfl (fun ls hl => ?_)
  refine lv_iload_n hx hb d_N_isName_8 rfl (lv_at hl 0 rfl) ?_
  refine lv_iconst (v := 1) hx hb d_N_isName_9 (by decide) ?_
  refine lv_icmp_lt (tgt := 19) hx hb d_N_isName_10 (by decide) (fun c10 => ?_) (fun c10 => ?_)
  · skip
    refine lv_iconst (v := 0) hx hb d_N_isName_19 (by decide) ?_
    exact W.zret hx hb hr rfl (fun t9 ht hW => ⟨_, rfl, by rw [nameS, decide_eq_false (fun z => by have := (nI_ltI (by omega) (by omega)).mp (show nI t.length < nI 1 from c10); omega)]; rfl, ht⟩) (fun q h => by cases h) d_N_isName_20 hlk
  · skip
    refine lv_iload_n hx hb d_N_isName_13 rfl (lv_at hl 0 rfl) ?_
    refine lv_bipush (v := 10) hx hb d_N_isName_14 (by decide) ?_
    refine lv_icmp_le (tgt := 21) hx hb d_N_isName_16 (by decide) (fun c16 => ?_) (fun c16 => ?_)
    · skip
      refine lv_iconst (v := 0) hx hb d_N_isName_21 (by decide) ?_
      refine lv_istore_n (lv' := [(2, .int 0), (1, .int (nI t.length)), (0, .ref a)]) hx hb d_N_isName_22 rfl hl (by decide) rfl (fun ls hl => ?_)
      refine lv_iconst (v := 0) hx hb d_N_isName_23 (by decide) ?_
      refine lv_istore_n (lv' := [(3, .int 0), (2, .int 0), (1, .int (nI t.length)), (0, .ref a)]) hx hb d_N_isName_24 rfl hl (by decide) rfl (fun ls hl => ?_)
      have hd : 1 ≤ t.length ∧ t.length ≤ 10 := ⟨by rcases Nat.lt_or_ge t.length 1 with q | q; exact absurd (show nI t.length < nI 1 from nI_lt q (by omega)) c10; exact q, (nI_leI (by omega) (by omega)).mp (show nI t.length ≤ nI 10 from c16)⟩
      rw [nameS, decide_eq_true hd, Bool.true_and]
      exact lp_N_isName C0 hZ a sa fa t n0 n1 hc1 hn1 _ (t.length + 1) 0 false (Nat.zero_le _) (by omega) rfl ls (lv_sub hl [3, 2, 1, 0] rfl)
    · skip
      refine lv_iconst (v := 0) hx hb d_N_isName_19 (by decide) ?_
      exact W.zret hx hb hr rfl (fun t9 ht hW => ⟨_, rfl, by rw [nameS, decide_eq_false (fun z => c16 (show nI t.length ≤ nI 10 from nI_le z.2 (by omega)))]; rfl, ht⟩) (fun q h => by cases h) d_N_isName_20 hlk
