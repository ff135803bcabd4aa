theorem k_M_row_7 : kV "RegistryLogModel" 196 "RegistryLogModel" y_M_isRow b_M_isRow 2 (some .boolean) 1 := ⟨(in_5 (List.mem_of_getElem? (i := 210) rfl) rfl), (in_5 (List.mem_of_getElem? (i := 212) rfl) rfl), (in_0 (List.mem_of_getElem? (i := 20) rfl) rfl), (in_1 (List.mem_of_getElem? (i := 22) rfl) rfl), (in_5 (List.mem_of_getElem? (i := 213) rfl) rfl), ⟨by decide, by decide, by decide +kernel⟩⟩
theorem ix_ {i : Int32} {n : Nat} (hn : n < 2 ^ 31) (h : decide (0 ≤ i ∧ i < nI n) = true) : ∃ k : Nat, k < n ∧ i = nI k := by
  have h := of_decide_eq_true h
  obtain ⟨j, h1, h2⟩ := nI_of (Int32.not_lt.mpr h.1)
  subst h2
  exact ⟨j, (nI_ltI h1 hn).mp h.2, rfl⟩
def mRow (A : Nat → Nat → Int32) (n : Nat) (i what : Int32) : Int32 := if 0 ≤ i ∧ i < nI n then (if what = 0 then A 3 i.toNatClampNeg else if what = nI 1 then A 4 i.toNatClampNeg else if what = nI 2 then A 5 i.toNatClampNeg else if what = nI 3 then A 6 i.toNatClampNeg else -1) else -1
set_option maxHeartbeats 4000000 in
set_option maxRecDepth 100000 in
/-- row(i, what) -/
theorem c_M_row (l : Launch) (g : gG) (H : Heap) (x : Nat) (ad : Nat → Nat) (F : Nat → Int32) (A : Nat → Nat → Int32) (B : Nat → Nat → Int64) (hm0 : mW g H x ad F A B) (n : Nat) (hc : A 12 4 = nI n) (hn : n ≤ 120) (i what : Int32) : Met l y_M_row (wC y_M_row b_M_row 3 (some .int)) (rmk 1 0 0 21) (pC g H [.ref x, .int i, .int what]) (qM g H x ad (fun v F1 A1 B1 => v = some (.int (mRow A n i what)) ∧ F1 = upd F 0 (nI 0) ∧ A1 = A ∧ B1 = B)) 0 0 (mN x ad) := by
  refine mB (by decide) (Nat.le_of_ble_eq_true rfl) ?_
  intro p e s m below meth c ls C0 hH hZ hnm hl
  have C0 : cF g p s m _ meth c b_M_row 3 "RegistryLogModel" (some .int) := C0
  obtain ⟨hx, hb, hml, hown, hts, hr, hlk, hK⟩ := id C0
  subst hH
  have hl : lv_has ls 3 [(0, .ref x), (1, .int i), (2, .int what)] := hl
  have hm := mS.rf hm0
  refine lv_aload_n hx hb d_M_row_0 rfl (lv_at hl 0 rfl) ?_
  refine lv_iconst (v := nI 0) hx hb d_M_row_1 (by decide) ?_
  refine m_put hx hb hts hown hK hm 0 (by decide) (hts (.fieldLink "RegistryLogModel" 108 "RegistryLogModel" "code" "I") (in_4 (List.mem_of_getElem? (i := 209) rfl) rfl)) rfl rfl (v := nI 0) rfl rfl rfl rfl d_M_row_2 (fun H locs hm => ?_)
  refine lv_aload_n hx hb d_M_row_5 rfl (lv_at hl 0 rfl) ?_
  refine lv_iload_n hx hb d_M_row_6 rfl (lv_at hl 1 rfl) ?_
  refine aP (rV (As := [.int i]) (rest := []) C0 (c_M_isRow l g _ x ad _ _ _ hm.1 n hc i) (m_zK hZ hm) k_M_row_7 rfl rfl ⟨Nat.le_of_ble_eq_true rfl, Nat.le_of_ble_eq_true rfl⟩ (m_recv hK hm) rfl hl.1 rfl (Nat.le_of_ble_eq_true rfl) d_M_row_7 ⟨Nat.zero_le _, Nat.zero_le _⟩) ?_
  intro v hv; subst hv
  refine W.eq (g2 := F0 m 10 ls [.int (bI (decide (0 ≤ i ∧ i < nI n)))]) rfl ?_
  refine z_ne (tgt := 15) (v := decide (0 ≤ i ∧ i < nI n)) hx hb d_M_row_10 (by decide) (fun c10 => ?_) (fun c10 => ?_)
  · skip
    have hin := of_decide_eq_true c10
    obtain ⟨k, hk, ek⟩ := ix_ (by omega) c10
    subst ek
    have hkc : (nI k).toNatClampNeg = k := nI_clamp (by omega)
    refine lv_iload_n hx hb d_M_row_15 rfl (lv_at hl 2 rfl) ?_
    refine lv_if_ne (tgt := 28) hx hb d_M_row_16 (by decide) (fun c16 => ?_) (fun c16 => ?_)
    · skip
      refine lv_iload_n hx hb d_M_row_28 rfl (lv_at hl 2 rfl) ?_
      refine lv_iconst (v := nI 1) hx hb d_M_row_29 (by decide) ?_
      refine lv_icmp_ne (tgt := 42) hx hb d_M_row_30 (by decide) (fun c30 => ?_) (fun c30 => ?_)
      · skip
        refine lv_iload_n hx hb d_M_row_42 rfl (lv_at hl 2 rfl) ?_
        refine lv_iconst (v := nI 2) hx hb d_M_row_43 (by decide) ?_
        refine lv_icmp_ne (tgt := 56) hx hb d_M_row_44 (by decide) (fun c44 => ?_) (fun c44 => ?_)
        · skip
          refine lv_iload_n hx hb d_M_row_56 rfl (lv_at hl 2 rfl) ?_
          refine lv_iconst (v := nI 3) hx hb d_M_row_57 (by decide) ?_
          refine lv_icmp_ne (tgt := 70) hx hb d_M_row_58 (by decide) (fun c58 => ?_) (fun c58 => ?_)
          · skip
            refine lv_iconst (v := (-1)) hx hb d_M_row_70 (by decide) ?_
            exact W.iret hx hb hr (fun t9 ht hW => ⟨_, _, _, _, rfl, by rw [ht]; exact ⟨hm.1, hm.2.1, hm.2.2.1, fun _ h => by cases h⟩, ⟨by rw [mRow, if_pos hin, hkc, if_neg c16, if_neg c30, if_neg c44, if_neg c58], rfl, rfl, rfl⟩⟩) hm.2.2.2 d_M_row_71 hlk
          · skip
            refine lv_aload_n hx hb d_M_row_61 rfl (lv_at hl 0 rfl) ?_
            refine m_get hx hb hts hown hK hm 6 (by decide) (hts (.fieldLink "RegistryLogModel" 22 "RegistryLogModel" "flag" "[I") (in_4 (List.mem_of_getElem? (i := 215) rfl) rfl)) rfl (v := .ref (ad 6)) rfl d_M_row_62 ?_
            refine lv_iload_n hx hb d_M_row_65 rfl (lv_at hl 1 rfl) ?_
            refine m_ld hx hb hK hm 6 rfl k rfl (by show k < 120; omega) d_M_row_66 ?_
            refine lv_goto (tgt := 71) hx hb d_M_row_67 (by decide) ?_
            exact W.iret hx hb hr (fun t9 ht hW => ⟨_, _, _, _, rfl, by rw [ht]; exact ⟨hm.1, hm.2.1, hm.2.2.1, fun _ h => by cases h⟩, ⟨by rw [mRow, if_pos hin, hkc, if_neg c16, if_neg c30, if_neg c44, if_pos c58], rfl, rfl, rfl⟩⟩) hm.2.2.2 d_M_row_71 hlk
        · skip
          refine lv_aload_n hx hb d_M_row_47 rfl (lv_at hl 0 rfl) ?_
          refine m_get hx hb hts hown hK hm 5 (by decide) (hts (.fieldLink "RegistryLogModel" 19 "RegistryLogModel" "first" "[I") (in_4 (List.mem_of_getElem? (i := 214) rfl) rfl)) rfl (v := .ref (ad 5)) rfl d_M_row_48 ?_
          refine lv_iload_n hx hb d_M_row_51 rfl (lv_at hl 1 rfl) ?_
          refine m_ld hx hb hK hm 5 rfl k rfl (by show k < 120; omega) d_M_row_52 ?_
          refine lv_goto (tgt := 71) hx hb d_M_row_53 (by decide) ?_
          exact W.iret hx hb hr (fun t9 ht hW => ⟨_, _, _, _, rfl, by rw [ht]; exact ⟨hm.1, hm.2.1, hm.2.2.1, fun _ h => by cases h⟩, ⟨by rw [mRow, if_pos hin, hkc, if_neg c16, if_neg c30, if_pos c44], rfl, rfl, rfl⟩⟩) hm.2.2.2 d_M_row_71 hlk
      · skip
        refine lv_aload_n hx hb d_M_row_33 rfl (lv_at hl 0 rfl) ?_
        refine m_get hx hb hts hown hK hm 4 (by decide) (hts (.fieldLink "RegistryLogModel" 16 "RegistryLogModel" "person" "[I") (in_4 (List.mem_of_getElem? (i := 213) rfl) rfl)) rfl (v := .ref (ad 4)) rfl d_M_row_34 ?_
        refine lv_iload_n hx hb d_M_row_37 rfl (lv_at hl 1 rfl) ?_
        refine m_ld hx hb hK hm 4 rfl k rfl (by show k < 120; omega) d_M_row_38 ?_
        refine lv_goto (tgt := 71) hx hb d_M_row_39 (by decide) ?_
        exact W.iret hx hb hr (fun t9 ht hW => ⟨_, _, _, _, rfl, by rw [ht]; exact ⟨hm.1, hm.2.1, hm.2.2.1, fun _ h => by cases h⟩, ⟨by rw [mRow, if_pos hin, hkc, if_neg c16, if_pos c30], rfl, rfl, rfl⟩⟩) hm.2.2.2 d_M_row_71 hlk
    · skip
      refine lv_aload_n hx hb d_M_row_19 rfl (lv_at hl 0 rfl) ?_
      refine m_get hx hb hts hown hK hm 3 (by decide) (hts (.fieldLink "RegistryLogModel" 13 "RegistryLogModel" "kind" "[I") (in_4 (List.mem_of_getElem? (i := 212) rfl) rfl)) rfl (v := .ref (ad 3)) rfl d_M_row_20 ?_
      refine lv_iload_n hx hb d_M_row_23 rfl (lv_at hl 1 rfl) ?_
      refine m_ld hx hb hK hm 3 rfl k rfl (by show k < 120; omega) d_M_row_24 ?_
      refine lv_goto (tgt := 71) hx hb d_M_row_25 (by decide) ?_
      exact W.iret hx hb hr (fun t9 ht hW => ⟨_, _, _, _, rfl, by rw [ht]; exact ⟨hm.1, hm.2.1, hm.2.2.1, fun _ h => by cases h⟩, ⟨by rw [mRow, if_pos hin, hkc, if_pos c16], rfl, rfl, rfl⟩⟩) hm.2.2.2 d_M_row_71 hlk
  · skip
    refine lv_iconst (v := (-1)) hx hb d_M_row_13 (by decide) ?_
    exact W.iret hx hb hr (fun t9 ht hW => ⟨_, _, _, _, rfl, by rw [ht]; exact ⟨hm.1, hm.2.1, hm.2.2.1, fun _ h => by cases h⟩, ⟨by rw [mRow, if_neg (of_decide_eq_false c10)], rfl, rfl, rfl⟩⟩) hm.2.2.2 d_M_row_14 hlk
def mGet (f : Nat → Int64) (n : Nat) (i : Int32) : Int64 := if 0 ≤ i ∧ i < nI n then f i.toNatClampNeg else 0
set_option maxHeartbeats 4000000 in
set_option maxRecDepth 100000 in
/-- proof(k) -/
theorem c_M_proof (l : Launch) (g : gG) (H : Heap) (x : Nat) (ad : Nat → Nat) (F : Nat → Int32) (A : Nat → Nat → Int32) (B : Nat → Nat → Int64) (hm0 : mW g H x ad F A B) (n : Nat) (hn : F 15 = nI n) (hn16 : n ≤ 16) (i : Int32) : Met l y_M_proof (wC y_M_proof b_M_proof 2 (some .long)) (rmk 0 0 0 0) (pC g H [.ref x, .int i]) (qM g H x ad (fun v F1 A1 B1 => v = some (.long (mGet (B 13) n i)) ∧ F1 = upd F 0 (nI 0) ∧ A1 = A ∧ B1 = B)) 0 0 (mN x ad) := by
  refine mB (by decide) (Nat.le_of_ble_eq_true rfl) ?_
  intro p e s m below meth c ls C0 hH hZ hnm hl
  have C0 : cF g p s m _ meth c b_M_proof 2 "RegistryLogModel" (some .long) := C0
  obtain ⟨hx, hb, hml, hown, hts, hr, hlk, hK⟩ := id C0
  subst hH
  have hl : lv_has ls 2 [(0, .ref x), (1, .int i)] := hl
  have hm := mS.rf hm0
  refine lv_aload_n hx hb d_M_proof_0 rfl (lv_at hl 0 rfl) ?_
  refine lv_iconst (v := nI 0) hx hb d_M_proof_1 (by decide) ?_
  refine m_put hx hb hts hown hK hm 0 (by decide) (hts (.fieldLink "RegistryLogModel" 108 "RegistryLogModel" "code" "I") (in_4 (List.mem_of_getElem? (i := 209) rfl) rfl)) rfl rfl (v := nI 0) rfl rfl rfl rfl d_M_proof_2 (fun H locs hm => ?_)
  refine lv_iload_n hx hb d_M_proof_5 rfl (lv_at hl 1 rfl) ?_
  refine lv_if_lt (tgt := 17) hx hb d_M_proof_6 (by decide) (fun c6 => ?_) (fun c6 => ?_)
  · skip
    refine lv_lconst (v := 0) hx hb d_M_proof_17 (by decide) ?_
    refine lv_goto (tgt := 27) hx hb d_M_proof_18 (by decide) ?_
    exact W.lret hx hb hr (fun t9 ht hW => ⟨_, _, _, _, rfl, by rw [ht]; exact ⟨hm.1, hm.2.1, hm.2.2.1, fun _ h => by cases h⟩, ⟨by rw [mGet, if_neg (fun z => absurd z.1 (Int32.not_le.mpr c6))], rfl, rfl, rfl⟩⟩) hm.2.2.2 d_M_proof_27 hlk
  · skip
    refine lv_iload_n hx hb d_M_proof_9 rfl (lv_at hl 1 rfl) ?_
    refine lv_aload_n hx hb d_M_proof_10 rfl (lv_at hl 0 rfl) ?_
    refine m_get hx hb hts hown hK hm 15 (by decide) (hts (.fieldLink "RegistryLogModel" 238 "RegistryLogModel" "proofSize" "I") (in_4 (List.mem_of_getElem? (i := 224) rfl) rfl)) rfl (v := .int (nI n)) (congrArg (fun z => some (Value.int z)) hn) d_M_proof_11 ?_
    refine lv_icmp_lt (tgt := 21) hx hb d_M_proof_14 (by decide) (fun c14 => ?_) (fun c14 => ?_)
    · skip
      obtain ⟨k, hk1, ek⟩ := nI_of c6
      have hk : k < n := (nI_ltI hk1 (by omega)).mp (by rw [← ek]; exact c14)
      have hkc : i.toNatClampNeg = k := by rw [ek]; exact nI_clamp hk1
      refine lv_aload_n hx hb d_M_proof_21 rfl (lv_at hl 0 rfl) ?_
      refine m_get hx hb hts hown hK hm 13 (by decide) (hts (.fieldLink "RegistryLogModel" 43 "RegistryLogModel" "proof" "[J") (in_4 (List.mem_of_getElem? (i := 222) rfl) rfl)) rfl (v := .ref (ad 13)) rfl d_M_proof_22 ?_
      refine lv_iload_n hx hb d_M_proof_25 rfl (lv_at hl 1 rfl) ?_
      refine m_ldl hx hb hK hm 13 rfl k ek (by show k < 16; omega) d_M_proof_26 ?_
      exact W.lret hx hb hr (fun t9 ht hW => ⟨_, _, _, _, rfl, by rw [ht]; exact ⟨hm.1, hm.2.1, hm.2.2.1, fun _ h => by cases h⟩, ⟨by rw [mGet, if_pos ⟨Int32.not_lt.mp c6, c14⟩, hkc], rfl, rfl, rfl⟩⟩) hm.2.2.2 d_M_proof_27 hlk
    · skip
      refine lv_lconst (v := 0) hx hb d_M_proof_17 (by decide) ?_
      refine lv_goto (tgt := 27) hx hb d_M_proof_18 (by decide) ?_
      exact W.lret hx hb hr (fun t9 ht hW => ⟨_, _, _, _, rfl, by rw [ht]; exact ⟨hm.1, hm.2.1, hm.2.2.1, fun _ h => by cases h⟩, ⟨by rw [mGet, if_neg (fun z => c14 z.2)], rfl, rfl, rfl⟩⟩) hm.2.2.2 d_M_proof_27 hlk
set_option maxHeartbeats 4000000 in
set_option maxRecDepth 100000 in
/-- take(x) -/
theorem c_M_take (l : Launch) (g : gG) (H : Heap) (x : Nat) (ad : Nat → Nat) (F : Nat → Int32) (A : Nat → Nat → Int32) (B : Nat → Nat → Int64) (hm0 : mW g H x ad F A B) (n : Nat) (hn : F 16 = nI n) (hn16 : n ≤ 16) (y : Int64) : Met l y_M_take (wC y_M_take b_M_take 3 (some .boolean)) (rmk 0 0 0 0) (pC g H [.ref x, .long y]) (qM g H x ad (fun v F1 A1 B1 => if n < 16 then (v = some (.int 1) ∧ F1 = upd (upd F 0 (nI 0)) 16 (nI (n + 1)) ∧ A1 = A ∧ B1 = updB B 14 (vp_updL (B 14) n y)) else (v = some (.int 0) ∧ F1 = upd F 0 (nI 0) ∧ A1 = A ∧ B1 = B))) 0 0 (mN x ad) := by
  refine mB (by decide) (Nat.le_of_ble_eq_true rfl) ?_
  intro p e s m below meth c ls C0 hH hZ hnm hl
  have C0 : cF g p s m _ meth c b_M_take 3 "RegistryLogModel" (some .boolean) := C0
  obtain ⟨hx, hb, hml, hown, hts, hr, hlk, hK⟩ := id C0
  subst hH
  have hl : lv_has ls 3 [(0, .ref x), (1, .long y)] := hl
  have hm := mS.rf hm0
  refine lv_aload_n hx hb d_M_take_0 rfl (lv_at hl 0 rfl) ?_
  refine lv_iconst (v := nI 0) hx hb d_M_take_1 (by decide) ?_
  refine m_put hx hb hts hown hK hm 0 (by decide) (hts (.fieldLink "RegistryLogModel" 108 "RegistryLogModel" "code" "I") (in_4 (List.mem_of_getElem? (i := 209) rfl) rfl)) rfl rfl (v := nI 0) rfl rfl rfl rfl d_M_take_2 (fun H locs hm => ?_)
  refine lv_aload_n hx hb d_M_take_5 rfl (lv_at hl 0 rfl) ?_
  refine m_get hx hb hts hown hK hm 16 (by decide) (hts (.fieldLink "RegistryLogModel" 249 "RegistryLogModel" "handSize" "I") (in_4 (List.mem_of_getElem? (i := 225) rfl) rfl)) rfl (v := .int (nI n)) (congrArg (fun z => some (Value.int z)) hn) d_M_take_6 ?_
  refine lv_bipush (v := nI 16) hx hb d_M_take_9 (by decide) ?_
  refine n_ne (tgt := 16) (a := n) (b := 16) hx hb d_M_take_11 (by decide) (by omega) (by omega) (fun c11 => ?_) (fun c11 => ?_)
  · skip
    refine lv_aload_n hx hb d_M_take_16 rfl (lv_at hl 0 rfl) ?_
    refine m_get hx hb hts hown hK hm 14 (by decide) (hts (.fieldLink "RegistryLogModel" 47 "RegistryLogModel" "hand" "[J") (in_4 (List.mem_of_getElem? (i := 223) rfl) rfl)) rfl (v := .ref (ad 14)) rfl d_M_take_17 ?_
    refine lv_aload_n hx hb d_M_take_20 rfl (lv_at hl 0 rfl) ?_
    refine m_get hx hb hts hown hK hm 16 (by decide) (hts (.fieldLink "RegistryLogModel" 249 "RegistryLogModel" "handSize" "I") (in_4 (List.mem_of_getElem? (i := 225) rfl) rfl)) rfl (v := .int (nI n)) (congrArg (fun z => some (Value.int z)) hn) d_M_take_21 ?_
    refine lv_lload_n hx hb d_M_take_24 rfl (lv_at hl 1 rfl) ?_
    refine m_stl hx hb hK hm 14 rfl n rfl (show n < 16 from by omega) d_M_take_25 (fun H locs hm => ?_)
    have hm : mS g s.heap H x ad (upd F 0 (nI 0)) A (updB B 14 (vp_updL (B 14) n y)) locs := hm
    refine lv_aload_n hx hb d_M_take_26 rfl (lv_at hl 0 rfl) ?_
    refine lv_dup hx hb d_M_take_27 rfl ?_
    refine m_get hx hb hts hown hK hm 16 (by decide) (hts (.fieldLink "RegistryLogModel" 249 "RegistryLogModel" "handSize" "I") (in_4 (List.mem_of_getElem? (i := 225) rfl) rfl)) rfl (v := .int (nI n)) (congrArg (fun z => some (Value.int z)) hn) d_M_take_28 ?_
    refine lv_iconst (v := nI 1) hx hb d_M_take_31 (by decide) ?_
    refine n_iadd hx hb d_M_take_32 ?_
    refine m_put hx hb hts hown hK hm 16 (by decide) (hts (.fieldLink "RegistryLogModel" 249 "RegistryLogModel" "handSize" "I") (in_4 (List.mem_of_getElem? (i := 225) rfl) rfl)) rfl rfl (v := nI (n + 1)) rfl rfl rfl rfl d_M_take_33 (fun H locs hm => ?_)
    refine lv_iconst (v := nI 1) hx hb d_M_take_36 (by decide) ?_
    exact W.zret hx hb hr rfl (fun t9 ht hW => ⟨_, _, _, _, rfl, by rw [ht]; exact ⟨hm.1, hm.2.1, hm.2.2.1, fun _ h => by cases h⟩, by (try dsimp only); rw [if_pos (by omega)]; exact ⟨rfl, rfl, rfl, rfl⟩⟩) hm.2.2.2 d_M_take_37 hlk
  · skip
    refine lv_iconst (v := nI 0) hx hb d_M_take_14 (by decide) ?_
    exact W.zret hx hb hr rfl (fun t9 ht hW => ⟨_, _, _, _, rfl, by rw [ht]; exact ⟨hm.1, hm.2.1, hm.2.2.1, fun _ h => by cases h⟩, by (try dsimp only); rw [if_neg (by omega)]; exact ⟨rfl, rfl, rfl, rfl⟩⟩) hm.2.2.2 d_M_take_15 hlk
set_option maxHeartbeats 4000000 in
set_option maxRecDepth 100000 in
/-- prove(h) -/
theorem c_M_prove (l : Launch) (g : gG) (H : Heap) (x : Nat) (ad : Nat → Nat) (F : Nat → Int32) (A : Nat → Nat → Int32) (B : Nat → Nat → Int64) (hm0 : mW g H x ad F A B) (n : Nat) (hn : F 15 = nI n) (hn16 : n < 16) (y : Int64) : Met l y_M_prove (wC y_M_prove b_M_prove 3 none) (rmk 0 0 0 0) (pC g H [.ref x, .long y]) (qM g H x ad (fun v F1 A1 B1 => v = none ∧ F1 = upd F 15 (nI (n + 1)) ∧ A1 = A ∧ B1 = updB B 13 (vp_updL (B 13) n y))) 0 0 (mN x ad) := by
  refine mB (by decide) (Nat.le_of_ble_eq_true rfl) ?_
  intro p e s m below meth c ls C0 hH hZ hnm hl
  have C0 : cF g p s m _ meth c b_M_prove 3 "RegistryLogModel" none := C0
  obtain ⟨hx, hb, hml, hown, hts, hr, hlk, hK⟩ := id C0
  subst hH
  have hl : lv_has ls 3 [(0, .ref x), (1, .long y)] := hl
  have hm := mS.rf hm0
  refine lv_aload_n hx hb d_M_prove_0 rfl (lv_at hl 0 rfl) ?_
  refine m_get hx hb hts hown hK hm 13 (by decide) (hts (.fieldLink "RegistryLogModel" 43 "RegistryLogModel" "proof" "[J") (in_4 (List.mem_of_getElem? (i := 222) rfl) rfl)) rfl (v := .ref (ad 13)) rfl d_M_prove_1 ?_
  refine lv_aload_n hx hb d_M_prove_4 rfl (lv_at hl 0 rfl) ?_
  refine m_get hx hb hts hown hK hm 15 (by decide) (hts (.fieldLink "RegistryLogModel" 238 "RegistryLogModel" "proofSize" "I") (in_4 (List.mem_of_getElem? (i := 224) rfl) rfl)) rfl (v := .int (nI n)) (congrArg (fun z => some (Value.int z)) hn) d_M_prove_5 ?_
  refine lv_lload_n hx hb d_M_prove_8 rfl (lv_at hl 1 rfl) ?_
  refine m_stl hx hb hK hm 13 rfl n rfl (show n < 16 from by omega) d_M_prove_9 (fun H locs hm => ?_)
  have hm : mS g s.heap H x ad F A (updB B 13 (vp_updL (B 13) n y)) locs := hm
  refine lv_aload_n hx hb d_M_prove_10 rfl (lv_at hl 0 rfl) ?_
  refine lv_dup hx hb d_M_prove_11 rfl ?_
  refine m_get hx hb hts hown hK hm 15 (by decide) (hts (.fieldLink "RegistryLogModel" 238 "RegistryLogModel" "proofSize" "I") (in_4 (List.mem_of_getElem? (i := 224) rfl) rfl)) rfl (v := .int (nI n)) (congrArg (fun z => some (Value.int z)) hn) d_M_prove_12 ?_
  refine lv_iconst (v := nI 1) hx hb d_M_prove_15 (by decide) ?_
  refine n_iadd hx hb d_M_prove_16 ?_
  refine m_put hx hb hts hown hK hm 15 (by decide) (hts (.fieldLink "RegistryLogModel" 238 "RegistryLogModel" "proofSize" "I") (in_4 (List.mem_of_getElem? (i := 224) rfl) rfl)) rfl rfl (v := nI (n + 1)) rfl rfl rfl rfl d_M_prove_17 (fun H locs hm => ?_)
  exact W.vret hx hb hr (fun t9 ht hW => ⟨_, _, _, _, rfl, by rw [ht]; exact ⟨hm.1, hm.2.1, hm.2.2.1, fun _ h => by cases h⟩, ⟨rfl, rfl, rfl, rfl⟩⟩) hm.2.2.2 d_M_prove_20 hlk
theorem k_M_spoil_6 : kS "RegistryLogModel" 252 y_M_isMirror b_M_isMirror 1 (some .boolean) 1 := ⟨(in_6 (List.mem_of_getElem? (i := 37) rfl) rfl), (in_6 (List.mem_of_getElem? (i := 38) rfl) rfl), (in_1 (List.mem_of_getElem? (i := 22) rfl) rfl), (in_6 (List.mem_of_getElem? (i := 39) rfl) rfl), ⟨by decide, by decide, by decide +kernel⟩⟩
def spS (A : Nat → Nat → Int32) (q i : Int32) : Bool := decide (0 ≤ q ∧ q < 4 ∧ 0 ≤ i ∧ i < A 12 q.toNatClampNeg ∧ A 3 i.toNatClampNeg = 0)
set_option maxHeartbeats 4000000 in
set_option maxRecDepth 100000 in
/-- spoil(m, i, sum) -/
theorem c_M_spoil (l : Launch) (g : gG) (H : Heap) (x : Nat) (ad : Nat → Nat) (F : Nat → Int32) (A : Nat → Nat → Int32) (B : Nat → Nat → Int64) (hm0 : mW g H x ad F A B) (hc : ∀ k, k < 4 → ∃ n, A 12 k = nI n ∧ n ≤ 120) (q i v0 : Int32) : Met l y_M_spoil (wC y_M_spoil b_M_spoil 4 (some .boolean)) (rmk 1 0 0 20) (pC g H [.ref x, .int q, .int i, .int v0]) (qM g H x ad (fun v F1 A1 B1 => if spS A q i = true then (v = some (.int 1) ∧ F1 = upd F 0 (nI 0) ∧ A1 = updA A 11 (upd (A 11) (120 * q.toNatClampNeg + i.toNatClampNeg) v0) ∧ B1 = B) else (v = some (.int 0) ∧ F1 = upd F 0 (nI 0) ∧ A1 = A ∧ B1 = B))) 0 0 (mN x ad) := by
  refine mB (by decide) (Nat.le_of_ble_eq_true rfl) ?_
  intro p e s m below meth c ls C0 hH hZ hnm hl
  have C0 : cF g p s m _ meth c b_M_spoil 4 "RegistryLogModel" (some .boolean) := C0
  obtain ⟨hx, hb, hml, hown, hts, hr, hlk, hK⟩ := id C0
  subst hH
  have hl : lv_has ls 4 [(0, .ref x), (1, .int q), (2, .int i), (3, .int v0)] := hl
  have hm := mS.rf hm0
  refine lv_aload_n hx hb d_M_spoil_0 rfl (lv_at hl 0 rfl) ?_
  refine lv_iconst (v := nI 0) hx hb d_M_spoil_1 (by decide) ?_
  refine m_put hx hb hts hown hK hm 0 (by decide) (hts (.fieldLink "RegistryLogModel" 108 "RegistryLogModel" "code" "I") (in_4 (List.mem_of_getElem? (i := 209) rfl) rfl)) rfl rfl (v := nI 0) rfl rfl rfl rfl d_M_spoil_2 (fun H locs hm => ?_)
  refine lv_iload_n hx hb d_M_spoil_5 rfl (lv_at hl 1 rfl) ?_
  refine aP (rS (As := [.int q]) (rest := []) C0 (c_M_isMirror l g _ q) (m_zK hZ hm) k_M_spoil_6 rfl rfl ⟨Nat.le_of_ble_eq_true rfl, Nat.le_of_ble_eq_true rfl⟩ rfl hl.1 rfl (Nat.le_of_ble_eq_true rfl) d_M_spoil_6 ⟨Nat.zero_le _, Nat.zero_le _⟩) ?_
  intro v hv; subst hv
  refine W.eq (g2 := F0 m 9 ls [.int (bI (decide (0 ≤ q ∧ q < 4)))]) rfl ?_
  refine z_eq (tgt := 35) (v := decide (0 ≤ q ∧ q < 4)) hx hb d_M_spoil_9 (by decide) (fun c9 => ?_) (fun c9 => ?_)
  · skip
    refine lv_iconst (v := nI 0) hx hb d_M_spoil_35 (by decide) ?_
    exact W.zret hx hb hr rfl (fun t9 ht hW => ⟨_, _, _, _, rfl, by rw [ht]; exact ⟨hm.1, hm.2.1, hm.2.2.1, fun _ h => by cases h⟩, by (try dsimp only); rw [if_neg (by rw [spS, decide_eq_false (fun z => absurd (⟨z.1, z.2.1⟩ : 0 ≤ q ∧ q < 4) (of_decide_eq_false c9))]; decide)]; exact ⟨rfl, rfl, rfl, rfl⟩⟩) hm.2.2.2 d_M_spoil_36 hlk
  · skip
    have hqq := of_decide_eq_true c9
    obtain ⟨q1, hq1, eq1⟩ : ∃ k : Nat, k < 4 ∧ q = nI k := ix_ (n := 4) (by decide) (decide_eq_true ⟨hqq.1, hqq.2⟩)
    have hqc : q.toNatClampNeg = q1 := by rw [eq1]; exact nI_clamp (by omega)
    obtain ⟨n1, hn1, hn2⟩ := hc q1 hq1
    refine lv_iload_n hx hb d_M_spoil_12 rfl (lv_at hl 2 rfl) ?_
    refine lv_if_lt (tgt := 35) hx hb d_M_spoil_13 (by decide) (fun c13 => ?_) (fun c13 => ?_)
    · skip
      refine lv_iconst (v := nI 0) hx hb d_M_spoil_35 (by decide) ?_
      exact W.zret hx hb hr rfl (fun t9 ht hW => ⟨_, _, _, _, rfl, by rw [ht]; exact ⟨hm.1, hm.2.1, hm.2.2.1, fun _ h => by cases h⟩, by (try dsimp only); rw [if_neg (by rw [spS, decide_eq_false (fun z => absurd z.2.2.1 (Int32.not_le.mpr c13))]; decide)]; exact ⟨rfl, rfl, rfl, rfl⟩⟩) hm.2.2.2 d_M_spoil_36 hlk
    · skip
      refine lv_iload_n hx hb d_M_spoil_16 rfl (lv_at hl 2 rfl) ?_
      refine lv_aload_n hx hb d_M_spoil_17 rfl (lv_at hl 0 rfl) ?_
      refine m_get hx hb hts hown hK hm 12 (by decide) (hts (.fieldLink "RegistryLogModel" 40 "RegistryLogModel" "copied" "[I") (in_4 (List.mem_of_getElem? (i := 221) rfl) rfl)) rfl (v := .ref (ad 12)) rfl d_M_spoil_18 ?_
      refine lv_iload_n hx hb d_M_spoil_21 rfl (lv_at hl 1 rfl) ?_
      refine m_ld hx hb hK hm 12 rfl q1 eq1 (by show q1 < 5; omega) d_M_spoil_22 ?_
      refine lv_icmp_ge (tgt := 35) hx hb d_M_spoil_23 (by decide) (fun c23 => ?_) (fun c23 => ?_)
      · skip
        refine lv_iconst (v := nI 0) hx hb d_M_spoil_35 (by decide) ?_
        exact W.zret hx hb hr rfl (fun t9 ht hW => ⟨_, _, _, _, rfl, by rw [ht]; exact ⟨hm.1, hm.2.1, hm.2.2.1, fun _ h => by cases h⟩, by (try dsimp only); rw [if_neg (by rw [spS, decide_eq_false (fun z => absurd z.2.2.2.1 (Int32.not_lt.mpr (by rw [hqc]; exact c23)))]; decide)]; exact ⟨rfl, rfl, rfl, rfl⟩⟩) hm.2.2.2 d_M_spoil_36 hlk
      · skip
        obtain ⟨k, hk1, ek⟩ := nI_of c13
        have hk : k < n1 := (nI_ltI hk1 (by omega)).mp (by rw [← ek, ← hn1]; exact Int32.not_le.mp c23)
        have hkc : i.toNatClampNeg = k := by rw [ek]; exact nI_clamp hk1
        refine lv_aload_n hx hb d_M_spoil_26 rfl (lv_at hl 0 rfl) ?_
        refine m_get hx hb hts hown hK hm 3 (by decide) (hts (.fieldLink "RegistryLogModel" 13 "RegistryLogModel" "kind" "[I") (in_4 (List.mem_of_getElem? (i := 212) rfl) rfl)) rfl (v := .ref (ad 3)) rfl d_M_spoil_27 ?_
        refine lv_iload_n hx hb d_M_spoil_30 rfl (lv_at hl 2 rfl) ?_
        refine m_ld hx hb hK hm 3 rfl k ek (by show k < 120; omega) d_M_spoil_31 ?_
        refine lv_if_eq (tgt := 37) hx hb d_M_spoil_32 (by decide) (fun c32 => ?_) (fun c32 => ?_)
        · skip
          refine lv_aload_n hx hb d_M_spoil_37 rfl (lv_at hl 0 rfl) ?_
          refine m_get hx hb hts hown hK hm 11 (by decide) (hts (.fieldLink "RegistryLogModel" 37 "RegistryLogModel" "sums" "[I") (in_4 (List.mem_of_getElem? (i := 220) rfl) rfl)) rfl (v := .ref (ad 11)) rfl d_M_spoil_38 ?_
          refine lv_bipush (v := nI 120) hx hb d_M_spoil_41 (by decide) ?_
          refine lv_iload_n hx hb d_M_spoil_43 rfl (lv_at hl 1 rfl) ?_
          refine lv_imul hx hb d_M_spoil_44 ?_
          refine lv_iload_n hx hb d_M_spoil_45 rfl (lv_at hl 2 rfl) ?_
          refine lv_iadd hx hb d_M_spoil_46 ?_
          refine lv_iload_n hx hb d_M_spoil_47 rfl (lv_at hl 3 rfl) ?_
          refine m_st hx hb hK hm 11 rfl (120 * q1 + k) (by rw [eq1, ek, pk_mul, nI_add]) (show 120 * q1 + k < 600 from by omega) d_M_spoil_48 (fun H locs hm => ?_)
          have hm : mS g s.heap H x ad (upd F 0 (nI 0)) (updA A 11 (upd (A 11) (120 * q1 + k) (v0))) B locs := hm
          refine lv_iconst (v := nI 1) hx hb d_M_spoil_49 (by decide) ?_
          exact W.zret hx hb hr rfl (fun t9 ht hW => ⟨_, _, _, _, rfl, by rw [ht]; exact ⟨hm.1, hm.2.1, hm.2.2.1, fun _ h => by cases h⟩, by (try dsimp only); rw [if_pos (by rw [spS, decide_eq_true ⟨hqq.1, hqq.2, Int32.not_lt.mp c13, by rw [hqc]; exact Int32.not_le.mp c23, by rw [hkc]; exact c32⟩]), hqc, hkc]; exact ⟨rfl, rfl, rfl, rfl⟩⟩) hm.2.2.2 d_M_spoil_50 hlk
        · skip
          refine lv_iconst (v := nI 0) hx hb d_M_spoil_35 (by decide) ?_
          exact W.zret hx hb hr rfl (fun t9 ht hW => ⟨_, _, _, _, rfl, by rw [ht]; exact ⟨hm.1, hm.2.1, hm.2.2.1, fun _ h => by cases h⟩, by (try dsimp only); rw [if_neg (by rw [spS, decide_eq_false (fun z => c32 (by rw [hkc] at z; exact z.2.2.2.2))]; decide)]; exact ⟨rfl, rfl, rfl, rfl⟩⟩) hm.2.2.2 d_M_spoil_36 hlk
def rbit (r : Int32) (w : Nat) : Bool := decide ((r >>> (nI w &&& 31)) &&& 1 = 1)
set_option maxHeartbeats 4000000 in
set_option maxRecDepth 100000 in
/-- isKnown(NONE) -/
theorem c_M_isKnown0 (l : Launch) (g : gG) (H : Heap) (x : Nat) (ad : Nat → Nat) (F : Nat → Int32) (A : Nat → Nat → Int32) (B : Nat → Nat → Int64) (hm0 : mW g H x ad F A B)  : Met l y_M_isKnown (wC y_M_isKnown b_M_isKnown 2 (some .boolean)) (rmk 0 0 0 0) (pC g H [.ref x, .int ((-1))]) (qP H (fun v => v = some (.int (bI false)))) 0 0 no_ := by
  refine mB (by decide) (Nat.le_of_ble_eq_true rfl) ?_
  intro p e s m below meth c ls C0 hH hZ hnm hl
  have C0 : cF g p s m _ meth c b_M_isKnown 2 "RegistryLogModel" (some .boolean) := C0
  obtain ⟨hx, hb, hml, hown, hts, hr, hlk, hK⟩ := id C0
  subst hH
  have hl : lv_has ls 2 [(0, .ref x), (1, .int ((-1)))] := hl
  have hm := mS.rf hm0
  refine lv_iload_n hx hb d_M_isKnown_0 rfl (lv_at hl 1 rfl) ?_
  refine lv_iconst (v := (-1)) hx hb d_M_isKnown_1 (by decide) ?_
  refine lv_icmp_eq (tgt := 19) hx hb d_M_isKnown_2 (by decide) (fun c2 => ?_) (fun c2 => ?_)
  · skip
    refine lv_iconst (v := nI 0) hx hb d_M_isKnown_19 (by decide) ?_
    exact W.zret hx hb hr rfl (fun t9 ht hW => ⟨_, rfl, rfl, ht⟩) (fun q h => by cases h) d_M_isKnown_20 hlk
  · skip
    first | exact absurd c2 (by decide) | exact absurd (by decide) c2
theorem nI_m1 {k : Nat} (h : k < 2 ^ 31) : ¬ nI k = -1 := fun z => by
  have := congrArg Int32.toInt z
  rw [nI_toInt h] at this
  have e : (-1 : Int32).toInt = -1 := by decide
  omega
set_option maxHeartbeats 4000000 in
set_option maxRecDepth 100000 in
/-- isKnown(k) -/
theorem c_M_isKnown (l : Launch) (g : gG) (H : Heap) (x : Nat) (ad : Nat → Nat) (F : Nat → Int32) (A : Nat → Nat → Int32) (B : Nat → Nat → Int64) (hm0 : mW g H x ad F A B) (k : Nat) (hk : k < 240) : Met l y_M_isKnown (wC y_M_isKnown b_M_isKnown 2 (some .boolean)) (rmk 0 0 0 0) (pC g H [.ref x, .int (nI k)]) (qP H (fun v => v = some (.int (bI (decide (A 19 k = nI 1)))))) 0 0 no_ := by
  refine mB (by decide) (Nat.le_of_ble_eq_true rfl) ?_
  intro p e s m below meth c ls C0 hH hZ hnm hl
  have C0 : cF g p s m _ meth c b_M_isKnown 2 "RegistryLogModel" (some .boolean) := C0
  obtain ⟨hx, hb, hml, hown, hts, hr, hlk, hK⟩ := id C0
  subst hH
  have hl : lv_has ls 2 [(0, .ref x), (1, .int (nI k))] := hl
  have hm := mS.rf hm0
  refine lv_iload_n hx hb d_M_isKnown_0 rfl (lv_at hl 1 rfl) ?_
  refine lv_iconst (v := (-1)) hx hb d_M_isKnown_1 (by decide) ?_
  refine lv_icmp_eq (tgt := 19) hx hb d_M_isKnown_2 (by decide) (fun c2 => ?_) (fun c2 => ?_)
  · skip
    exact absurd c2 (nI_m1 (by omega))
  · skip
    refine lv_aload_n hx hb d_M_isKnown_5 rfl (lv_at hl 0 rfl) ?_
    refine m_get hx hb hts hown hK hm 19 (by decide) (hts (.fieldLink "RegistryLogModel" 56 "RegistryLogModel" "nameState" "[I") (in_4 (List.mem_of_getElem? (i := 228) rfl) rfl)) rfl (v := .ref (ad 19)) rfl d_M_isKnown_6 ?_
    refine lv_iload_n hx hb d_M_isKnown_9 rfl (lv_at hl 1 rfl) ?_
    refine m_ld hx hb hK hm 19 rfl k rfl (show k < 240 from by omega) d_M_isKnown_10 ?_
    refine lv_iconst (v := nI 1) hx hb d_M_isKnown_11 (by decide) ?_
    refine lv_icmp_ne (tgt := 19) hx hb d_M_isKnown_12 (by decide) (fun c12 => ?_) (fun c12 => ?_)
    · skip
      refine lv_iconst (v := nI 0) hx hb d_M_isKnown_19 (by decide) ?_
      exact W.zret hx hb hr rfl (fun t9 ht hW => ⟨_, rfl, by rw [decide_eq_false c12]; rfl, ht⟩) (fun q h => by cases h) d_M_isKnown_20 hlk
    · skip
      refine lv_iconst (v := nI 1) hx hb d_M_isKnown_15 (by decide) ?_
      refine lv_goto (tgt := 20) hx hb d_M_isKnown_16 (by decide) ?_
      exact W.zret hx hb hr rfl (fun t9 ht hW => ⟨_, rfl, by rw [decide_eq_true c12]; rfl, ht⟩) (fun q h => by cases h) d_M_isKnown_20 hlk
theorem k_M_isFounder_2 : kV "RegistryLogModel" 154 "RegistryLogModel" y_M_isKnown b_M_isKnown 2 (some .boolean) 1 := ⟨(in_5 (List.mem_of_getElem? (i := 170) rfl) rfl), (in_5 (List.mem_of_getElem? (i := 172) rfl) rfl), (in_0 (List.mem_of_getElem? (i := 15) rfl) rfl), (in_1 (List.mem_of_getElem? (i := 22) rfl) rfl), (in_5 (List.mem_of_getElem? (i := 173) rfl) rfl), ⟨by decide, by decide, by decide +kernel⟩⟩
set_option maxHeartbeats 4000000 in
set_option maxRecDepth 100000 in
/-- isFounder(k, who) -/
theorem c_M_isFounder (l : Launch) (g : gG) (H : Heap) (x : Nat) (ad : Nat → Nat) (F : Nat → Int32) (A : Nat → Nat → Int32) (B : Nat → Nat → Int64) (hm0 : mW g H x ad F A B) (k ow : Nat) (hk : k < 240) (how : A 20 k = nI ow) (how2 : ow < 120) (w0 : Int32) : Met l y_M_isFounder (wC y_M_isFounder b_M_isFounder 3 (some .boolean)) (rmk 1 0 0 21) (pC g H [.ref x, .int (nI k), .int w0]) (qP H (fun v => v = some (.int (bI (decide (A 19 k = nI 1 ∧ A 21 ow = w0)))))) 0 0 no_ := by
  refine mB (by decide) (Nat.le_of_ble_eq_true rfl) ?_
  intro p e s m below meth c ls C0 hH hZ hnm hl
  have C0 : cF g p s m _ meth c b_M_isFounder 3 "RegistryLogModel" (some .boolean) := C0
  obtain ⟨hx, hb, hml, hown, hts, hr, hlk, hK⟩ := id C0
  subst hH
  have hl : lv_has ls 3 [(0, .ref x), (1, .int (nI k)), (2, .int w0)] := hl
  have hm := mS.rf hm0
  refine lv_aload_n hx hb d_M_isFounder_0 rfl (lv_at hl 0 rfl) ?_
  refine lv_iload_n hx hb d_M_isFounder_1 rfl (lv_at hl 1 rfl) ?_
  refine aP (rV (As := [.int (nI k)]) (rest := []) C0 (c_M_isKnown l g _ x ad _ _ _ hm.1 k hk) (m_zK hZ hm) k_M_isFounder_2 rfl rfl ⟨Nat.le_of_ble_eq_true rfl, Nat.le_of_ble_eq_true rfl⟩ (m_recv hK hm) rfl hl.1 rfl (Nat.le_of_ble_eq_true rfl) d_M_isFounder_2 ⟨Nat.zero_le _, Nat.zero_le _⟩) ?_
  intro v hv; subst hv
  refine W.eq (g2 := F0 m 5 ls [.int (bI (decide (A 19 k = nI 1)))]) rfl ?_
  refine z_eq (tgt := 27) (v := decide (A 19 k = nI 1)) hx hb d_M_isFounder_5 (by decide) (fun c5 => ?_) (fun c5 => ?_)
  · skip
    refine lv_iconst (v := nI 0) hx hb d_M_isFounder_27 (by decide) ?_
    exact W.zret hx hb hr rfl (fun t9 ht hW => ⟨_, rfl, by rw [decide_eq_false (fun z => absurd z.1 (of_decide_eq_false c5))]; rfl, ht⟩) (fun q h => by cases h) d_M_isFounder_28 hlk
  · skip
    refine lv_aload_n hx hb d_M_isFounder_8 rfl (lv_at hl 0 rfl) ?_
    refine m_get hx hb hts hown hK hm 21 (by decide) (hts (.fieldLink "RegistryLogModel" 62 "RegistryLogModel" "founders" "[I") (in_4 (List.mem_of_getElem? (i := 230) rfl) rfl)) rfl (v := .ref (ad 21)) rfl d_M_isFounder_9 ?_
    refine lv_aload_n hx hb d_M_isFounder_12 rfl (lv_at hl 0 rfl) ?_
    refine m_get hx hb hts hown hK hm 20 (by decide) (hts (.fieldLink "RegistryLogModel" 59 "RegistryLogModel" "nameOf" "[I") (in_4 (List.mem_of_getElem? (i := 229) rfl) rfl)) rfl (v := .ref (ad 20)) rfl d_M_isFounder_13 ?_
    refine lv_iload_n hx hb d_M_isFounder_16 rfl (lv_at hl 1 rfl) ?_
    refine m_ld hx hb hK hm 20 rfl k rfl (show k < 240 from by omega) d_M_isFounder_17 ?_
    refine W.eq (g2 := F0 m 18 ls [.int (nI ow), .ref (ad 21)]) (by rw [how]) ?_
    refine m_ld hx hb hK hm 21 rfl ow rfl (show ow < 120 from by omega) d_M_isFounder_18 ?_
    refine lv_iload_n hx hb d_M_isFounder_19 rfl (lv_at hl 2 rfl) ?_
    refine lv_icmp_ne (tgt := 27) hx hb d_M_isFounder_20 (by decide) (fun c20 => ?_) (fun c20 => ?_)
    · skip
      refine lv_iconst (v := nI 0) hx hb d_M_isFounder_27 (by decide) ?_
      exact W.zret hx hb hr rfl (fun t9 ht hW => ⟨_, rfl, by rw [decide_eq_false (fun z => c20 z.2)]; rfl, ht⟩) (fun q h => by cases h) d_M_isFounder_28 hlk
    · skip
      refine lv_iconst (v := nI 1) hx hb d_M_isFounder_23 (by decide) ?_
      refine lv_goto (tgt := 28) hx hb d_M_isFounder_24 (by decide) ?_
      exact W.zret hx hb hr rfl (fun t9 ht hW => ⟨_, rfl, by rw [decide_eq_true ⟨of_decide_eq_true c5, c20⟩]; rfl, ht⟩) (fun q h => by cases h) d_M_isFounder_28 hlk
set_option maxHeartbeats 4000000 in
set_option maxRecDepth 100000 in
/-- isFounder(NONE, who) -/
theorem c_M_isFounder0 (l : Launch) (g : gG) (H : Heap) (x : Nat) (ad : Nat → Nat) (F : Nat → Int32) (A : Nat → Nat → Int32) (B : Nat → Nat → Int64) (hm0 : mW g H x ad F A B) (w0 : Int32) : Met l y_M_isFounder (wC y_M_isFounder b_M_isFounder 3 (some .boolean)) (rmk 1 0 0 21) (pC g H [.ref x, .int ((-1)), .int w0]) (qP H (fun v => v = some (.int (bI false)))) 0 0 no_ := by
  refine mB (by decide) (Nat.le_of_ble_eq_true rfl) ?_
  intro p e s m below meth c ls C0 hH hZ hnm hl
  have C0 : cF g p s m _ meth c b_M_isFounder 3 "RegistryLogModel" (some .boolean) := C0
  obtain ⟨hx, hb, hml, hown, hts, hr, hlk, hK⟩ := id C0
  subst hH
  have hl : lv_has ls 3 [(0, .ref x), (1, .int ((-1))), (2, .int w0)] := hl
  have hm := mS.rf hm0
  refine lv_aload_n hx hb d_M_isFounder_0 rfl (lv_at hl 0 rfl) ?_
  refine lv_iload_n hx hb d_M_isFounder_1 rfl (lv_at hl 1 rfl) ?_
  refine aP (rV (As := [.int ((-1))]) (rest := []) C0 (c_M_isKnown0 l g _ x ad _ _ _ hm.1) (m_zK hZ hm) k_M_isFounder_2 rfl rfl ⟨Nat.le_of_ble_eq_true rfl, Nat.le_of_ble_eq_true rfl⟩ (m_recv hK hm) rfl hl.1 rfl (Nat.le_of_ble_eq_true rfl) d_M_isFounder_2 ⟨Nat.zero_le _, Nat.zero_le _⟩) ?_
  intro v hv; subst hv
  refine W.eq (g2 := F0 m 5 ls [.int (bI false)]) rfl ?_
  refine z_eq (tgt := 27) (v := false) hx hb d_M_isFounder_5 (by decide) (fun c5 => ?_) (fun c5 => ?_)
  · skip
    refine lv_iconst (v := nI 0) hx hb d_M_isFounder_27 (by decide) ?_
    exact W.zret hx hb hr rfl (fun t9 ht hW => ⟨_, rfl, rfl, ht⟩) (fun q h => by cases h) d_M_isFounder_28 hlk
  · skip
    first | exact absurd c5 (by decide) | exact absurd (by decide) c5
theorem k_M_hasRight_2 : kV "RegistryLogModel" 154 "RegistryLogModel" y_M_isKnown b_M_isKnown 2 (some .boolean) 1 := ⟨(in_5 (List.mem_of_getElem? (i := 170) rfl) rfl), (in_5 (List.mem_of_getElem? (i := 172) rfl) rfl), (in_0 (List.mem_of_getElem? (i := 15) rfl) rfl), (in_1 (List.mem_of_getElem? (i := 22) rfl) rfl), (in_5 (List.mem_of_getElem? (i := 173) rfl) rfl), ⟨by decide, by decide, by decide +kernel⟩⟩
set_option maxHeartbeats 4000000 in
set_option maxRecDepth 100000 in
/-- hasRight(k, who) -/
theorem c_M_hasRight (l : Launch) (g : gG) (H : Heap) (x : Nat) (ad : Nat → Nat) (F : Nat → Int32) (A : Nat → Nat → Int32) (B : Nat → Nat → Int64) (hm0 : mW g H x ad F A B) (k ow w0 : Nat) (hk : k < 240) (how : A 20 k = nI ow) (how2 : ow < 120) : Met l y_M_hasRight (wC y_M_hasRight b_M_hasRight 3 (some .boolean)) (rmk 1 0 0 21) (pC g H [.ref x, .int (nI k), .int (nI w0)]) (qP H (fun v => v = some (.int (bI (decide (A 19 k = nI 1 ∧ (A 21 ow = nI w0 ∨ rbit (A 22 ow) w0 = true))))))) 0 0 no_ := by
  refine mB (by decide) (Nat.le_of_ble_eq_true rfl) ?_
  intro p e s m below meth c ls C0 hH hZ hnm hl
  have C0 : cF g p s m _ meth c b_M_hasRight 3 "RegistryLogModel" (some .boolean) := C0
  obtain ⟨hx, hb, hml, hown, hts, hr, hlk, hK⟩ := id C0
  subst hH
  have hl : lv_has ls 3 [(0, .ref x), (1, .int (nI k)), (2, .int (nI w0))] := hl
  have hm := mS.rf hm0
  refine lv_aload_n hx hb d_M_hasRight_0 rfl (lv_at hl 0 rfl) ?_
  refine lv_iload_n hx hb d_M_hasRight_1 rfl (lv_at hl 1 rfl) ?_
  refine aP (rV (As := [.int (nI k)]) (rest := []) C0 (c_M_isKnown l g _ x ad _ _ _ hm.1 k hk) (m_zK hZ hm) k_M_hasRight_2 rfl rfl ⟨Nat.le_of_ble_eq_true rfl, Nat.le_of_ble_eq_true rfl⟩ (m_recv hK hm) rfl hl.1 rfl (Nat.le_of_ble_eq_true rfl) d_M_hasRight_2 ⟨Nat.zero_le _, Nat.zero_le _⟩) ?_
  intro v hv; subst hv
  refine W.eq (g2 := F0 m 5 ls [.int (bI (decide (A 19 k = nI 1)))]) rfl ?_
  refine z_eq (tgt := 46) (v := decide (A 19 k = nI 1)) hx hb d_M_hasRight_5 (by decide) (fun c5 => ?_) (fun c5 => ?_)
  · skip
    refine lv_iconst (v := nI 0) hx hb d_M_hasRight_46 (by decide) ?_
    exact W.zret hx hb hr rfl (fun t9 ht hW => ⟨_, rfl, by rw [decide_eq_false (fun z => absurd z.1 (of_decide_eq_false c5))]; rfl, ht⟩) (fun q h => by cases h) d_M_hasRight_47 hlk
  · skip
    refine lv_aload_n hx hb d_M_hasRight_8 rfl (lv_at hl 0 rfl) ?_
    refine m_get hx hb hts hown hK hm 21 (by decide) (hts (.fieldLink "RegistryLogModel" 62 "RegistryLogModel" "founders" "[I") (in_4 (List.mem_of_getElem? (i := 230) rfl) rfl)) rfl (v := .ref (ad 21)) rfl d_M_hasRight_9 ?_
    refine lv_aload_n hx hb d_M_hasRight_12 rfl (lv_at hl 0 rfl) ?_
    refine m_get hx hb hts hown hK hm 20 (by decide) (hts (.fieldLink "RegistryLogModel" 59 "RegistryLogModel" "nameOf" "[I") (in_4 (List.mem_of_getElem? (i := 229) rfl) rfl)) rfl (v := .ref (ad 20)) rfl d_M_hasRight_13 ?_
    refine lv_iload_n hx hb d_M_hasRight_16 rfl (lv_at hl 1 rfl) ?_
    refine m_ld hx hb hK hm 20 rfl k rfl (show k < 240 from by omega) d_M_hasRight_17 ?_
    refine W.eq (g2 := F0 m 18 ls [.int (nI ow), .ref (ad 21)]) (by rw [how]) ?_
    refine m_ld hx hb hK hm 21 rfl ow rfl (show ow < 120 from by omega) d_M_hasRight_18 ?_
    refine lv_iload_n hx hb d_M_hasRight_19 rfl (lv_at hl 2 rfl) ?_
    refine lv_icmp_eq (tgt := 42) hx hb d_M_hasRight_20 (by decide) (fun c20 => ?_) (fun c20 => ?_)
    · skip
      refine lv_iconst (v := nI 1) hx hb d_M_hasRight_42 (by decide) ?_
      refine lv_goto (tgt := 47) hx hb d_M_hasRight_43 (by decide) ?_
      exact W.zret hx hb hr rfl (fun t9 ht hW => ⟨_, rfl, by rw [decide_eq_true ⟨of_decide_eq_true c5, Or.inl c20⟩]; rfl, ht⟩) (fun q h => by cases h) d_M_hasRight_47 hlk
    · skip
      refine lv_aload_n hx hb d_M_hasRight_23 rfl (lv_at hl 0 rfl) ?_
      refine m_get hx hb hts hown hK hm 22 (by decide) (hts (.fieldLink "RegistryLogModel" 65 "RegistryLogModel" "rights" "[I") (in_4 (List.mem_of_getElem? (i := 231) rfl) rfl)) rfl (v := .ref (ad 22)) rfl d_M_hasRight_24 ?_
      refine lv_aload_n hx hb d_M_hasRight_27 rfl (lv_at hl 0 rfl) ?_
      refine m_get hx hb hts hown hK hm 20 (by decide) (hts (.fieldLink "RegistryLogModel" 59 "RegistryLogModel" "nameOf" "[I") (in_4 (List.mem_of_getElem? (i := 229) rfl) rfl)) rfl (v := .ref (ad 20)) rfl d_M_hasRight_28 ?_
      refine lv_iload_n hx hb d_M_hasRight_31 rfl (lv_at hl 1 rfl) ?_
      refine m_ld hx hb hK hm 20 rfl k rfl (show k < 240 from by omega) d_M_hasRight_32 ?_
      refine W.eq (g2 := F0 m 33 ls [.int (nI ow), .ref (ad 22)]) (by rw [how]) ?_
      refine m_ld hx hb hK hm 22 rfl ow rfl (show ow < 120 from by omega) d_M_hasRight_33 ?_
      refine lv_iload_n hx hb d_M_hasRight_34 rfl (lv_at hl 2 rfl) ?_
      refine lv_ishr hx hb d_M_hasRight_35 ?_
      refine lv_iconst (v := 1) hx hb d_M_hasRight_36 (by decide) ?_
      refine lv_iand hx hb d_M_hasRight_37 ?_
      refine lv_iconst (v := 1) hx hb d_M_hasRight_38 (by decide) ?_
      refine lv_icmp_ne (tgt := 46) hx hb d_M_hasRight_39 (by decide) (fun c39 => ?_) (fun c39 => ?_)
      · skip
        refine lv_iconst (v := nI 0) hx hb d_M_hasRight_46 (by decide) ?_
        exact W.zret hx hb hr rfl (fun t9 ht hW => ⟨_, rfl, by rw [decide_eq_false (fun z => z.2.elim c20 (fun y => c39 (of_decide_eq_true y)))]; rfl, ht⟩) (fun q h => by cases h) d_M_hasRight_47 hlk
      · skip
        refine lv_iconst (v := nI 1) hx hb d_M_hasRight_42 (by decide) ?_
        refine lv_goto (tgt := 47) hx hb d_M_hasRight_43 (by decide) ?_
        exact W.zret hx hb hr rfl (fun t9 ht hW => ⟨_, rfl, by rw [decide_eq_true ⟨of_decide_eq_true c5, Or.inr (decide_eq_true c39)⟩]; rfl, ht⟩) (fun q h => by cases h) d_M_hasRight_47 hlk
set_option maxHeartbeats 4000000 in
set_option maxRecDepth 100000 in
/-- hasRight(NONE, who) -/
theorem c_M_hasRight0 (l : Launch) (g : gG) (H : Heap) (x : Nat) (ad : Nat → Nat) (F : Nat → Int32) (A : Nat → Nat → Int32) (B : Nat → Nat → Int64) (hm0 : mW g H x ad F A B) (w0 : Int32) : Met l y_M_hasRight (wC y_M_hasRight b_M_hasRight 3 (some .boolean)) (rmk 1 0 0 21) (pC g H [.ref x, .int ((-1)), .int w0]) (qP H (fun v => v = some (.int (bI false)))) 0 0 no_ := by
  refine mB (by decide) (Nat.le_of_ble_eq_true rfl) ?_
  intro p e s m below meth c ls C0 hH hZ hnm hl
  have C0 : cF g p s m _ meth c b_M_hasRight 3 "RegistryLogModel" (some .boolean) := C0
  obtain ⟨hx, hb, hml, hown, hts, hr, hlk, hK⟩ := id C0
  subst hH
  have hl : lv_has ls 3 [(0, .ref x), (1, .int ((-1))), (2, .int w0)] := hl
  have hm := mS.rf hm0
  refine lv_aload_n hx hb d_M_hasRight_0 rfl (lv_at hl 0 rfl) ?_
  refine lv_iload_n hx hb d_M_hasRight_1 rfl (lv_at hl 1 rfl) ?_
  refine aP (rV (As := [.int ((-1))]) (rest := []) C0 (c_M_isKnown0 l g _ x ad _ _ _ hm.1) (m_zK hZ hm) k_M_hasRight_2 rfl rfl ⟨Nat.le_of_ble_eq_true rfl, Nat.le_of_ble_eq_true rfl⟩ (m_recv hK hm) rfl hl.1 rfl (Nat.le_of_ble_eq_true rfl) d_M_hasRight_2 ⟨Nat.zero_le _, Nat.zero_le _⟩) ?_
  intro v hv; subst hv
  refine W.eq (g2 := F0 m 5 ls [.int (bI false)]) rfl ?_
  refine z_eq (tgt := 46) (v := false) hx hb d_M_hasRight_5 (by decide) (fun c5 => ?_) (fun c5 => ?_)
  · skip
    refine lv_iconst (v := nI 0) hx hb d_M_hasRight_46 (by decide) ?_
    exact W.zret hx hb hr rfl (fun t9 ht hW => ⟨_, rfl, rfl, ht⟩) (fun q h => by cases h) d_M_hasRight_47 hlk
  · skip
    first | exact absurd c5 (by decide) | exact absurd (by decide) c5
