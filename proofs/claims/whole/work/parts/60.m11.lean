theorem k_M_digest_7 : kV "RegistryLogModel" 196 "RegistryLogModel" y_M_isRow b_M_isRow 2 (some .boolean) 1 := ⟨(in_5 (List.mem_of_getElem? (i := 210) rfl) rfl), (in_5 (List.mem_of_getElem? (i := 212) rfl) rfl), (in_0 (List.mem_of_getElem? (i := 20) rfl) rfl), (in_1 (List.mem_of_getElem? (i := 22) rfl) rfl), (in_5 (List.mem_of_getElem? (i := 213) rfl) rfl), ⟨by decide, by decide, by decide +kernel⟩⟩
theorem k_M_digest_16 : kV "RegistryLogModel" 207 "RegistryLogModel" y_M_digestOf b_M_digestOf 6 (some .long) 2 := ⟨(in_5 (List.mem_of_getElem? (i := 218) rfl) rfl), (in_5 (List.mem_of_getElem? (i := 220) rfl) rfl), (in_0 (List.mem_of_getElem? (i := 21) rfl) rfl), (in_1 (List.mem_of_getElem? (i := 22) rfl) rfl), (in_5 (List.mem_of_getElem? (i := 221) rfl) rfl), ⟨by decide, by decide, by decide +kernel⟩⟩
set_option maxHeartbeats 4000000 in
set_option maxRecDepth 100000 in
/-- digest(i) -/
theorem c_M_digest (l : Launch) (g : gG) (H : Heap) (x : Nat) (ad : Nat → Nat) (F : Nat → Int32) (A : Nat → Nat → Int32) (B : Nat → Nat → Int64) (hm0 : mW g H x ad F A B) (cnt : Nat) (TT UU : Nat → List Nat) (hrep : repR A cnt TT UU) (hc : A 12 4 = nI cnt) (i : Int32) : Met l y_M_digest (wC y_M_digest b_M_digest 2 (some .long)) (rmk 2 0 0 50) (pC g H [.ref x, .int i]) (qM g H x ad (fun v F1 A1 B1 => v = some (.long (if 0 ≤ i ∧ i < nI cnt then dgA A 4 TT UU i.toNatClampNeg else 0)) ∧ F1 = upd F 0 (nI 0) ∧ A1 = A ∧ B1 = B)) 0 0 (mN x ad) := by
  refine mB (by decide) (Nat.le_of_ble_eq_true rfl) ?_
  intro p e s m below meth c ls C0 hH hZ hnm hl
  have C0 : cF g p s m _ meth c b_M_digest 2 "RegistryLogModel" (some .long) := C0
  obtain ⟨hx, hb, hml, hown, hts, hr, hlk, hK⟩ := id C0
  subst hH
  have hl : lv_has ls 2 [(0, .ref x), (1, .int i)] := hl
  have hm := mS.rf hm0
  have hc120 : cnt ≤ 120 := hrep.1
  refine lv_aload_n hx hb d_M_digest_0 rfl (lv_at hl 0 rfl) ?_
  refine lv_iconst (v := nI 0) hx hb d_M_digest_1 (by decide) ?_
  refine m_put hx hb hts hown hK hm 0 (by decide) (hts (.fieldLink "RegistryLogModel" 108 "RegistryLogModel" "code" "I") (in_4 (List.mem_of_getElem? (i := 209) rfl) rfl)) rfl rfl (v := nI 0) rfl rfl rfl rfl d_M_digest_2 (fun H locs hm => ?_)
  refine lv_aload_n hx hb d_M_digest_5 rfl (lv_at hl 0 rfl) ?_
  refine lv_iload_n hx hb d_M_digest_6 rfl (lv_at hl 1 rfl) ?_
  refine aP (rV (As := [.int i]) (rest := []) C0 (c_M_isRow l g _ x ad _ _ _ hm.1 cnt hc i) (m_zK hZ hm) k_M_digest_7 rfl rfl ⟨Nat.le_of_ble_eq_true rfl, Nat.le_of_ble_eq_true rfl⟩ (m_recv hK hm) rfl hl.1 rfl (Nat.le_of_ble_eq_true rfl) d_M_digest_7 ⟨Nat.zero_le _, Nat.zero_le _⟩) ?_
  intro v hv; subst hv
  refine W.eq (g2 := F0 m 10 ls [.int (bI (decide (0 ≤ i ∧ i < nI cnt)))]) rfl ?_
  refine z_eq (tgt := 22) (v := decide (0 ≤ i ∧ i < nI cnt)) hx hb d_M_digest_10 (by decide) (fun c10 => ?_) (fun c10 => ?_)
  · skip
    refine lv_lconst (v := 0) hx hb d_M_digest_22 (by decide) ?_
    exact W.lret hx hb hr (fun t9 ht hW => ⟨_, _, _, _, rfl, by rw [ht]; exact ⟨hm.1, hm.2.1, hm.2.2.1, fun _ h => by cases h⟩, ⟨by rw [if_neg (of_decide_eq_false c10)], rfl, rfl, rfl⟩⟩) hm.2.2.2 d_M_digest_23 hlk
  · skip
    have hin := of_decide_eq_true c10
    obtain ⟨k, hk, ek⟩ := ix_ (by omega) c10
    subst ek
    obtain ⟨r1, r2, r3, r4, r5, r6, r7⟩ := hrep.2 k hk
    refine lv_aload_n hx hb d_M_digest_13 rfl (lv_at hl 0 rfl) ?_
    refine lv_iconst (v := nI 4) hx hb d_M_digest_14 (by decide) ?_
    refine lv_iload_n hx hb d_M_digest_15 rfl (lv_at hl 1 rfl) ?_
    refine aP (rV (As := [.int (nI 4), .int (nI k)]) (rest := []) C0 (c_M_digestOf l g _ x ad _ _ _ hm.1 4 k (by decide) (by omega) (TT k) (UU k) r1 r2 r3 r4 r5 r6 r7) (m_zK hZ hm) k_M_digest_16 rfl rfl ⟨Nat.le_of_ble_eq_true rfl, Nat.le_of_ble_eq_true rfl⟩ (m_recv hK hm) rfl hl.1 rfl (Nat.le_of_ble_eq_true rfl) d_M_digest_16 ⟨Nat.zero_le _, Nat.zero_le _⟩) ?_
    intro v hv; subst hv
    refine W.eq (g2 := F0 m 19 ls [.long (dgA A 4 TT UU k)]) rfl ?_
    refine lv_goto (tgt := 23) hx hb d_M_digest_19 (by decide) ?_
    exact W.lret hx hb hr (fun t9 ht hW => ⟨_, _, _, _, rfl, by rw [ht]; exact ⟨hm.1, hm.2.1, hm.2.2.1, fun _ h => by cases h⟩, ⟨by rw [if_pos hin, nI_clamp (by omega)], rfl, rfl, rfl⟩⟩) hm.2.2.2 d_M_digest_23 hlk
theorem k_M_head_27 : kV "RegistryLogModel" 214 "RegistryLogModel" y_M_headOf b_M_headOf 9 (some .long) 3 := ⟨(in_5 (List.mem_of_getElem? (i := 231) rfl) rfl), (in_5 (List.mem_of_getElem? (i := 233) rfl) rfl), (in_0 (List.mem_of_getElem? (i := 22) rfl) rfl), (in_1 (List.mem_of_getElem? (i := 22) rfl) rfl), (in_5 (List.mem_of_getElem? (i := 234) rfl) rfl), ⟨by decide, by decide, by decide +kernel⟩⟩
set_option maxHeartbeats 4000000 in
set_option maxRecDepth 100000 in
/-- head(n) -/
theorem c_M_head (l : Launch) (g : gG) (H : Heap) (x : Nat) (ad : Nat → Nat) (F : Nat → Int32) (A : Nat → Nat → Int32) (B : Nat → Nat → Int64) (hm0 : mW g H x ad F A B) (cnt : Nat) (TT UU : Nat → List Nat) (hrep : repR A cnt TT UU) (hc : A 12 4 = nI cnt) (n : Int32) : Met l y_M_head (wC y_M_head b_M_head 2 (some .long)) (rmk 3 0 0 78) (pC g H [.ref x, .int n]) (qM g H x ad (fun v F1 A1 B1 => v = some (.long (if 0 ≤ n ∧ n ≤ nI cnt then hdS (dgA A 4 TT UU) 0 n.toNatClampNeg else 0)) ∧ F1 = upd F 0 (nI 0) ∧ A1 = A ∧ ∃ b1 b2, B1 = hdB B b1 b2)) 0 0 (mN x ad) := by
  refine mB (by decide) (Nat.le_of_ble_eq_true rfl) ?_
  intro p e s m below meth c ls C0 hH hZ hnm hl
  have C0 : cF g p s m _ meth c b_M_head 2 "RegistryLogModel" (some .long) := C0
  obtain ⟨hx, hb, hml, hown, hts, hr, hlk, hK⟩ := id C0
  subst hH
  have hl : lv_has ls 2 [(0, .ref x), (1, .int n)] := hl
  have hm := mS.rf hm0
  have hc120 : cnt ≤ 120 := hrep.1
  refine lv_aload_n hx hb d_M_head_0 rfl (lv_at hl 0 rfl) ?_
  refine lv_iconst (v := nI 0) hx hb d_M_head_1 (by decide) ?_
  refine m_put hx hb hts hown hK hm 0 (by decide) (hts (.fieldLink "RegistryLogModel" 108 "RegistryLogModel" "code" "I") (in_4 (List.mem_of_getElem? (i := 209) rfl) rfl)) rfl rfl (v := nI 0) rfl rfl rfl rfl d_M_head_2 (fun H locs hm => ?_)
  refine lv_iload_n hx hb d_M_head_5 rfl (lv_at hl 1 rfl) ?_
  refine lv_if_lt (tgt := 19) hx hb d_M_head_6 (by decide) (fun c6 => ?_) (fun c6 => ?_)
  · skip
    refine lv_lconst (v := 0) hx hb d_M_head_19 (by decide) ?_
    refine lv_goto (tgt := 30) hx hb d_M_head_20 (by decide) ?_
    exact W.lret hx hb hr (fun t9 ht hW => ⟨_, _, _, _, rfl, by rw [ht]; exact ⟨hm.1, hm.2.1, hm.2.2.1, fun _ h => by cases h⟩, ⟨by rw [if_neg (fun z => absurd z.1 (Int32.not_le.mpr c6))], rfl, rfl, by exact ⟨B 36, B 37, (hdB_id B).symm⟩⟩⟩) hm.2.2.2 d_M_head_30 hlk
  · skip
    refine lv_iload_n hx hb d_M_head_9 rfl (lv_at hl 1 rfl) ?_
    refine lv_aload_n hx hb d_M_head_10 rfl (lv_at hl 0 rfl) ?_
    refine m_get hx hb hts hown hK hm 12 (by decide) (hts (.fieldLink "RegistryLogModel" 40 "RegistryLogModel" "copied" "[I") (in_4 (List.mem_of_getElem? (i := 221) rfl) rfl)) rfl (v := .ref (ad 12)) rfl d_M_head_11 ?_
    refine lv_iconst (v := nI 4) hx hb d_M_head_14 (by decide) ?_
    refine m_ld hx hb hK hm 12 rfl 4 rfl (show 4 < 5 from by omega) d_M_head_15 ?_
    refine W.eq (g2 := F0 m 16 ls [.int (nI cnt), .int n]) (by rw [hc]) ?_
    refine lv_icmp_le (tgt := 23) hx hb d_M_head_16 (by decide) (fun c16 => ?_) (fun c16 => ?_)
    · skip
      obtain ⟨k, hk1, ek⟩ := nI_of c6
      subst ek
      have hk : k ≤ cnt := (nI_leI hk1 (by omega)).mp c16
      refine lv_aload_n hx hb d_M_head_23 rfl (lv_at hl 0 rfl) ?_
      refine lv_iconst (v := nI 4) hx hb d_M_head_24 (by decide) ?_
      refine lv_iconst (v := nI 0) hx hb d_M_head_25 (by decide) ?_
      refine lv_iload_n hx hb d_M_head_26 rfl (lv_at hl 1 rfl) ?_
      refine aM (rV (As := [.int (nI 4), .int (nI 0), .int (nI k)]) (rest := []) C0 (c_M_headOf l g _ x ad _ _ _ hm.1 4 cnt TT UU (by decide) hrep 0 k (by omega)) (m_zK hZ hm) k_M_head_27 rfl rfl ⟨Nat.le_of_ble_eq_true rfl, Nat.le_of_ble_eq_true rfl⟩ (m_recv hK hm) rfl hl.1 rfl (Nat.le_of_ble_eq_true rfl) d_M_head_27 ⟨Nat.zero_le _, Nat.zero_le _⟩) hm (fun v F1 A1 B1 H locs hp hm => ?_)
      obtain ⟨rfl, eF, eA, b1, b2, eB⟩ := hp
      rw [eF, eA, eB] at hm
      refine W.eq (g2 := F0 m 30 ls [.long (hdS (dgA A 4 TT UU) 0 k)]) rfl ?_
      exact W.lret hx hb hr (fun t9 ht hW => ⟨_, _, _, _, rfl, by rw [ht]; exact ⟨hm.1, hm.2.1, hm.2.2.1, fun _ h => by cases h⟩, ⟨by rw [if_pos ⟨Int32.not_lt.mp c6, c16⟩, nI_clamp hk1], rfl, rfl, _, _, rfl⟩⟩) hm.2.2.2 d_M_head_30 hlk
    · skip
      refine lv_lconst (v := 0) hx hb d_M_head_19 (by decide) ?_
      refine lv_goto (tgt := 30) hx hb d_M_head_20 (by decide) ?_
      exact W.lret hx hb hr (fun t9 ht hW => ⟨_, _, _, _, rfl, by rw [ht]; exact ⟨hm.1, hm.2.1, hm.2.2.1, fun _ h => by cases h⟩, ⟨by rw [if_neg (fun z => c16 z.2)], rfl, rfl, by exact ⟨B 36, B 37, (hdB_id B).symm⟩⟩⟩) hm.2.2.2 d_M_head_30 hlk
theorem k_M_mirrored_6 : kS "RegistryLogModel" 252 y_M_isMirror b_M_isMirror 1 (some .boolean) 1 := ⟨(in_6 (List.mem_of_getElem? (i := 37) rfl) rfl), (in_6 (List.mem_of_getElem? (i := 38) rfl) rfl), (in_1 (List.mem_of_getElem? (i := 22) rfl) rfl), (in_6 (List.mem_of_getElem? (i := 39) rfl) rfl), ⟨by decide, by decide, by decide +kernel⟩⟩
theorem k_M_mirrored_21 : kV "RegistryLogModel" 214 "RegistryLogModel" y_M_headOf b_M_headOf 9 (some .long) 3 := ⟨(in_5 (List.mem_of_getElem? (i := 231) rfl) rfl), (in_5 (List.mem_of_getElem? (i := 233) rfl) rfl), (in_0 (List.mem_of_getElem? (i := 22) rfl) rfl), (in_1 (List.mem_of_getElem? (i := 22) rfl) rfl), (in_5 (List.mem_of_getElem? (i := 234) rfl) rfl), ⟨by decide, by decide, by decide +kernel⟩⟩
set_option maxHeartbeats 4000000 in
set_option maxRecDepth 100000 in
/-- mirrored(q) -/
theorem c_M_mirrored (l : Launch) (g : gG) (H : Heap) (x : Nat) (ad : Nat → Nat) (F : Nat → Int32) (A : Nat → Nat → Int32) (B : Nat → Nat → Int64) (hm0 : mW g H x ad F A B) (cnt : Nat) (TT UU : Nat → List Nat) (hrep : repR A cnt TT UU) (hc : A 12 4 = nI cnt) (cm : Nat → Nat) (hcm : ∀ j, j < 4 → A 12 j = nI (cm j) ∧ cm j ≤ cnt) (q : Int32) : Met l y_M_mirrored (wC y_M_mirrored b_M_mirrored 2 (some .long)) (rmk 3 0 0 78) (pC g H [.ref x, .int q]) (qM g H x ad (fun v F1 A1 B1 => v = some (.long (if 0 ≤ q ∧ q < 4 then hdS (dgA A q.toNatClampNeg TT UU) 0 (cm q.toNatClampNeg) else 0)) ∧ F1 = upd F 0 (nI 0) ∧ A1 = A ∧ ∃ b1 b2, B1 = hdB B b1 b2)) 0 0 (mN x ad) := by
  refine mB (by decide) (Nat.le_of_ble_eq_true rfl) ?_
  intro p e s m below meth c ls C0 hH hZ hnm hl
  have C0 : cF g p s m _ meth c b_M_mirrored 2 "RegistryLogModel" (some .long) := C0
  obtain ⟨hx, hb, hml, hown, hts, hr, hlk, hK⟩ := id C0
  subst hH
  have hl : lv_has ls 2 [(0, .ref x), (1, .int q)] := hl
  have hm := mS.rf hm0
  have hc120 : cnt ≤ 120 := hrep.1
  refine lv_aload_n hx hb d_M_mirrored_0 rfl (lv_at hl 0 rfl) ?_
  refine lv_iconst (v := nI 0) hx hb d_M_mirrored_1 (by decide) ?_
  refine m_put hx hb hts hown hK hm 0 (by decide) (hts (.fieldLink "RegistryLogModel" 108 "RegistryLogModel" "code" "I") (in_4 (List.mem_of_getElem? (i := 209) rfl) rfl)) rfl rfl (v := nI 0) rfl rfl rfl rfl d_M_mirrored_2 (fun H locs hm => ?_)
  refine lv_iload_n hx hb d_M_mirrored_5 rfl (lv_at hl 1 rfl) ?_
  refine aP (rS (As := [.int q]) (rest := []) C0 (c_M_isMirror l g _ q) (m_zK hZ hm) k_M_mirrored_6 rfl rfl ⟨Nat.le_of_ble_eq_true rfl, Nat.le_of_ble_eq_true rfl⟩ rfl hl.1 rfl (Nat.le_of_ble_eq_true rfl) d_M_mirrored_6 ⟨Nat.zero_le _, Nat.zero_le _⟩) ?_
  intro v hv; subst hv
  refine W.eq (g2 := F0 m 9 ls [.int (bI (decide (0 ≤ q ∧ q < 4)))]) rfl ?_
  refine z_eq (tgt := 27) (v := decide (0 ≤ q ∧ q < 4)) hx hb d_M_mirrored_9 (by decide) (fun c9 => ?_) (fun c9 => ?_)
  · skip
    refine lv_lconst (v := 0) hx hb d_M_mirrored_27 (by decide) ?_
    exact W.lret hx hb hr (fun t9 ht hW => ⟨_, _, _, _, rfl, by rw [ht]; exact ⟨hm.1, hm.2.1, hm.2.2.1, fun _ h => by cases h⟩, ⟨by rw [if_neg (of_decide_eq_false c9)], rfl, rfl, by exact ⟨B 36, B 37, (hdB_id B).symm⟩⟩⟩) hm.2.2.2 d_M_mirrored_28 hlk
  · skip
    have hqq := of_decide_eq_true c9
    obtain ⟨q1, hq1, eq1⟩ : ∃ k : Nat, k < 4 ∧ q = nI k := ix_ (n := 4) (by decide) (decide_eq_true ⟨hqq.1, hqq.2⟩)
    subst eq1
    have hqc : (nI q1).toNatClampNeg = q1 := nI_clamp (by omega)
    obtain ⟨hcq, hcl⟩ := hcm q1 hq1
    refine lv_aload_n hx hb d_M_mirrored_12 rfl (lv_at hl 0 rfl) ?_
    refine lv_iload_n hx hb d_M_mirrored_13 rfl (lv_at hl 1 rfl) ?_
    refine lv_iconst (v := nI 0) hx hb d_M_mirrored_14 (by decide) ?_
    refine lv_aload_n hx hb d_M_mirrored_15 rfl (lv_at hl 0 rfl) ?_
    refine m_get hx hb hts hown hK hm 12 (by decide) (hts (.fieldLink "RegistryLogModel" 40 "RegistryLogModel" "copied" "[I") (in_4 (List.mem_of_getElem? (i := 221) rfl) rfl)) rfl (v := .ref (ad 12)) rfl d_M_mirrored_16 ?_
    refine lv_iload_n hx hb d_M_mirrored_19 rfl (lv_at hl 1 rfl) ?_
    refine m_ld hx hb hK hm 12 rfl q1 rfl (show q1 < 5 from by omega) d_M_mirrored_20 ?_
    refine W.eq (g2 := F0 m 21 ls [.int (nI (cm q1)), .int (nI 0), .int (nI q1), .ref x]) (by rw [hcq]) ?_
    refine aM (rV (As := [.int (nI q1), .int (nI 0), .int (nI (cm q1))]) (rest := []) C0 (c_M_headOf l g _ x ad _ _ _ hm.1 q1 cnt TT UU (by omega) hrep 0 (cm q1) (by omega)) (m_zK hZ hm) k_M_mirrored_21 rfl rfl ⟨Nat.le_of_ble_eq_true rfl, Nat.le_of_ble_eq_true rfl⟩ (m_recv hK hm) rfl hl.1 rfl (Nat.le_of_ble_eq_true rfl) d_M_mirrored_21 ⟨Nat.zero_le _, Nat.zero_le _⟩) hm (fun v F1 A1 B1 H locs hp hm => ?_)
    obtain ⟨rfl, eF, eA, b1, b2, eB⟩ := hp
    rw [eF, eA, eB] at hm
    refine W.eq (g2 := F0 m 24 ls [.long (hdS (dgA A q1 TT UU) 0 (cm q1))]) rfl ?_
    refine lv_goto (tgt := 28) hx hb d_M_mirrored_24 (by decide) ?_
    exact W.lret hx hb hr (fun t9 ht hW => ⟨_, _, _, _, rfl, by rw [ht]; exact ⟨hm.1, hm.2.1, hm.2.2.1, fun _ h => by cases h⟩, ⟨by rw [if_pos hqq, hqc], rfl, rfl, _, _, rfl⟩⟩) hm.2.2.2 d_M_mirrored_28 hlk
theorem k_M_apart_6 : kS "RegistryLogModel" 252 y_M_isMirror b_M_isMirror 1 (some .boolean) 1 := ⟨(in_6 (List.mem_of_getElem? (i := 37) rfl) rfl), (in_6 (List.mem_of_getElem? (i := 38) rfl) rfl), (in_1 (List.mem_of_getElem? (i := 22) rfl) rfl), (in_6 (List.mem_of_getElem? (i := 39) rfl) rfl), ⟨by decide, by decide, by decide +kernel⟩⟩
theorem k_M_apart_30 : kV "RegistryLogModel" 214 "RegistryLogModel" y_M_headOf b_M_headOf 9 (some .long) 3 := ⟨(in_5 (List.mem_of_getElem? (i := 231) rfl) rfl), (in_5 (List.mem_of_getElem? (i := 233) rfl) rfl), (in_0 (List.mem_of_getElem? (i := 22) rfl) rfl), (in_1 (List.mem_of_getElem? (i := 22) rfl) rfl), (in_5 (List.mem_of_getElem? (i := 234) rfl) rfl), ⟨by decide, by decide, by decide +kernel⟩⟩
theorem k_M_apart_37 : kV "RegistryLogModel" 214 "RegistryLogModel" y_M_headOf b_M_headOf 9 (some .long) 3 := ⟨(in_5 (List.mem_of_getElem? (i := 231) rfl) rfl), (in_5 (List.mem_of_getElem? (i := 233) rfl) rfl), (in_0 (List.mem_of_getElem? (i := 22) rfl) rfl), (in_1 (List.mem_of_getElem? (i := 22) rfl) rfl), (in_5 (List.mem_of_getElem? (i := 234) rfl) rfl), ⟨by decide, by decide, by decide +kernel⟩⟩
def apM (h1 h2 : Nat → Int64) : Nat → Nat → Int32
  | 0, _ => -1
  | k + 1, i => if h1 i = h2 i then apM h1 h2 k (i + 1) else nI i
theorem hdB_2 (B : Nat → Nat → Int64) (b1 b2 b3 b4 : Nat → Int64) : hdB (hdB B b1 b2) b3 b4 = hdB B b3 b4 := by
  funext k
  unfold hdB updB
  by_cases h1 : k = 36 <;> by_cases h2 : k = 37 <;> simp [h1, h2]
set_option maxHeartbeats 4000000 in
set_option maxRecDepth 100000 in
theorem lp_M_apart {p : Program} {l : Launch} {e : Env} {s : State} {m : MethodId} {args : Array Value} {below : List Frame} {meth : Method} {c : Code} {g : gG} (C0 : cF g p s m args meth c b_M_apart 3 "RegistryLogModel" (some .int)) (hZ : zK g s s.heap) {x : Nat} {ad : Nat → Nat} {F : Nat → Int32} {A : Nat → Nat → Int32} {B : Nat → Nat → Int64} (cnt : Nat) (TT UU : Nat → List Nat) (hrep : repR A cnt TT UU) (hc : A 12 4 = nI cnt) (cm : Nat → Nat) (hcm : ∀ j, j < 4 → A 12 j = nI (cm j) ∧ cm j ≤ cnt) (q1 : Nat) (hq1 : q1 < 4) (res : Int32) :
    ∀ (n i : Nat) (b1 b2 : Nat → Int64) (H : Heap) (locs : List Loc), i ≤ cm q1 + 1 → cm q1 + 2 ≤ i + n → mS g s.heap H x ad F A (hdB B b1 b2) locs → apM (fun n => hdS (dgA A q1 TT UU) 0 n) (fun n => hdS (dgA A 4 TT UU) 0 n) (cm q1 + 1 - i) i = res → ∀ (ls : Array Slot), lv_has ls 3 [(0, .ref x), (1, .int (nI q1)), (2, .int (nI i))] → W p l e (rmk 3 0 0 78) s m args below meth c H locs 0 0 (MQ below (qM g s.heap x ad (fun v F1 A1 B1 => v = some (.int res) ∧ F1 = F ∧ A1 = A ∧ ∃ b1 b2, B1 = hdB B b1 b2)) args s 0 0 (mN x ad)) (F0 m 16 ls []) := by
  obtain ⟨hx, hb, hml, hown, hts, hr, hlk, hK⟩ := id C0
  have hc120 : cnt ≤ 120 := hrep.1
  obtain ⟨hcq, hcl⟩ := hcm q1 hq1
  intro n
  induction n with
  | zero => intro i b1 b2 H locs h1 h2; exact absurd h2 (by omega)
  | succ n ih =>
    intro i b1 b2 H locs hi hin hm hres ls hl
    refine lv_iload_n hx hb d_M_apart_16 rfl (lv_at hl 2 rfl) ?_
    refine lv_aload_n hx hb d_M_apart_17 rfl (lv_at hl 0 rfl) ?_
    refine m_get hx hb hts hown hK hm 12 (by decide) (hts (.fieldLink "RegistryLogModel" 40 "RegistryLogModel" "copied" "[I") (in_4 (List.mem_of_getElem? (i := 221) rfl) rfl)) rfl (v := .ref (ad 12)) rfl d_M_apart_18 ?_
    refine lv_iload_n hx hb d_M_apart_21 rfl (lv_at hl 1 rfl) ?_
    refine m_ld hx hb hK hm 12 rfl q1 rfl (show q1 < 5 from by omega) d_M_apart_22 ?_
    refine W.eq (g2 := F0 m 23 ls [.int (A 12 q1), .int (nI i)]) rfl ?_
    refine W.eq (g2 := F0 m 23 ls [.int (nI (cm q1)), .int (nI i)]) (by rw [hcq]) ?_
    refine n_gt (tgt := 52) (a := i) (b := cm q1) hx hb d_M_apart_23 (by decide) (by omega) (by omega) (fun c23 => ?_) (fun c23 => ?_)
    · skip
      refine lv_iconst (v := (-1)) hx hb d_M_apart_52 (by decide) ?_
      rw [show cm q1 + 1 - i = 0 by omega] at hres
      exact W.iret hx hb hr (fun t9 ht hW => ⟨_, _, _, _, rfl, by rw [ht]; exact ⟨hm.1, hm.2.1, hm.2.2.1, fun _ h => by cases h⟩, ⟨by rw [← hres]; rfl, rfl, rfl, _, _, rfl⟩⟩) hm.2.2.2 d_M_apart_53 hlk
    · skip
      refine lv_aload_n hx hb d_M_apart_26 rfl (lv_at hl 0 rfl) ?_
      refine lv_iload_n hx hb d_M_apart_27 rfl (lv_at hl 1 rfl) ?_
      refine lv_iconst (v := nI 0) hx hb d_M_apart_28 (by decide) ?_
      refine lv_iload_n hx hb d_M_apart_29 rfl (lv_at hl 2 rfl) ?_
      refine aM (rV (As := [.int (nI q1), .int (nI 0), .int (nI i)]) (rest := []) C0 (c_M_headOf l g _ x ad _ _ _ hm.1 q1 cnt TT UU (by omega) hrep 0 i (by omega)) (m_zK hZ hm) k_M_apart_30 rfl rfl ⟨Nat.le_of_ble_eq_true rfl, Nat.le_of_ble_eq_true rfl⟩ (m_recv hK hm) rfl hl.1 rfl (Nat.le_of_ble_eq_true rfl) d_M_apart_30 ⟨Nat.zero_le _, Nat.zero_le _⟩) hm (fun v F1 A1 B1 H locs hp hm => ?_)
      obtain ⟨rfl, eF, eA, b1, b2, eB⟩ := hp
      rw [eF, eA, eB, hdB_2] at hm
      refine W.eq (g2 := F0 m 33 ls [.long (hdS (dgA A q1 TT UU) 0 i)]) rfl ?_
      refine lv_aload_n hx hb d_M_apart_33 rfl (lv_at hl 0 rfl) ?_
      refine lv_iconst (v := nI 4) hx hb d_M_apart_34 (by decide) ?_
      refine lv_iconst (v := nI 0) hx hb d_M_apart_35 (by decide) ?_
      refine lv_iload_n hx hb d_M_apart_36 rfl (lv_at hl 2 rfl) ?_
      refine aM (rV (As := [.int (nI 4), .int (nI 0), .int (nI i)]) (rest := [.long (hdS (dgA A q1 TT UU) 0 i)]) C0 (c_M_headOf l g _ x ad _ _ _ hm.1 4 cnt TT UU (by decide) hrep 0 i (by omega)) (m_zK hZ hm) k_M_apart_37 rfl rfl ⟨Nat.le_of_ble_eq_true rfl, Nat.le_of_ble_eq_true rfl⟩ (m_recv hK hm) rfl hl.1 rfl (Nat.le_of_ble_eq_true rfl) d_M_apart_37 ⟨Nat.zero_le _, Nat.zero_le _⟩) hm (fun v F1 A1 B1 H locs hp hm => ?_)
      obtain ⟨rfl, eF, eA, b1, b2, eB⟩ := hp
      rw [eF, eA, eB, hdB_2] at hm
      refine W.eq (g2 := F0 m 40 ls [.long (hdS (dgA A 4 TT UU) 0 i), .long (hdS (dgA A q1 TT UU) 0 i)]) rfl ?_
      refine W.lcmp hx hb d_M_apart_40 ?_
      refine lv_if_eq (tgt := 46) hx hb d_M_apart_41 (by decide) (fun c41 => ?_) (fun c41 => ?_)
      · skip
        refine n_inc (a := i) (lv' := [(2, .int (nI (i + 1))), (0, .ref x), (1, .int (nI q1))]) hx hb d_M_apart_46 hl (k := 2) rfl (by decide) rfl (fun ls hl => ?_)
        refine lv_goto (tgt := 16) hx hb d_M_apart_49 (by decide) ?_
        rw [show cm q1 + 1 - i = (cm q1 + 1 - (i + 1)) + 1 by omega, apM, if_pos (lg_z.mp c41)] at hres
        exact ih (i + 1) _ _ H locs (by omega) (by omega) hm hres ls (lv_sub hl [1, 2, 0] rfl)
      · skip
        refine lv_iload_n hx hb d_M_apart_44 rfl (lv_at hl 2 rfl) ?_
        rw [show cm q1 + 1 - i = (cm q1 + 1 - (i + 1)) + 1 by omega, apM, if_neg (fun z => c41 (lg_z.mpr z))] at hres
        exact W.iret hx hb hr (fun t9 ht hW => ⟨_, _, _, _, rfl, by rw [ht]; exact ⟨hm.1, hm.2.1, hm.2.2.1, fun _ h => by cases h⟩, ⟨by rw [← hres], rfl, rfl, _, _, rfl⟩⟩) hm.2.2.2 d_M_apart_45 hlk
set_option maxHeartbeats 4000000 in
set_option maxRecDepth 100000 in
/-- apart(q) -/
theorem c_M_apart (l : Launch) (g : gG) (H : Heap) (x : Nat) (ad : Nat → Nat) (F : Nat → Int32) (A : Nat → Nat → Int32) (B : Nat → Nat → Int64) (hm0 : mW g H x ad F A B) (cnt : Nat) (TT UU : Nat → List Nat) (hrep : repR A cnt TT UU) (hc : A 12 4 = nI cnt) (cm : Nat → Nat) (hcm : ∀ j, j < 4 → A 12 j = nI (cm j) ∧ cm j ≤ cnt) (q : Int32) : Met l y_M_apart (wC y_M_apart b_M_apart 3 (some .int)) (rmk 3 0 0 78) (pC g H [.ref x, .int q]) (qM g H x ad (fun v F1 A1 B1 => v = some (.int (if 0 ≤ q ∧ q < 4 then apM (fun n => hdS (dgA A q.toNatClampNeg TT UU) 0 n) (fun n => hdS (dgA A 4 TT UU) 0 n) (cm q.toNatClampNeg) 1 else -1)) ∧ F1 = upd F 0 (nI 0) ∧ A1 = A ∧ ∃ b1 b2, B1 = hdB B b1 b2)) 0 0 (mN x ad) := by
  refine mB (by decide) (Nat.le_of_ble_eq_true rfl) ?_
  intro p e s m below meth c ls C0 hH hZ hnm hl
  have C0 : cF g p s m _ meth c b_M_apart 3 "RegistryLogModel" (some .int) := C0
  obtain ⟨hx, hb, hml, hown, hts, hr, hlk, hK⟩ := id C0
  subst hH
  have hl : lv_has ls 3 [(0, .ref x), (1, .int q)] := hl
  have hm := mS.rf hm0
  have hc120 : cnt ≤ 120 := hrep.1
  refine lv_aload_n hx hb d_M_apart_0 rfl (lv_at hl 0 rfl) ?_
  refine lv_iconst (v := nI 0) hx hb d_M_apart_1 (by decide) ?_
  refine m_put hx hb hts hown hK hm 0 (by decide) (hts (.fieldLink "RegistryLogModel" 108 "RegistryLogModel" "code" "I") (in_4 (List.mem_of_getElem? (i := 209) rfl) rfl)) rfl rfl (v := nI 0) rfl rfl rfl rfl d_M_apart_2 (fun H locs hm => ?_)
  refine lv_iload_n hx hb d_M_apart_5 rfl (lv_at hl 1 rfl) ?_
  refine aP (rS (As := [.int q]) (rest := []) C0 (c_M_isMirror l g _ q) (m_zK hZ hm) k_M_apart_6 rfl rfl ⟨Nat.le_of_ble_eq_true rfl, Nat.le_of_ble_eq_true rfl⟩ rfl hl.1 rfl (Nat.le_of_ble_eq_true rfl) d_M_apart_6 ⟨Nat.zero_le _, Nat.zero_le _⟩) ?_
  intro v hv; subst hv
  refine W.eq (g2 := F0 m 9 ls [.int (bI (decide (0 ≤ q ∧ q < 4)))]) rfl ?_
  refine z_ne (tgt := 14) (v := decide (0 ≤ q ∧ q < 4)) hx hb d_M_apart_9 (by decide) (fun c9 => ?_) (fun c9 => ?_)
  · skip
    have hqq := of_decide_eq_true c9
    obtain ⟨q1, hq1, eq1⟩ : ∃ k : Nat, k < 4 ∧ q = nI k := ix_ (n := 4) (by decide) (decide_eq_true ⟨hqq.1, hqq.2⟩)
    subst eq1
    have hqc : (nI q1).toNatClampNeg = q1 := nI_clamp (by omega)
    obtain ⟨hcq, hcl⟩ := hcm q1 hq1
    refine lv_iconst (v := nI 1) hx hb d_M_apart_14 (by decide) ?_
    refine lv_istore_n (lv' := [(2, .int (nI 1)), (0, .ref x), (1, .int (nI q1))]) hx hb d_M_apart_15 rfl hl (by decide) rfl (fun ls hl => ?_)
    rw [if_pos hqq, hqc]
    exact lp_M_apart C0 hZ (F := upd F 0 (nI 0)) cnt TT UU hrep hc cm hcm q1 hq1 _ (cm q1 + 2) 1 (B 36) (B 37) H locs (by omega) (by omega) (by rw [hdB_id]; exact hm) rfl ls (lv_sub hl [1, 2, 0] rfl)
  · skip
    refine lv_iconst (v := (-1)) hx hb d_M_apart_12 (by decide) ?_
    exact W.iret hx hb hr (fun t9 ht hW => ⟨_, _, _, _, rfl, by rw [ht]; exact ⟨hm.1, hm.2.1, hm.2.2.1, fun _ h => by cases h⟩, ⟨by rw [if_neg (of_decide_eq_false c9)], rfl, rfl, by exact ⟨B 36, B 37, (hdB_id B).symm⟩⟩⟩) hm.2.2.2 d_M_apart_13 hlk
