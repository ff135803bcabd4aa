def rowS (r : Rw) (what : Int32) : Int32 := if what = 0 then rk r else if what = 1 then rp r else if what = 2 then r2 r else if what = 3 then r3 r else -1
/-- which ledger a mirror's number names -/
def mirA (mf : Nat → Option Nat) (nm : Nat) (i : Int32) : Option Nat := if 0 ≤ i ∧ i < 4 then mf i.toNatClampNeg else some nm
def mirS (mir : Nat → List Rw) (i : Int32) : List Rw := if 0 ≤ i ∧ i < 4 then mir i.toNatClampNeg else []
theorem isL_size {g : gG} {H : Heap} {l : Launch} {a : Nat} {rows : List Rw} (h : isL g H a rows) : Met l y_L_size (wC y_L_size b_L_size 1 (some .int)) (rmk 0 0 0 0) (pC g H [.ref a]) (qP H (fun v => v = some (.int (nI rows.length)))) 0 0 no_ := by
  obtain ⟨w, n, f, f0, -⟩ := h
  exact c_L_size l g H a w n _ f0
theorem mirA_ok {g : gG} {H : Heap} {mf : Nat → Option Nat} {nm : Nat} {mir : Nat → List Rw} (hm : ∀ j, j < 4 → ∃ q, mf j = some q ∧ isL g H q (mir j)) (hn : isL g H nm []) (i : Int32) : ∃ q, mirA mf nm i = some q ∧ isL g H q (mirS mir i) := by
  by_cases h : 0 ≤ i ∧ i < 4
  · obtain ⟨j, h1, h2⟩ := nI_of (Int32.not_lt.mpr h.1)
    have h3 : j < 4 := (nI_ltI h1 (by decide)).mp (by rw [← h2]; exact h.2)
    obtain ⟨q, e, hq⟩ := hm j h3
    refine ⟨q, ?_, ?_⟩
    · rw [mirA, if_pos h, h2, nI_clamp h1]; exact e
    · rw [mirS, if_pos h, h2, nI_clamp h1]; exact hq
  · exact ⟨nm, by rw [mirA, if_neg h], by rw [mirS, if_neg h]; exact hn⟩

theorem k_X_rows_4 : kV "RegistryLog" 80 "RegistryLog$Ledger" y_L_size b_L_size 1 (some .int) 0 := ⟨(in_3 (List.mem_of_getElem? (i := 38) rfl) rfl), (in_3 (List.mem_of_getElem? (i := 39) rfl) rfl), (in_3 (List.mem_of_getElem? (i := 40) rfl) rfl), (in_1 (List.mem_of_getElem? (i := 6) rfl) rfl), (in_3 (List.mem_of_getElem? (i := 41) rfl) rfl), ⟨by decide, by decide, by decide +kernel⟩⟩
set_option maxHeartbeats 4000000 in
set_option maxRecDepth 100000 in
/-- rows() -/
theorem c_X_rows (l : Launch) (g : gG) (H : Heap) (x sb lg ms nm pr hd : Nat) (f0 : ob g H x 0 [.ref sb, .ref lg, .ref ms, .ref nm, .ref pr, .ref hd]) (rows : List Rw) (h : isL g H lg rows) : Met l y_X_rows (wC y_X_rows b_X_rows 1 (some .int)) (rmk 1 0 0 20) (pC g H [.ref x]) (qP H (fun v => v = some (.int (nI rows.length)))) 0 0 no_ := by
  refine mB (by decide) (Nat.le_of_ble_eq_true rfl) ?_
  intro p e s m below meth c ls C0 hH hZ hnm hl
  have C0 : cF g p s m _ meth c b_X_rows 1 "RegistryLog" (some .int) := C0
  obtain ⟨hx, hb, hml, hown, hts, hr, hlk, hK⟩ := id C0
  subst hH
  have hl : lv_has ls 1 [(0, .ref x)] := hl
  refine lv_aload_n hx hb d_X_rows_0 rfl (lv_at hl 0 rfl) ?_
  refine va_get (D := g.1) (ci := 0) (C := R_X) (T := F_X) (N := 6) hx hb hts i_X hown hK.1 f0 0 rfl rfl 1 (by decide) (hts (.fieldLink "RegistryLog" 19 "RegistryLog" "log" "LRegistryLog$Ledger;") (in_3 (List.mem_of_getElem? (i := 10) rfl) rfl)) (fun _ h9 => h9) rfl d_X_rows_1 ?_
  refine aP (rV (As := []) (rest := []) C0 (isL_size h) hZ k_X_rows_4 rfl rfl ⟨Nat.le_of_ble_eq_true rfl, Nat.le_of_ble_eq_true rfl⟩ (isL_recv hK h) rfl hl.1 rfl (Nat.le_of_ble_eq_true rfl) d_X_rows_4 ⟨Nat.zero_le _, Nat.zero_le _⟩) ?_
  intro v hv; subst hv
  refine W.eq (g2 := F0 m 7 ls [.int (nI rows.length)]) rfl ?_
  exact W.iret hx hb hr (fun t9 ht hW => ⟨_, rfl, rfl, ht⟩) (fun q h => by cases h) d_X_rows_7 hlk
theorem k_X_row_5 : kV "RegistryLog" 133 "RegistryLog$Ledger" y_L_at b_L_at 2 (some (.object "RegistryLog$Row")) 1 := ⟨(in_3 (List.mem_of_getElem? (i := 46) rfl) rfl), (in_3 (List.mem_of_getElem? (i := 47) rfl) rfl), (in_3 (List.mem_of_getElem? (i := 48) rfl) rfl), (in_1 (List.mem_of_getElem? (i := 6) rfl) rfl), (in_3 (List.mem_of_getElem? (i := 49) rfl) rfl), ⟨by decide, by decide, by decide +kernel⟩⟩
theorem sw4 {x : Int32} (h0 : ¬ x = 0) (h1 : ¬ x = 1) (h2 : ¬ x = 2) (h3 : ¬ x = 3) : x.toInt < 0 ∨ 3 < x.toInt := by
  have q0 : x.toInt ≠ 0 := fun z => h0 (Int32.toInt_inj.mp (z.trans (by decide)))
  have q1 : x.toInt ≠ 1 := fun z => h1 (Int32.toInt_inj.mp (z.trans (by decide)))
  have q2 : x.toInt ≠ 2 := fun z => h2 (Int32.toInt_inj.mp (z.trans (by decide)))
  have q3 : x.toInt ≠ 3 := fun z => h3 (Int32.toInt_inj.mp (z.trans (by decide)))
  omega
set_option maxHeartbeats 4000000 in
set_option maxRecDepth 100000 in
/-- row(i, what) -/
theorem c_X_row (l : Launch) (g : gG) (H : Heap) (x sb lg ms nm pr hd : Nat) (f0 : ob g H x 0 [.ref sb, .ref lg, .ref ms, .ref nm, .ref pr, .ref hd]) (rows : List Rw) (h : isL g H lg rows) (i what : Int32) : Met l y_X_row (wC y_X_row b_X_row 4 (some .int)) (rmk 1 0 0 21) (pC g H [.ref x, .int i, .int what]) (qP H (fun v => v = some (.int (rowS (atS rows i) what)))) 0 0 no_ := by
  refine mB (by decide) (Nat.le_of_ble_eq_true rfl) ?_
  intro p e s m below meth c ls C0 hH hZ hnm hl
  have C0 : cF g p s m _ meth c b_X_row 4 "RegistryLog" (some .int) := C0
  obtain ⟨hx, hb, hml, hown, hts, hr, hlk, hK⟩ := id C0
  subst hH
  have hl : lv_has ls 4 [(0, .ref x), (1, .int i), (2, .int what)] := hl
  refine lv_aload_n hx hb d_X_row_0 rfl (lv_at hl 0 rfl) ?_
  refine va_get (D := g.1) (ci := 0) (C := R_X) (T := F_X) (N := 6) hx hb hts i_X hown hK.1 f0 0 rfl rfl 1 (by decide) (hts (.fieldLink "RegistryLog" 19 "RegistryLog" "log" "LRegistryLog$Ledger;") (in_3 (List.mem_of_getElem? (i := 10) rfl) rfl)) (fun _ h9 => h9) rfl d_X_row_1 ?_
  refine lv_iload_n hx hb d_X_row_4 rfl (lv_at hl 1 rfl) ?_
  refine aP (rV (As := [.int i]) (rest := []) C0 (c_L_at l g s.heap lg rows i h) hZ k_X_row_5 rfl rfl ⟨Nat.le_of_ble_eq_true rfl, Nat.le_of_ble_eq_true rfl⟩ (isL_recv hK h) rfl hl.1 rfl (Nat.le_of_ble_eq_true rfl) d_X_row_5 ⟨Nat.zero_le _, Nat.zero_le _⟩) ?_
  rintro v ⟨r, rfl, hr9⟩
  obtain ⟨R9, eR⟩ : ∃ R9, R9 = atS rows i := ⟨_, rfl⟩
  rw [← eR] at hr9
  refine W.eq (g2 := F0 m 8 ls [.ref r]) rfl ?_
  obtain ⟨na, nb, hr90, hr9n, hr9a⟩ := hr9
  refine lv_astore_n (lv' := [(3, .ref r), (0, .ref x), (1, .int i), (2, .int what)]) hx hb d_X_row_8 rfl hl (by decide) rfl (fun ls hl => ?_)
  refine lv_iload_n hx hb d_X_row_9 rfl (lv_at hl 3 rfl) ?_
  by_cases w0 : what = 0
  · subst w0
    refine lv_tableIn (tgt := 40) hx hb d_X_row_10 (by decide) (by decide) rfl (by decide) ?_
    refine lv_aload_n hx hb d_X_row_40 rfl (lv_at hl 0 rfl) ?_
    refine va_get (D := g.1) (ci := 4) (C := R_R) (T := F_R) (N := 8) hx hb hts i_R hown hK.1 hr90 0 rfl rfl 0 (by decide) (hts (.fieldLink "RegistryLog" 137 "RegistryLog$Row" "kind" "I") (in_2 (List.mem_of_getElem? (i := 184) rfl) rfl)) (fun _ h9 => h9) rfl d_X_row_41 ?_
    exact W.iret hx hb hr (fun t9 ht hW => ⟨_, rfl, by rw [← eR]; rfl, ht⟩) (fun q h => by cases h) d_X_row_44 hlk
  by_cases w1 : what = 1
  · subst w1
    refine lv_tableIn (tgt := 45) hx hb d_X_row_10 (by decide) (by decide) rfl (by decide) ?_
    refine lv_aload_n hx hb d_X_row_45 rfl (lv_at hl 0 rfl) ?_
    refine va_get (D := g.1) (ci := 4) (C := R_R) (T := F_R) (N := 8) hx hb hts i_R hown hK.1 hr90 0 rfl rfl 1 (by decide) (hts (.fieldLink "RegistryLog" 141 "RegistryLog$Row" "person" "I") (in_2 (List.mem_of_getElem? (i := 187) rfl) rfl)) (fun _ h9 => h9) rfl d_X_row_46 ?_
    exact W.iret hx hb hr (fun t9 ht hW => ⟨_, rfl, by rw [← eR]; rfl, ht⟩) (fun q h => by cases h) d_X_row_49 hlk
  by_cases w2 : what = 2
  · subst w2
    refine lv_tableIn (tgt := 50) hx hb d_X_row_10 (by decide) (by decide) rfl (by decide) ?_
    refine lv_aload_n hx hb d_X_row_50 rfl (lv_at hl 0 rfl) ?_
    refine va_get (D := g.1) (ci := 4) (C := R_R) (T := F_R) (N := 8) hx hb hts i_R hown hK.1 hr90 0 rfl rfl 4 (by decide) (hts (.fieldLink "RegistryLog" 144 "RegistryLog$Row" "second" "I") (in_2 (List.mem_of_getElem? (i := 193) rfl) rfl)) (fun _ h9 => h9) rfl d_X_row_51 ?_
    exact W.iret hx hb hr (fun t9 ht hW => ⟨_, rfl, by rw [← eR]; rfl, ht⟩) (fun q h => by cases h) d_X_row_54 hlk
  by_cases w3 : what = 3
  · subst w3
    refine lv_tableIn (tgt := 55) hx hb d_X_row_10 (by decide) (by decide) rfl (by decide) ?_
    refine lv_aload_n hx hb d_X_row_55 rfl (lv_at hl 0 rfl) ?_
    refine va_get (D := g.1) (ci := 4) (C := R_R) (T := F_R) (N := 8) hx hb hts i_R hown hK.1 hr90 0 rfl rfl 5 (by decide) (hts (.fieldLink "RegistryLog" 147 "RegistryLog$Row" "third" "I") (in_2 (List.mem_of_getElem? (i := 196) rfl) rfl)) (fun _ h9 => h9) rfl d_X_row_56 ?_
    exact W.iret hx hb hr (fun t9 ht hW => ⟨_, rfl, by rw [← eR]; rfl, ht⟩) (fun q h => by cases h) d_X_row_59 hlk
  refine lv_tableOut (tgt := 60) hx hb d_X_row_10 (sw4 w0 w1 w2 w3) (by decide) ?_
  refine lv_iconst (v := (-1)) hx hb d_X_row_60 (by decide) ?_
  exact W.iret hx hb hr (fun t9 ht hW => ⟨_, rfl, by rw [rowS, if_neg w0, if_neg w1, if_neg w2, if_neg w3], ht⟩) (fun q h => by cases h) d_X_row_61 hlk
theorem k_X_digest_5 : kV "RegistryLog" 133 "RegistryLog$Ledger" y_L_at b_L_at 2 (some (.object "RegistryLog$Row")) 1 := ⟨(in_3 (List.mem_of_getElem? (i := 46) rfl) rfl), (in_3 (List.mem_of_getElem? (i := 47) rfl) rfl), (in_3 (List.mem_of_getElem? (i := 48) rfl) rfl), (in_1 (List.mem_of_getElem? (i := 6) rfl) rfl), (in_3 (List.mem_of_getElem? (i := 49) rfl) rfl), ⟨by decide, by decide, by decide +kernel⟩⟩
set_option maxHeartbeats 4000000 in
set_option maxRecDepth 100000 in
/-- digest(i) -/
theorem c_X_digest (l : Launch) (g : gG) (H : Heap) (x sb lg ms nm pr hd : Nat) (f0 : ob g H x 0 [.ref sb, .ref lg, .ref ms, .ref nm, .ref pr, .ref hd]) (rows : List Rw) (h : isL g H lg rows) (i : Int32) : Met l y_X_digest (wC y_X_digest b_X_digest 2 (some .long)) (rmk 1 0 0 21) (pC g H [.ref x, .int i]) (qP H (fun v => v = some (.long (digS (atS rows i))))) 0 0 no_ := by
  refine mB (by decide) (Nat.le_of_ble_eq_true rfl) ?_
  intro p e s m below meth c ls C0 hH hZ hnm hl
  have C0 : cF g p s m _ meth c b_X_digest 2 "RegistryLog" (some .long) := C0
  obtain ⟨hx, hb, hml, hown, hts, hr, hlk, hK⟩ := id C0
  subst hH
  have hl : lv_has ls 2 [(0, .ref x), (1, .int i)] := hl
  refine lv_aload_n hx hb d_X_digest_0 rfl (lv_at hl 0 rfl) ?_
  refine va_get (D := g.1) (ci := 0) (C := R_X) (T := F_X) (N := 6) hx hb hts i_X hown hK.1 f0 0 rfl rfl 1 (by decide) (hts (.fieldLink "RegistryLog" 19 "RegistryLog" "log" "LRegistryLog$Ledger;") (in_3 (List.mem_of_getElem? (i := 10) rfl) rfl)) (fun _ h9 => h9) rfl d_X_digest_1 ?_
  refine lv_iload_n hx hb d_X_digest_4 rfl (lv_at hl 1 rfl) ?_
  refine aP (rV (As := [.int i]) (rest := []) C0 (c_L_at l g s.heap lg rows i h) hZ k_X_digest_5 rfl rfl ⟨Nat.le_of_ble_eq_true rfl, Nat.le_of_ble_eq_true rfl⟩ (isL_recv hK h) rfl hl.1 rfl (Nat.le_of_ble_eq_true rfl) d_X_digest_5 ⟨Nat.zero_le _, Nat.zero_le _⟩) ?_
  rintro v ⟨r, rfl, hr9⟩
  obtain ⟨R9, eR⟩ : ∃ R9, R9 = atS rows i := ⟨_, rfl⟩
  rw [← eR] at hr9
  refine W.eq (g2 := F0 m 8 ls [.ref r]) rfl ?_
  obtain ⟨na, nb, hr90, hr9n, hr9a⟩ := hr9
  refine va_get (D := g.1) (ci := 4) (C := R_R) (T := F_R) (N := 8) hx hb hts i_R hown hK.1 hr90 0 rfl rfl 7 (by decide) (hts (.fieldLink "RegistryLog" 150 "RegistryLog$Row" "digest" "J") (in_2 (List.mem_of_getElem? (i := 202) rfl) rfl)) (fun _ h9 => h9) rfl d_X_digest_8 ?_
  exact W.lret hx hb hr (fun t9 ht hW => ⟨_, rfl, by rw [← eR], ht⟩) (fun q h => by cases h) d_X_digest_11 hlk
set_option maxHeartbeats 4000000 in
set_option maxRecDepth 100000 in
theorem c_T_headOf0 (l : Launch) (g : gG) (H : Heap) (a : Nat) (k : Int32) (n : Int32) (hn : n < 1) : Met l y_T_headOf (wC y_T_headOf b_T_headOf 4 (some .long)) (rmk (7 + 2) 0 0 (23 * 7 + 48)) (pC g H [.ref a, .int k, .int n]) (qP H (fun v => v = some (.long 0))) 0 0 no_ := by
  refine mB (by decide) (Nat.le_of_ble_eq_true rfl) ?_
  intro p e s m below meth c ls C0 hH hZ hnm hl
  have C0 : cF g p s m _ meth c b_T_headOf 4 "RegistryLog$Tree" (some .long) := C0
  obtain ⟨hx, hb, hml, hown, hts, hr, hlk, hK⟩ := id C0
  subst hH
  have hl : lv_has ls 4 [(0, .ref a), (1, .int k), (2, .int n)] := hl
  refine lv_iload_n hx hb d_T_headOf_0 rfl (lv_at hl 2 rfl) ?_
  refine lv_iconst (v := 1) hx hb d_T_headOf_1 (by decide) ?_
  refine lv_icmp_lt (tgt := 11) hx hb d_T_headOf_2 (by decide) (fun c2 => ?_) (fun c2 => ?_)
  · skip
    refine lv_lconst (v := 0) hx hb d_T_headOf_11 (by decide) ?_
    exact W.lret hx hb hr (fun t9 ht hW => ⟨_, rfl, rfl, ht⟩) (fun q h => by cases h) d_T_headOf_12 hlk
  · skip
    exact absurd hn c2
def headS (rows : List Rw) (n : Int32) : Int64 := if 1 ≤ n ∧ n ≤ nI rows.length then hdS (dS rows) 0 n.toNatClampNeg else 0
theorem m_head {l : Launch} {g : gG} {H : Heap} {a : Nat} {rows : List Rw} {n : Int32} (h : isL g H a rows) (hn : n ≤ nI rows.length) : Met l y_T_headOf (wC y_T_headOf b_T_headOf 4 (some .long)) (rmk (7 + 2) 0 0 (23 * 7 + 48)) (pC g H [.ref a, .int 0, .int n]) (qP H (fun v => v = some (.long (headS rows n)))) 0 0 no_ := by
  obtain ⟨w, n0, f, f0, f1, hn9, hlen, hrs⟩ := id h
  by_cases h1 : n < 1
  · have e : headS rows n = 0 := by rw [headS, if_neg (fun z => absurd z.1 (Int32.not_le.mpr h1))]
    rw [e]
    exact c_T_headOf0 l g H a 0 n h1
  · have h2 : 1 ≤ n := Int32.not_lt.mp h1
    obtain ⟨k, hk, ek⟩ := nI_of (x := n) (fun z => h1 (Int32.lt_trans z (by decide)))
    subst ek
    have k1 : 1 ≤ k := (nI_leI (by decide) hk).mp h2
    have k2 : k ≤ rows.length := (nI_leI hk (by omega)).mp hn
    have e : headS rows (nI k) = hdS (dS rows) 0 k := by rw [headS, if_pos ⟨h2, hn⟩, nI_clamp hk]
    rw [e]
    exact c_T_headOf l g H a rows h 7 0 k k1 (by omega) (by omega) (by omega) (by omega)
theorem k_X_head_5 : kV "RegistryLog" 80 "RegistryLog$Ledger" y_L_size b_L_size 1 (some .int) 0 := ⟨(in_3 (List.mem_of_getElem? (i := 38) rfl) rfl), (in_3 (List.mem_of_getElem? (i := 39) rfl) rfl), (in_3 (List.mem_of_getElem? (i := 40) rfl) rfl), (in_1 (List.mem_of_getElem? (i := 6) rfl) rfl), (in_3 (List.mem_of_getElem? (i := 41) rfl) rfl), ⟨by decide, by decide, by decide +kernel⟩⟩
theorem k_X_head_21 : kN "RegistryLog" 154 y_T_headOf "RegistryLog" b_T_headOf 4 (some .long) 3 := ⟨List.mem_of_getElem? (i := 0) rfl, (in_3 (List.mem_of_getElem? (i := 59) rfl) rfl), (in_1 (List.mem_of_getElem? (i := 20) rfl) rfl), (in_3 (List.mem_of_getElem? (i := 60) rfl) rfl), ⟨by decide, by decide, by decide +kernel⟩⟩
set_option maxHeartbeats 4000000 in
set_option maxRecDepth 100000 in
/-- head(n) -/
theorem c_X_head (l : Launch) (g : gG) (H : Heap) (x sb lg ms nm pr hd : Nat) (f0 : ob g H x 0 [.ref sb, .ref lg, .ref ms, .ref nm, .ref pr, .ref hd]) (rows : List Rw) (h : isL g H lg rows) (n : Int32) : Met l y_X_head (wC y_X_head b_X_head 2 (some .long)) (rmk 10 0 0 232) (pC g H [.ref x, .int n]) (qP H (fun v => v = some (.long (headS rows n)))) 0 0 no_ := by
  refine mB (by decide) (Nat.le_of_ble_eq_true rfl) ?_
  intro p e s m below meth c ls C0 hH hZ hnm hl
  have C0 : cF g p s m _ meth c b_X_head 2 "RegistryLog" (some .long) := C0
  obtain ⟨hx, hb, hml, hown, hts, hr, hlk, hK⟩ := id C0
  subst hH
  have hl : lv_has ls 2 [(0, .ref x), (1, .int n)] := hl
  refine lv_iload_n hx hb d_X_head_0 rfl (lv_at hl 1 rfl) ?_
  refine lv_aload_n hx hb d_X_head_1 rfl (lv_at hl 0 rfl) ?_
  refine va_get (D := g.1) (ci := 0) (C := R_X) (T := F_X) (N := 6) hx hb hts i_X hown hK.1 f0 0 rfl rfl 1 (by decide) (hts (.fieldLink "RegistryLog" 19 "RegistryLog" "log" "LRegistryLog$Ledger;") (in_3 (List.mem_of_getElem? (i := 10) rfl) rfl)) (fun _ h9 => h9) rfl d_X_head_2 ?_
  refine aP (rV (As := []) (rest := [.int n]) C0 (isL_size h) hZ k_X_head_5 rfl rfl ⟨Nat.le_of_ble_eq_true rfl, Nat.le_of_ble_eq_true rfl⟩ (isL_recv hK h) rfl hl.1 rfl (Nat.le_of_ble_eq_true rfl) d_X_head_5 ⟨Nat.zero_le _, Nat.zero_le _⟩) ?_
  intro v hv; subst hv
  refine W.eq (g2 := F0 m 8 ls [.int (nI rows.length), .int n]) rfl ?_
  refine lv_icmp_le (tgt := 15) hx hb d_X_head_8 (by decide) (fun c8 => ?_) (fun c8 => ?_)
  · skip
    refine lv_aload_n hx hb d_X_head_15 rfl (lv_at hl 0 rfl) ?_
    refine va_get (D := g.1) (ci := 0) (C := R_X) (T := F_X) (N := 6) hx hb hts i_X hown hK.1 f0 0 rfl rfl 1 (by decide) (hts (.fieldLink "RegistryLog" 19 "RegistryLog" "log" "LRegistryLog$Ledger;") (in_3 (List.mem_of_getElem? (i := 10) rfl) rfl)) (fun _ h9 => h9) rfl d_X_head_16 ?_
    refine lv_iconst (v := 0) hx hb d_X_head_19 (by decide) ?_
    refine lv_iload_n hx hb d_X_head_20 rfl (lv_at hl 1 rfl) ?_
    refine aP (rN (As := [.ref lg, .int 0, .int n]) (rest := []) C0 (m_head h c8) hZ k_X_head_21 rfl rfl ⟨Nat.le_of_ble_eq_true rfl, Nat.le_of_ble_eq_true rfl⟩ rfl hl.1 rfl (Nat.le_of_ble_eq_true rfl) d_X_head_21 ⟨Nat.zero_le _, Nat.zero_le _⟩) ?_
    intro v hv; subst hv
    refine W.eq (g2 := F0 m 24 ls [.long (headS rows n)]) rfl ?_
    exact W.lret hx hb hr (fun t9 ht hW => ⟨_, rfl, rfl, ht⟩) (fun q h => by cases h) d_X_head_24 hlk
  · skip
    refine lv_lconst (v := 0) hx hb d_X_head_11 (by decide) ?_
    refine lv_goto (tgt := 24) hx hb d_X_head_12 (by decide) ?_
    exact W.lret hx hb hr (fun t9 ht hW => ⟨_, rfl, by rw [headS, if_neg (fun z => c8 z.2)], ht⟩) (fun q h => by cases h) d_X_head_24 hlk
theorem k_X_proof_5 : kV "RegistryLog" 172 "RegistryLog$Numbers" y_U_get b_U_get 2 (some .long) 1 := ⟨(in_3 (List.mem_of_getElem? (i := 101) rfl) rfl), (in_3 (List.mem_of_getElem? (i := 102) rfl) rfl), (in_3 (List.mem_of_getElem? (i := 103) rfl) rfl), (in_1 (List.mem_of_getElem? (i := 21) rfl) rfl), (in_3 (List.mem_of_getElem? (i := 104) rfl) rfl), ⟨by decide, by decide, by decide +kernel⟩⟩
set_option maxHeartbeats 4000000 in
set_option maxRecDepth 100000 in
/-- proof(k) -/
theorem c_X_proof (l : Launch) (g : gG) (H : Heap) (x sb lg ms nm pr hd : Nat) (f0 : ob g H x 0 [.ref sb, .ref lg, .ref ms, .ref nm, .ref pr, .ref hd]) (pv : Nat) (pf : Nat → Int64) (pk pq : Nat) (h : isU g H pr pv pf pk pq) (i : Int32) : Met l y_X_proof (wC y_X_proof b_X_proof 2 (some .long)) (rmk 1 0 0 21) (pC g H [.ref x, .int i]) (qP H (fun v => v = some (.long (getS pf pk i)))) 0 0 no_ := by
  refine mB (by decide) (Nat.le_of_ble_eq_true rfl) ?_
  intro p e s m below meth c ls C0 hH hZ hnm hl
  have C0 : cF g p s m _ meth c b_X_proof 2 "RegistryLog" (some .long) := C0
  obtain ⟨hx, hb, hml, hown, hts, hr, hlk, hK⟩ := id C0
  subst hH
  have hl : lv_has ls 2 [(0, .ref x), (1, .int i)] := hl
  refine lv_aload_n hx hb d_X_proof_0 rfl (lv_at hl 0 rfl) ?_
  refine va_get (D := g.1) (ci := 0) (C := R_X) (T := F_X) (N := 6) hx hb hts i_X hown hK.1 f0 0 rfl rfl 4 (by decide) (hts (.fieldLink "RegistryLog" 33 "RegistryLog" "latestProof" "LRegistryLog$Numbers;") (in_3 (List.mem_of_getElem? (i := 13) rfl) rfl)) (fun _ h9 => h9) rfl d_X_proof_1 ?_
  refine lv_iload_n hx hb d_X_proof_4 rfl (lv_at hl 1 rfl) ?_
  refine aP (rV (As := [.int i]) (rest := []) C0 (c_U_get l g s.heap pr pv pf pk pq i h) hZ k_X_proof_5 rfl rfl ⟨Nat.le_of_ble_eq_true rfl, Nat.le_of_ble_eq_true rfl⟩ (ob_recv (ci := 3) (q := (R_U, F_U, 3)) hK h.1 rfl) rfl hl.1 rfl (Nat.le_of_ble_eq_true rfl) d_X_proof_5 ⟨Nat.zero_le _, Nat.zero_le _⟩) ?_
  intro v hv; subst hv
  refine W.eq (g2 := F0 m 8 ls [.long (getS pf pk i)]) rfl ?_
  exact W.lret hx hb hr (fun t9 ht hW => ⟨_, rfl, rfl, ht⟩) (fun q h => by cases h) d_X_proof_8 hlk
theorem k_X_mirrorOf_1 : kS "RegistryLog" 199 y_X_isMirror b_X_isMirror 1 (some .boolean) 1 := ⟨(in_3 (List.mem_of_getElem? (i := 156) rfl) rfl), (in_3 (List.mem_of_getElem? (i := 157) rfl) rfl), (in_1 (List.mem_of_getElem? (i := 1) rfl) rfl), (in_3 (List.mem_of_getElem? (i := 158) rfl) rfl), ⟨by decide, by decide, by decide +kernel⟩⟩
set_option maxHeartbeats 4000000 in
set_option maxRecDepth 100000 in
/-- mirrorOf(i) -/
theorem c_X_mirrorOf (l : Launch) (g : gG) (H : Heap) (x sb lg ms nm pr hd : Nat) (f0 : ob g H x 0 [.ref sb, .ref lg, .ref ms, .ref nm, .ref pr, .ref hd]) (mf : Nat → Option Nat) (f1 : ar g 3 H ms (4, .inr (.inr (.inr (.inr mf))))) (mir : Nat → List Rw) (hm : ∀ j, j < 4 → ∃ q, mf j = some q ∧ isL g H q (mir j)) (i : Int32) : Met l y_X_mirrorOf (wC y_X_mirrorOf b_X_mirrorOf 2 (some (.object "RegistryLog$Ledger"))) (rmk 1 0 0 20) (pC g H [.ref x, .int i]) (qP H (fun v => ∃ q, v = some (.ref q) ∧ mirA mf nm i = some q)) 0 0 no_ := by
  refine mB (by decide) (Nat.le_of_ble_eq_true rfl) ?_
  intro p e s m below meth c ls C0 hH hZ hnm hl
  have C0 : cF g p s m _ meth c b_X_mirrorOf 2 "RegistryLog" (some (.object "RegistryLog$Ledger")) := C0
  obtain ⟨hx, hb, hml, hown, hts, hr, hlk, hK⟩ := id C0
  subst hH
  have hl : lv_has ls 2 [(0, .ref x), (1, .int i)] := hl
  refine lv_iload_n hx hb d_X_mirrorOf_0 rfl (lv_at hl 1 rfl) ?_
  refine aP (rS (As := [.int i]) (rest := []) C0 (c_X_isMirror l g s.heap i) hZ k_X_mirrorOf_1 rfl rfl ⟨Nat.le_of_ble_eq_true rfl, Nat.le_of_ble_eq_true rfl⟩ rfl hl.1 rfl (Nat.le_of_ble_eq_true rfl) d_X_mirrorOf_1 ⟨Nat.zero_le _, Nat.zero_le _⟩) ?_
  intro v hv; subst hv
  refine W.eq (g2 := F0 m 4 ls [.int (bI (decide (0 ≤ i ∧ i < 4)))]) rfl ?_
  refine lv_if_eq (tgt := 16) hx hb d_X_mirrorOf_4 (by decide) (fun c4 => ?_) (fun c4 => ?_)
  · skip
    refine lv_aload_n hx hb d_X_mirrorOf_16 rfl (lv_at hl 0 rfl) ?_
    refine va_get (D := g.1) (ci := 0) (C := R_X) (T := F_X) (N := 6) hx hb hts i_X hown hK.1 f0 0 rfl rfl 3 (by decide) (hts (.fieldLink "RegistryLog" 27 "RegistryLog" "noMirror" "LRegistryLog$Ledger;") (in_3 (List.mem_of_getElem? (i := 12) rfl) rfl)) (fun _ h9 => h9) rfl d_X_mirrorOf_17 ?_
    exact W.aret hx hb hr (Or.inl ⟨_, rfl⟩) (Or.inr ⟨_, rfl⟩) (fun t9 ht hW => ⟨_, rfl, ⟨nm, rfl, by rw [mirA, if_neg (of_decide_eq_false (bI_z.mp c4))]⟩, ht⟩) (fun q h => by cases h) d_X_mirrorOf_20 hlk
  · skip
    refine lv_aload_n hx hb d_X_mirrorOf_7 rfl (lv_at hl 0 rfl) ?_
    refine va_get (D := g.1) (ci := 0) (C := R_X) (T := F_X) (N := 6) hx hb hts i_X hown hK.1 f0 0 rfl rfl 2 (by decide) (hts (.fieldLink "RegistryLog" 23 "RegistryLog" "mirrors" "[LRegistryLog$Ledger;") (in_3 (List.mem_of_getElem? (i := 11) rfl) rfl)) (fun _ h9 => h9) rfl d_X_mirrorOf_8 ?_
    refine lv_iload_n hx hb d_X_mirrorOf_11 rfl (lv_at hl 1 rfl) ?_
    have hin : 0 ≤ i ∧ i < 4 := of_decide_eq_true (bI_n.mp c4)
    obtain ⟨j, h1, h2⟩ := nI_of (Int32.not_lt.mpr hin.1)
    have h3 : j < 4 := (nI_ltI h1 (by decide)).mp (by rw [← h2]; exact hin.2)
    obtain ⟨q, eq, hq⟩ := hm j h3
    refine va_aldq (D := g.1) hx hb hK.1 f1 0 3 rfl rfl (by rw [h2]; exact vp_in_nI h3 (by omega)) d_X_mirrorOf_12 ?_
    rw [show mf i.toNatClampNeg = some q from by rw [h2, nI_clamp h1]; exact eq]
    refine W.eq (g2 := F0 m 13 ls [.ref q]) rfl ?_
    refine lv_goto (tgt := 20) hx hb d_X_mirrorOf_13 (by decide) ?_
    exact W.aret hx hb hr (Or.inl ⟨_, rfl⟩) (Or.inr ⟨_, rfl⟩) (fun t9 ht hW => ⟨_, rfl, ⟨q, rfl, by rw [mirA, if_pos hin, h2, nI_clamp h1]; exact eq⟩, ht⟩) (fun q h => by cases h) d_X_mirrorOf_20 hlk
theorem k_X_ledgerOf_14 : kV "RegistryLog" 202 "RegistryLog" y_X_mirrorOf b_X_mirrorOf 2 (some (.object "RegistryLog$Ledger")) 1 := ⟨(in_3 (List.mem_of_getElem? (i := 159) rfl) rfl), (in_3 (List.mem_of_getElem? (i := 161) rfl) rfl), (in_0 (List.mem_of_getElem? (i := 1) rfl) rfl), (in_1 (List.mem_of_getElem? (i := 1) rfl) rfl), (in_3 (List.mem_of_getElem? (i := 162) rfl) rfl), ⟨by decide, by decide, by decide +kernel⟩⟩
set_option maxHeartbeats 4000000 in
set_option maxRecDepth 100000 in
/-- ledgerOf(i) -/
theorem c_X_ledgerOf (l : Launch) (g : gG) (H : Heap) (x sb lg ms nm pr hd : Nat) (f0 : ob g H x 0 [.ref sb, .ref lg, .ref ms, .ref nm, .ref pr, .ref hd]) (mf : Nat → Option Nat) (f1 : ar g 3 H ms (4, .inr (.inr (.inr (.inr mf))))) (mir : Nat → List Rw) (hm : ∀ j, j < 4 → ∃ q, mf j = some q ∧ isL g H q (mir j)) (i : Int32) : Met l y_X_ledgerOf (wC y_X_ledgerOf b_X_ledgerOf 2 (some (.object "RegistryLog$Ledger"))) (rmk 2 0 0 41) (pC g H [.ref x, .int i]) (qP H (fun v => ∃ q, v = some (.ref q) ∧ (if i = -1 then some lg else mirA mf nm i) = some q)) 0 0 no_ := by
  refine mB (by decide) (Nat.le_of_ble_eq_true rfl) ?_
  intro p e s m below meth c ls C0 hH hZ hnm hl
  have C0 : cF g p s m _ meth c b_X_ledgerOf 2 "RegistryLog" (some (.object "RegistryLog$Ledger")) := C0
  obtain ⟨hx, hb, hml, hown, hts, hr, hlk, hK⟩ := id C0
  subst hH
  have hl : lv_has ls 2 [(0, .ref x), (1, .int i)] := hl
  refine lv_iload_n hx hb d_X_ledgerOf_0 rfl (lv_at hl 1 rfl) ?_
  refine lv_iconst (v := (-1)) hx hb d_X_ledgerOf_1 (by decide) ?_
  refine lv_icmp_ne (tgt := 12) hx hb d_X_ledgerOf_2 (by decide) (fun c2 => ?_) (fun c2 => ?_)
  · skip
    refine lv_aload_n hx hb d_X_ledgerOf_12 rfl (lv_at hl 0 rfl) ?_
    refine lv_iload_n hx hb d_X_ledgerOf_13 rfl (lv_at hl 1 rfl) ?_
    refine aP (rV (As := [.int i]) (rest := []) C0 (c_X_mirrorOf l g s.heap x sb lg ms nm pr hd f0 mf f1 mir hm i) hZ k_X_ledgerOf_14 rfl rfl ⟨Nat.le_of_ble_eq_true rfl, Nat.le_of_ble_eq_true rfl⟩ (ob_recv (ci := 0) (q := (R_X, F_X, 6)) hK f0 rfl) rfl hl.1 rfl (Nat.le_of_ble_eq_true rfl) d_X_ledgerOf_14 ⟨Nat.zero_le _, Nat.zero_le _⟩) ?_
    rintro v ⟨q, rfl, hq9⟩
    refine W.eq (g2 := F0 m 17 ls [.ref q]) rfl ?_
    exact W.aret hx hb hr (Or.inl ⟨_, rfl⟩) (Or.inr ⟨_, rfl⟩) (fun t9 ht hW => ⟨_, rfl, ⟨q, rfl, by rw [if_neg c2]; exact hq9⟩, ht⟩) (fun q h => by cases h) d_X_ledgerOf_17 hlk
  · skip
    refine lv_aload_n hx hb d_X_ledgerOf_5 rfl (lv_at hl 0 rfl) ?_
    refine va_get (D := g.1) (ci := 0) (C := R_X) (T := F_X) (N := 6) hx hb hts i_X hown hK.1 f0 0 rfl rfl 1 (by decide) (hts (.fieldLink "RegistryLog" 19 "RegistryLog" "log" "LRegistryLog$Ledger;") (in_3 (List.mem_of_getElem? (i := 10) rfl) rfl)) (fun _ h9 => h9) rfl d_X_ledgerOf_6 ?_
    refine lv_goto (tgt := 17) hx hb d_X_ledgerOf_9 (by decide) ?_
    exact W.aret hx hb hr (Or.inl ⟨_, rfl⟩) (Or.inr ⟨_, rfl⟩) (fun t9 ht hW => ⟨_, rfl, ⟨lg, rfl, by rw [if_pos c2]⟩, ht⟩) (fun q h => by cases h) d_X_ledgerOf_17 hlk
theorem k_X_mirrored_2 : kV "RegistryLog" 202 "RegistryLog" y_X_mirrorOf b_X_mirrorOf 2 (some (.object "RegistryLog$Ledger")) 1 := ⟨(in_3 (List.mem_of_getElem? (i := 159) rfl) rfl), (in_3 (List.mem_of_getElem? (i := 161) rfl) rfl), (in_0 (List.mem_of_getElem? (i := 1) rfl) rfl), (in_1 (List.mem_of_getElem? (i := 1) rfl) rfl), (in_3 (List.mem_of_getElem? (i := 162) rfl) rfl), ⟨by decide, by decide, by decide +kernel⟩⟩
theorem k_X_mirrored_9 : kV "RegistryLog" 80 "RegistryLog$Ledger" y_L_size b_L_size 1 (some .int) 0 := ⟨(in_3 (List.mem_of_getElem? (i := 38) rfl) rfl), (in_3 (List.mem_of_getElem? (i := 39) rfl) rfl), (in_3 (List.mem_of_getElem? (i := 40) rfl) rfl), (in_1 (List.mem_of_getElem? (i := 6) rfl) rfl), (in_3 (List.mem_of_getElem? (i := 41) rfl) rfl), ⟨by decide, by decide, by decide +kernel⟩⟩
theorem k_X_mirrored_12 : kN "RegistryLog" 154 y_T_headOf "RegistryLog" b_T_headOf 4 (some .long) 3 := ⟨List.mem_of_getElem? (i := 0) rfl, (in_3 (List.mem_of_getElem? (i := 59) rfl) rfl), (in_1 (List.mem_of_getElem? (i := 20) rfl) rfl), (in_3 (List.mem_of_getElem? (i := 60) rfl) rfl), ⟨by decide, by decide, by decide +kernel⟩⟩
set_option maxHeartbeats 4000000 in
set_option maxRecDepth 100000 in
/-- mirrored(i) -/
theorem c_X_mirrored (l : Launch) (g : gG) (H : Heap) (x sb lg ms nm pr hd : Nat) (f0 : ob g H x 0 [.ref sb, .ref lg, .ref ms, .ref nm, .ref pr, .ref hd]) (mf : Nat → Option Nat) (f1 : ar g 3 H ms (4, .inr (.inr (.inr (.inr mf))))) (mir : Nat → List Rw) (hm : ∀ j, j < 4 → ∃ q, mf j = some q ∧ isL g H q (mir j)) (hn0 : isL g H nm []) (i : Int32) : Met l y_X_mirrored (wC y_X_mirrored b_X_mirrored 3 (some .long)) (rmk 10 0 0 232) (pC g H [.ref x, .int i]) (qP H (fun v => v = some (.long (headS (mirS mir i) (nI (mirS mir i).length))))) 0 0 no_ := by
  refine mB (by decide) (Nat.le_of_ble_eq_true rfl) ?_
  intro p e s m below meth c ls C0 hH hZ hnm hl
  have C0 : cF g p s m _ meth c b_X_mirrored 3 "RegistryLog" (some .long) := C0
  obtain ⟨hx, hb, hml, hown, hts, hr, hlk, hK⟩ := id C0
  subst hH
  have hl : lv_has ls 3 [(0, .ref x), (1, .int i)] := hl
  refine lv_aload_n hx hb d_X_mirrored_0 rfl (lv_at hl 0 rfl) ?_
  refine lv_iload_n hx hb d_X_mirrored_1 rfl (lv_at hl 1 rfl) ?_
  refine aP (rV (As := [.int i]) (rest := []) C0 (c_X_mirrorOf l g s.heap x sb lg ms nm pr hd f0 mf f1 mir hm i) hZ k_X_mirrored_2 rfl rfl ⟨Nat.le_of_ble_eq_true rfl, Nat.le_of_ble_eq_true rfl⟩ (ob_recv (ci := 0) (q := (R_X, F_X, 6)) hK f0 rfl) rfl hl.1 rfl (Nat.le_of_ble_eq_true rfl) d_X_mirrored_2 ⟨Nat.zero_le _, Nat.zero_le _⟩) ?_
  rintro v ⟨q, rfl, hq9⟩
  refine W.eq (g2 := F0 m 5 ls [.ref q]) rfl ?_
  refine lv_astore_n (lv' := [(2, .ref q), (0, .ref x), (1, .int i)]) hx hb d_X_mirrored_5 rfl hl (by decide) rfl (fun ls hl => ?_)
  obtain ⟨q2, e2, h⟩ := mirA_ok hm hn0 i
  have e3 : q = q2 := Option.some.inj (hq9.symm.trans e2)
  subst e3
  refine lv_aload_n hx hb d_X_mirrored_6 rfl (lv_at hl 0 rfl) ?_
  refine lv_iconst (v := 0) hx hb d_X_mirrored_7 (by decide) ?_
  refine lv_aload_n hx hb d_X_mirrored_8 rfl (lv_at hl 0 rfl) ?_
  refine aP (rV (As := []) (rest := [.int 0, .ref q]) C0 (isL_size h) hZ k_X_mirrored_9 rfl rfl ⟨Nat.le_of_ble_eq_true rfl, Nat.le_of_ble_eq_true rfl⟩ (isL_recv hK h) rfl hl.1 rfl (Nat.le_of_ble_eq_true rfl) d_X_mirrored_9 ⟨Nat.zero_le _, Nat.zero_le _⟩) ?_
  intro v hv; subst hv
  refine W.eq (g2 := F0 m 12 ls [.int (nI (mirS mir i).length), .int 0, .ref q]) rfl ?_
  refine aP (rN (As := [.ref q, .int 0, .int (nI (mirS mir i).length)]) (rest := []) C0 (m_head h (Int32.le_refl _)) hZ k_X_mirrored_12 rfl rfl ⟨Nat.le_of_ble_eq_true rfl, Nat.le_of_ble_eq_true rfl⟩ rfl hl.1 rfl (Nat.le_of_ble_eq_true rfl) d_X_mirrored_12 ⟨Nat.zero_le _, Nat.zero_le _⟩) ?_
  intro v hv; subst hv
  refine W.eq (g2 := F0 m 15 ls [.long (headS (mirS mir i) (nI (mirS mir i).length))]) rfl ?_
  exact W.lret hx hb hr (fun t9 ht hW => ⟨_, rfl, rfl, ht⟩) (fun q h => by cases h) d_X_mirrored_15 hlk
def apF (d1 d2 : Nat → Int64) : Nat → Nat → Int32
  | 0, _ => -1
  | k + 1, i => if d1 i = d2 i then apF d1 d2 k (i + 1) else nI (i + 1)
theorem lg_z {a b : Int64} : lg_cmp a b = 0 ↔ a = b := lg_cmp_eq a b
theorem k_X_apart_2 : kV "RegistryLog" 202 "RegistryLog" y_X_mirrorOf b_X_mirrorOf 2 (some (.object "RegistryLog$Ledger")) 1 := ⟨(in_3 (List.mem_of_getElem? (i := 159) rfl) rfl), (in_3 (List.mem_of_getElem? (i := 161) rfl) rfl), (in_0 (List.mem_of_getElem? (i := 1) rfl) rfl), (in_1 (List.mem_of_getElem? (i := 1) rfl) rfl), (in_3 (List.mem_of_getElem? (i := 162) rfl) rfl), ⟨by decide, by decide, by decide +kernel⟩⟩
theorem k_X_apart_10 : kV "RegistryLog" 80 "RegistryLog$Ledger" y_L_size b_L_size 1 (some .int) 0 := ⟨(in_3 (List.mem_of_getElem? (i := 38) rfl) rfl), (in_3 (List.mem_of_getElem? (i := 39) rfl) rfl), (in_3 (List.mem_of_getElem? (i := 40) rfl) rfl), (in_1 (List.mem_of_getElem? (i := 6) rfl) rfl), (in_3 (List.mem_of_getElem? (i := 41) rfl) rfl), ⟨by decide, by decide, by decide +kernel⟩⟩
theorem k_X_apart_18 : kV "RegistryLog" 133 "RegistryLog$Ledger" y_L_at b_L_at 2 (some (.object "RegistryLog$Row")) 1 := ⟨(in_3 (List.mem_of_getElem? (i := 46) rfl) rfl), (in_3 (List.mem_of_getElem? (i := 47) rfl) rfl), (in_3 (List.mem_of_getElem? (i := 48) rfl) rfl), (in_1 (List.mem_of_getElem? (i := 6) rfl) rfl), (in_3 (List.mem_of_getElem? (i := 49) rfl) rfl), ⟨by decide, by decide, by decide +kernel⟩⟩
theorem k_X_apart_29 : kV "RegistryLog" 133 "RegistryLog$Ledger" y_L_at b_L_at 2 (some (.object "RegistryLog$Row")) 1 := ⟨(in_3 (List.mem_of_getElem? (i := 46) rfl) rfl), (in_3 (List.mem_of_getElem? (i := 47) rfl) rfl), (in_3 (List.mem_of_getElem? (i := 48) rfl) rfl), (in_1 (List.mem_of_getElem? (i := 6) rfl) rfl), (in_3 (List.mem_of_getElem? (i := 49) rfl) rfl), ⟨by decide, by decide, by decide +kernel⟩⟩
theorem isL_len {g : gG} {H : Heap} {a : Nat} {rows : List Rw} (h : isL g H a rows) : rows.length ≤ 120 := by
  obtain ⟨w, n, f, f0, f1, hn9, hlen, hrs⟩ := h
  exact hlen
set_option maxHeartbeats 4000000 in
set_option maxRecDepth 100000 in
theorem lp_X_apart {p : Program} {l : Launch} {e : Env} {s : State} {m : MethodId} {args : Array Value} {below : List Frame} {meth : Method} {c : Code} {g : gG} (C0 : cF g p s m args meth c b_X_apart 4 "RegistryLog" (some .int)) (hZ : zK g s s.heap) (x sb lg ms nm pr hd : Nat) (f0 : ob g s.heap x 0 [.ref sb, .ref lg, .ref ms, .ref nm, .ref pr, .ref hd]) (j : Int32) (q : Nat) (mr rows : List Rw) (hq : isL g s.heap q mr) (h : isL g s.heap lg rows) (hm120 : mr.length ≤ 120) (res : Int32) :
    ∀ (n i : Nat), i ≤ mr.length → mr.length + 1 ≤ i + n → apF (dS mr) (dS rows) (mr.length - i) i = res → ∀ (ls : Array Slot), lv_has ls 4 [(0, .ref x), (1, .int j), (2, .ref q), (3, .int (nI i))] → W p l e (rmk 2 0 0 41) s m args below meth c s.heap [] 0 0 (MQ below (qP s.heap (fun v => v = some (.int res))) args s 0 0 no_) (F0 m 8 ls []) := by
  obtain ⟨hx, hb, hml, hown, hts, hr, hlk, hK⟩ := id C0
  intro n
  induction n with
  | zero => intro i h1 h2; exact absurd h2 (by omega)
  | succ n ih =>
    intro i hi hin hres ls hl
    refine lv_iload_n hx hb d_X_apart_8 rfl (lv_at hl 3 rfl) ?_
    refine lv_aload_n hx hb d_X_apart_9 rfl (lv_at hl 2 rfl) ?_
    refine aP (rV (As := []) (rest := [.int (nI i)]) C0 (isL_size hq) hZ k_X_apart_10 rfl rfl ⟨Nat.le_of_ble_eq_true rfl, Nat.le_of_ble_eq_true rfl⟩ (isL_recv hK hq) rfl hl.1 rfl (Nat.le_of_ble_eq_true rfl) d_X_apart_10 ⟨Nat.zero_le _, Nat.zero_le _⟩) ?_
    intro v hv; subst hv
    refine W.eq (g2 := F0 m 13 ls [.int (nI mr.length), .int (nI i)]) rfl ?_
    refine lv_icmp_ge (tgt := 49) hx hb d_X_apart_13 (by decide) (fun c13 => ?_) (fun c13 => ?_)
    · skip
      refine lv_iconst (v := (-1)) hx hb d_X_apart_49 (by decide) ?_
      rw [show mr.length - i = 0 by have := (nI_leI (by omega) (by omega)).mp c13; omega] at hres
      exact W.iret hx hb hr (fun t9 ht hW => ⟨_, rfl, by rw [← hres]; rfl, ht⟩) (fun q h => by cases h) d_X_apart_50 hlk
    · skip
      have hlt : i < mr.length := by rcases Nat.lt_or_ge i mr.length with q | q; exact q; exact absurd (nI_le q (by omega)) c13
      refine lv_aload_n hx hb d_X_apart_16 rfl (lv_at hl 2 rfl) ?_
      refine lv_iload_n hx hb d_X_apart_17 rfl (lv_at hl 3 rfl) ?_
      refine aP (rV (As := [.int (nI i)]) (rest := []) C0 (c_L_at l g s.heap q mr (nI i) hq) hZ k_X_apart_18 rfl rfl ⟨Nat.le_of_ble_eq_true rfl, Nat.le_of_ble_eq_true rfl⟩ (isL_recv hK hq) rfl hl.1 rfl (Nat.le_of_ble_eq_true rfl) d_X_apart_18 ⟨Nat.zero_le _, Nat.zero_le _⟩) ?_
      rintro v ⟨ra1, rfl, ra19⟩
      rw [atS_nat (by omega) (isL_len hq)] at ra19
      obtain ⟨R1, eR1⟩ : ∃ R9, R9 = mr.getD i noRw := ⟨_, rfl⟩
      rw [← eR1] at ra19
      refine W.eq (g2 := F0 m 21 ls [.ref ra1]) rfl ?_
      obtain ⟨na, nb, ra190, ra19n, ra19a⟩ := ra19
      refine va_get (D := g.1) (ci := 4) (C := R_R) (T := F_R) (N := 8) hx hb hts i_R hown hK.1 ra190 0 rfl rfl 7 (by decide) (hts (.fieldLink "RegistryLog" 150 "RegistryLog$Row" "digest" "J") (in_2 (List.mem_of_getElem? (i := 202) rfl) rfl)) (fun _ h9 => h9) rfl d_X_apart_21 ?_
      refine lv_aload_n hx hb d_X_apart_24 rfl (lv_at hl 0 rfl) ?_
      refine va_get (D := g.1) (ci := 0) (C := R_X) (T := F_X) (N := 6) hx hb hts i_X hown hK.1 f0 0 rfl rfl 1 (by decide) (hts (.fieldLink "RegistryLog" 19 "RegistryLog" "log" "LRegistryLog$Ledger;") (in_3 (List.mem_of_getElem? (i := 10) rfl) rfl)) (fun _ h9 => h9) rfl d_X_apart_25 ?_
      refine lv_iload_n hx hb d_X_apart_28 rfl (lv_at hl 3 rfl) ?_
      refine aP (rV (As := [.int (nI i)]) (rest := [.long (digS R1)]) C0 (c_L_at l g s.heap lg rows (nI i) h) hZ k_X_apart_29 rfl rfl ⟨Nat.le_of_ble_eq_true rfl, Nat.le_of_ble_eq_true rfl⟩ (isL_recv hK h) rfl hl.1 rfl (Nat.le_of_ble_eq_true rfl) d_X_apart_29 ⟨Nat.zero_le _, Nat.zero_le _⟩) ?_
      rintro v ⟨rb1, rfl, rb19⟩
      rw [atS_nat (by omega) (isL_len h)] at rb19
      obtain ⟨R2, eR2⟩ : ∃ R9, R9 = rows.getD i noRw := ⟨_, rfl⟩
      rw [← eR2] at rb19
      refine W.eq (g2 := F0 m 32 ls [.ref rb1, .long (digS R1)]) rfl ?_
      obtain ⟨na, nb, rb190, rb19n, rb19a⟩ := rb19
      refine va_get (D := g.1) (ci := 4) (C := R_R) (T := F_R) (N := 8) hx hb hts i_R hown hK.1 rb190 0 rfl rfl 7 (by decide) (hts (.fieldLink "RegistryLog" 150 "RegistryLog$Row" "digest" "J") (in_2 (List.mem_of_getElem? (i := 202) rfl) rfl)) (fun _ h9 => h9) rfl d_X_apart_32 ?_
      refine W.lcmp hx hb d_X_apart_35 ?_
      refine lv_if_eq (tgt := 43) hx hb d_X_apart_36 (by decide) (fun c36 => ?_) (fun c36 => ?_)
      · skip
        obtain ⟨x_1, ex_1⟩ : ∃ y : Int32, y = (nI i) + 1 := ⟨_, rfl⟩
        refine lv_iinc (v := x_1) (lv' := [(3, .int x_1), (0, .ref x), (1, .int j), (2, .ref q)]) hx hb d_X_apart_43 hl (k := 3) rfl (by rw [ex_1]; rfl) (by decide) rfl (fun ls hl => ?_)
        refine lv_goto (tgt := 8) hx hb d_X_apart_46 (by decide) ?_
        rw [ex_1, nI_1] at hl
        rw [show mr.length - i = (mr.length - (i + 1)) + 1 by omega, apF, if_pos (by rw [dS, dS, ← eR1, ← eR2]; exact lg_z.mp c36)] at hres
        exact ih (i + 1) hlt (by omega) hres ls (lv_sub hl [1, 2, 3, 0] rfl)
      · skip
        refine lv_iload_n hx hb d_X_apart_39 rfl (lv_at hl 3 rfl) ?_
        refine lv_iconst (v := 1) hx hb d_X_apart_40 (by decide) ?_
        refine lv_iadd hx hb d_X_apart_41 ?_
        rw [show mr.length - i = (mr.length - (i + 1)) + 1 by omega, apF, if_neg (by rw [dS, dS, ← eR1, ← eR2]; exact fun z => c36 (lg_z.mpr z))] at hres
        exact W.iret hx hb hr (fun t9 ht hW => ⟨_, rfl, by rw [← hres, nI_1], ht⟩) (fun q h => by cases h) d_X_apart_42 hlk
set_option maxHeartbeats 4000000 in
set_option maxRecDepth 100000 in
/-- apart(i) -/
theorem c_X_apart (l : Launch) (g : gG) (H : Heap) (x sb lg ms nm pr hd : Nat) (f0 : ob g H x 0 [.ref sb, .ref lg, .ref ms, .ref nm, .ref pr, .ref hd]) (mf : Nat → Option Nat) (f1 : ar g 3 H ms (4, .inr (.inr (.inr (.inr mf))))) (mir : Nat → List Rw) (hm : ∀ j, j < 4 → ∃ q, mf j = some q ∧ isL g H q (mir j)) (hn0 : isL g H nm []) (rows : List Rw) (h : isL g H lg rows) (i : Int32) : Met l y_X_apart (wC y_X_apart b_X_apart 4 (some .int)) (rmk 2 0 0 41) (pC g H [.ref x, .int i]) (qP H (fun v => v = some (.int (apF (dS (mirS mir i)) (dS rows) (mirS mir i).length 0)))) 0 0 no_ := by
  refine mB (by decide) (Nat.le_of_ble_eq_true rfl) ?_
  intro p e s m below meth c ls C0 hH hZ hnm hl
  have C0 : cF g p s m _ meth c b_X_apart 4 "RegistryLog" (some .int) := C0
  obtain ⟨hx, hb, hml, hown, hts, hr, hlk, hK⟩ := id C0
  subst hH
  have hl : lv_has ls 4 [(0, .ref x), (1, .int i)] := hl
  refine lv_aload_n hx hb d_X_apart_0 rfl (lv_at hl 0 rfl) ?_
  refine lv_iload_n hx hb d_X_apart_1 rfl (lv_at hl 1 rfl) ?_
  refine aP (rV (As := [.int i]) (rest := []) C0 (c_X_mirrorOf l g s.heap x sb lg ms nm pr hd f0 mf f1 mir hm i) hZ k_X_apart_2 rfl rfl ⟨Nat.le_of_ble_eq_true rfl, Nat.le_of_ble_eq_true rfl⟩ (ob_recv (ci := 0) (q := (R_X, F_X, 6)) hK f0 rfl) rfl hl.1 rfl (Nat.le_of_ble_eq_true rfl) d_X_apart_2 ⟨Nat.zero_le _, Nat.zero_le _⟩) ?_
  rintro v ⟨q, rfl, hq9⟩
  refine W.eq (g2 := F0 m 5 ls [.ref q]) rfl ?_
  refine lv_astore_n (lv' := [(2, .ref q), (0, .ref x), (1, .int i)]) hx hb d_X_apart_5 rfl hl (by decide) rfl (fun ls hl => ?_)
  refine lv_iconst (v := 0) hx hb d_X_apart_6 (by decide) ?_
  refine lv_istore_n (lv' := [(3, .int 0), (2, .ref q), (0, .ref x), (1, .int i)]) hx hb d_X_apart_7 rfl hl (by decide) rfl (fun ls hl => ?_)
  obtain ⟨q2, e2, hq⟩ := mirA_ok hm hn0 i
  have e3 : q = q2 := Option.some.inj (hq9.symm.trans e2)
  subst e3
  exact lp_X_apart C0 hZ x sb lg ms nm pr hd f0 i q _ rows hq h (isL_len hq) _ ((mirS mir i).length + 1) 0 (Nat.zero_le _) (by omega) rfl ls (lv_sub hl [2, 3, 1, 0] rfl)
