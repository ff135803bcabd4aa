theorem fpL_lt : ∀ (b n k : Nat), k < n → fpL b n k < n
  | 0, n, k, h => h
  | b + 1, n, k, h => by
    unfold fpL
    split
    · rename_i q; exact fpL_lt b n (2 * k) q.1
    · exact h
theorem fpL_pos : ∀ (b n k : Nat), 1 ≤ k → 1 ≤ fpL b n k
  | 0, n, k, h => h
  | b + 1, n, k, h => by
    unfold fpL
    split
    · exact fpL_pos b n (2 * k) (by omega)
    · exact h
theorem fpS_lt {n : Nat} (h : 2 ≤ n) : fpS n < n := fpL_lt 8 n 1 (by omega)
theorem fpS_pos (n : Nat) : 1 ≤ fpS n := fpL_pos 8 n 1 (Nat.le_refl 1)
/-- HEAD of the n rows from 'at' on, by their DIGESTS -/
def hdS (d : Nat → Int64) (at0 n : Nat) : Int64 :=
  if h : n < 2 then (if n = 1 then d at0 else 0) else joinS (hdS d at0 (fpS n)) (hdS d (at0 + fpS n) (n - fpS n))
termination_by n
decreasing_by
  · exact fpS_lt (by omega)
  · have := fpS_pos n; omega
theorem hdS_1 (d : Nat → Int64) (at0 : Nat) : hdS d at0 1 = d at0 := by rw [hdS]; simp
theorem hdS_n (d : Nat → Int64) (at0 : Nat) {n : Nat} (h : 2 ≤ n) : hdS d at0 n = joinS (hdS d at0 (fpS n)) (hdS d (at0 + fpS n) (n - fpS n)) := by rw [hdS, dif_neg (by omega)]
theorem fpS_half : ∀ n, n < 121 → 2 ≤ n → ∀ d, d < 8 → n ≤ 2 ^ (d + 1) → fpS n ≤ 2 ^ d ∧ n - fpS n ≤ 2 ^ d := by decide +kernel
def dS (rows : List Rw) (j : Nat) : Int64 := digS (rows.getD j noRw)
theorem atS_nat {rows : List Rw} {k : Nat} (h : k < 2 ^ 31) (hr : rows.length ≤ 120) : atS rows (nI k) = rows.getD k noRw := by
  by_cases q : k < rows.length
  · exact atS_in q hr
  · rw [atS, if_neg (fun z => absurd ((nI_ltI h (by omega)).mp z.2) (by omega)), List.getD_eq_getElem?_getD, List.getElem?_eq_none (by omega)]; rfl

theorem k_T_headOf_20 : kV "RegistryLog$Tree" 27 "RegistryLog$Ledger" y_L_at b_L_at 2 (some (.object "RegistryLog$Row")) 1 := ⟨(in_3 (List.mem_of_getElem? (i := 61) rfl) rfl), (in_3 (List.mem_of_getElem? (i := 47) rfl) rfl), (in_3 (List.mem_of_getElem? (i := 48) rfl) rfl), (in_1 (List.mem_of_getElem? (i := 6) rfl) rfl), (in_3 (List.mem_of_getElem? (i := 49) rfl) rfl), ⟨by decide, by decide, by decide +kernel⟩⟩
theorem k_T_headOf_28 : kS "RegistryLog$Tree" 39 y_T_firstPart b_T_firstPart 3 (some .int) 1 := ⟨(in_3 (List.mem_of_getElem? (i := 62) rfl) rfl), (in_3 (List.mem_of_getElem? (i := 63) rfl) rfl), (in_1 (List.mem_of_getElem? (i := 20) rfl) rfl), (in_3 (List.mem_of_getElem? (i := 64) rfl) rfl), ⟨by decide, by decide, by decide +kernel⟩⟩
theorem k_T_headOf_35 : kS "RegistryLog$Tree" 43 y_T_headOf b_T_headOf 4 (some .long) 3 := ⟨(in_3 (List.mem_of_getElem? (i := 65) rfl) rfl), (in_3 (List.mem_of_getElem? (i := 59) rfl) rfl), (in_1 (List.mem_of_getElem? (i := 20) rfl) rfl), (in_3 (List.mem_of_getElem? (i := 60) rfl) rfl), ⟨by decide, by decide, by decide +kernel⟩⟩
theorem k_T_headOf_45 : kS "RegistryLog$Tree" 43 y_T_headOf b_T_headOf 4 (some .long) 3 := ⟨(in_3 (List.mem_of_getElem? (i := 65) rfl) rfl), (in_3 (List.mem_of_getElem? (i := 59) rfl) rfl), (in_1 (List.mem_of_getElem? (i := 20) rfl) rfl), (in_3 (List.mem_of_getElem? (i := 60) rfl) rfl), ⟨by decide, by decide, by decide +kernel⟩⟩
theorem k_T_headOf_48 : kS "RegistryLog$Tree" 47 y_T_join b_T_join 4 (some .long) 2 := ⟨(in_3 (List.mem_of_getElem? (i := 66) rfl) rfl), (in_3 (List.mem_of_getElem? (i := 67) rfl) rfl), (in_1 (List.mem_of_getElem? (i := 20) rfl) rfl), (in_3 (List.mem_of_getElem? (i := 68) rfl) rfl), ⟨by decide, by decide, by decide +kernel⟩⟩
set_option maxHeartbeats 4000000 in
set_option maxRecDepth 100000 in
/-- HEAD: n rows of a ledger -/
theorem c_T_headOf (l : Launch) (g : gG) (H : Heap) (a : Nat) (rows : List Rw) (h : isL g H a rows) : ∀ (d from0 n : Nat), 1 ≤ n → n ≤ 2 ^ d → n ≤ 120 → from0 + n ≤ 1000 → d ≤ 7 → Met l y_T_headOf (wC y_T_headOf b_T_headOf 4 (some .long)) (rmk (d + 2) 0 0 (23 * d + 48)) (pC g H [.ref a, .int (nI from0), .int (nI n)]) (qP H (fun v => v = some (.long (hdS (dS rows) from0 n)))) 0 0 no_ := by
  intro d
  induction d with
  | zero =>
    intro from0 n h1 h2 h3 h4 h5
    refine mB (by decide) (Nat.le_of_ble_eq_true rfl) ?_
    intro p e s m below meth c ls C0 hH hZ hnm hl
    have C0 : cF g p s m _ meth c b_T_headOf 4 "RegistryLog$Tree" (some .long) := C0
    obtain ⟨hx, hb, hml, hown, hts, hr, hlk, hK⟩ := id C0
    subst hH
    have hl : lv_has ls 4 [(0, .ref a), (1, .int (nI from0)), (2, .int (nI n))] := hl
    obtain ⟨w, n0, f, f0, f1, hn9, hlen, hrs⟩ := id h
    refine lv_iload_n hx hb d_T_headOf_0 rfl (lv_at hl 2 rfl) ?_
    refine lv_iconst (v := 1) hx hb d_T_headOf_1 (by decide) ?_
    refine lv_icmp_lt (tgt := 11) hx hb d_T_headOf_2 (by decide) (fun c2 => ?_) (fun c2 => ?_)
    · skip
      exact absurd ((nI_ltI (by omega) (by omega)).mp (show nI n < nI 1 from c2)) (by omega)
    · skip
      refine lv_iload_n hx hb d_T_headOf_5 rfl (lv_at hl 2 rfl) ?_
      refine lv_bipush (v := 120) hx hb d_T_headOf_6 (by decide) ?_
      refine lv_icmp_le (tgt := 13) hx hb d_T_headOf_8 (by decide) (fun c8 => ?_) (fun c8 => ?_)
      · skip
        refine lv_iload_n hx hb d_T_headOf_13 rfl (lv_at hl 2 rfl) ?_
        refine lv_iconst (v := 1) hx hb d_T_headOf_14 (by decide) ?_
        refine lv_icmp_ne (tgt := 27) hx hb d_T_headOf_15 (by decide) (fun c15 => ?_) (fun c15 => ?_)
        · skip
          exact absurd (show nI n = nI 1 from by rw [show n = 1 by omega]) c15
        · skip
          have e1 : n = 1 := (nI_eq (by omega) (by omega)).mp (show nI n = nI 1 from c15)
          refine lv_aload_n hx hb d_T_headOf_18 rfl (lv_at hl 0 rfl) ?_
          refine lv_iload_n hx hb d_T_headOf_19 rfl (lv_at hl 1 rfl) ?_
          refine aP (rV (As := [.int (nI from0)]) (rest := []) C0 (c_L_at l g s.heap a rows (nI from0) h) hZ k_T_headOf_20 rfl rfl ⟨by show _ ≤ _; simp only [rmk]; omega, by show _ ≤ _; simp only [rmk]; omega⟩ (isL_recv hK h) rfl hl.1 rfl (Nat.le_of_ble_eq_true rfl) d_T_headOf_20 ⟨Nat.zero_le _, Nat.zero_le _⟩) ?_
          rintro v ⟨r, rfl, hr9⟩
          rw [atS_nat (by omega) hlen] at hr9
          obtain ⟨R9, eR⟩ : ∃ R9, R9 = rows.getD from0 noRw := ⟨_, rfl⟩
          rw [← eR] at hr9
          refine W.eq (g2 := F0 m 23 ls [.ref r]) rfl ?_
          obtain ⟨na, nb, hr90, hr9n, hr9a⟩ := hr9
          refine va_get (D := g.1) (ci := 4) (C := R_R) (T := F_R) (N := 8) hx hb hts i_R hown hK.1 hr90 0 rfl rfl 7 (by decide) (hts (.fieldLink "RegistryLog$Tree" 33 "RegistryLog$Row" "digest" "J") (in_2 (List.mem_of_getElem? (i := 201) rfl) rfl)) (fun _ h9 => h9) rfl d_T_headOf_23 ?_
          exact W.lret hx hb hr (fun t9 ht hW => ⟨_, rfl, by rw [e1, hdS_1, dS, ← eR], ht⟩) (fun q h => by cases h) d_T_headOf_26 hlk
      · skip
        exact absurd (show nI n ≤ nI 120 from nI_le h3 (by omega)) c8
  | succ d ih =>
    intro from0 n h1 h2 h3 h4 h5
    refine mB (by decide) (Nat.le_of_ble_eq_true rfl) ?_
    intro p e s m below meth c ls C0 hH hZ hnm hl
    have C0 : cF g p s m _ meth c b_T_headOf 4 "RegistryLog$Tree" (some .long) := C0
    obtain ⟨hx, hb, hml, hown, hts, hr, hlk, hK⟩ := id C0
    subst hH
    have hl : lv_has ls 4 [(0, .ref a), (1, .int (nI from0)), (2, .int (nI n))] := hl
    obtain ⟨w, n0, f, f0, f1, hn9, hlen, hrs⟩ := id h
    refine lv_iload_n hx hb d_T_headOf_0 rfl (lv_at hl 2 rfl) ?_
    refine lv_iconst (v := 1) hx hb d_T_headOf_1 (by decide) ?_
    refine lv_icmp_lt (tgt := 11) hx hb d_T_headOf_2 (by decide) (fun c2 => ?_) (fun c2 => ?_)
    · skip
      exact absurd ((nI_ltI (by omega) (by omega)).mp (show nI n < nI 1 from c2)) (by omega)
    · skip
      refine lv_iload_n hx hb d_T_headOf_5 rfl (lv_at hl 2 rfl) ?_
      refine lv_bipush (v := 120) hx hb d_T_headOf_6 (by decide) ?_
      refine lv_icmp_le (tgt := 13) hx hb d_T_headOf_8 (by decide) (fun c8 => ?_) (fun c8 => ?_)
      · skip
        refine lv_iload_n hx hb d_T_headOf_13 rfl (lv_at hl 2 rfl) ?_
        refine lv_iconst (v := 1) hx hb d_T_headOf_14 (by decide) ?_
        refine lv_icmp_ne (tgt := 27) hx hb d_T_headOf_15 (by decide) (fun c15 => ?_) (fun c15 => ?_)
        · skip
          have h9 : 2 ≤ n := by rcases Nat.lt_or_ge n 2 with q | q; exact absurd (show nI n = nI 1 from by rw [show n = 1 by omega]) c15; exact q
          have hlt9 := fpS_lt h9
          have hps9 := fpS_pos n
          refine lv_iload_n hx hb d_T_headOf_27 rfl (lv_at hl 2 rfl) ?_
          refine aP (rS (As := [.int (nI n)]) (rest := []) C0 (c_T_firstPart l g s.heap n h3) hZ k_T_headOf_28 rfl rfl ⟨by show _ ≤ _; simp only [rmk]; omega, by show _ ≤ _; simp only [rmk]; omega⟩ rfl hl.1 rfl (Nat.le_of_ble_eq_true rfl) d_T_headOf_28 ⟨Nat.zero_le _, Nat.zero_le _⟩) ?_
          intro v hv; subst hv
          refine W.eq (g2 := F0 m 31 ls [.int (nI (fpS n))]) rfl ?_
          refine lv_istore_n (lv' := [(3, .int (nI (fpS n))), (0, .ref a), (1, .int (nI from0)), (2, .int (nI n))]) hx hb d_T_headOf_31 rfl hl (by decide) rfl (fun ls hl => ?_)
          refine lv_aload_n hx hb d_T_headOf_32 rfl (lv_at hl 1 rfl) ?_
          refine lv_iload_n hx hb d_T_headOf_33 rfl (lv_at hl 2 rfl) ?_
          refine lv_iload_n hx hb d_T_headOf_34 rfl (lv_at hl 0 rfl) ?_
          refine aP (rS (As := [.ref a, .int (nI from0), .int (nI (fpS n))]) (rest := []) C0 (ih from0 (fpS n) (fpS_pos n) (fpS_half n (by omega) h9 d (by omega) h2).1 (by omega) (by omega) (by omega)) hZ k_T_headOf_35 rfl rfl ⟨by show _ ≤ _; simp only [rmk]; omega, by show _ ≤ _; simp only [rmk]; omega⟩ rfl hl.1 rfl (Nat.le_of_ble_eq_true rfl) d_T_headOf_35 ⟨Nat.zero_le _, Nat.zero_le _⟩) ?_
          intro v hv; subst hv
          refine W.eq (g2 := F0 m 38 ls [.long (hdS (dS rows) from0 (fpS n))]) rfl ?_
          refine lv_aload_n hx hb d_T_headOf_38 rfl (lv_at hl 1 rfl) ?_
          refine lv_iload_n hx hb d_T_headOf_39 rfl (lv_at hl 2 rfl) ?_
          refine lv_iload_n hx hb d_T_headOf_40 rfl (lv_at hl 0 rfl) ?_
          refine lv_iadd hx hb d_T_headOf_41 ?_
          refine lv_iload_n hx hb d_T_headOf_42 rfl (lv_at hl 3 rfl) ?_
          refine lv_iload_n hx hb d_T_headOf_43 rfl (lv_at hl 0 rfl) ?_
          refine lv_isub hx hb d_T_headOf_44 ?_
          rw [show ((nI from0) + (nI (fpS n))) = nI (from0 + fpS n) from nI_add _ _, show ((nI n) - (nI (fpS n))) = nI (n - fpS n) from pk_sub (by omega)]
          refine aP (rS (As := [.ref a, .int (nI (from0 + fpS n)), .int (nI (n - fpS n))]) (rest := [.long (hdS (dS rows) from0 (fpS n))]) C0 (ih (from0 + fpS n) (n - fpS n) (by omega) (fpS_half n (by omega) h9 d (by omega) h2).2 (by omega) (by omega) (by omega)) hZ k_T_headOf_45 rfl rfl ⟨by show _ ≤ _; simp only [rmk]; omega, by show _ ≤ _; simp only [rmk]; omega⟩ rfl hl.1 rfl (Nat.le_of_ble_eq_true rfl) d_T_headOf_45 ⟨Nat.zero_le _, Nat.zero_le _⟩) ?_
          intro v hv; subst hv
          refine W.eq (g2 := F0 m 48 ls [.long (hdS (dS rows) (from0 + fpS n) (n - fpS n)), .long (hdS (dS rows) from0 (fpS n))]) rfl ?_
          refine aP (rS (As := [.long (hdS (dS rows) from0 (fpS n)), .long (hdS (dS rows) (from0 + fpS n) (n - fpS n))]) (rest := []) C0 (c_T_join l g s.heap (hdS (dS rows) from0 (fpS n)) (hdS (dS rows) (from0 + fpS n) (n - fpS n))) hZ k_T_headOf_48 rfl rfl ⟨by show _ ≤ _; simp only [rmk]; omega, by show _ ≤ _; simp only [rmk]; omega⟩ rfl hl.1 rfl (Nat.le_of_ble_eq_true rfl) d_T_headOf_48 ⟨Nat.zero_le _, Nat.zero_le _⟩) ?_
          intro v hv; subst hv
          refine W.eq (g2 := F0 m 51 ls [.long (joinS (hdS (dS rows) from0 (fpS n)) (hdS (dS rows) (from0 + fpS n) (n - fpS n)))]) rfl ?_
          exact W.lret hx hb hr (fun t9 ht hW => ⟨_, rfl, by rw [hdS_n _ _ h9], ht⟩) (fun q h => by cases h) d_T_headOf_51 hlk
        · skip
          have e1 : n = 1 := (nI_eq (by omega) (by omega)).mp (show nI n = nI 1 from c15)
          refine lv_aload_n hx hb d_T_headOf_18 rfl (lv_at hl 0 rfl) ?_
          refine lv_iload_n hx hb d_T_headOf_19 rfl (lv_at hl 1 rfl) ?_
          refine aP (rV (As := [.int (nI from0)]) (rest := []) C0 (c_L_at l g s.heap a rows (nI from0) h) hZ k_T_headOf_20 rfl rfl ⟨by show _ ≤ _; simp only [rmk]; omega, by show _ ≤ _; simp only [rmk]; omega⟩ (isL_recv hK h) rfl hl.1 rfl (Nat.le_of_ble_eq_true rfl) d_T_headOf_20 ⟨Nat.zero_le _, Nat.zero_le _⟩) ?_
          rintro v ⟨r, rfl, hr9⟩
          rw [atS_nat (by omega) hlen] at hr9
          obtain ⟨R9, eR⟩ : ∃ R9, R9 = rows.getD from0 noRw := ⟨_, rfl⟩
          rw [← eR] at hr9
          refine W.eq (g2 := F0 m 23 ls [.ref r]) rfl ?_
          obtain ⟨na, nb, hr90, hr9n, hr9a⟩ := hr9
          refine va_get (D := g.1) (ci := 4) (C := R_R) (T := F_R) (N := 8) hx hb hts i_R hown hK.1 hr90 0 rfl rfl 7 (by decide) (hts (.fieldLink "RegistryLog$Tree" 33 "RegistryLog$Row" "digest" "J") (in_2 (List.mem_of_getElem? (i := 201) rfl) rfl)) (fun _ h9 => h9) rfl d_T_headOf_23 ?_
          exact W.lret hx hb hr (fun t9 ht hW => ⟨_, rfl, by rw [e1, hdS_1, dS, ← eR], ht⟩) (fun q h => by cases h) d_T_headOf_26 hlk
      · skip
        exact absurd (show nI n ≤ nI 120 from nI_le h3 (by omega)) c8
