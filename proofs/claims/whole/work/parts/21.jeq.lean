/-- a truth as the machine's number -/
def bI (b : Bool) : Int32 := if b then 1 else 0
theorem bI_1 : bI true = 1 := rfl
theorem bI_0 : bI false = 0 := rfl
theorem bI_z {b : Bool} : bI b = 0 ↔ b = false := by cases b <;> decide
theorem bI_n {b : Bool} : ¬ bI b = 0 ↔ b = true := by cases b <;> decide
theorem ch_ext {t u : List Nat} (hl : t.length = u.length) (ht : ∀ c ∈ t, c < 128) (hu : ∀ c ∈ u, c < 128) (h : ∀ j, j < t.length → ch t j = ch u j) : t = u := by
  refine List.ext_getElem hl (fun j h1 h2 => ?_)
  have e := h j h1
  simp only [ch, List.getD_eq_getElem?_getD, List.getElem?_eq_getElem h1, List.getElem?_eq_getElem h2, Option.getD_some] at e
  have b1 := ht _ (List.getElem_mem h1)
  have b2 := hu _ (List.getElem_mem h2)
  exact (nI_eq (by omega) (by omega)).mp e
theorem ch_lt {t : List Nat} (ht : ∀ c ∈ t, c < 128) (j : Nat) : t.getD j 0 < 128 := by
  by_cases h : j < t.length
  · rw [List.getD_eq_getElem?_getD, List.getElem?_eq_getElem h, Option.getD_some]; exact ht _ (List.getElem_mem h)
  · rw [List.getD_eq_getElem?_getD, List.getElem?_eq_none (by omega)]; decide

set_option maxHeartbeats 4000000 in
set_option maxRecDepth 100000 in
theorem lp_C_equals {p : Program} {l : Launch} {e : Env} {s : State} {m : MethodId} {args : Array Value} {below : List Frame} {meth : Method} {c : Code} {g : gG} (C0 : cF g p s m args meth c b_C_equals 3 "java/lang/StringLatin1" (some .boolean)) (v u : Nat) (t t2 : List Nat) (f1 : bA g s.heap v t.length (ch t)) (f2 : bA g s.heap u t2.length (ch t2)) (hl0 : t.length = t2.length) (ht : ∀ c ∈ t, c < 128) (ht2 : ∀ c ∈ t2, c < 128) (hn : t.length ≤ 100) :
    ∀ (n i : Nat), i ≤ t.length → t.length + 1 ≤ i + n → (∀ j, j < i → ch t j = ch t2 j) → ∀ (ls : Array Slot), lv_has ls 3 [(2, .int (nI i)), (0, .ref v), (1, .ref u)] → W p l e (rmk 0 0 0 0) s m args below meth c s.heap [] 0 0 (MQ below (qP s.heap (fun v => v = some (.int (bI (decide (t = t2)))))) args s 0 0 no_) (F0 m 9 ls []) := by
  obtain ⟨hx, hb, hml, hown, hts, hr, hlk, hK⟩ := id C0
  intro n
  induction n with
  | zero => intro i h1 h2; exact absurd h2 (by omega)
  | succ n ih =>
    intro i hi hin hq ls hl
    refine lv_iload_n hx hb d_C_equals_9 rfl (lv_at hl 0 rfl) ?_
    refine lv_aload_n hx hb d_C_equals_10 rfl (lv_at hl 1 rfl) ?_
    refine b_len hx hb hK f1 d_C_equals_11 ?_
    refine lv_icmp_ge (tgt := 32) hx hb d_C_equals_12 (by decide) (fun c12 => ?_) (fun c12 => ?_)
    · skip
      refine lv_iconst (v := 1) hx hb d_C_equals_32 (by decide) ?_
      have e : t = t2 := ch_ext hl0 ht ht2 (fun j hj => hq j (by have := (nI_leI (by omega) (by omega)).mp c12; omega))
      exact W.zret hx hb hr rfl (fun t9 ht hW => ⟨_, rfl, by rw [decide_eq_true e]; rfl, ht⟩) (fun q h => by cases h) d_C_equals_33 hlk
    · skip
      have hlt : i < t.length := by rcases Nat.lt_or_ge i t.length with q | q; exact q; exact absurd (nI_le q (by omega)) c12
      have hci : (nI i).toNatClampNeg = i := nI_clamp (by omega)
      refine lv_aload_n hx hb d_C_equals_15 rfl (lv_at hl 1 rfl) ?_
      refine lv_iload_n hx hb d_C_equals_16 rfl (lv_at hl 0 rfl) ?_
      refine b_ld hx hb hK f1 (vp_in_nI hlt (by omega)) d_C_equals_17 ?_
      refine lv_aload_n hx hb d_C_equals_18 rfl (lv_at hl 2 rfl) ?_
      refine lv_iload_n hx hb d_C_equals_19 rfl (lv_at hl 0 rfl) ?_
      refine b_ld hx hb hK f2 (vp_in_nI (by omega) (by omega)) d_C_equals_20 ?_
      refine lv_icmp_eq (tgt := 26) hx hb d_C_equals_21 (by decide) (fun c21 => ?_) (fun c21 => ?_)
      · skip
        obtain ⟨x_1, ex_1⟩ : ∃ y : Int32, y = (nI i) + 1 := ⟨_, rfl⟩
        refine lv_iinc (v := x_1) (lv' := [(2, .int x_1), (0, .ref v), (1, .ref u)]) hx hb d_C_equals_26 hl (k := 0) rfl (by rw [ex_1]; rfl) (by decide) rfl (fun ls hl => ?_)
        refine lv_goto (tgt := 9) hx hb d_C_equals_29 (by decide) ?_
        rw [hci] at c21
        exact ih (i + 1) hlt (by omega) (fun j hj => by rcases (show j < i ∨ j = i by omega) with q | q; exact hq j q; rw [q]; exact c21) ls (by rw [ex_1, nI_1] at hl; exact lv_sub hl [0, 1, 2] rfl)
      · skip
        refine lv_iconst (v := 0) hx hb d_C_equals_24 (by decide) ?_
        have e : ¬ t = t2 := fun z => c21 (by rw [z])
        exact W.zret hx hb hr rfl (fun t9 ht hW => ⟨_, rfl, by rw [decide_eq_false e]; rfl, ht⟩) (fun q h => by cases h) d_C_equals_25 hlk
set_option maxHeartbeats 4000000 in
set_option maxRecDepth 100000 in
/-- StringLatin1.equals -/
theorem c_C_equals (l : Launch) (g : gG) (H : Heap) (v u : Nat) (t t2 : List Nat) (f1 : bA g H v t.length (ch t)) (f2 : bA g H u t2.length (ch t2)) (ht : ∀ c ∈ t, c < 128) (ht2 : ∀ c ∈ t2, c < 128) (hn : t.length ≤ 100) (hn2 : t2.length ≤ 100) : Met l y_C_equals (wC y_C_equals b_C_equals 3 (some .boolean)) (rmk 0 0 0 0) (pC g H [.ref v, .ref u]) (qP H (fun v => v = some (.int (bI (decide (t = t2)))))) 0 0 no_ := by
  refine mB (by decide) (Nat.le_of_ble_eq_true rfl) ?_
  intro p e s m below meth c ls C0 hH hZ hnm hl
  have C0 : cF g p s m _ meth c b_C_equals 3 "java/lang/StringLatin1" (some .boolean) := C0
  obtain ⟨hx, hb, hml, hown, hts, hr, hlk, hK⟩ := id C0
  subst hH
  have hl : lv_has ls 3 [(0, .ref v), (1, .ref u)] := hl
  refine lv_aload_n hx hb d_C_equals_0 rfl (lv_at hl 0 rfl) ?_
  refine b_len hx hb hK f1 d_C_equals_1 ?_
  refine lv_aload_n hx hb d_C_equals_2 rfl (lv_at hl 1 rfl) ?_
  refine b_len hx hb hK f2 d_C_equals_3 ?_
  refine lv_icmp_ne (tgt := 34) hx hb d_C_equals_4 (by decide) (fun c4 => ?_) (fun c4 => ?_)
  · skip
    have e : ¬ t = t2 := fun z => c4 (by rw [z])
    refine lv_iconst (v := 0) hx hb d_C_equals_34 (by decide) ?_
    exact W.zret hx hb hr rfl (fun t9 ht hW => ⟨_, rfl, by rw [decide_eq_false e]; rfl, ht⟩) (fun q h => by cases h) d_C_equals_35 hlk
  · skip
    have c4 : t.length = t2.length := (nI_eq (by omega) (by omega)).mp c4
    refine lv_iconst (v := 0) hx hb d_C_equals_7 (by decide) ?_
    refine lv_istore_n (lv' := [(2, .int 0), (0, .ref v), (1, .ref u)]) hx hb d_C_equals_8 rfl hl (by decide) rfl (fun ls hl => ?_)
    exact lp_C_equals C0 v u t t2 f1 f2 (by have := c4; omega) ht ht2 hn (t.length + 1) 0 (Nat.zero_le _) (by omega) (fun j hj => absurd hj (by omega)) ls (lv_sub hl [0, 1, 2] rfl)
theorem k_S_equals_44 : kS "java/lang/String" 541 y_C_equals b_C_equals 3 (some .boolean) 2 := ⟨(in_4 (List.mem_of_getElem? (i := 6) rfl) rfl), (in_4 (List.mem_of_getElem? (i := 7) rfl) rfl), (in_1 (List.mem_of_getElem? (i := 8) rfl) rfl), (in_4 (List.mem_of_getElem? (i := 8) rfl) rfl), ⟨by decide, by decide, by decide +kernel⟩⟩
theorem isS_inj {g : gG} {H : Heap} {a v u : Nat} {t t2 : List Nat} (f1 : sO g H a v) (f2 : sO g H a u) (b1 : bA g H v t.length (ch t)) (b2 : bA g H u t2.length (ch t2)) (ht : ∀ c ∈ t, c < 128) (ht2 : ∀ c ∈ t2, c < 128) : t = t2 := by
  obtain ⟨c1, h1, _, _, _, h5, _⟩ := f1
  obtain ⟨c2, k1, _, _, _, k5, _⟩ := f2
  have e : c1 = c2 := Option.some.inj (h1.symm.trans k1)
  subst e
  have e2 : v = u := by have := Option.some.inj (h5.symm.trans k5); exact Value.ref.inj this
  subst e2
  obtain ⟨d1, q1, _, _, _, q5, q6⟩ := b1
  obtain ⟨d2, r1, _, _, _, r5, r6⟩ := b2
  have e3 : d1 = d2 := Option.some.inj (q1.symm.trans r1)
  subst e3
  have el : t.length = t2.length := q5.symm.trans r5
  exact ch_ext el ht ht2 (fun j hj => Value.int.inj (Option.some.inj ((q6 j hj).symm.trans (r6 j (by omega)))))
set_option maxHeartbeats 4000000 in
set_option maxRecDepth 100000 in
/-- String.equals, of two Strings -/
theorem c_S_equals (l : Launch) (g : gG) (H : Heap) (a b v u : Nat) (t t2 : List Nat) (f1 : sO g H a v) (f2 : sO g H b u) (b1 : bA g H v t.length (ch t)) (b2 : bA g H u t2.length (ch t2)) (ht : ∀ c ∈ t, c < 128) (ht2 : ∀ c ∈ t2, c < 128) (hn : t.length ≤ 100) (hn2 : t2.length ≤ 100) : Met l y_S_equals (wC y_S_equals b_S_equals 3 (some .boolean)) (rmk 1 0 0 22) (pC g H [.ref a, .ref b]) (qP H (fun v => v = some (.int (bI (decide (t = t2)))))) 0 0 no_ := by
  refine mB (by decide) (Nat.le_of_ble_eq_true rfl) ?_
  intro p e s m below meth c ls C0 hH hZ hnm hl
  have C0 : cF g p s m _ meth c b_S_equals 3 "java/lang/String" (some .boolean) := C0
  obtain ⟨hx, hb, hml, hown, hts, hr, hlk, hK⟩ := id C0
  subst hH
  have hl : lv_has ls 3 [(0, .ref a), (1, .ref b)] := hl
  refine lv_aload_n hx hb d_S_equals_0 rfl (lv_at hl 0 rfl) ?_
  refine lv_aload_n hx hb d_S_equals_1 rfl (lv_at hl 1 rfl) ?_
  refine lv_acmp_ne (rx := some a) (ry := some b) (tgt := 7) hx hb d_S_equals_2 (by decide) (fun c2 => ?_) (fun c2 => ?_)
  · skip
    refine lv_aload_n hx hb d_S_equals_7 rfl (lv_at hl 1 rfl) ?_
    refine va_instS hx hb hown (hts (.classLink "java/lang/String" 10 "java/lang/String") (in_4 (List.mem_of_getElem? (i := 5) rfl) rfl)) (hK.1.1 6 _ rfl).2 (s_recv hK f2) d_S_equals_8 ?_
    refine lv_if_eq (tgt := 54) hx hb d_S_equals_11 (by decide) (fun c11 => ?_) (fun c11 => ?_)
    · skip
      first | exact absurd c11 (by decide) | exact absurd (by decide) c11
    · skip
      refine lv_aload_n hx hb d_S_equals_14 rfl (lv_at hl 1 rfl) ?_
      refine va_castS hx hb hown (hts (.classLink "java/lang/String" 10 "java/lang/String") (in_4 (List.mem_of_getElem? (i := 5) rfl) rfl)) (hK.1.1 6 _ rfl).2 (s_recv hK f2) d_S_equals_15 ?_
      refine lv_astore_n (lv' := [(2, .ref b), (0, .ref a), (1, .ref b)]) hx hb d_S_equals_18 rfl hl (by decide) rfl (fun ls hl => ?_)
      refine va_gets hx hb hZ.1 va_S.rf hown (hts (.fieldLink "java/lang/String" 38 "java/lang/String" "COMPACT_STRINGS" "Z") (in_1 (List.mem_of_getElem? (i := 93) rfl) rfl)) (fun _ h9 => h9) d_S_equals_19 ?_
      refine lv_if_eq (tgt := 36) hx hb d_S_equals_22 (by decide) (fun c22 => ?_) (fun c22 => ?_)
      · skip
        first | exact absurd c22 (by decide) | exact absurd (by decide) c22
      · skip
        refine lv_aload_n hx hb d_S_equals_25 rfl (lv_at hl 1 rfl) ?_
        refine s_get hx hb hts hown hK f1 1 (by decide) (hts (.fieldLink "java/lang/String" 15 "java/lang/String" "coder" "B") (in_2 (List.mem_of_getElem? (i := 147) rfl) rfl)) d_S_equals_26 ?_
        refine W.eq (g2 := F0 m 29 ls [.int 0]) rfl ?_
        refine lv_aload_n hx hb d_S_equals_29 rfl (lv_at hl 0 rfl) ?_
        refine s_get hx hb hts hown hK f2 1 (by decide) (hts (.fieldLink "java/lang/String" 15 "java/lang/String" "coder" "B") (in_2 (List.mem_of_getElem? (i := 147) rfl) rfl)) d_S_equals_30 ?_
        refine W.eq (g2 := F0 m 33 ls [.int 0, .int 0]) rfl ?_
        refine lv_icmp_ne (tgt := 54) hx hb d_S_equals_33 (by decide) (fun c33 => ?_) (fun c33 => ?_)
        · skip
          first | exact absurd c33 (by decide) | exact absurd (by decide) c33
        · skip
          refine lv_aload_n hx hb d_S_equals_36 rfl (lv_at hl 1 rfl) ?_
          refine s_get hx hb hts hown hK f1 0 (by decide) (hts (.fieldLink "java/lang/String" 9 "java/lang/String" "value" "[B") (in_2 (List.mem_of_getElem? (i := 146) rfl) rfl)) d_S_equals_37 ?_
          refine W.eq (g2 := F0 m 40 ls [.ref v]) rfl ?_
          refine lv_aload_n hx hb d_S_equals_40 rfl (lv_at hl 0 rfl) ?_
          refine s_get hx hb hts hown hK f2 0 (by decide) (hts (.fieldLink "java/lang/String" 9 "java/lang/String" "value" "[B") (in_2 (List.mem_of_getElem? (i := 146) rfl) rfl)) d_S_equals_41 ?_
          refine W.eq (g2 := F0 m 44 ls [.ref u, .ref v]) rfl ?_
          refine aP (rS (As := [.ref v, .ref u]) (rest := []) C0 (c_C_equals l g s.heap v u t t2 b1 b2 ht ht2 hn hn2) hZ k_S_equals_44 rfl rfl ⟨Nat.le_of_ble_eq_true rfl, Nat.le_of_ble_eq_true rfl⟩ rfl hl.1 rfl (Nat.le_of_ble_eq_true rfl) d_S_equals_44 ⟨Nat.zero_le _, Nat.zero_le _⟩) ?_
          intro v hv; subst hv
          refine W.eq (g2 := F0 m 47 ls [.int (bI (decide (t = t2)))]) rfl ?_
          refine lv_if_eq (tgt := 54) hx hb d_S_equals_47 (by decide) (fun c47 => ?_) (fun c47 => ?_)
          · skip
            rw [bI_z, decide_eq_false_iff_not] at c47
            refine lv_iconst (v := 0) hx hb d_S_equals_54 (by decide) ?_
            exact W.zret hx hb hr rfl (fun t9 ht hW => ⟨_, rfl, by rw [decide_eq_false c47]; rfl, ht⟩) (fun q h => by cases h) d_S_equals_55 hlk
          · skip
            refine lv_iconst (v := 1) hx hb d_S_equals_50 (by decide) ?_
            refine lv_goto (tgt := 55) hx hb d_S_equals_51 (by decide) ?_
            exact W.zret hx hb hr rfl (fun t9 ht hW => ⟨_, rfl, by rw [decide_eq_true (of_decide_eq_true (bI_n.mp c47))]; rfl, ht⟩) (fun q h => by cases h) d_S_equals_55 hlk
  · skip
    have e : t = t2 := by have c2 : a = b := Option.some.inj c2; subst c2; exact isS_inj f1 f2 b1 b2 ht ht2
    refine lv_iconst (v := 1) hx hb d_S_equals_5 (by decide) ?_
    exact W.zret hx hb hr rfl (fun t9 ht hW => ⟨_, rfl, by rw [decide_eq_true e]; rfl, ht⟩) (fun q h => by cases h) d_S_equals_6 hlk
