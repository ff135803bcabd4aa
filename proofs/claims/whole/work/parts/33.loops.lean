theorem k_L_hasRight_7 : kV "RegistryLog$Ledger" 66 "RegistryLog$Ledger" y_L_founderOf b_L_founderOf 2 (some .int) 1 := ⟨(in_4 (List.mem_of_getElem? (i := 24) rfl) rfl), (in_4 (List.mem_of_getElem? (i := 10) rfl) rfl), (in_4 (List.mem_of_getElem? (i := 11) rfl) rfl), (in_1 (List.mem_of_getElem? (i := 6) rfl) rfl), (in_4 (List.mem_of_getElem? (i := 12) rfl) rfl), ⟨by decide, by decide, by decide +kernel⟩⟩
theorem k_L_hasRight_35 : kV "RegistryLog$Ledger" 35 "RegistryLog$Ledger" y_L_at b_L_at 2 (some (.object "RegistryLog$Row")) 1 := ⟨(in_3 (List.mem_of_getElem? (i := 236) rfl) rfl), (in_3 (List.mem_of_getElem? (i := 47) rfl) rfl), (in_3 (List.mem_of_getElem? (i := 48) rfl) rfl), (in_1 (List.mem_of_getElem? (i := 6) rfl) rfl), (in_3 (List.mem_of_getElem? (i := 49) rfl) rfl), ⟨by decide, by decide, by decide +kernel⟩⟩
set_option maxHeartbeats 4000000 in
set_option maxRecDepth 100000 in
theorem lp_L_hasRight {p : Program} {l : Launch} {e : Env} {s : State} {m : MethodId} {args : Array Value} {below : List Frame} {meth : Method} {c : Code} {g : gG} (C0 : cF g p s m args meth c b_L_hasRight 6 "RegistryLog$Ledger" (some .boolean)) (hZ : zK g s s.heap) (a : Nat) (rows : List Rw) (h : isL g s.heap a rows) (o q : Int32) (res : Bool) :
    ∀ (n i : Nat) (b0 : Bool), i ≤ rows.length → rows.length + 1 ≤ i + n → hrS o q (rows.drop i) b0 = res → ∀ (ls : Array Slot), lv_has ls 6 [(0, .ref a), (1, .int o), (2, .int q), (3, .int (bI b0)), (4, .int (nI i))] → W p l e (rmk 2 0 0 42) s m args below meth c s.heap [] 0 0 (MQ below (qP s.heap (fun v => v = some (.int (bI res)))) args s 0 0 no_) (F0 m 23 ls []) := by
  obtain ⟨hx, hb, hml, hown, hts, hr, hlk, hK⟩ := id C0
  obtain ⟨w, n0, f, f0, f1, hn9, hlen, hrs⟩ := id h
  intro n
  induction n with
  | zero => intro i b0 h1 h2; exact absurd h2 (by omega)
  | succ n ih =>
    intro i b0 hi hin hres ls hl
    refine lv_iload hx hb d_L_hasRight_23 (lv_at hl 4 rfl) ?_
    refine lv_aload_n hx hb d_L_hasRight_25 rfl (lv_at hl 0 rfl) ?_
    refine va_get (D := g.1) (ci := 1) (C := R_L) (T := F_L) (N := 3) hx hb hts i_L hown hK.1 f0 0 rfl rfl 2 (by decide) (hts (.fieldLink "RegistryLog$Ledger" 31 "RegistryLog$Ledger" "count" "I") (in_2 (List.mem_of_getElem? (i := 223) rfl) rfl)) (fun _ h9 => h9) rfl d_L_hasRight_26 ?_
    refine lv_icmp_ge (tgt := 88) hx hb d_L_hasRight_29 (by decide) (fun c29 => ?_) (fun c29 => ?_)
    · skip
      refine lv_iload_n hx hb d_L_hasRight_88 rfl (lv_at hl 3 rfl) ?_
      have he : i = rows.length := by have := (nI_leI (by omega) (by omega)).mp c29; omega
      subst he
      rw [List.drop_length] at hres
      exact W.zret hx hb hr (by cases b0 <;> rfl) (fun t9 ht hW => ⟨_, rfl, by rw [← hres]; rfl, ht⟩) (fun q h => by cases h) d_L_hasRight_89 hlk
    · skip
      have hlt : i < rows.length := by rcases Nat.lt_or_ge i rows.length with q | q; exact q; exact absurd (nI_le q (by omega)) c29
      refine lv_aload_n hx hb d_L_hasRight_32 rfl (lv_at hl 0 rfl) ?_
      refine lv_iload hx hb d_L_hasRight_33 (lv_at hl 4 rfl) ?_
      refine aP (rV (As := [.int (nI i)]) (rest := []) C0 (c_L_at l g s.heap a rows (nI i) h) hZ k_L_hasRight_35 rfl rfl ⟨Nat.le_of_ble_eq_true rfl, Nat.le_of_ble_eq_true rfl⟩ (isL_recv hK h) rfl hl.1 rfl (Nat.le_of_ble_eq_true rfl) d_L_hasRight_35 ⟨Nat.zero_le _, Nat.zero_le _⟩) ?_
      rintro v ⟨r, rfl, hr9⟩
      rw [atS_in hlt hlen] at hr9
      obtain ⟨R9, eR⟩ : ∃ R9, R9 = rows.getD i noRw := ⟨_, rfl⟩
      rw [← eR] at hr9
      rw [dropR hlt eR] at hres
      refine W.eq (g2 := F0 m 38 ls [.ref r]) rfl ?_
      obtain ⟨na, nb, hr90, hr9n, hr9a⟩ := hr9
      refine lv_astore (lv' := [(5, .ref r), (0, .ref a), (1, .int o), (2, .int q), (3, .int (bI b0)), (4, .int (nI i))]) hx hb d_L_hasRight_38 hl (by decide) rfl (fun ls hl => ?_)
      refine lv_aload hx hb d_L_hasRight_40 (lv_at hl 0 rfl) ?_
      refine va_get (D := g.1) (ci := 4) (C := R_R) (T := F_R) (N := 8) hx hb hts i_R hown hK.1 hr90 0 rfl rfl 0 (by decide) (hts (.fieldLink "RegistryLog$Ledger" 39 "RegistryLog$Row" "kind" "I") (in_2 (List.mem_of_getElem? (i := 183) rfl) rfl)) (fun _ h9 => h9) rfl d_L_hasRight_42 ?_
      refine lv_iconst (v := 2) hx hb d_L_hasRight_45 (by decide) ?_
      refine lv_icmp_ne (tgt := 82) hx hb d_L_hasRight_46 (by decide) (fun c46 => ?_) (fun c46 => ?_)
      · skip
        obtain ⟨x_1, ex_1⟩ : ∃ y : Int32, y = (nI i) + 1 := ⟨_, rfl⟩
        refine lv_iinc (v := x_1) (lv' := [(4, .int x_1), (5, .ref r), (0, .ref a), (1, .int o), (2, .int q), (3, .int (bI b0))]) hx hb d_L_hasRight_82 hl (k := 5) rfl (by rw [ex_1]; rfl) (by decide) rfl (fun ls hl => ?_)
        refine lv_goto (tgt := 23) hx hb d_L_hasRight_85 (by decide) ?_
        rw [ex_1, nI_1] at hl
        rw [hrS, if_neg (fun z => c46 z.1)] at hres
        exact ih (i + 1) b0 hlt (by omega) hres ls (lv_sub hl [2, 3, 4, 5, 0] rfl)
      · skip
        refine lv_aload hx hb d_L_hasRight_49 (lv_at hl 0 rfl) ?_
        refine va_get (D := g.1) (ci := 4) (C := R_R) (T := F_R) (N := 8) hx hb hts i_R hown hK.1 hr90 0 rfl rfl 6 (by decide) (hts (.fieldLink "RegistryLog$Ledger" 53 "RegistryLog$Row" "origin" "I") (in_2 (List.mem_of_getElem? (i := 199) rfl) rfl)) (fun _ h9 => h9) rfl d_L_hasRight_51 ?_
        refine lv_iload_n hx hb d_L_hasRight_54 rfl (lv_at hl 2 rfl) ?_
        refine lv_icmp_ne (tgt := 82) hx hb d_L_hasRight_55 (by decide) (fun c55 => ?_) (fun c55 => ?_)
        · skip
          obtain ⟨x_2, ex_2⟩ : ∃ y : Int32, y = (nI i) + 1 := ⟨_, rfl⟩
          refine lv_iinc (v := x_2) (lv' := [(4, .int x_2), (5, .ref r), (0, .ref a), (1, .int o), (2, .int q), (3, .int (bI b0))]) hx hb d_L_hasRight_82 hl (k := 5) rfl (by rw [ex_2]; rfl) (by decide) rfl (fun ls hl => ?_)
          refine lv_goto (tgt := 23) hx hb d_L_hasRight_85 (by decide) ?_
          rw [ex_2, nI_1] at hl
          rw [hrS, if_neg (fun z => c55 z.2.1)] at hres
          exact ih (i + 1) b0 hlt (by omega) hres ls (lv_sub hl [2, 3, 4, 5, 0] rfl)
        · skip
          refine lv_aload hx hb d_L_hasRight_58 (lv_at hl 0 rfl) ?_
          refine va_get (D := g.1) (ci := 4) (C := R_R) (T := F_R) (N := 8) hx hb hts i_R hown hK.1 hr90 0 rfl rfl 4 (by decide) (hts (.fieldLink "RegistryLog$Ledger" 70 "RegistryLog$Row" "second" "I") (in_2 (List.mem_of_getElem? (i := 194) rfl) rfl)) (fun _ h9 => h9) rfl d_L_hasRight_60 ?_
          refine lv_iload_n hx hb d_L_hasRight_63 rfl (lv_at hl 3 rfl) ?_
          refine lv_icmp_ne (tgt := 82) hx hb d_L_hasRight_64 (by decide) (fun c64 => ?_) (fun c64 => ?_)
          · skip
            obtain ⟨x_3, ex_3⟩ : ∃ y : Int32, y = (nI i) + 1 := ⟨_, rfl⟩
            refine lv_iinc (v := x_3) (lv' := [(4, .int x_3), (5, .ref r), (0, .ref a), (1, .int o), (2, .int q), (3, .int (bI b0))]) hx hb d_L_hasRight_82 hl (k := 5) rfl (by rw [ex_3]; rfl) (by decide) rfl (fun ls hl => ?_)
            refine lv_goto (tgt := 23) hx hb d_L_hasRight_85 (by decide) ?_
            rw [ex_3, nI_1] at hl
            rw [hrS, if_neg (fun z => c64 z.2.2)] at hres
            exact ih (i + 1) b0 hlt (by omega) hres ls (lv_sub hl [2, 3, 4, 5, 0] rfl)
          · skip
            refine lv_aload hx hb d_L_hasRight_67 (lv_at hl 0 rfl) ?_
            refine va_get (D := g.1) (ci := 4) (C := R_R) (T := F_R) (N := 8) hx hb hts i_R hown hK.1 hr90 0 rfl rfl 5 (by decide) (hts (.fieldLink "RegistryLog$Ledger" 73 "RegistryLog$Row" "third" "I") (in_2 (List.mem_of_getElem? (i := 197) rfl) rfl)) (fun _ h9 => h9) rfl d_L_hasRight_69 ?_
            refine lv_iconst (v := 1) hx hb d_L_hasRight_72 (by decide) ?_
            refine lv_icmp_ne (tgt := 80) hx hb d_L_hasRight_73 (by decide) (fun c73 => ?_) (fun c73 => ?_)
            · skip
              refine lv_iconst (v := 0) hx hb d_L_hasRight_80 (by decide) ?_
              refine lv_istore_n (lv' := [(3, .int 0), (5, .ref r), (0, .ref a), (1, .int o), (2, .int q), (4, .int (nI i))]) hx hb d_L_hasRight_81 rfl hl (by decide) rfl (fun ls hl => ?_)
              obtain ⟨x_4, ex_4⟩ : ∃ y : Int32, y = (nI i) + 1 := ⟨_, rfl⟩
              refine lv_iinc (v := x_4) (lv' := [(4, .int x_4), (3, .int 0), (5, .ref r), (0, .ref a), (1, .int o), (2, .int q)]) hx hb d_L_hasRight_82 hl (k := 5) rfl (by rw [ex_4]; rfl) (by decide) rfl (fun ls hl => ?_)
              refine lv_goto (tgt := 23) hx hb d_L_hasRight_85 (by decide) ?_
              rw [ex_4, nI_1] at hl
              rw [hrS, if_pos ⟨c46, c55, c64⟩] at hres
              rw [decide_eq_false c73] at hres
              exact ih (i + 1) false hlt (by omega) hres ls (lv_sub hl [3, 4, 5, 1, 0] rfl)
            · skip
              refine lv_iconst (v := 1) hx hb d_L_hasRight_76 (by decide) ?_
              refine lv_goto (tgt := 81) hx hb d_L_hasRight_77 (by decide) ?_
              refine lv_istore_n (lv' := [(3, .int 1), (5, .ref r), (0, .ref a), (1, .int o), (2, .int q), (4, .int (nI i))]) hx hb d_L_hasRight_81 rfl hl (by decide) rfl (fun ls hl => ?_)
              obtain ⟨x_5, ex_5⟩ : ∃ y : Int32, y = (nI i) + 1 := ⟨_, rfl⟩
              refine lv_iinc (v := x_5) (lv' := [(4, .int x_5), (3, .int 1), (5, .ref r), (0, .ref a), (1, .int o), (2, .int q)]) hx hb d_L_hasRight_82 hl (k := 5) rfl (by rw [ex_5]; rfl) (by decide) rfl (fun ls hl => ?_)
              refine lv_goto (tgt := 23) hx hb d_L_hasRight_85 (by decide) ?_
              rw [ex_5, nI_1] at hl
              rw [hrS, if_pos ⟨c46, c55, c64⟩] at hres
              rw [decide_eq_true c73] at hres
              exact ih (i + 1) true hlt (by omega) hres ls (lv_sub hl [3, 4, 5, 1, 0] rfl)
set_option maxHeartbeats 4000000 in
set_option maxRecDepth 100000 in
/-- Ledger.hasRight -/
theorem c_L_hasRight (l : Launch) (g : gG) (H : Heap) (a : Nat) (rows : List Rw) (o q : Int32) (h : isL g H a rows) : Met l y_L_hasRight (wC y_L_hasRight b_L_hasRight 6 (some .boolean)) (rmk 2 0 0 42) (pC g H [.ref a, .int o, .int q]) (qP H (fun v => v = some (.int (bI (hrS o q rows (decide (o ≠ -1 ∧ rp (atS rows o) = q))))))) 0 0 no_ := by
  refine mB (by decide) (Nat.le_of_ble_eq_true rfl) ?_
  intro p e s m below meth c ls C0 hH hZ hnm hl
  have C0 : cF g p s m _ meth c b_L_hasRight 6 "RegistryLog$Ledger" (some .boolean) := C0
  obtain ⟨hx, hb, hml, hown, hts, hr, hlk, hK⟩ := id C0
  subst hH
  have hl : lv_has ls 6 [(0, .ref a), (1, .int o), (2, .int q)] := hl
  refine lv_iload_n hx hb d_L_hasRight_0 rfl (lv_at hl 1 rfl) ?_
  refine lv_iconst (v := (-1)) hx hb d_L_hasRight_1 (by decide) ?_
  refine lv_icmp_eq (tgt := 18) hx hb d_L_hasRight_2 (by decide) (fun c2 => ?_) (fun c2 => ?_)
  · skip
    refine lv_iconst (v := 0) hx hb d_L_hasRight_18 (by decide) ?_
    refine lv_istore_n (lv' := [(3, .int 0), (0, .ref a), (1, .int o), (2, .int q)]) hx hb d_L_hasRight_19 rfl hl (by decide) rfl (fun ls hl => ?_)
    refine lv_iconst (v := 0) hx hb d_L_hasRight_20 (by decide) ?_
    refine lv_istore (lv' := [(4, .int 0), (3, .int 0), (0, .ref a), (1, .int o), (2, .int q)]) hx hb d_L_hasRight_21 hl (by decide) rfl (fun ls hl => ?_)
    have e0 : decide (o ≠ -1 ∧ rp (atS rows o) = q) = false := decide_eq_false (fun z => z.1 c2)
    rw [e0]
    exact lp_L_hasRight C0 hZ a rows h o q _ (rows.length + 1) 0 false (Nat.zero_le _) (by omega) rfl ls (lv_sub hl [2, 3, 4, 1, 0] rfl)
  · skip
    refine lv_aload_n hx hb d_L_hasRight_5 rfl (lv_at hl 0 rfl) ?_
    refine lv_iload_n hx hb d_L_hasRight_6 rfl (lv_at hl 1 rfl) ?_
    refine aP (rV (As := [.int o]) (rest := []) C0 (c_L_founderOf l g s.heap a rows o h) hZ k_L_hasRight_7 rfl rfl ⟨Nat.le_of_ble_eq_true rfl, Nat.le_of_ble_eq_true rfl⟩ (isL_recv hK h) rfl hl.1 rfl (Nat.le_of_ble_eq_true rfl) d_L_hasRight_7 ⟨Nat.zero_le _, Nat.zero_le _⟩) ?_
    intro v hv; subst hv
    refine W.eq (g2 := F0 m 10 ls [.int (rp (atS rows o))]) rfl ?_
    refine lv_iload_n hx hb d_L_hasRight_10 rfl (lv_at hl 2 rfl) ?_
    refine lv_icmp_ne (tgt := 18) hx hb d_L_hasRight_11 (by decide) (fun c11 => ?_) (fun c11 => ?_)
    · skip
      refine lv_iconst (v := 0) hx hb d_L_hasRight_18 (by decide) ?_
      refine lv_istore_n (lv' := [(3, .int 0), (0, .ref a), (1, .int o), (2, .int q)]) hx hb d_L_hasRight_19 rfl hl (by decide) rfl (fun ls hl => ?_)
      refine lv_iconst (v := 0) hx hb d_L_hasRight_20 (by decide) ?_
      refine lv_istore (lv' := [(4, .int 0), (3, .int 0), (0, .ref a), (1, .int o), (2, .int q)]) hx hb d_L_hasRight_21 hl (by decide) rfl (fun ls hl => ?_)
      have e0 : decide (o ≠ -1 ∧ rp (atS rows o) = q) = false := decide_eq_false (fun z => c11 z.2)
      rw [e0]
      exact lp_L_hasRight C0 hZ a rows h o q _ (rows.length + 1) 0 false (Nat.zero_le _) (by omega) rfl ls (lv_sub hl [2, 3, 4, 1, 0] rfl)
    · skip
      refine lv_iconst (v := 1) hx hb d_L_hasRight_14 (by decide) ?_
      refine lv_goto (tgt := 19) hx hb d_L_hasRight_15 (by decide) ?_
      refine lv_istore_n (lv' := [(3, .int 1), (0, .ref a), (1, .int o), (2, .int q)]) hx hb d_L_hasRight_19 rfl hl (by decide) rfl (fun ls hl => ?_)
      refine lv_iconst (v := 0) hx hb d_L_hasRight_20 (by decide) ?_
      refine lv_istore (lv' := [(4, .int 0), (3, .int 1), (0, .ref a), (1, .int o), (2, .int q)]) hx hb d_L_hasRight_21 hl (by decide) rfl (fun ls hl => ?_)
      have e0 : decide (o ≠ -1 ∧ rp (atS rows o) = q) = true := decide_eq_true ⟨c2, c11⟩
      rw [e0]
      exact lp_L_hasRight C0 hZ a rows h o q _ (rows.length + 1) 0 true (Nat.zero_le _) (by omega) rfl ls (lv_sub hl [2, 3, 4, 1, 0] rfl)
theorem k_L_publishOf_12 : kV "RegistryLog$Ledger" 35 "RegistryLog$Ledger" y_L_at b_L_at 2 (some (.object "RegistryLog$Row")) 1 := ⟨(in_3 (List.mem_of_getElem? (i := 236) rfl) rfl), (in_3 (List.mem_of_getElem? (i := 47) rfl) rfl), (in_3 (List.mem_of_getElem? (i := 48) rfl) rfl), (in_1 (List.mem_of_getElem? (i := 6) rfl) rfl), (in_3 (List.mem_of_getElem? (i := 49) rfl) rfl), ⟨by decide, by decide, by decide +kernel⟩⟩
set_option maxHeartbeats 4000000 in
set_option maxRecDepth 100000 in
theorem lp_L_publishOf {p : Program} {l : Launch} {e : Env} {s : State} {m : MethodId} {args : Array Value} {below : List Frame} {meth : Method} {c : Code} {g : gG} (C0 : cF g p s m args meth c b_L_publishOf 5 "RegistryLog$Ledger" (some .int)) (hZ : zK g s s.heap) (a : Nat) (rows : List Rw) (h : isL g s.heap a rows) (o q : Int32) (res : Int32) :
    ∀ (n i : Nat), i ≤ rows.length → rows.length + 1 ≤ i + n → pubS o q (rows.drop i) i = res → ∀ (ls : Array Slot), lv_has ls 5 [(0, .ref a), (1, .int o), (2, .int q), (3, .int (nI i))] → W p l e (rmk 1 0 0 21) s m args below meth c s.heap [] 0 0 (MQ below (qP s.heap (fun v => v = some (.int res))) args s 0 0 no_) (F0 m 2 ls []) := by
  obtain ⟨hx, hb, hml, hown, hts, hr, hlk, hK⟩ := id C0
  obtain ⟨w, n0, f, f0, f1, hn9, hlen, hrs⟩ := id h
  intro n
  induction n with
  | zero => intro i h1 h2; exact absurd h2 (by omega)
  | succ n ih =>
    intro i hi hin hres ls hl
    refine lv_iload_n hx hb d_L_publishOf_2 rfl (lv_at hl 3 rfl) ?_
    refine lv_aload_n hx hb d_L_publishOf_3 rfl (lv_at hl 0 rfl) ?_
    refine va_get (D := g.1) (ci := 1) (C := R_L) (T := F_L) (N := 3) hx hb hts i_L hown hK.1 f0 0 rfl rfl 2 (by decide) (hts (.fieldLink "RegistryLog$Ledger" 31 "RegistryLog$Ledger" "count" "I") (in_2 (List.mem_of_getElem? (i := 223) rfl) rfl)) (fun _ h9 => h9) rfl d_L_publishOf_4 ?_
    refine lv_icmp_ge (tgt := 51) hx hb d_L_publishOf_7 (by decide) (fun c7 => ?_) (fun c7 => ?_)
    · skip
      refine lv_iconst (v := (-1)) hx hb d_L_publishOf_51 (by decide) ?_
      have he : i = rows.length := by have := (nI_leI (by omega) (by omega)).mp c7; omega
      subst he
      rw [List.drop_length] at hres
      exact W.iret hx hb hr (fun t9 ht hW => ⟨_, rfl, by rw [← hres]; rfl, ht⟩) (fun q h => by cases h) d_L_publishOf_52 hlk
    · skip
      have hlt : i < rows.length := by rcases Nat.lt_or_ge i rows.length with q | q; exact q; exact absurd (nI_le q (by omega)) c7
      refine lv_aload_n hx hb d_L_publishOf_10 rfl (lv_at hl 0 rfl) ?_
      refine lv_iload_n hx hb d_L_publishOf_11 rfl (lv_at hl 3 rfl) ?_
      refine aP (rV (As := [.int (nI i)]) (rest := []) C0 (c_L_at l g s.heap a rows (nI i) h) hZ k_L_publishOf_12 rfl rfl ⟨Nat.le_of_ble_eq_true rfl, Nat.le_of_ble_eq_true rfl⟩ (isL_recv hK h) rfl hl.1 rfl (Nat.le_of_ble_eq_true rfl) d_L_publishOf_12 ⟨Nat.zero_le _, Nat.zero_le _⟩) ?_
      rintro v ⟨r, rfl, hr9⟩
      rw [atS_in hlt hlen] at hr9
      obtain ⟨R9, eR⟩ : ∃ R9, R9 = rows.getD i noRw := ⟨_, rfl⟩
      rw [← eR] at hr9
      rw [dropR hlt eR] at hres
      refine W.eq (g2 := F0 m 15 ls [.ref r]) rfl ?_
      obtain ⟨na, nb, hr90, hr9n, hr9a⟩ := hr9
      refine lv_astore (lv' := [(4, .ref r), (0, .ref a), (1, .int o), (2, .int q), (3, .int (nI i))]) hx hb d_L_publishOf_15 hl (by decide) rfl (fun ls hl => ?_)
      refine lv_aload hx hb d_L_publishOf_17 (lv_at hl 0 rfl) ?_
      refine va_get (D := g.1) (ci := 4) (C := R_R) (T := F_R) (N := 8) hx hb hts i_R hown hK.1 hr90 0 rfl rfl 0 (by decide) (hts (.fieldLink "RegistryLog$Ledger" 39 "RegistryLog$Row" "kind" "I") (in_2 (List.mem_of_getElem? (i := 183) rfl) rfl)) (fun _ h9 => h9) rfl d_L_publishOf_19 ?_
      refine lv_if_ne (tgt := 45) hx hb d_L_publishOf_22 (by decide) (fun c22 => ?_) (fun c22 => ?_)
      · skip
        obtain ⟨x_1, ex_1⟩ : ∃ y : Int32, y = (nI i) + 1 := ⟨_, rfl⟩
        refine lv_iinc (v := x_1) (lv' := [(3, .int x_1), (4, .ref r), (0, .ref a), (1, .int o), (2, .int q)]) hx hb d_L_publishOf_45 hl (k := 4) rfl (by rw [ex_1]; rfl) (by decide) rfl (fun ls hl => ?_)
        refine lv_goto (tgt := 2) hx hb d_L_publishOf_48 (by decide) ?_
        rw [ex_1, nI_1] at hl
        rw [pubS, if_neg (fun z => c22 z.1)] at hres
        exact ih (i + 1) hlt (by omega) hres ls (lv_sub hl [2, 3, 4, 0] rfl)
      · skip
        refine lv_aload hx hb d_L_publishOf_25 (lv_at hl 0 rfl) ?_
        refine va_get (D := g.1) (ci := 4) (C := R_R) (T := F_R) (N := 8) hx hb hts i_R hown hK.1 hr90 0 rfl rfl 6 (by decide) (hts (.fieldLink "RegistryLog$Ledger" 53 "RegistryLog$Row" "origin" "I") (in_2 (List.mem_of_getElem? (i := 199) rfl) rfl)) (fun _ h9 => h9) rfl d_L_publishOf_27 ?_
        refine lv_iload_n hx hb d_L_publishOf_30 rfl (lv_at hl 2 rfl) ?_
        refine lv_icmp_ne (tgt := 45) hx hb d_L_publishOf_31 (by decide) (fun c31 => ?_) (fun c31 => ?_)
        · skip
          obtain ⟨x_2, ex_2⟩ : ∃ y : Int32, y = (nI i) + 1 := ⟨_, rfl⟩
          refine lv_iinc (v := x_2) (lv' := [(3, .int x_2), (4, .ref r), (0, .ref a), (1, .int o), (2, .int q)]) hx hb d_L_publishOf_45 hl (k := 4) rfl (by rw [ex_2]; rfl) (by decide) rfl (fun ls hl => ?_)
          refine lv_goto (tgt := 2) hx hb d_L_publishOf_48 (by decide) ?_
          rw [ex_2, nI_1] at hl
          rw [pubS, if_neg (fun z => c31 z.2.1)] at hres
          exact ih (i + 1) hlt (by omega) hres ls (lv_sub hl [2, 3, 4, 0] rfl)
        · skip
          refine lv_aload hx hb d_L_publishOf_34 (lv_at hl 0 rfl) ?_
          refine va_get (D := g.1) (ci := 4) (C := R_R) (T := F_R) (N := 8) hx hb hts i_R hown hK.1 hr90 0 rfl rfl 4 (by decide) (hts (.fieldLink "RegistryLog$Ledger" 70 "RegistryLog$Row" "second" "I") (in_2 (List.mem_of_getElem? (i := 194) rfl) rfl)) (fun _ h9 => h9) rfl d_L_publishOf_36 ?_
          refine lv_iload_n hx hb d_L_publishOf_39 rfl (lv_at hl 3 rfl) ?_
          refine lv_icmp_ne (tgt := 45) hx hb d_L_publishOf_40 (by decide) (fun c40 => ?_) (fun c40 => ?_)
          · skip
            obtain ⟨x_3, ex_3⟩ : ∃ y : Int32, y = (nI i) + 1 := ⟨_, rfl⟩
            refine lv_iinc (v := x_3) (lv' := [(3, .int x_3), (4, .ref r), (0, .ref a), (1, .int o), (2, .int q)]) hx hb d_L_publishOf_45 hl (k := 4) rfl (by rw [ex_3]; rfl) (by decide) rfl (fun ls hl => ?_)
            refine lv_goto (tgt := 2) hx hb d_L_publishOf_48 (by decide) ?_
            rw [ex_3, nI_1] at hl
            rw [pubS, if_neg (fun z => c40 z.2.2)] at hres
            exact ih (i + 1) hlt (by omega) hres ls (lv_sub hl [2, 3, 4, 0] rfl)
          · skip
            refine lv_iload_n hx hb d_L_publishOf_43 rfl (lv_at hl 4 rfl) ?_
            rw [pubS, if_pos ⟨c22, c31, c40⟩] at hres
            exact W.iret hx hb hr (fun t9 ht hW => ⟨_, rfl, by rw [← hres], ht⟩) (fun q h => by cases h) d_L_publishOf_44 hlk
set_option maxHeartbeats 4000000 in
set_option maxRecDepth 100000 in
/-- Ledger.publishOf -/
theorem c_L_publishOf (l : Launch) (g : gG) (H : Heap) (a : Nat) (rows : List Rw) (o q : Int32) (h : isL g H a rows) : Met l y_L_publishOf (wC y_L_publishOf b_L_publishOf 5 (some .int)) (rmk 1 0 0 21) (pC g H [.ref a, .int o, .int q]) (qP H (fun v => v = some (.int (pubS o q rows 0)))) 0 0 no_ := by
  refine mB (by decide) (Nat.le_of_ble_eq_true rfl) ?_
  intro p e s m below meth c ls C0 hH hZ hnm hl
  have C0 : cF g p s m _ meth c b_L_publishOf 5 "RegistryLog$Ledger" (some .int) := C0
  obtain ⟨hx, hb, hml, hown, hts, hr, hlk, hK⟩ := id C0
  subst hH
  have hl : lv_has ls 5 [(0, .ref a), (1, .int o), (2, .int q)] := hl
  refine lv_iconst (v := 0) hx hb d_L_publishOf_0 (by decide) ?_
  refine lv_istore_n (lv' := [(3, .int 0), (0, .ref a), (1, .int o), (2, .int q)]) hx hb d_L_publishOf_1 rfl hl (by decide) rfl (fun ls hl => ?_)
  exact lp_L_publishOf C0 hZ a rows h o q _ (rows.length + 1) 0 (Nat.zero_le _) (by omega) rfl ls (lv_sub hl [1, 2, 3, 0] rfl)
theorem k_L_isYanked_17 : kV "RegistryLog$Ledger" 35 "RegistryLog$Ledger" y_L_at b_L_at 2 (some (.object "RegistryLog$Row")) 1 := ⟨(in_3 (List.mem_of_getElem? (i := 236) rfl) rfl), (in_3 (List.mem_of_getElem? (i := 47) rfl) rfl), (in_3 (List.mem_of_getElem? (i := 48) rfl) rfl), (in_1 (List.mem_of_getElem? (i := 6) rfl) rfl), (in_3 (List.mem_of_getElem? (i := 49) rfl) rfl), ⟨by decide, by decide, by decide +kernel⟩⟩
set_option maxHeartbeats 4000000 in
set_option maxRecDepth 100000 in
theorem lp_L_isYanked {p : Program} {l : Launch} {e : Env} {s : State} {m : MethodId} {args : Array Value} {below : List Frame} {meth : Method} {c : Code} {g : gG} (C0 : cF g p s m args meth c b_L_isYanked 6 "RegistryLog$Ledger" (some .boolean)) (hZ : zK g s s.heap) (a : Nat) (rows : List Rw) (h : isL g s.heap a rows) (o q : Int32) (res : Bool) :
    ∀ (n i : Nat) (b0 : Bool), i ≤ rows.length → rows.length + 1 ≤ i + n → ynS o q (rows.drop i) b0 = res → ∀ (ls : Array Slot), lv_has ls 6 [(0, .ref a), (1, .int o), (2, .int q), (3, .int (bI b0)), (4, .int (nI i))] → W p l e (rmk 1 0 0 21) s m args below meth c s.heap [] 0 0 (MQ below (qP s.heap (fun v => v = some (.int (bI res)))) args s 0 0 no_) (F0 m 5 ls []) := by
  obtain ⟨hx, hb, hml, hown, hts, hr, hlk, hK⟩ := id C0
  obtain ⟨w, n0, f, f0, f1, hn9, hlen, hrs⟩ := id h
  intro n
  induction n with
  | zero => intro i b0 h1 h2; exact absurd h2 (by omega)
  | succ n ih =>
    intro i b0 hi hin hres ls hl
    refine lv_iload hx hb d_L_isYanked_5 (lv_at hl 4 rfl) ?_
    refine lv_aload_n hx hb d_L_isYanked_7 rfl (lv_at hl 0 rfl) ?_
    refine va_get (D := g.1) (ci := 1) (C := R_L) (T := F_L) (N := 3) hx hb hts i_L hown hK.1 f0 0 rfl rfl 2 (by decide) (hts (.fieldLink "RegistryLog$Ledger" 31 "RegistryLog$Ledger" "count" "I") (in_2 (List.mem_of_getElem? (i := 223) rfl) rfl)) (fun _ h9 => h9) rfl d_L_isYanked_8 ?_
    refine lv_icmp_ge (tgt := 70) hx hb d_L_isYanked_11 (by decide) (fun c11 => ?_) (fun c11 => ?_)
    · skip
      refine lv_iload_n hx hb d_L_isYanked_70 rfl (lv_at hl 3 rfl) ?_
      have he : i = rows.length := by have := (nI_leI (by omega) (by omega)).mp c11; omega
      subst he
      rw [List.drop_length] at hres
      exact W.zret hx hb hr (by cases b0 <;> rfl) (fun t9 ht hW => ⟨_, rfl, by rw [← hres]; rfl, ht⟩) (fun q h => by cases h) d_L_isYanked_71 hlk
    · skip
      have hlt : i < rows.length := by rcases Nat.lt_or_ge i rows.length with q | q; exact q; exact absurd (nI_le q (by omega)) c11
      refine lv_aload_n hx hb d_L_isYanked_14 rfl (lv_at hl 0 rfl) ?_
      refine lv_iload hx hb d_L_isYanked_15 (lv_at hl 4 rfl) ?_
      refine aP (rV (As := [.int (nI i)]) (rest := []) C0 (c_L_at l g s.heap a rows (nI i) h) hZ k_L_isYanked_17 rfl rfl ⟨Nat.le_of_ble_eq_true rfl, Nat.le_of_ble_eq_true rfl⟩ (isL_recv hK h) rfl hl.1 rfl (Nat.le_of_ble_eq_true rfl) d_L_isYanked_17 ⟨Nat.zero_le _, Nat.zero_le _⟩) ?_
      rintro v ⟨r, rfl, hr9⟩
      rw [atS_in hlt hlen] at hr9
      obtain ⟨R9, eR⟩ : ∃ R9, R9 = rows.getD i noRw := ⟨_, rfl⟩
      rw [← eR] at hr9
      rw [dropR hlt eR] at hres
      refine W.eq (g2 := F0 m 20 ls [.ref r]) rfl ?_
      obtain ⟨na, nb, hr90, hr9n, hr9a⟩ := hr9
      refine lv_astore (lv' := [(5, .ref r), (0, .ref a), (1, .int o), (2, .int q), (3, .int (bI b0)), (4, .int (nI i))]) hx hb d_L_isYanked_20 hl (by decide) rfl (fun ls hl => ?_)
      refine lv_aload hx hb d_L_isYanked_22 (lv_at hl 0 rfl) ?_
      refine va_get (D := g.1) (ci := 4) (C := R_R) (T := F_R) (N := 8) hx hb hts i_R hown hK.1 hr90 0 rfl rfl 0 (by decide) (hts (.fieldLink "RegistryLog$Ledger" 39 "RegistryLog$Row" "kind" "I") (in_2 (List.mem_of_getElem? (i := 183) rfl) rfl)) (fun _ h9 => h9) rfl d_L_isYanked_24 ?_
      refine lv_iconst (v := 1) hx hb d_L_isYanked_27 (by decide) ?_
      refine lv_icmp_ne (tgt := 64) hx hb d_L_isYanked_28 (by decide) (fun c28 => ?_) (fun c28 => ?_)
      · skip
        obtain ⟨x_1, ex_1⟩ : ∃ y : Int32, y = (nI i) + 1 := ⟨_, rfl⟩
        refine lv_iinc (v := x_1) (lv' := [(4, .int x_1), (5, .ref r), (0, .ref a), (1, .int o), (2, .int q), (3, .int (bI b0))]) hx hb d_L_isYanked_64 hl (k := 5) rfl (by rw [ex_1]; rfl) (by decide) rfl (fun ls hl => ?_)
        refine lv_goto (tgt := 5) hx hb d_L_isYanked_67 (by decide) ?_
        rw [ex_1, nI_1] at hl
        rw [ynS, if_neg (fun z => c28 z.1)] at hres
        exact ih (i + 1) b0 hlt (by omega) hres ls (lv_sub hl [2, 3, 4, 5, 0] rfl)
      · skip
        refine lv_aload hx hb d_L_isYanked_31 (lv_at hl 0 rfl) ?_
        refine va_get (D := g.1) (ci := 4) (C := R_R) (T := F_R) (N := 8) hx hb hts i_R hown hK.1 hr90 0 rfl rfl 6 (by decide) (hts (.fieldLink "RegistryLog$Ledger" 53 "RegistryLog$Row" "origin" "I") (in_2 (List.mem_of_getElem? (i := 199) rfl) rfl)) (fun _ h9 => h9) rfl d_L_isYanked_33 ?_
        refine lv_iload_n hx hb d_L_isYanked_36 rfl (lv_at hl 2 rfl) ?_
        refine lv_icmp_ne (tgt := 64) hx hb d_L_isYanked_37 (by decide) (fun c37 => ?_) (fun c37 => ?_)
        · skip
          obtain ⟨x_2, ex_2⟩ : ∃ y : Int32, y = (nI i) + 1 := ⟨_, rfl⟩
          refine lv_iinc (v := x_2) (lv' := [(4, .int x_2), (5, .ref r), (0, .ref a), (1, .int o), (2, .int q), (3, .int (bI b0))]) hx hb d_L_isYanked_64 hl (k := 5) rfl (by rw [ex_2]; rfl) (by decide) rfl (fun ls hl => ?_)
          refine lv_goto (tgt := 5) hx hb d_L_isYanked_67 (by decide) ?_
          rw [ex_2, nI_1] at hl
          rw [ynS, if_neg (fun z => c37 z.2.1)] at hres
          exact ih (i + 1) b0 hlt (by omega) hres ls (lv_sub hl [2, 3, 4, 5, 0] rfl)
        · skip
          refine lv_aload hx hb d_L_isYanked_40 (lv_at hl 0 rfl) ?_
          refine va_get (D := g.1) (ci := 4) (C := R_R) (T := F_R) (N := 8) hx hb hts i_R hown hK.1 hr90 0 rfl rfl 4 (by decide) (hts (.fieldLink "RegistryLog$Ledger" 70 "RegistryLog$Row" "second" "I") (in_2 (List.mem_of_getElem? (i := 194) rfl) rfl)) (fun _ h9 => h9) rfl d_L_isYanked_42 ?_
          refine lv_iload_n hx hb d_L_isYanked_45 rfl (lv_at hl 3 rfl) ?_
          refine lv_icmp_ne (tgt := 64) hx hb d_L_isYanked_46 (by decide) (fun c46 => ?_) (fun c46 => ?_)
          · skip
            obtain ⟨x_3, ex_3⟩ : ∃ y : Int32, y = (nI i) + 1 := ⟨_, rfl⟩
            refine lv_iinc (v := x_3) (lv' := [(4, .int x_3), (5, .ref r), (0, .ref a), (1, .int o), (2, .int q), (3, .int (bI b0))]) hx hb d_L_isYanked_64 hl (k := 5) rfl (by rw [ex_3]; rfl) (by decide) rfl (fun ls hl => ?_)
            refine lv_goto (tgt := 5) hx hb d_L_isYanked_67 (by decide) ?_
            rw [ex_3, nI_1] at hl
            rw [ynS, if_neg (fun z => c46 z.2.2)] at hres
            exact ih (i + 1) b0 hlt (by omega) hres ls (lv_sub hl [2, 3, 4, 5, 0] rfl)
          · skip
            refine lv_aload hx hb d_L_isYanked_49 (lv_at hl 0 rfl) ?_
            refine va_get (D := g.1) (ci := 4) (C := R_R) (T := F_R) (N := 8) hx hb hts i_R hown hK.1 hr90 0 rfl rfl 5 (by decide) (hts (.fieldLink "RegistryLog$Ledger" 73 "RegistryLog$Row" "third" "I") (in_2 (List.mem_of_getElem? (i := 197) rfl) rfl)) (fun _ h9 => h9) rfl d_L_isYanked_51 ?_
            refine lv_iconst (v := 1) hx hb d_L_isYanked_54 (by decide) ?_
            refine lv_icmp_ne (tgt := 62) hx hb d_L_isYanked_55 (by decide) (fun c55 => ?_) (fun c55 => ?_)
            · skip
              refine lv_iconst (v := 0) hx hb d_L_isYanked_62 (by decide) ?_
              refine lv_istore_n (lv' := [(3, .int 0), (5, .ref r), (0, .ref a), (1, .int o), (2, .int q), (4, .int (nI i))]) hx hb d_L_isYanked_63 rfl hl (by decide) rfl (fun ls hl => ?_)
              obtain ⟨x_4, ex_4⟩ : ∃ y : Int32, y = (nI i) + 1 := ⟨_, rfl⟩
              refine lv_iinc (v := x_4) (lv' := [(4, .int x_4), (3, .int 0), (5, .ref r), (0, .ref a), (1, .int o), (2, .int q)]) hx hb d_L_isYanked_64 hl (k := 5) rfl (by rw [ex_4]; rfl) (by decide) rfl (fun ls hl => ?_)
              refine lv_goto (tgt := 5) hx hb d_L_isYanked_67 (by decide) ?_
              rw [ex_4, nI_1] at hl
              rw [ynS, if_pos ⟨c28, c37, c46⟩] at hres
              rw [decide_eq_false c55] at hres
              exact ih (i + 1) false hlt (by omega) hres ls (lv_sub hl [3, 4, 5, 1, 0] rfl)
            · skip
              refine lv_iconst (v := 1) hx hb d_L_isYanked_58 (by decide) ?_
              refine lv_goto (tgt := 63) hx hb d_L_isYanked_59 (by decide) ?_
              refine lv_istore_n (lv' := [(3, .int 1), (5, .ref r), (0, .ref a), (1, .int o), (2, .int q), (4, .int (nI i))]) hx hb d_L_isYanked_63 rfl hl (by decide) rfl (fun ls hl => ?_)
              obtain ⟨x_5, ex_5⟩ : ∃ y : Int32, y = (nI i) + 1 := ⟨_, rfl⟩
              refine lv_iinc (v := x_5) (lv' := [(4, .int x_5), (3, .int 1), (5, .ref r), (0, .ref a), (1, .int o), (2, .int q)]) hx hb d_L_isYanked_64 hl (k := 5) rfl (by rw [ex_5]; rfl) (by decide) rfl (fun ls hl => ?_)
              refine lv_goto (tgt := 5) hx hb d_L_isYanked_67 (by decide) ?_
              rw [ex_5, nI_1] at hl
              rw [ynS, if_pos ⟨c28, c37, c46⟩] at hres
              rw [decide_eq_true c55] at hres
              exact ih (i + 1) true hlt (by omega) hres ls (lv_sub hl [3, 4, 5, 1, 0] rfl)
set_option maxHeartbeats 4000000 in
set_option maxRecDepth 100000 in
/-- Ledger.isYanked -/
theorem c_L_isYanked (l : Launch) (g : gG) (H : Heap) (a : Nat) (rows : List Rw) (o q : Int32) (h : isL g H a rows) : Met l y_L_isYanked (wC y_L_isYanked b_L_isYanked 6 (some .boolean)) (rmk 1 0 0 21) (pC g H [.ref a, .int o, .int q]) (qP H (fun v => v = some (.int (bI (ynS o q rows false))))) 0 0 no_ := by
  refine mB (by decide) (Nat.le_of_ble_eq_true rfl) ?_
  intro p e s m below meth c ls C0 hH hZ hnm hl
  have C0 : cF g p s m _ meth c b_L_isYanked 6 "RegistryLog$Ledger" (some .boolean) := C0
  obtain ⟨hx, hb, hml, hown, hts, hr, hlk, hK⟩ := id C0
  subst hH
  have hl : lv_has ls 6 [(0, .ref a), (1, .int o), (2, .int q)] := hl
  refine lv_iconst (v := 0) hx hb d_L_isYanked_0 (by decide) ?_
  refine lv_istore_n (lv' := [(3, .int 0), (0, .ref a), (1, .int o), (2, .int q)]) hx hb d_L_isYanked_1 rfl hl (by decide) rfl (fun ls hl => ?_)
  refine lv_iconst (v := 0) hx hb d_L_isYanked_2 (by decide) ?_
  refine lv_istore (lv' := [(4, .int 0), (3, .int 0), (0, .ref a), (1, .int o), (2, .int q)]) hx hb d_L_isYanked_3 hl (by decide) rfl (fun ls hl => ?_)
  exact lp_L_isYanked C0 hZ a rows h o q _ (rows.length + 1) 0 false (Nat.zero_le _) (by omega) rfl ls (lv_sub hl [2, 3, 4, 1, 0] rfl)
theorem k_T_mixText_8 : kV "RegistryLog$Tree" 11 "java/lang/String" y_S_length b_S_length 1 (some .int) 0 := ⟨(in_2 (List.mem_of_getElem? (i := 178) rfl) rfl), (in_1 (List.mem_of_getElem? (i := 86) rfl) rfl), (in_1 (List.mem_of_getElem? (i := 87) rfl) rfl), (in_1 (List.mem_of_getElem? (i := 4) rfl) rfl), (in_1 (List.mem_of_getElem? (i := 88) rfl) rfl), ⟨by decide, by decide, by decide +kernel⟩⟩
theorem k_T_mixText_18 : kV "RegistryLog$Tree" 17 "java/lang/String" y_S_charAt b_S_charAt 2 (some .char) 1 := ⟨(in_2 (List.mem_of_getElem? (i := 179) rfl) rfl), (in_1 (List.mem_of_getElem? (i := 95) rfl) rfl), (in_1 (List.mem_of_getElem? (i := 96) rfl) rfl), (in_1 (List.mem_of_getElem? (i := 4) rfl) rfl), (in_1 (List.mem_of_getElem? (i := 97) rfl) rfl), ⟨by decide, by decide, by decide +kernel⟩⟩
theorem k_T_mixText_22 : kS "RegistryLog$Tree" 21 y_T_mix b_T_mix 6 (some .long) 2 := ⟨(in_2 (List.mem_of_getElem? (i := 180) rfl) rfl), (in_2 (List.mem_of_getElem? (i := 172) rfl) rfl), (in_1 (List.mem_of_getElem? (i := 20) rfl) rfl), (in_2 (List.mem_of_getElem? (i := 173) rfl) rfl), ⟨by decide, by decide, by decide +kernel⟩⟩
theorem dropT {t : List Nat} {i : Nat} (h : i < t.length) : t.drop i = t.getD i 0 :: t.drop (i + 1) := by
  rw [List.drop_eq_getElem_cons h, List.getD_eq_getElem?_getD, List.getElem?_eq_getElem h, Option.getD_some]
set_option maxHeartbeats 4000000 in
set_option maxRecDepth 100000 in
theorem lp_T_mixText {p : Program} {l : Launch} {e : Env} {s : State} {m : MethodId} {args : Array Value} {below : List Frame} {meth : Method} {c : Code} {g : gG} (C0 : cF g p s m args meth c b_T_mixText 6 "RegistryLog$Tree" (some .long)) (hZ : zK g s s.heap) (a : Nat) (t : List Nat) (h : isS g s.heap a t) (ht : t.length ≤ 100) (res : Int64) :
    ∀ (n i : Nat) (x : Int64), i ≤ t.length → t.length + 1 ≤ i + n → mixT x (t.drop i) = res → ∀ (ls : Array Slot), lv_has ls 6 [(2, .ref a), (3, .long x), (5, .int (nI i))] → W p l e (rmk 4 0 0 85) s m args below meth c s.heap [] 0 0 (MQ below (qP s.heap (fun v => v = some (.long res))) args s 0 0 no_) (F0 m 5 ls []) := by
  obtain ⟨hx, hb, hml, hown, hts, hr, hlk, hK⟩ := id C0
  intro n
  induction n with
  | zero => intro i x h1 h2; exact absurd h2 (by omega)
  | succ n ih =>
    intro i x hi hin hres ls hl
    refine lv_iload hx hb d_T_mixText_5 (lv_at hl 2 rfl) ?_
    refine lv_aload_n hx hb d_T_mixText_7 rfl (lv_at hl 0 rfl) ?_
    refine aP (rV (As := []) (rest := [.int (nI i)]) C0 (s_len h) hZ k_T_mixText_8 rfl rfl ⟨Nat.le_of_ble_eq_true rfl, Nat.le_of_ble_eq_true rfl⟩ (isS_recv hK h) rfl hl.1 rfl (Nat.le_of_ble_eq_true rfl) d_T_mixText_8 ⟨Nat.zero_le _, Nat.zero_le _⟩) ?_
    intro v hv; subst hv
    refine W.eq (g2 := F0 m 11 ls [.int (nI t.length), .int (nI i)]) rfl ?_
    refine lv_icmp_ge (tgt := 32) hx hb d_T_mixText_11 (by decide) (fun c11 => ?_) (fun c11 => ?_)
    · skip
      refine lv_lload_n hx hb d_T_mixText_32 rfl (lv_at hl 1 rfl) ?_
      have he : i = t.length := by have := (nI_leI (by omega) (by omega)).mp c11; omega
      subst he
      rw [List.drop_length] at hres
      exact W.lret hx hb hr (fun t9 ht hW => ⟨_, rfl, by rw [← hres]; rfl, ht⟩) (fun q h => by cases h) d_T_mixText_33 hlk
    · skip
      have hlt : i < t.length := by rcases Nat.lt_or_ge i t.length with q | q; exact q; exact absurd (nI_le q (by omega)) c11
      refine lv_lload_n hx hb d_T_mixText_14 rfl (lv_at hl 1 rfl) ?_
      refine lv_aload_n hx hb d_T_mixText_15 rfl (lv_at hl 0 rfl) ?_
      refine lv_iload hx hb d_T_mixText_16 (lv_at hl 2 rfl) ?_
      refine aP (rV (As := [.int (nI i)]) (rest := [.long x]) C0 (s_ch h hlt) hZ k_T_mixText_18 rfl rfl ⟨Nat.le_of_ble_eq_true rfl, Nat.le_of_ble_eq_true rfl⟩ (isS_recv hK h) rfl hl.1 rfl (Nat.le_of_ble_eq_true rfl) d_T_mixText_18 ⟨Nat.zero_le _, Nat.zero_le _⟩) ?_
      intro v hv; subst hv
      refine W.eq (g2 := F0 m 21 ls [.int (nI (t.getD i 0)), .long x]) rfl ?_
      refine lv_i2l hx hb d_T_mixText_21 rfl ?_
      refine aP (rS (As := [.long x, .long ((nI (t.getD i 0)).toInt64)]) (rest := []) C0 (c_T_mix l g s.heap x ((nI (t.getD i 0)).toInt64)) hZ k_T_mixText_22 rfl rfl ⟨Nat.le_of_ble_eq_true rfl, Nat.le_of_ble_eq_true rfl⟩ rfl hl.1 rfl (Nat.le_of_ble_eq_true rfl) d_T_mixText_22 ⟨Nat.zero_le _, Nat.zero_le _⟩) ?_
      intro v hv; subst hv
      refine W.eq (g2 := F0 m 25 ls [.long (mixS x ((nI (t.getD i 0)).toInt64))]) rfl ?_
      refine lv_topl (fun x_1 ex_1 => ?_)
      refine lv_lstore_n (lv' := [(3, .long x_1), (2, .ref a), (5, .int (nI i))]) hx hb d_T_mixText_25 rfl hl (by decide) rfl (fun ls hl => ?_)
      obtain ⟨x_2, ex_2⟩ : ∃ y : Int32, y = (nI i) + 1 := ⟨_, rfl⟩
      refine lv_iinc (v := x_2) (lv' := [(5, .int x_2), (3, .long x_1), (2, .ref a)]) hx hb d_T_mixText_26 hl (k := 2) rfl (by rw [ex_2]; rfl) (by decide) rfl (fun ls hl => ?_)
      refine lv_goto (tgt := 5) hx hb d_T_mixText_29 (by decide) ?_
      rw [ex_2, nI_1] at hl
      rw [dropT hlt, mixT, ← ex_1] at hres
      exact ih (i + 1) _ hlt (by omega) hres ls (lv_sub hl [2, 1, 0] rfl)
set_option maxHeartbeats 4000000 in
set_option maxRecDepth 100000 in
/-- mixText -/
theorem c_T_mixText (l : Launch) (g : gG) (H : Heap) (a : Nat) (t : List Nat) (x : Int64) (h : isS g H a t) : Met l y_T_mixText (wC y_T_mixText b_T_mixText 6 (some .long)) (rmk 4 0 0 85) (pC g H [.long x, .ref a]) (qP H (fun v => v = some (.long (mixT x t)))) 0 0 no_ := by
  refine mB (by decide) (Nat.le_of_ble_eq_true rfl) ?_
  intro p e s m below meth c ls C0 hH hZ hnm hl
  have C0 : cF g p s m _ meth c b_T_mixText 6 "RegistryLog$Tree" (some .long) := C0
  obtain ⟨hx, hb, hml, hown, hts, hr, hlk, hK⟩ := id C0
  subst hH
  have hl : lv_has ls 6 [(0, .long x), (2, .ref a)] := hl
  refine lv_lload_n hx hb d_T_mixText_0 rfl (lv_at hl 0 rfl) ?_
  refine lv_lstore_n (lv' := [(3, .long x), (0, .long x), (2, .ref a)]) hx hb d_T_mixText_1 rfl hl (by decide) rfl (fun ls hl => ?_)
  refine lv_iconst (v := 0) hx hb d_T_mixText_2 (by decide) ?_
  refine lv_istore (lv' := [(5, .int 0), (3, .long x), (0, .long x), (2, .ref a)]) hx hb d_T_mixText_3 hl (by decide) rfl (fun ls hl => ?_)
  obtain ⟨_, _, _, _, ht⟩ := id h
  exact lp_T_mixText C0 hZ a t h ht _ (t.length + 1) 0 x (Nat.zero_le _) (by omega) rfl ls (lv_sub hl [3, 1, 0] rfl)
set_option maxHeartbeats 4000000 in
set_option maxRecDepth 100000 in
theorem lp_T_firstPart {p : Program} {l : Launch} {e : Env} {s : State} {m : MethodId} {args : Array Value} {below : List Frame} {meth : Method} {c : Code} {g : gG} (C0 : cF g p s m args meth c b_T_firstPart 3 "RegistryLog$Tree" (some .int)) (n res : Nat) (hn : n ≤ 120) :
    ∀ (b k : Nat), 120 ≤ k * 2 ^ b → k ≤ 119 → fpL b n k = res → ∀ (ls : Array Slot), lv_has ls 3 [(0, .int (nI n)), (1, .int (nI k)), (2, .int (nI (2 * k)))] → W p l e (rmk 0 0 0 0) s m args below meth c s.heap [] 0 0 (MQ below (qP s.heap (fun v => v = some (.int (nI res)))) args s 0 0 no_) (F0 m 4 ls []) := by
  obtain ⟨hx, hb, hml, hown, hts, hr, hlk, hK⟩ := id C0
  intro b
  induction b with
  | zero => intro k h1 h2; exact absurd h1 (by omega)
  | succ b ih =>
    intro k h1 h2 hres ls hl
    refine lv_iload_n hx hb d_T_firstPart_4 rfl (lv_at hl 2 rfl) ?_
    refine lv_iload_n hx hb d_T_firstPart_5 rfl (lv_at hl 0 rfl) ?_
    refine lv_icmp_ge (tgt := 24) hx hb d_T_firstPart_6 (by decide) (fun c6 => ?_) (fun c6 => ?_)
    · skip
      refine lv_iload_n hx hb d_T_firstPart_24 rfl (lv_at hl 1 rfl) ?_
      have hh := (nI_leI (by omega) (by omega)).mp (show nI n ≤ nI (2 * k) from c6)
      rw [fpL, if_neg (by omega)] at hres
      exact W.iret hx hb hr (fun t9 ht hW => ⟨_, rfl, by rw [← hres], ht⟩) (fun q h => by cases h) d_T_firstPart_25 hlk
    · skip
      refine lv_iload_n hx hb d_T_firstPart_9 rfl (lv_at hl 2 rfl) ?_
      refine lv_bipush (v := 120) hx hb d_T_firstPart_10 (by decide) ?_
      refine lv_icmp_ge (tgt := 24) hx hb d_T_firstPart_12 (by decide) (fun c12 => ?_) (fun c12 => ?_)
      · skip
        refine lv_iload_n hx hb d_T_firstPart_24 rfl (lv_at hl 1 rfl) ?_
        have hh := (nI_leI (by omega) (by omega)).mp (show nI 120 ≤ nI (2 * k) from c12)
        rw [fpL, if_neg (by omega)] at hres
        exact W.iret hx hb hr (fun t9 ht hW => ⟨_, rfl, by rw [← hres], ht⟩) (fun q h => by cases h) d_T_firstPart_25 hlk
      · skip
        refine lv_iload_n hx hb d_T_firstPart_15 rfl (lv_at hl 2 rfl) ?_
        refine lv_istore_n (lv' := [(1, .int (nI (2 * k))), (0, .int (nI n)), (2, .int (nI (2 * k)))]) hx hb d_T_firstPart_16 rfl hl (by decide) rfl (fun ls hl => ?_)
        refine lv_iload_n hx hb d_T_firstPart_17 rfl (lv_at hl 2 rfl) ?_
        refine lv_iconst (v := 2) hx hb d_T_firstPart_18 (by decide) ?_
        refine lv_imul hx hb d_T_firstPart_19 ?_
        refine lv_topi (fun x_1 ex_1 => ?_)
        refine lv_istore_n (lv' := [(2, .int x_1), (1, .int (nI (2 * k))), (0, .int (nI n))]) hx hb d_T_firstPart_20 rfl hl (by decide) rfl (fun ls hl => ?_)
        refine lv_goto (tgt := 4) hx hb d_T_firstPart_21 (by decide) ?_
        have c6 : 2 * k < n := by rcases Nat.lt_or_ge (2 * k) n with q | q; exact q; exact absurd (nI_le q (by omega)) c6
        have c12 : 2 * k < 120 := by rcases Nat.lt_or_ge (2 * k) 120 with q | q; exact q; exact absurd (show nI 120 ≤ nI (2 * k) from nI_le q (by omega)) c12
        have e9 : x_1 = nI (2 * (2 * k)) := by rw [ex_1, show (2 : Int32) = nI 2 from rfl, pk_mul]; congr 1; omega
        rw [e9] at hl
        rw [fpL, if_pos ⟨c6, c12⟩] at hres
        exact ih (2 * k) (by rw [Nat.pow_succ] at h1; have := h1; rw [show 2 * k * 2 ^ b = k * (2 ^ b * 2) by rw [Nat.mul_comm (2 ^ b) 2, ← Nat.mul_assoc, Nat.mul_comm k 2]]; exact this) (by omega) hres ls (lv_sub hl [2, 1, 0] rfl)
set_option maxHeartbeats 4000000 in
set_option maxRecDepth 100000 in
/-- firstPart -/
theorem c_T_firstPart (l : Launch) (g : gG) (H : Heap) (n : Nat) (hn : n ≤ 120) : Met l y_T_firstPart (wC y_T_firstPart b_T_firstPart 3 (some .int)) (rmk 0 0 0 0) (pC g H [.int (nI n)]) (qP H (fun v => v = some (.int (nI (fpS n))))) 0 0 no_ := by
  refine mB (by decide) (Nat.le_of_ble_eq_true rfl) ?_
  intro p e s m below meth c ls C0 hH hZ hnm hl
  have C0 : cF g p s m _ meth c b_T_firstPart 3 "RegistryLog$Tree" (some .int) := C0
  obtain ⟨hx, hb, hml, hown, hts, hr, hlk, hK⟩ := id C0
  subst hH
  have hl : lv_has ls 3 [(0, .int (nI n))] := hl
  refine lv_iconst (v := 1) hx hb d_T_firstPart_0 (by decide) ?_
  refine lv_istore_n (lv' := [(1, .int 1), (0, .int (nI n))]) hx hb d_T_firstPart_1 rfl hl (by decide) rfl (fun ls hl => ?_)
  refine lv_iconst (v := 2) hx hb d_T_firstPart_2 (by decide) ?_
  refine lv_istore_n (lv' := [(2, .int 2), (1, .int 1), (0, .int (nI n))]) hx hb d_T_firstPart_3 rfl hl (by decide) rfl (fun ls hl => ?_)
  exact lp_T_firstPart C0 n _ hn 8 1 (by decide) (by decide) rfl ls (lv_sub hl [2, 1, 0] rfl)
theorem k_N_commonBeginning_1 : kV "RegistryLog$Name" 22 "java/lang/String" y_S_length b_S_length 1 (some .int) 0 := ⟨(in_1 (List.mem_of_getElem? (i := 85) rfl) rfl), (in_1 (List.mem_of_getElem? (i := 86) rfl) rfl), (in_1 (List.mem_of_getElem? (i := 87) rfl) rfl), (in_1 (List.mem_of_getElem? (i := 4) rfl) rfl), (in_1 (List.mem_of_getElem? (i := 88) rfl) rfl), ⟨by decide, by decide, by decide +kernel⟩⟩
theorem k_N_commonBeginning_5 : kV "RegistryLog$Name" 22 "java/lang/String" y_S_length b_S_length 1 (some .int) 0 := ⟨(in_1 (List.mem_of_getElem? (i := 85) rfl) rfl), (in_1 (List.mem_of_getElem? (i := 86) rfl) rfl), (in_1 (List.mem_of_getElem? (i := 87) rfl) rfl), (in_1 (List.mem_of_getElem? (i := 4) rfl) rfl), (in_1 (List.mem_of_getElem? (i := 88) rfl) rfl), ⟨by decide, by decide, by decide +kernel⟩⟩
theorem k_N_commonBeginning_21 : kV "RegistryLog$Name" 28 "java/lang/String" y_S_charAt b_S_charAt 2 (some .char) 1 := ⟨(in_1 (List.mem_of_getElem? (i := 94) rfl) rfl), (in_1 (List.mem_of_getElem? (i := 95) rfl) rfl), (in_1 (List.mem_of_getElem? (i := 96) rfl) rfl), (in_1 (List.mem_of_getElem? (i := 4) rfl) rfl), (in_1 (List.mem_of_getElem? (i := 97) rfl) rfl), ⟨by decide, by decide, by decide +kernel⟩⟩
theorem k_N_commonBeginning_26 : kV "RegistryLog$Name" 28 "java/lang/String" y_S_charAt b_S_charAt 2 (some .char) 1 := ⟨(in_1 (List.mem_of_getElem? (i := 94) rfl) rfl), (in_1 (List.mem_of_getElem? (i := 95) rfl) rfl), (in_1 (List.mem_of_getElem? (i := 96) rfl) rfl), (in_1 (List.mem_of_getElem? (i := 4) rfl) rfl), (in_1 (List.mem_of_getElem? (i := 97) rfl) rfl), ⟨by decide, by decide, by decide +kernel⟩⟩
theorem mn_ {a b : Nat} (ha : a < 2 ^ 31) (hb : b < 2 ^ 31) : (if nI b < nI a then nI b else nI a) = nI (min a b) := by
  by_cases h : b < a
  · rw [if_pos (nI_lt h ha), Nat.min_eq_right (by omega)]
  · rw [if_neg (nI_nlt (by omega) (by omega)), Nat.min_eq_left (by omega)]
theorem mx_ {a b : Nat} (ha : a < 2 ^ 31) (hb : b < 2 ^ 31) : (if nI a < nI b then nI b else nI a) = nI (max a b) := by
  by_cases h : a < b
  · rw [if_pos (nI_lt h hb), Nat.max_eq_right (by omega)]
  · rw [if_neg (nI_nlt (by omega) (by omega)), Nat.max_eq_left (by omega)]
theorem gd_lt {t : List Nat} (h : ∀ c ∈ t, c < 128) (i : Nat) : t.getD i 0 < 2 ^ 31 := Nat.lt_trans (ch_lt h i) (by decide)
theorem rev_at {t : List Nat} {i : Nat} (h : i < t.length) : t.reverse.getD i 0 = t.getD (t.length - 1 - i) 0 := by
  rw [List.getD_eq_getElem?_getD, List.getD_eq_getElem?_getD, List.getElem?_reverse h]
theorem cb_end {t u : List Nat} {i : Nat} (h : min t.length u.length ≤ i) : cbS (t.drop i) (u.drop i) = 0 := by
  rcases (show t.length ≤ i ∨ u.length ≤ i by omega) with q | q
  · rw [List.drop_eq_nil_of_le q]; unfold cbS; rfl
  · rw [List.drop_eq_nil_of_le q]; cases t.drop i <;> rfl
set_option maxHeartbeats 4000000 in
set_option maxRecDepth 100000 in
theorem lp_N_commonBeginning {p : Program} {l : Launch} {e : Env} {s : State} {m : MethodId} {args : Array Value} {below : List Frame} {meth : Method} {c : Code} {g : gG} (C0 : cF g p s m args meth c b_N_commonBeginning 4 "RegistryLog$Name" (some .int)) (hZ : zK g s s.heap) (a b : Nat) (t u : List Nat) (h : isS g s.heap a t) (h2 : isS g s.heap b u) (hc1 : ∀ c ∈ t, c < 128) (hn1 : t.length ≤ 100) (hc2 : ∀ c ∈ u, c < 128) (hn2 : u.length ≤ 100) (res : Nat) :
    ∀ (n i : Nat), i ≤ (min t.length u.length) → (min t.length u.length) + 1 ≤ i + n → cbS (t.drop i) (u.drop i) + i = res → ∀ (ls : Array Slot), lv_has ls 4 [(0, .ref a), (1, .ref b), (2, .int (nI (min t.length u.length))), (3, .int (nI i))] → W p l e (rmk 4 0 0 85) s m args below meth c s.heap [] 0 0 (MQ below (qP s.heap (fun v => v = some (.int (nI res)))) args s 0 0 no_) (F0 m 14 ls []) := by
  obtain ⟨hx, hb, hml, hown, hts, hr, hlk, hK⟩ := id C0
  intro n
  induction n with
  | zero => intro i h1 h2; exact absurd h2 (by omega)
  | succ n ih =>
    intro i hi hin hres ls hl
    refine lv_iload_n hx hb d_N_commonBeginning_14 rfl (lv_at hl 3 rfl) ?_
    refine lv_iload_n hx hb d_N_commonBeginning_15 rfl (lv_at hl 2 rfl) ?_
    refine lv_icmp_ge (tgt := 40) hx hb d_N_commonBeginning_16 (by decide) (fun c16 => ?_) (fun c16 => ?_)
    · skip
      refine lv_iload_n hx hb d_N_commonBeginning_40 rfl (lv_at hl 2 rfl) ?_
      have hh := (nI_leI (by omega) (by omega)).mp c16
      rw [cb_end hh] at hres
      have e9 : min t.length u.length = res := by omega
      exact W.iret hx hb hr (fun t9 ht hW => ⟨_, rfl, by rw [e9], ht⟩) (fun q h => by cases h) d_N_commonBeginning_41 hlk
    · skip
      have hlt : i < min t.length u.length := by rcases Nat.lt_or_ge i (min t.length u.length) with q | q; exact q; exact absurd (nI_le q (by omega)) c16
      have hlt1 : i < t.length := by omega
      have hlt2 : i < u.length := by omega
      refine lv_aload_n hx hb d_N_commonBeginning_19 rfl (lv_at hl 0 rfl) ?_
      refine lv_iload_n hx hb d_N_commonBeginning_20 rfl (lv_at hl 3 rfl) ?_
      refine aP (rV (As := [.int (nI i)]) (rest := []) C0 (s_ch h hlt1) hZ k_N_commonBeginning_21 rfl rfl ⟨Nat.le_of_ble_eq_true rfl, Nat.le_of_ble_eq_true rfl⟩ (isS_recv hK h) rfl hl.1 rfl (Nat.le_of_ble_eq_true rfl) d_N_commonBeginning_21 ⟨Nat.zero_le _, Nat.zero_le _⟩) ?_
      intro v hv; subst hv
      refine W.eq (g2 := F0 m 24 ls [.int (nI (t.getD i 0))]) rfl ?_
      refine lv_aload_n hx hb d_N_commonBeginning_24 rfl (lv_at hl 1 rfl) ?_
      refine lv_iload_n hx hb d_N_commonBeginning_25 rfl (lv_at hl 3 rfl) ?_
      refine aP (rV (As := [.int (nI i)]) (rest := [.int (nI (t.getD i 0))]) C0 (s_ch h2 hlt2) hZ k_N_commonBeginning_26 rfl rfl ⟨Nat.le_of_ble_eq_true rfl, Nat.le_of_ble_eq_true rfl⟩ (isS_recv hK h2) rfl hl.1 rfl (Nat.le_of_ble_eq_true rfl) d_N_commonBeginning_26 ⟨Nat.zero_le _, Nat.zero_le _⟩) ?_
      intro v hv; subst hv
      refine W.eq (g2 := F0 m 29 ls [.int (nI (u.getD i 0)), .int (nI (t.getD i 0))]) rfl ?_
      refine lv_icmp_eq (tgt := 34) hx hb d_N_commonBeginning_29 (by decide) (fun c29 => ?_) (fun c29 => ?_)
      · skip
        obtain ⟨x_1, ex_1⟩ : ∃ y : Int32, y = (nI i) + 1 := ⟨_, rfl⟩
        refine lv_iinc (v := x_1) (lv' := [(3, .int x_1), (0, .ref a), (1, .ref b), (2, .int (nI (min t.length u.length)))]) hx hb d_N_commonBeginning_34 hl (k := 3) rfl (by rw [ex_1]; rfl) (by decide) rfl (fun ls hl => ?_)
        refine lv_goto (tgt := 14) hx hb d_N_commonBeginning_37 (by decide) ?_
        rw [ex_1, nI_1] at hl
        have ce := (nI_eq (gd_lt hc1 _) (gd_lt hc2 _)).mp c29
        rw [dropT hlt1, dropT hlt2, cbS] at hres
        rw [if_pos ce] at hres
        exact ih (i + 1) (by omega) (by omega) (by omega) ls (lv_sub hl [1, 2, 3, 0] rfl)
      · skip
        refine lv_iload_n hx hb d_N_commonBeginning_32 rfl (lv_at hl 3 rfl) ?_
        have ce : ¬ _ := fun z => c29 (congrArg nI z)
        rw [dropT hlt1, dropT hlt2, cbS] at hres
        rw [if_neg ce] at hres
        have e9 : i = res := by omega
        exact W.iret hx hb hr (fun t9 ht hW => ⟨_, rfl, by rw [e9], ht⟩) (fun q h => by cases h) d_N_commonBeginning_33 hlk
set_option maxHeartbeats 4000000 in
set_option maxRecDepth 100000 in
/-- commonBeginning -/
theorem c_N_commonBeginning (l : Launch) (g : gG) (H : Heap) (a b : Nat) (t u : List Nat) (h : isS g H a t) (h2 : isS g H b u) : Met l y_N_commonBeginning (wC y_N_commonBeginning b_N_commonBeginning 4 (some .int)) (rmk 4 0 0 85) (pC g H [.ref a, .ref b]) (qP H (fun v => v = some (.int (nI (cbS t u))))) 0 0 no_ := by
  refine mB (by decide) (Nat.le_of_ble_eq_true rfl) ?_
  intro p e s m below meth c ls C0 hH hZ hnm hl
  have C0 : cF g p s m _ meth c b_N_commonBeginning 4 "RegistryLog$Name" (some .int) := C0
  obtain ⟨hx, hb, hml, hown, hts, hr, hlk, hK⟩ := id C0
  subst hH
  have hl : lv_has ls 4 [(0, .ref a), (1, .ref b)] := hl
  obtain ⟨_, _, _, hc1, hn1⟩ := id h
  obtain ⟨_, _, _, hc2, hn2⟩ := id h2
  refine lv_aload_n hx hb d_N_commonBeginning_0 rfl (lv_at hl 0 rfl) ?_
  refine aP (rV (As := []) (rest := []) C0 (s_len h) hZ k_N_commonBeginning_1 rfl rfl ⟨Nat.le_of_ble_eq_true rfl, Nat.le_of_ble_eq_true rfl⟩ (isS_recv hK h) rfl hl.1 rfl (Nat.le_of_ble_eq_true rfl) d_N_commonBeginning_1 ⟨Nat.zero_le _, Nat.zero_le _⟩) ?_
  intro v hv; subst hv
  refine W.eq (g2 := F0 m 4 ls [.int (nI t.length)]) rfl ?_
  refine lv_aload_n hx hb d_N_commonBeginning_4 rfl (lv_at hl 1 rfl) ?_
  refine aP (rV (As := []) (rest := [.int (nI t.length)]) C0 (s_len h2) hZ k_N_commonBeginning_5 rfl rfl ⟨Nat.le_of_ble_eq_true rfl, Nat.le_of_ble_eq_true rfl⟩ (isS_recv hK h2) rfl hl.1 rfl (Nat.le_of_ble_eq_true rfl) d_N_commonBeginning_5 ⟨Nat.zero_le _, Nat.zero_le _⟩) ?_
  intro v hv; subst hv
  refine W.eq (g2 := F0 m 8 ls [.int (nI u.length), .int (nI t.length)]) rfl ?_
  refine va_mmin hx hb (by rw [hml]; exact hl.1.symm) hown (hts _ (in_4 (List.mem_of_getElem? (i := 77) rfl) rfl)) (hts _ (in_1 (List.mem_of_getElem? (i := 169) rfl) rfl)) (hts _ (in_1 (List.mem_of_getElem? (i := 11) rfl) rfl)) (hts _ (in_1 (List.mem_of_getElem? (i := 170) rfl) rfl)) (Nat.le_of_ble_eq_true rfl) (Nat.le_of_ble_eq_true rfl) (Nat.zero_le _) (Nat.zero_le _) d_N_commonBeginning_8 ?_
  rw [show (if nI u.length < nI t.length then nI u.length else nI t.length) = nI (min t.length u.length) from mn_ (by omega) (by omega)]
  refine lv_istore_n (lv' := [(2, .int (nI (min t.length u.length))), (0, .ref a), (1, .ref b)]) hx hb d_N_commonBeginning_11 rfl hl (by decide) rfl (fun ls hl => ?_)
  refine lv_iconst (v := 0) hx hb d_N_commonBeginning_12 (by decide) ?_
  refine lv_istore_n (lv' := [(3, .int 0), (2, .int (nI (min t.length u.length))), (0, .ref a), (1, .ref b)]) hx hb d_N_commonBeginning_13 rfl hl (by decide) rfl (fun ls hl => ?_)
  exact lp_N_commonBeginning C0 hZ a b t u h h2 hc1 hn1 hc2 hn2 _ (min t.length u.length + 1) 0 (Nat.zero_le _) (by omega) rfl ls (lv_sub hl [2, 3, 1, 0] rfl)
theorem k_N_commonEnd_1 : kV "RegistryLog$Name" 22 "java/lang/String" y_S_length b_S_length 1 (some .int) 0 := ⟨(in_1 (List.mem_of_getElem? (i := 85) rfl) rfl), (in_1 (List.mem_of_getElem? (i := 86) rfl) rfl), (in_1 (List.mem_of_getElem? (i := 87) rfl) rfl), (in_1 (List.mem_of_getElem? (i := 4) rfl) rfl), (in_1 (List.mem_of_getElem? (i := 88) rfl) rfl), ⟨by decide, by decide, by decide +kernel⟩⟩
theorem k_N_commonEnd_5 : kV "RegistryLog$Name" 22 "java/lang/String" y_S_length b_S_length 1 (some .int) 0 := ⟨(in_1 (List.mem_of_getElem? (i := 85) rfl) rfl), (in_1 (List.mem_of_getElem? (i := 86) rfl) rfl), (in_1 (List.mem_of_getElem? (i := 87) rfl) rfl), (in_1 (List.mem_of_getElem? (i := 4) rfl) rfl), (in_1 (List.mem_of_getElem? (i := 88) rfl) rfl), ⟨by decide, by decide, by decide +kernel⟩⟩
theorem k_N_commonEnd_21 : kV "RegistryLog$Name" 22 "java/lang/String" y_S_length b_S_length 1 (some .int) 0 := ⟨(in_1 (List.mem_of_getElem? (i := 85) rfl) rfl), (in_1 (List.mem_of_getElem? (i := 86) rfl) rfl), (in_1 (List.mem_of_getElem? (i := 87) rfl) rfl), (in_1 (List.mem_of_getElem? (i := 4) rfl) rfl), (in_1 (List.mem_of_getElem? (i := 88) rfl) rfl), ⟨by decide, by decide, by decide +kernel⟩⟩
theorem k_N_commonEnd_28 : kV "RegistryLog$Name" 28 "java/lang/String" y_S_charAt b_S_charAt 2 (some .char) 1 := ⟨(in_1 (List.mem_of_getElem? (i := 94) rfl) rfl), (in_1 (List.mem_of_getElem? (i := 95) rfl) rfl), (in_1 (List.mem_of_getElem? (i := 96) rfl) rfl), (in_1 (List.mem_of_getElem? (i := 4) rfl) rfl), (in_1 (List.mem_of_getElem? (i := 97) rfl) rfl), ⟨by decide, by decide, by decide +kernel⟩⟩
theorem k_N_commonEnd_33 : kV "RegistryLog$Name" 22 "java/lang/String" y_S_length b_S_length 1 (some .int) 0 := ⟨(in_1 (List.mem_of_getElem? (i := 85) rfl) rfl), (in_1 (List.mem_of_getElem? (i := 86) rfl) rfl), (in_1 (List.mem_of_getElem? (i := 87) rfl) rfl), (in_1 (List.mem_of_getElem? (i := 4) rfl) rfl), (in_1 (List.mem_of_getElem? (i := 88) rfl) rfl), ⟨by decide, by decide, by decide +kernel⟩⟩
theorem k_N_commonEnd_40 : kV "RegistryLog$Name" 28 "java/lang/String" y_S_charAt b_S_charAt 2 (some .char) 1 := ⟨(in_1 (List.mem_of_getElem? (i := 94) rfl) rfl), (in_1 (List.mem_of_getElem? (i := 95) rfl) rfl), (in_1 (List.mem_of_getElem? (i := 96) rfl) rfl), (in_1 (List.mem_of_getElem? (i := 4) rfl) rfl), (in_1 (List.mem_of_getElem? (i := 97) rfl) rfl), ⟨by decide, by decide, by decide +kernel⟩⟩
set_option maxHeartbeats 4000000 in
set_option maxRecDepth 100000 in
theorem lp_N_commonEnd {p : Program} {l : Launch} {e : Env} {s : State} {m : MethodId} {args : Array Value} {below : List Frame} {meth : Method} {c : Code} {g : gG} (C0 : cF g p s m args meth c b_N_commonEnd 4 "RegistryLog$Name" (some .int)) (hZ : zK g s s.heap) (a b : Nat) (t u : List Nat) (h : isS g s.heap a t) (h2 : isS g s.heap b u) (hc1 : ∀ c ∈ t, c < 128) (hn1 : t.length ≤ 100) (hc2 : ∀ c ∈ u, c < 128) (hn2 : u.length ≤ 100) (res : Nat) :
    ∀ (n i : Nat), i ≤ (min t.length u.length) → (min t.length u.length) + 1 ≤ i + n → cbS (t.reverse.drop i) (u.reverse.drop i) + i = res → ∀ (ls : Array Slot), lv_has ls 4 [(0, .ref a), (1, .ref b), (2, .int (nI (min t.length u.length))), (3, .int (nI i))] → W p l e (rmk 4 0 0 85) s m args below meth c s.heap [] 0 0 (MQ below (qP s.heap (fun v => v = some (.int (nI res)))) args s 0 0 no_) (F0 m 14 ls []) := by
  obtain ⟨hx, hb, hml, hown, hts, hr, hlk, hK⟩ := id C0
  intro n
  induction n with
  | zero => intro i h1 h2; exact absurd h2 (by omega)
  | succ n ih =>
    intro i hi hin hres ls hl
    refine lv_iload_n hx hb d_N_commonEnd_14 rfl (lv_at hl 3 rfl) ?_
    refine lv_iload_n hx hb d_N_commonEnd_15 rfl (lv_at hl 2 rfl) ?_
    refine lv_icmp_ge (tgt := 54) hx hb d_N_commonEnd_16 (by decide) (fun c16 => ?_) (fun c16 => ?_)
    · skip
      refine lv_iload_n hx hb d_N_commonEnd_54 rfl (lv_at hl 2 rfl) ?_
      have hh := (nI_leI (by omega) (by omega)).mp c16
      rw [cb_end (by rw [List.length_reverse, List.length_reverse]; exact hh)] at hres
      have e9 : min t.length u.length = res := by omega
      exact W.iret hx hb hr (fun t9 ht hW => ⟨_, rfl, by rw [e9], ht⟩) (fun q h => by cases h) d_N_commonEnd_55 hlk
    · skip
      have hlt : i < min t.length u.length := by rcases Nat.lt_or_ge i (min t.length u.length) with q | q; exact q; exact absurd (nI_le q (by omega)) c16
      have hlt1 : i < t.length := by omega
      have hlt2 : i < u.length := by omega
      refine lv_aload_n hx hb d_N_commonEnd_19 rfl (lv_at hl 0 rfl) ?_
      refine lv_aload_n hx hb d_N_commonEnd_20 rfl (lv_at hl 0 rfl) ?_
      refine aP (rV (As := []) (rest := [.ref a]) C0 (s_len h) hZ k_N_commonEnd_21 rfl rfl ⟨Nat.le_of_ble_eq_true rfl, Nat.le_of_ble_eq_true rfl⟩ (isS_recv hK h) rfl hl.1 rfl (Nat.le_of_ble_eq_true rfl) d_N_commonEnd_21 ⟨Nat.zero_le _, Nat.zero_le _⟩) ?_
      intro v hv; subst hv
      refine W.eq (g2 := F0 m 24 ls [.int (nI t.length), .ref a]) rfl ?_
      refine lv_iconst (v := 1) hx hb d_N_commonEnd_24 (by decide) ?_
      refine lv_isub hx hb d_N_commonEnd_25 ?_
      refine lv_iload_n hx hb d_N_commonEnd_26 rfl (lv_at hl 3 rfl) ?_
      refine lv_isub hx hb d_N_commonEnd_27 ?_
      rw [show (((nI t.length) - 1) - (nI i)) = nI (t.length - 1 - i) from by rw [show (1 : Int32) = nI 1 from rfl, pk_sub (by omega), pk_sub (by omega)]]
      refine aP (rV (As := [.int (nI (t.length - 1 - i))]) (rest := []) C0 (s_ch h (by omega)) hZ k_N_commonEnd_28 rfl rfl ⟨Nat.le_of_ble_eq_true rfl, Nat.le_of_ble_eq_true rfl⟩ (isS_recv hK h) rfl hl.1 rfl (Nat.le_of_ble_eq_true rfl) d_N_commonEnd_28 ⟨Nat.zero_le _, Nat.zero_le _⟩) ?_
      intro v hv; subst hv
      refine W.eq (g2 := F0 m 31 ls [.int (nI (t.getD (t.length - 1 - i) 0))]) rfl ?_
      refine lv_aload_n hx hb d_N_commonEnd_31 rfl (lv_at hl 1 rfl) ?_
      refine lv_aload_n hx hb d_N_commonEnd_32 rfl (lv_at hl 1 rfl) ?_
      refine aP (rV (As := []) (rest := [.ref b, .int (nI (t.getD (t.length - 1 - i) 0))]) C0 (s_len h2) hZ k_N_commonEnd_33 rfl rfl ⟨Nat.le_of_ble_eq_true rfl, Nat.le_of_ble_eq_true rfl⟩ (isS_recv hK h2) rfl hl.1 rfl (Nat.le_of_ble_eq_true rfl) d_N_commonEnd_33 ⟨Nat.zero_le _, Nat.zero_le _⟩) ?_
      intro v hv; subst hv
      refine W.eq (g2 := F0 m 36 ls [.int (nI u.length), .ref b, .int (nI (t.getD (t.length - 1 - i) 0))]) rfl ?_
      refine lv_iconst (v := 1) hx hb d_N_commonEnd_36 (by decide) ?_
      refine lv_isub hx hb d_N_commonEnd_37 ?_
      refine lv_iload_n hx hb d_N_commonEnd_38 rfl (lv_at hl 3 rfl) ?_
      refine lv_isub hx hb d_N_commonEnd_39 ?_
      rw [show (((nI u.length) - 1) - (nI i)) = nI (u.length - 1 - i) from by rw [show (1 : Int32) = nI 1 from rfl, pk_sub (by omega), pk_sub (by omega)]]
      refine aP (rV (As := [.int (nI (u.length - 1 - i))]) (rest := [.int (nI (t.getD (t.length - 1 - i) 0))]) C0 (s_ch h2 (by omega)) hZ k_N_commonEnd_40 rfl rfl ⟨Nat.le_of_ble_eq_true rfl, Nat.le_of_ble_eq_true rfl⟩ (isS_recv hK h2) rfl hl.1 rfl (Nat.le_of_ble_eq_true rfl) d_N_commonEnd_40 ⟨Nat.zero_le _, Nat.zero_le _⟩) ?_
      intro v hv; subst hv
      refine W.eq (g2 := F0 m 43 ls [.int (nI (u.getD (u.length - 1 - i) 0)), .int (nI (t.getD (t.length - 1 - i) 0))]) rfl ?_
      refine lv_icmp_eq (tgt := 48) hx hb d_N_commonEnd_43 (by decide) (fun c43 => ?_) (fun c43 => ?_)
      · skip
        obtain ⟨x_1, ex_1⟩ : ∃ y : Int32, y = (nI i) + 1 := ⟨_, rfl⟩
        refine lv_iinc (v := x_1) (lv' := [(3, .int x_1), (0, .ref a), (1, .ref b), (2, .int (nI (min t.length u.length)))]) hx hb d_N_commonEnd_48 hl (k := 3) rfl (by rw [ex_1]; rfl) (by decide) rfl (fun ls hl => ?_)
        refine lv_goto (tgt := 14) hx hb d_N_commonEnd_51 (by decide) ?_
        rw [ex_1, nI_1] at hl
        have ce := (nI_eq (gd_lt hc1 _) (gd_lt hc2 _)).mp c43
        rw [dropT (t := t.reverse) (by rw [List.length_reverse]; exact hlt1), dropT (t := u.reverse) (by rw [List.length_reverse]; exact hlt2), cbS, rev_at hlt1, rev_at hlt2] at hres
        rw [if_pos ce] at hres
        exact ih (i + 1) (by omega) (by omega) (by omega) ls (lv_sub hl [1, 2, 3, 0] rfl)
      · skip
        refine lv_iload_n hx hb d_N_commonEnd_46 rfl (lv_at hl 3 rfl) ?_
        have ce : ¬ _ := fun z => c43 (congrArg nI z)
        rw [dropT (t := t.reverse) (by rw [List.length_reverse]; exact hlt1), dropT (t := u.reverse) (by rw [List.length_reverse]; exact hlt2), cbS, rev_at hlt1, rev_at hlt2] at hres
        rw [if_neg ce] at hres
        have e9 : i = res := by omega
        exact W.iret hx hb hr (fun t9 ht hW => ⟨_, rfl, by rw [e9], ht⟩) (fun q h => by cases h) d_N_commonEnd_47 hlk
set_option maxHeartbeats 4000000 in
set_option maxRecDepth 100000 in
/-- commonEnd -/
theorem c_N_commonEnd (l : Launch) (g : gG) (H : Heap) (a b : Nat) (t u : List Nat) (h : isS g H a t) (h2 : isS g H b u) : Met l y_N_commonEnd (wC y_N_commonEnd b_N_commonEnd 4 (some .int)) (rmk 4 0 0 85) (pC g H [.ref a, .ref b]) (qP H (fun v => v = some (.int (nI (cbS t.reverse u.reverse))))) 0 0 no_ := by
  refine mB (by decide) (Nat.le_of_ble_eq_true rfl) ?_
  intro p e s m below meth c ls C0 hH hZ hnm hl
  have C0 : cF g p s m _ meth c b_N_commonEnd 4 "RegistryLog$Name" (some .int) := C0
  obtain ⟨hx, hb, hml, hown, hts, hr, hlk, hK⟩ := id C0
  subst hH
  have hl : lv_has ls 4 [(0, .ref a), (1, .ref b)] := hl
  obtain ⟨_, _, _, hc1, hn1⟩ := id h
  obtain ⟨_, _, _, hc2, hn2⟩ := id h2
  refine lv_aload_n hx hb d_N_commonEnd_0 rfl (lv_at hl 0 rfl) ?_
  refine aP (rV (As := []) (rest := []) C0 (s_len h) hZ k_N_commonEnd_1 rfl rfl ⟨Nat.le_of_ble_eq_true rfl, Nat.le_of_ble_eq_true rfl⟩ (isS_recv hK h) rfl hl.1 rfl (Nat.le_of_ble_eq_true rfl) d_N_commonEnd_1 ⟨Nat.zero_le _, Nat.zero_le _⟩) ?_
  intro v hv; subst hv
  refine W.eq (g2 := F0 m 4 ls [.int (nI t.length)]) rfl ?_
  refine lv_aload_n hx hb d_N_commonEnd_4 rfl (lv_at hl 1 rfl) ?_
  refine aP (rV (As := []) (rest := [.int (nI t.length)]) C0 (s_len h2) hZ k_N_commonEnd_5 rfl rfl ⟨Nat.le_of_ble_eq_true rfl, Nat.le_of_ble_eq_true rfl⟩ (isS_recv hK h2) rfl hl.1 rfl (Nat.le_of_ble_eq_true rfl) d_N_commonEnd_5 ⟨Nat.zero_le _, Nat.zero_le _⟩) ?_
  intro v hv; subst hv
  refine W.eq (g2 := F0 m 8 ls [.int (nI u.length), .int (nI t.length)]) rfl ?_
  refine va_mmin hx hb (by rw [hml]; exact hl.1.symm) hown (hts _ (in_4 (List.mem_of_getElem? (i := 77) rfl) rfl)) (hts _ (in_1 (List.mem_of_getElem? (i := 169) rfl) rfl)) (hts _ (in_1 (List.mem_of_getElem? (i := 11) rfl) rfl)) (hts _ (in_1 (List.mem_of_getElem? (i := 170) rfl) rfl)) (Nat.le_of_ble_eq_true rfl) (Nat.le_of_ble_eq_true rfl) (Nat.zero_le _) (Nat.zero_le _) d_N_commonEnd_8 ?_
  rw [show (if nI u.length < nI t.length then nI u.length else nI t.length) = nI (min t.length u.length) from mn_ (by omega) (by omega)]
  refine lv_istore_n (lv' := [(2, .int (nI (min t.length u.length))), (0, .ref a), (1, .ref b)]) hx hb d_N_commonEnd_11 rfl hl (by decide) rfl (fun ls hl => ?_)
  refine lv_iconst (v := 0) hx hb d_N_commonEnd_12 (by decide) ?_
  refine lv_istore_n (lv' := [(3, .int 0), (2, .int (nI (min t.length u.length))), (0, .ref a), (1, .ref b)]) hx hb d_N_commonEnd_13 rfl hl (by decide) rfl (fun ls hl => ?_)
  exact lp_N_commonEnd C0 hZ a b t u h h2 hc1 hn1 hc2 hn2 _ (min t.length u.length + 1) 0 (Nat.zero_le _) (by omega) rfl ls (lv_sub hl [2, 3, 1, 0] rfl)
