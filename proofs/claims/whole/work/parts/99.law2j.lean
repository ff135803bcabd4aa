set_option maxHeartbeats 4000000 in
set_option maxRecDepth 100000 in
theorem en_all {args : Array Value} {s : State} (hlw : ∀ w ∈ lw_tbl, w.before args s = true) (hgv : (Jvm.Cond.and given_1 narrow_1).before args s = true) : ∃ g : gG, g.2.2.1 = s.heap.size ∧ kK g s ∧ zK g s s.heap ∧ pS (fun a => a < s.heap.size) g s.heap (g.2.2.2 0) [] ∧ pS (fun a => a < s.heap.size) g s.heap (g.2.2.2 1) [] := by
  have hs := flat_of_before _ hgv
  have hl1 : (Cond.exactly (.string "RegistryLog$Ledger" 11) "java/lang/String").before args s = true := hs _ (by decide +kernel)
  have hl2 : (Cond.eq (.field (.string "RegistryLog$Ledger" 11) "java/lang/String" "coder" "B") (.int 0)).before args s = true := hs _ (by decide +kernel)
  have hl3 : (Cond.arrayOf (.field (.string "RegistryLog$Ledger" 11) "java/lang/String" "value" "[B") .byte).before args s = true := hs _ (by decide +kernel)
  have hl4 : (Cond.eq (.length (.field (.string "RegistryLog$Ledger" 11) "java/lang/String" "value" "[B")) (.int 0)).before args s = true := hs _ (by decide +kernel)
  have hz1 : (Cond.exactly (.string "java/lang/StringLatin1" 151) "java/lang/String").before args s = true := hs _ (by decide +kernel)
  have hz2 : (Cond.eq (.field (.string "java/lang/StringLatin1" 151) "java/lang/String" "coder" "B") (.int 0)).before args s = true := hs _ (by decide +kernel)
  have hz3 : (Cond.arrayOf (.field (.string "java/lang/StringLatin1" 151) "java/lang/String" "value" "[B") .byte).before args s = true := hs _ (by decide +kernel)
  have hz4 : (Cond.eq (.length (.field (.string "java/lang/StringLatin1" 151) "java/lang/String" "value" "[B")) (.int 0)).before args s = true := hs _ (by decide +kernel)
  have hlz : (Cond.eq (.string "RegistryLog$Ledger" 11) (.string "java/lang/StringLatin1" 151)).before args s = true := hs _ (by decide +kernel)
  have hc2 : (Cond.exactly (.string "RegistryLog" 231) "java/lang/String").before args s = true := hs _ (by decide +kernel)
  have hc3 : (Cond.exactly (.string "RegistryLog" 235) "java/lang/String").before args s = true := hs _ (by decide +kernel)
  have hc4 : (Cond.exactly (.string "RegistryLog" 122) "java/lang/String").before args s = true := hs _ (by decide +kernel)
  have hnc : (Cond.not (.castable "java/lang/IllegalStateException" "java/lang/IllegalArgumentException")).before args s = true := hs _ (by decide +kernel)
  have hcs : (Cond.eq (.static "java/lang/String" "COMPACT_STRINGS" "Z") (.int 1)).before args s = true := hs _ (by decide +kernel)
  have hsf : (Cond.isRef (.static "jdk/internal/util/Preconditions" "SIOOBE_FORMATTER" "Ljava/util/function/BiFunction;")).before args s = true := hs _ (by decide +kernel)
  have hus : (Cond.isRef (.static "java/lang/Throwable" "UNASSIGNED_STACK" "[Ljava/lang/StackTraceElement;")).before args s = true := hs _ (by decide +kernel)
  have hss : (Cond.isRef (.static "java/lang/Throwable" "SUPPRESSED_SENTINEL" "Ljava/util/List;")).before args s = true := hs _ (by decide +kernel)
  obtain ⟨D, hD⟩ := en_cl hlw
  obtain ⟨A0, r0, n0, k0⟩ := en_arr (ty := .byte) (hlw _ (at_1 (List.mem_of_getElem? (i := 66) rfl)))
  obtain ⟨A1, r1, n1, k1⟩ := en_arr (ty := .long) (hlw _ (at_3 (List.mem_of_getElem? (i := 8) rfl)))
  obtain ⟨A4, r4, n4, k4⟩ := en_arr (ty := .int) (hlw _ (at_5 (List.mem_of_getElem? (i := 108) rfl)))
  obtain ⟨A5, r5, n5, k5⟩ := en_arr (ty := .boolean) (hlw _ (at_5 (List.mem_of_getElem? (i := 109) rfl)))
  obtain ⟨A2, r2, n2⟩ := en_arq (C := "RegistryLog$Row") (hlw _ (at_2 (List.mem_of_getElem? (i := 220) rfl)))
  obtain ⟨A3, r3, n3⟩ := en_arq (C := "RegistryLog$Ledger") (hlw _ (at_2 (List.mem_of_getElem? (i := 231) rfl)))
  obtain ⟨a, v, cell, c2, e1, e2, e3, e4, e5, e6, e7, e8, e9, e10, e11, e12⟩ := en_str hD hl1 hl2 hl3 hl4
  obtain ⟨az, ez⟩ := en_ref hz1
  have eaz : a = az := en_eq hlz e1 ez
  subst eaz
  obtain ⟨a2, f2⟩ := en_ref hc2
  obtain ⟨a3, f3⟩ := en_ref hc3
  obtain ⟨a4, f4⟩ := en_ref hc4
  have hal : a < s.heap.size := (Array.getElem?_eq_some_iff.mp e2).1
  have hvl : v < s.heap.size := (Array.getElem?_eq_some_iff.mp e8).1
  have hA : ∀ q : Nat, q < s.heap.size → ¬ s.heap.size ≤ q := fun q h => Nat.not_le.mpr h
  have hpS : pS (fun q => q < s.heap.size) ((D, fun j => [A0, A1, A2, A3, A4, A5, c2.cls].getD j 0, s.heap.size, fun j => [a, a, a2, a3, a4].getD j 0) : gG) s.heap a [] := ⟨v, hal, hvl, ⟨cell, e2, e3, e4, e5, e6, e7⟩, ⟨c2, e8, e9, e10, Or.inr rfl, e11, fun j hj => absurd hj (Nat.not_lt_zero _)⟩, fun c hc => absurd hc List.not_mem_nil, Nat.zero_le _⟩
  refine ⟨(D, fun j => [A0, A1, A2, A3, A4, A5, c2.cls].getD j 0, s.heap.size, fun j => [a, a, a2, a3, a4].getD j 0), rfl, ?_, ?_, hpS, hpS⟩
  · refine ⟨⟨hD, ?_⟩, ?_, ⟨va_AO.of (hlw _ (at_2 (List.mem_of_getElem? (i := 220) rfl))), va_AO.of (hlw _ (at_2 (List.mem_of_getElem? (i := 231) rfl)))⟩, ?_, ?_⟩
    · intro k q hq
      match k with
      | 0 => cases hq; exact ⟨r0, n0⟩
      | 1 => cases hq; exact ⟨r1, n1⟩
      | 2 => cases hq; exact ⟨r2, n2⟩
      | 3 => cases hq; exact ⟨r3, n3⟩
      | 4 => cases hq; exact ⟨r4, n4⟩
      | 5 => cases hq; exact ⟨r5, n5⟩
      | k + 6 => cases hq
    · exact List.forall_mem_cons.mpr ⟨va_Nw.of rfl (hlw _ (at_3 (List.mem_of_getElem? (i := 58) rfl))), List.forall_mem_cons.mpr ⟨va_Nw.of rfl (hlw _ (at_3 (List.mem_of_getElem? (i := 77) rfl))), List.forall_mem_cons.mpr ⟨va_Nw.of rfl (hlw _ (at_3 (List.mem_of_getElem? (i := 93) rfl))), List.forall_mem_cons.mpr ⟨va_Nw.of rfl (hlw _ (at_3 (List.mem_of_getElem? (i := 114) rfl))), List.forall_mem_cons.mpr ⟨va_Nw.of rfl (hlw _ (at_3 (List.mem_of_getElem? (i := 131) rfl))), fun _ h => absurd h List.not_mem_nil⟩⟩⟩⟩⟩
    · intro k hk
      rcases hk with h | h
      · subst h; exact k0
      · subst h; exact e12
    · refine ⟨vk_R.of (hlw _ (at_1 (List.mem_of_getElem? (i := 75) rfl))) e1, vk_R.of (hlw _ (at_4 (List.mem_of_getElem? (i := 187) rfl))) ez, vk_R.of (hlw _ (at_4 (List.mem_of_getElem? (i := 61) rfl))) f2, vk_R.of (hlw _ (at_4 (List.mem_of_getElem? (i := 95) rfl))) f3, vk_R.of (hlw _ (at_4 (List.mem_of_getElem? (i := 178) rfl))) f4, ⟨?_, ?_⟩, en_nC hnc (hlw _ (at_4 (List.mem_of_getElem? (i := 88) rfl))) (hlw _ (at_2 (List.mem_of_getElem? (i := 5) rfl)))⟩
      · exact List.forall_mem_cons.mpr ⟨va_Nw.of rfl (hlw _ (at_1 (List.mem_of_getElem? (i := 166) rfl))), List.forall_mem_cons.mpr ⟨va_Nw.of rfl (hlw _ (at_2 (List.mem_of_getElem? (i := 5) rfl))), List.forall_mem_cons.mpr ⟨va_Nw.of rfl (hlw _ (at_4 (List.mem_of_getElem? (i := 88) rfl))), fun _ h => absurd h List.not_mem_nil⟩⟩⟩
      · exact List.forall_mem_cons.mpr ⟨va_Nw.of rfl (hlw _ (at_2 (List.mem_of_getElem? (i := 7) rfl))), List.forall_mem_cons.mpr ⟨va_Nw.of rfl (hlw _ (at_2 (List.mem_of_getElem? (i := 9) rfl))), List.forall_mem_cons.mpr ⟨va_Nw.of rfl (hlw _ (at_2 (List.mem_of_getElem? (i := 11) rfl))), fun _ h => absurd h List.not_mem_nil⟩⟩⟩
  · refine ⟨va_Zof (hlw _ (at_1 (List.mem_of_getElem? (i := 44) rfl))) (hlw _ (at_1 (List.mem_of_getElem? (i := 4) rfl))) (va_eqt hcs) hA, ?_, en_tZ (hlw _ (at_2 (List.mem_of_getElem? (i := 30) rfl))) hus hA, en_tZ (hlw _ (at_2 (List.mem_of_getElem? (i := 32) rfl))) hss hA⟩
    rcases va_Zqof (hlw _ (at_1 (List.mem_of_getElem? (i := 109) rfl))) (hlw _ (at_1 (List.mem_of_getElem? (i := 9) rfl))) hsf hA with h | ⟨t, h⟩
    · exact ⟨none, h⟩
    · exact ⟨some t, h⟩
