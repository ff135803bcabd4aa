theorem nil_c : ∀ c, ([] : List Nat).getD c 0 < 128 := fun c => by simp
theorem k_M_publish_2 : kV "RegistryLogModel" 161 "RegistryLogModel" y_M_takes b_M_takes 5 (some .boolean) 1 := ⟨(in_5 (List.mem_of_getElem? (i := 122) rfl) rfl), (in_5 (List.mem_of_getElem? (i := 124) rfl) rfl), (in_0 (List.mem_of_getElem? (i := 6) rfl) rfl), (in_1 (List.mem_of_getElem? (i := 22) rfl) rfl), (in_5 (List.mem_of_getElem? (i := 125) rfl) rfl), ⟨by decide, by decide, by decide +kernel⟩⟩
theorem k_M_publish_9 : kS "RegistryLogModel" 165 y_M_isPerson b_M_isPerson 1 (some .boolean) 1 := ⟨(in_5 (List.mem_of_getElem? (i := 133) rfl) rfl), (in_5 (List.mem_of_getElem? (i := 134) rfl) rfl), (in_1 (List.mem_of_getElem? (i := 22) rfl) rfl), (in_5 (List.mem_of_getElem? (i := 135) rfl) rfl), ⟨by decide, by decide, by decide +kernel⟩⟩
theorem k_M_publish_16 : kS "RegistryLogModel" 168 y_M_isVersion b_M_isVersion 1 (some .boolean) 1 := ⟨(in_5 (List.mem_of_getElem? (i := 136) rfl) rfl), (in_5 (List.mem_of_getElem? (i := 137) rfl) rfl), (in_1 (List.mem_of_getElem? (i := 22) rfl) rfl), (in_5 (List.mem_of_getElem? (i := 138) rfl) rfl), ⟨by decide, by decide, by decide +kernel⟩⟩
theorem k_M_publish_31 : kV "RegistryLogModel" 171 "RegistryLogModel" y_M_goThrough b_M_goThrough 5 none 1 := ⟨(in_5 (List.mem_of_getElem? (i := 139) rfl) rfl), (in_5 (List.mem_of_getElem? (i := 141) rfl) rfl), (in_0 (List.mem_of_getElem? (i := 8) rfl) rfl), (in_1 (List.mem_of_getElem? (i := 22) rfl) rfl), (in_5 (List.mem_of_getElem? (i := 142) rfl) rfl), ⟨by decide, by decide, by decide +kernel⟩⟩
theorem k_M_publish_53 : kV "RegistryLogModel" 142 "RegistryLogModel" y_M_met b_M_met 8 (some .int) 3 := ⟨(in_5 (List.mem_of_getElem? (i := 143) rfl) rfl), (in_5 (List.mem_of_getElem? (i := 145) rfl) rfl), (in_0 (List.mem_of_getElem? (i := 9) rfl) rfl), (in_1 (List.mem_of_getElem? (i := 22) rfl) rfl), (in_5 (List.mem_of_getElem? (i := 146) rfl) rfl), ⟨by decide, by decide, by decide +kernel⟩⟩
theorem k_M_publish_79 : kV "RegistryLogModel" 175 "RegistryLogModel" y_M_isFree b_M_isFree 6 (some .boolean) 3 := ⟨(in_5 (List.mem_of_getElem? (i := 155) rfl) rfl), (in_5 (List.mem_of_getElem? (i := 157) rfl) rfl), (in_0 (List.mem_of_getElem? (i := 12) rfl) rfl), (in_1 (List.mem_of_getElem? (i := 22) rfl) rfl), (in_5 (List.mem_of_getElem? (i := 158) rfl) rfl), ⟨by decide, by decide, by decide +kernel⟩⟩
theorem k_M_publish_92 : kV "RegistryLogModel" 178 "RegistryLogModel" y_M_hasRight b_M_hasRight 3 (some .boolean) 2 := ⟨(in_5 (List.mem_of_getElem? (i := 166) rfl) rfl), (in_5 (List.mem_of_getElem? (i := 168) rfl) rfl), (in_0 (List.mem_of_getElem? (i := 14) rfl) rfl), (in_1 (List.mem_of_getElem? (i := 22) rfl) rfl), (in_5 (List.mem_of_getElem? (i := 169) rfl) rfl), ⟨by decide, by decide, by decide +kernel⟩⟩
theorem k_M_publish_107 : kV "RegistryLogModel" 150 "RegistryLogModel" y_M_versionAt b_M_versionAt 5 (some .int) 2 := ⟨(in_5 (List.mem_of_getElem? (i := 151) rfl) rfl), (in_5 (List.mem_of_getElem? (i := 153) rfl) rfl), (in_0 (List.mem_of_getElem? (i := 11) rfl) rfl), (in_1 (List.mem_of_getElem? (i := 22) rfl) rfl), (in_5 (List.mem_of_getElem? (i := 154) rfl) rfl), ⟨by decide, by decide, by decide +kernel⟩⟩
theorem k_M_publish_130 : kV "RegistryLogModel" 181 "RegistryLogModel" y_M_isFull b_M_isFull 1 (some .boolean) 0 := ⟨(in_5 (List.mem_of_getElem? (i := 174) rfl) rfl), (in_5 (List.mem_of_getElem? (i := 176) rfl) rfl), (in_0 (List.mem_of_getElem? (i := 16) rfl) rfl), (in_1 (List.mem_of_getElem? (i := 22) rfl) rfl), (in_5 (List.mem_of_getElem? (i := 177) rfl) rfl), ⟨by decide, by decide, by decide +kernel⟩⟩
theorem k_M_publish_141 : kV "RegistryLogModel" 185 "RegistryLogModel" y_M_refuses b_M_refuses 3 (some .boolean) 2 := ⟨(in_5 (List.mem_of_getElem? (i := 178) rfl) rfl), (in_5 (List.mem_of_getElem? (i := 180) rfl) rfl), (in_0 (List.mem_of_getElem? (i := 17) rfl) rfl), (in_1 (List.mem_of_getElem? (i := 22) rfl) rfl), (in_5 (List.mem_of_getElem? (i := 181) rfl) rfl), ⟨by decide, by decide, by decide +kernel⟩⟩
theorem k_M_publish_156 : kV "RegistryLogModel" 189 "RegistryLogModel" y_M_write b_M_write 7 (some .int) 4 := ⟨(in_5 (List.mem_of_getElem? (i := 182) rfl) rfl), (in_5 (List.mem_of_getElem? (i := 184) rfl) rfl), (in_0 (List.mem_of_getElem? (i := 18) rfl) rfl), (in_1 (List.mem_of_getElem? (i := 22) rfl) rfl), (in_5 (List.mem_of_getElem? (i := 185) rfl) rfl), ⟨by decide, by decide, by decide +kernel⟩⟩
set_option maxHeartbeats 4000000 in
set_option maxRecDepth 100000 in
/-- publish -/
theorem c_M_publish (l : Launch) (g : gG) (H : Heap) (x : Nat) (ad : Nat → Nat) (F : Nat → Int32) (A : Nat → Nat → Int32) (B : Nat → Nat → Int64) (hm0 : mW g H x ad F A B) (T : List Nat) (hT : ∀ k, k < T.length → A 1 k = nI (T.getD k 0)) (hc : ∀ k, T.getD k 0 < 128) (hT24 : T.length ≤ 24) (hty : F 2 = nI T.length) (rows : List Rw) (mir : Nat → List Rw) (hai : aI A rows mir) (tb : Tb) (htb : foT rows = some tb) (who v0 sum : Int32) (cd : Nat) (hcd : endC (!(nameM T 0 T.length && (isP who && isV v0))) (pubT tb T who v0) rows.length = cd) : Met l y_M_publish (wC y_M_publish b_M_publish 7 (some .int)) (rmk 3 0 0 77) (pC g H [.ref x, .int who, .int v0, .int sum]) (qM g H x ad (fun v F1 A1 B1 => v = some (.int (if cd = 0 then nI rows.length else 0)) ∧ lo F1 (upd (upd F 2 (nI 0)) 0 (nI cd)) ∧ B1 = B ∧ ∀ o, aI A1 (if cd = 0 then rows ++ [(0, who, T, T, v0, sum, o)] else rows) mir)) 0 0 (mN x ad) := by
  refine mB (by decide) (Nat.le_of_ble_eq_true rfl) ?_
  intro p e s m below meth c ls C0 hH hZ hnm hl
  have C0 : cF g p s m _ meth c b_M_publish 7 "RegistryLogModel" (some .int) := C0
  obtain ⟨hx, hb, hml, hown, hts, hr, hlk, hK⟩ := id C0
  subst hH
  have hl : lv_has ls 7 [(0, .ref x), (1, .int who), (2, .int v0), (3, .int sum)] := hl
  have hm := mS.rf hm0
  refine lv_aload_n hx hb d_M_publish_0 rfl (lv_at hl 0 rfl) ?_
  refine lv_iconst (v := nI 0) hx hb d_M_publish_1 (by decide) ?_
  refine aM (rV (As := [.int (nI 0)]) (rest := []) C0 (c_M_takes0 l g _ x ad _ _ _ hm.1 T hT hc hT24 hty) (m_zK hZ hm) k_M_publish_2 rfl rfl ⟨Nat.le_of_ble_eq_true rfl, Nat.le_of_ble_eq_true rfl⟩ (m_recv hK hm) rfl hl.1 rfl (Nat.le_of_ble_eq_true rfl) d_M_publish_2 ⟨Nat.zero_le _, Nat.zero_le _⟩) hm (fun v F1 A1 B1 H locs hp hm => ?_)
  by_cases hN : nameM T 0 T.length = true
  · skip
    simp only [if_pos hN] at hp
    obtain ⟨rfl, eF, eA, eB⟩ := hp
    rw [eF, eA, eB] at hm
    clear eF eA eB
    have h10 := nameM_le hN
    refine W.eq (g2 := F0 m 5 ls [.int (bI true)]) rfl ?_
    have hlF : lo (upd (upd (upd F 2 (nI 0)) 32 (nI T.length)) 33 (nI 0)) (upd F 2 (nI 0)) := lo_tr (lo_hi (by omega)) (lo_hi (by omega))
    have hlA : lo (updA A 30 (va_cpy (A 1) (A 30) 0 0 T.length)) A := lo_hA (by omega)
    have hx30 : txt (updA A 30 (va_cpy (A 1) (A 30) 0 0 T.length)) 30 0 T := fun k hk => (show va_cpy (A 1) (A 30) 0 0 T.length (0 + k) = nI (T.getD k 0) from by rw [cpy_in hk, Nat.zero_add]; exact hT k hk)
    refine z_eq (tgt := 22) (v := true) hx hb d_M_publish_5 (by decide) (fun c5 => ?_) (fun c5 => ?_)
    · skip
      first | exact absurd c5 (by decide) | exact absurd (by decide) c5
    · skip
      refine lv_iload_n hx hb d_M_publish_8 rfl (lv_at hl 1 rfl) ?_
      refine aP (rS (As := [.int who]) (rest := []) C0 (c_M_isPerson l g _ who) (m_zK hZ hm) k_M_publish_9 rfl rfl ⟨Nat.le_of_ble_eq_true rfl, Nat.le_of_ble_eq_true rfl⟩ rfl hl.1 rfl (Nat.le_of_ble_eq_true rfl) d_M_publish_9 ⟨Nat.zero_le _, Nat.zero_le _⟩) ?_
      intro v hv; subst hv
      refine W.eq (g2 := F0 m 12 ls [.int (bI (isP who))]) rfl ?_
      refine z_eq (tgt := 22) (v := isP who) hx hb d_M_publish_12 (by decide) (fun c12 => ?_) (fun c12 => ?_)
      · skip
        refine lv_iconst (v := nI 1) hx hb d_M_publish_22 (by decide) ?_
        refine lv_goto (tgt := 27) hx hb d_M_publish_23 (by decide) ?_
        have hb9 : (nameM T 0 T.length && (isP who && isV v0)) = false := by rw [c12, Bool.false_and, Bool.and_false]
        rw [hb9, endC, if_pos (by rfl)] at hcd
        refine lv_istore (lv' := [(4, .int (nI 1)), (0, .ref x), (1, .int who), (2, .int v0), (3, .int sum)]) hx hb d_M_publish_27 hl (by decide) rfl (fun ls hl => ?_)
        refine lv_aload_n hx hb d_M_publish_29 rfl (lv_at hl 1 rfl) ?_
        refine lv_iconst (v := nI 4) hx hb d_M_publish_30 (by decide) ?_
        refine aM (rV (As := [.int (nI 4)]) (rest := []) C0 (c_M_goThrough l g _ x ad _ _ _ hm.1 4 (by decide) rows (refR_lo hlA hai.1) tb htb) (m_zK hZ hm) k_M_publish_31 rfl rfl ⟨Nat.le_of_ble_eq_true rfl, Nat.le_of_ble_eq_true rfl⟩ (m_recv hK hm) rfl hl.1 rfl (Nat.le_of_ble_eq_true rfl) d_M_publish_31 ⟨Nat.zero_le _, Nat.zero_le _⟩) hm (fun v Fg Ag Bg H locs hp hm => ?_)
        obtain ⟨rfl, hbF, hbA, eB, hTT⟩ := hp
        rw [eB] at hm
        clear eB
        have hok := ok_ref hai.1 htb
        have h120 : rows.length ≤ 120 := hai.1.1
        obtain ⟨ok1, ok2, ok3, ok4, ok5⟩ := id hok
        have hlF : lo Fg _ := lo_tr (lo_bt hbF) hlF
        have hlA : lo Ag A := lo_tr (lo_bt hbA) hlA
        refine W.eq (g2 := F0 m 34 ls []) rfl ?_
        have g32 : Fg 32 = nI T.length := by rw [hbF 32 (by omega)]; rfl
        have g33 : Fg 33 = nI 0 := by rw [hbF 33 (by omega)]; rfl
        have hx30 : txt Ag 30 0 T := by unfold txt; rw [hbA 30 (by omega)]; exact hx30
        have g12 : Ag 12 4 = nI rows.length := by rw [hlA 12 (by omega)]; exact hai.1.2.1
        refine lv_iload hx hb d_M_publish_34 (lv_at hl 0 rfl) ?_
        refine lv_if_eq (tgt := 43) hx hb d_M_publish_36 (by decide) (fun c36 => ?_) (fun c36 => ?_)
        · skip
          first | exact absurd c36 (by decide) | exact absurd (by decide) c36
        · skip
          refine lv_iconst (v := (-1)) hx hb d_M_publish_39 (by decide) ?_
          refine lv_goto (tgt := 56) hx hb d_M_publish_40 (by decide) ?_
          refine lv_istore (lv' := [(5, .int ((-1))), (4, .int (nI 1)), (0, .ref x), (1, .int who), (2, .int v0), (3, .int sum)]) hx hb d_M_publish_56 hl (by decide) rfl (fun ls hl => ?_)
          refine lv_iload hx hb d_M_publish_58 (lv_at hl 1 rfl) ?_
          refine lv_if_ne (tgt := 118) hx hb d_M_publish_60 (by decide) (fun c60 => ?_) (fun c60 => ?_)
          · skip
            refine lv_iconst (v := nI 0) hx hb d_M_publish_118 (by decide) ?_
            refine lv_istore (lv' := [(6, .int (nI 0)), (5, .int ((-1))), (4, .int (nI 1)), (0, .ref x), (1, .int who), (2, .int v0), (3, .int sum)]) hx hb d_M_publish_119 hl (by decide) rfl (fun ls hl => ?_)
            refine lv_aload_n hx hb d_M_publish_121 rfl (lv_at hl 3 rfl) ?_
            refine lv_iload hx hb d_M_publish_122 (lv_at hl 2 rfl) ?_
            refine lv_iload hx hb d_M_publish_124 (lv_at hl 0 rfl) ?_
            refine lv_if_eq (tgt := 136) hx hb d_M_publish_126 (by decide) (fun c126 => ?_) (fun c126 => ?_)
            · skip
              refine lv_iconst (v := nI 1) hx hb d_M_publish_136 (by decide) ?_
              refine lv_goto (tgt := 141) hx hb d_M_publish_137 (by decide) ?_
              refine aM (rV (As := [.int (nI 1), .int (nI 1)]) (rest := []) C0 (c_M_refuses l g _ x ad _ _ _ hm.1 true true) (m_zK hZ hm) k_M_publish_141 rfl rfl ⟨Nat.le_of_ble_eq_true rfl, Nat.le_of_ble_eq_true rfl⟩ (m_recv hK hm) rfl hl.1 rfl (Nat.le_of_ble_eq_true rfl) d_M_publish_141 ⟨Nat.zero_le _, Nat.zero_le _⟩) hm (fun v F1 A1 B1 H locs hp hm => ?_)
              obtain ⟨rfl, eF, eA, eB⟩ := hp
              rw [eF, eA, eB] at hm
              clear eF eA eB
              have hm : mS g s.heap H x ad (upd Fg 0 (nI 1)) Ag B locs := hm
              refine W.eq (g2 := F0 m 144 ls [.int (bI true)]) rfl ?_
              refine z_eq (tgt := 151) (v := true) hx hb d_M_publish_144 (by decide) (fun c144 => ?_) (fun c144 => ?_)
              · skip
                first | exact absurd c144 (by decide) | exact absurd (by decide) c144
              · skip
                refine lv_iconst (v := nI 0) hx hb d_M_publish_147 (by decide) ?_
                refine lv_goto (tgt := 159) hx hb d_M_publish_148 (by decide) ?_
                have hcd : cd = 1 := hcd.symm
                subst hcd
                exact W.iret hx hb hr (fun t9 ht hW => ⟨_, _, _, _, rfl, by rw [ht]; exact ⟨hm.1, hm.2.1, hm.2.2.1, fun _ h => by cases h⟩, ⟨rfl, lo_u hlF, rfl, fun o => by rw [if_neg (by decide)]; exact aI_lo hlA hai⟩⟩) hm.2.2.2 d_M_publish_159 hlk
            · skip
              first | exact absurd c126 (by decide) | exact absurd (by decide) c126
          · skip
            first | exact absurd c60 (by decide) | exact absurd (by decide) c60
      · skip
        refine lv_iload_n hx hb d_M_publish_15 rfl (lv_at hl 2 rfl) ?_
        refine aP (rS (As := [.int v0]) (rest := []) C0 (c_M_isVersion l g _ v0) (m_zK hZ hm) k_M_publish_16 rfl rfl ⟨Nat.le_of_ble_eq_true rfl, Nat.le_of_ble_eq_true rfl⟩ rfl hl.1 rfl (Nat.le_of_ble_eq_true rfl) d_M_publish_16 ⟨Nat.zero_le _, Nat.zero_le _⟩) ?_
        intro v hv; subst hv
        refine W.eq (g2 := F0 m 19 ls [.int (bI (isV v0))]) rfl ?_
        refine z_ne (tgt := 26) (v := isV v0) hx hb d_M_publish_19 (by decide) (fun c19 => ?_) (fun c19 => ?_)
        · skip
          refine lv_iconst (v := nI 0) hx hb d_M_publish_26 (by decide) ?_
          have hb9 : (nameM T 0 T.length && (isP who && isV v0)) = true := by rw [hN, c12, c19]; rfl
          rw [hb9, endC, if_neg (by decide), pubT] at hcd
          obtain ⟨wn, hwn, ewn⟩ := ix_ (n := 8) (by decide) c12
          subst ewn
          refine lv_istore (lv' := [(4, .int (nI 0)), (0, .ref x), (1, .int (nI wn)), (2, .int v0), (3, .int sum)]) hx hb d_M_publish_27 hl (by decide) rfl (fun ls hl => ?_)
          refine lv_aload_n hx hb d_M_publish_29 rfl (lv_at hl 1 rfl) ?_
          refine lv_iconst (v := nI 4) hx hb d_M_publish_30 (by decide) ?_
          refine aM (rV (As := [.int (nI 4)]) (rest := []) C0 (c_M_goThrough l g _ x ad _ _ _ hm.1 4 (by decide) rows (refR_lo hlA hai.1) tb htb) (m_zK hZ hm) k_M_publish_31 rfl rfl ⟨Nat.le_of_ble_eq_true rfl, Nat.le_of_ble_eq_true rfl⟩ (m_recv hK hm) rfl hl.1 rfl (Nat.le_of_ble_eq_true rfl) d_M_publish_31 ⟨Nat.zero_le _, Nat.zero_le _⟩) hm (fun v Fg Ag Bg H locs hp hm => ?_)
          obtain ⟨rfl, hbF, hbA, eB, hTT⟩ := hp
          rw [eB] at hm
          clear eB
          have hok := ok_ref hai.1 htb
          have h120 : rows.length ≤ 120 := hai.1.1
          obtain ⟨ok1, ok2, ok3, ok4, ok5⟩ := id hok
          have hlF : lo Fg _ := lo_tr (lo_bt hbF) hlF
          have hlA : lo Ag A := lo_tr (lo_bt hbA) hlA
          refine W.eq (g2 := F0 m 34 ls []) rfl ?_
          have g32 : Fg 32 = nI T.length := by rw [hbF 32 (by omega)]; rfl
          have g33 : Fg 33 = nI 0 := by rw [hbF 33 (by omega)]; rfl
          have hx30 : txt Ag 30 0 T := by unfold txt; rw [hbA 30 (by omega)]; exact hx30
          have g12 : Ag 12 4 = nI rows.length := by rw [hlA 12 (by omega)]; exact hai.1.2.1
          refine lv_iload hx hb d_M_publish_34 (lv_at hl 0 rfl) ?_
          refine lv_if_eq (tgt := 43) hx hb d_M_publish_36 (by decide) (fun c36 => ?_) (fun c36 => ?_)
          · skip
            refine lv_aload_n hx hb d_M_publish_43 rfl (lv_at hl 1 rfl) ?_
            refine lv_aload_n hx hb d_M_publish_44 rfl (lv_at hl 1 rfl) ?_
            refine m_get hx hb hts hown hK hm 30 (by decide) (hts (.fieldLink "RegistryLogModel" 80 "RegistryLogModel" "one" "[I") (in_4 (List.mem_of_getElem? (i := 239) rfl) rfl)) rfl (v := .ref (ad 30)) rfl d_M_publish_45 ?_
            refine lv_iconst (v := nI 0) hx hb d_M_publish_48 (by decide) ?_
            refine lv_aload_n hx hb d_M_publish_49 rfl (lv_at hl 1 rfl) ?_
            refine m_get hx hb hts hown hK hm 32 (by decide) (hts (.fieldLink "RegistryLogModel" 123 "RegistryLogModel" "oneSize" "I") (in_5 (List.mem_of_getElem? (i := 1) rfl) rfl)) rfl (v := .int (nI T.length)) (congrArg (fun z => some (Value.int z)) g32) d_M_publish_50 ?_
            refine aM (rV (As := [.ref (ad 30), .int (nI 0), .int (nI T.length)]) (rest := []) C0 (c_M_met l g _ x ad _ _ _ hm.1 30 0 T.length tb.1.length rfl (by omega) (by show 0 + T.length ≤ 10; omega) hTT.1 (by omega)) (m_zK hZ hm) k_M_publish_53 rfl rfl ⟨Nat.le_of_ble_eq_true rfl, Nat.le_of_ble_eq_true rfl⟩ (m_recv hK hm) rfl hl.1 rfl (Nat.le_of_ble_eq_true rfl) d_M_publish_53 ⟨Nat.zero_le _, Nat.zero_le _⟩) hm (fun v F1 A1 B1 H locs hp hm => ?_)
            obtain ⟨rfl, eF, eA, eB⟩ := hp
            rw [eF, eA, eB] at hm
            clear eF eA eB
            rw [show metA Ag 30 0 T.length tb.1.length 0 (-1) = oI (mtT tb T) from metA_T hTT hok hx30 (by omega) hc]
            rcases hmm : mtT tb T with _ | kk
            · skip
              rw [hmm] at hcd
              dsimp only at hcd
              refine W.eq (g2 := F0 m 56 ls [.int ((-1))]) rfl ?_
              refine lv_istore (lv' := [(5, .int ((-1))), (4, .int (nI 0)), (0, .ref x), (1, .int (nI wn)), (2, .int v0), (3, .int sum)]) hx hb d_M_publish_56 hl (by decide) rfl (fun ls hl => ?_)
              refine lv_iload hx hb d_M_publish_58 (lv_at hl 1 rfl) ?_
              refine lv_if_ne (tgt := 118) hx hb d_M_publish_60 (by decide) (fun c60 => ?_) (fun c60 => ?_)
              · skip
                first | exact absurd c60 (by decide) | exact absurd (by decide) c60
              · skip
                refine lv_iload hx hb d_M_publish_63 (lv_at hl 0 rfl) ?_
                refine lv_iconst (v := (-1)) hx hb d_M_publish_65 (by decide) ?_
                refine lv_icmp_ne (tgt := 88) hx hb d_M_publish_66 (by decide) (fun c66 => ?_) (fun c66 => ?_)
                · skip
                  first | exact absurd c66 (by decide) | exact absurd (by decide) c66
                · skip
                  refine lv_aload_n hx hb d_M_publish_69 rfl (lv_at hl 2 rfl) ?_
                  refine lv_aload_n hx hb d_M_publish_70 rfl (lv_at hl 2 rfl) ?_
                  refine m_get hx hb hts hown hK hm 30 (by decide) (hts (.fieldLink "RegistryLogModel" 80 "RegistryLogModel" "one" "[I") (in_4 (List.mem_of_getElem? (i := 239) rfl) rfl)) rfl (v := .ref (ad 30)) rfl d_M_publish_71 ?_
                  refine lv_aload_n hx hb d_M_publish_74 rfl (lv_at hl 2 rfl) ?_
                  refine m_get hx hb hts hown hK hm 32 (by decide) (hts (.fieldLink "RegistryLogModel" 123 "RegistryLogModel" "oneSize" "I") (in_5 (List.mem_of_getElem? (i := 1) rfl) rfl)) rfl (v := .int (nI T.length)) (congrArg (fun z => some (Value.int z)) g32) d_M_publish_75 ?_
                  refine lv_iconst (v := (-1)) hx hb d_M_publish_78 (by decide) ?_
                  refine aM (rV (As := [.ref (ad 30), .int (nI T.length), .int ((-1))]) (rest := []) C0 (c_M_isFree30 l g _ x ad _ _ _ hm.1 T tb.1.length (fun k => (nmT tb k).1) (by omega) hx30 hc (repN_T hTT hok h120) ((-1))) (m_zK hZ hm) k_M_publish_79 rfl rfl ⟨Nat.le_of_ble_eq_true rfl, Nat.le_of_ble_eq_true rfl⟩ (m_recv hK hm) rfl hl.1 rfl (Nat.le_of_ble_eq_true rfl) d_M_publish_79 ⟨Nat.zero_le _, Nat.zero_le _⟩) hm (fun v F1 A1 B1 H locs hp hm => ?_)
                  obtain ⟨rfl, eF, ⟨f3, f4, eA⟩, eB⟩ := hp
                  rw [eF, eA, eB] at hm
                  clear eF eA eB
                  rw [free_T hTT hok h120 hx30 (by omega) hc]
                  have hlA : lo (updA (updA Ag 34 f3) 35 f4) A := lo_tr (lo_tr (lo_hA (by omega)) (lo_hA (by omega))) hlA
                  refine W.eq (g2 := F0 m 82 ls [.int (bI (freT tb T ((-1))))]) rfl ?_
                  refine z_eq (tgt := 118) (v := freT tb T ((-1))) hx hb d_M_publish_82 (by decide) (fun c82 => ?_) (fun c82 => ?_)
                  · skip
                    refine lv_iconst (v := nI 0) hx hb d_M_publish_118 (by decide) ?_
                    refine lv_istore (lv' := [(6, .int (nI 0)), (5, .int ((-1))), (4, .int (nI 0)), (0, .ref x), (1, .int (nI wn)), (2, .int v0), (3, .int sum)]) hx hb d_M_publish_119 hl (by decide) rfl (fun ls hl => ?_)
                    refine lv_aload_n hx hb d_M_publish_121 rfl (lv_at hl 3 rfl) ?_
                    refine lv_iload hx hb d_M_publish_122 (lv_at hl 2 rfl) ?_
                    refine lv_iload hx hb d_M_publish_124 (lv_at hl 0 rfl) ?_
                    refine lv_if_eq (tgt := 136) hx hb d_M_publish_126 (by decide) (fun c126 => ?_) (fun c126 => ?_)
                    · skip
                      refine lv_iconst (v := nI 1) hx hb d_M_publish_136 (by decide) ?_
                      refine lv_goto (tgt := 141) hx hb d_M_publish_137 (by decide) ?_
                      refine aM (rV (As := [.int (nI 0), .int (nI 1)]) (rest := []) C0 (c_M_refuses l g _ x ad _ _ _ hm.1 false true) (m_zK hZ hm) k_M_publish_141 rfl rfl ⟨Nat.le_of_ble_eq_true rfl, Nat.le_of_ble_eq_true rfl⟩ (m_recv hK hm) rfl hl.1 rfl (Nat.le_of_ble_eq_true rfl) d_M_publish_141 ⟨Nat.zero_le _, Nat.zero_le _⟩) hm (fun v F1 A1 B1 H locs hp hm => ?_)
                      obtain ⟨rfl, eF, eA, eB⟩ := hp
                      rw [eF, eA, eB] at hm
                      clear eF eA eB
                      have hm : mS g s.heap H x ad (upd Fg 0 (nI 2)) (updA (updA Ag 34 f3) 35 f4) B locs := hm
                      refine W.eq (g2 := F0 m 144 ls [.int (bI true)]) rfl ?_
                      refine z_eq (tgt := 151) (v := true) hx hb d_M_publish_144 (by decide) (fun c144 => ?_) (fun c144 => ?_)
                      · skip
                        first | exact absurd c144 (by decide) | exact absurd (by decide) c144
                      · skip
                        refine lv_iconst (v := nI 0) hx hb d_M_publish_147 (by decide) ?_
                        refine lv_goto (tgt := 159) hx hb d_M_publish_148 (by decide) ?_
                        have hcd : cd = 2 := hcd.symm.trans (by simp [c82])
                        subst hcd
                        exact W.iret hx hb hr (fun t9 ht hW => ⟨_, _, _, _, rfl, by rw [ht]; exact ⟨hm.1, hm.2.1, hm.2.2.1, fun _ h => by cases h⟩, ⟨rfl, lo_u hlF, rfl, fun o => by rw [if_neg (by decide)]; exact aI_lo hlA hai⟩⟩) hm.2.2.2 d_M_publish_159 hlk
                    · skip
                      first | exact absurd c126 (by decide) | exact absurd (by decide) c126
                  · skip
                    refine lv_goto (tgt := 114) hx hb d_M_publish_85 (by decide) ?_
                    refine lv_iconst (v := nI 1) hx hb d_M_publish_114 (by decide) ?_
                    refine lv_goto (tgt := 119) hx hb d_M_publish_115 (by decide) ?_
                    refine lv_istore (lv' := [(6, .int (nI 1)), (5, .int ((-1))), (4, .int (nI 0)), (0, .ref x), (1, .int (nI wn)), (2, .int v0), (3, .int sum)]) hx hb d_M_publish_119 hl (by decide) rfl (fun ls hl => ?_)
                    refine lv_aload_n hx hb d_M_publish_121 rfl (lv_at hl 3 rfl) ?_
                    refine lv_iload hx hb d_M_publish_122 (lv_at hl 2 rfl) ?_
                    refine lv_iload hx hb d_M_publish_124 (lv_at hl 0 rfl) ?_
                    refine lv_if_eq (tgt := 136) hx hb d_M_publish_126 (by decide) (fun c126 => ?_) (fun c126 => ?_)
                    · skip
                      first | exact absurd c126 (by decide) | exact absurd (by decide) c126
                    · skip
                      refine lv_aload_n hx hb d_M_publish_129 rfl (lv_at hl 3 rfl) ?_
                      refine aP (rV (As := []) (rest := [.int (nI 0), .ref x]) C0 (c_M_isFull l g _ x ad _ _ _ hm.1 rows.length g12 h120) (m_zK hZ hm) k_M_publish_130 rfl rfl ⟨Nat.le_of_ble_eq_true rfl, Nat.le_of_ble_eq_true rfl⟩ (m_recv hK hm) rfl hl.1 rfl (Nat.le_of_ble_eq_true rfl) d_M_publish_130 ⟨Nat.zero_le _, Nat.zero_le _⟩) ?_
                      intro v hv; subst hv
                      refine W.eq (g2 := F0 m 133 ls [.int (bI (decide (rows.length = 120))), .int (nI 0), .ref x]) rfl ?_
                      refine z_eq (tgt := 140) (v := decide (rows.length = 120)) hx hb d_M_publish_133 (by decide) (fun c133 => ?_) (fun c133 => ?_)
                      · skip
                        refine lv_iconst (v := nI 0) hx hb d_M_publish_140 (by decide) ?_
                        refine aM (rV (As := [.int (nI 0), .int (nI 0)]) (rest := []) C0 (c_M_refuses l g _ x ad _ _ _ hm.1 false false) (m_zK hZ hm) k_M_publish_141 rfl rfl ⟨Nat.le_of_ble_eq_true rfl, Nat.le_of_ble_eq_true rfl⟩ (m_recv hK hm) rfl hl.1 rfl (Nat.le_of_ble_eq_true rfl) d_M_publish_141 ⟨Nat.zero_le _, Nat.zero_le _⟩) hm (fun v F1 A1 B1 H locs hp hm => ?_)
                        obtain ⟨rfl, eF, eA, eB⟩ := hp
                        rw [eF, eA, eB] at hm
                        clear eF eA eB
                        have hm : mS g s.heap H x ad (upd Fg 0 (nI 0)) (updA (updA Ag 34 f3) 35 f4) B locs := hm
                        refine W.eq (g2 := F0 m 144 ls [.int (bI false)]) rfl ?_
                        refine z_eq (tgt := 151) (v := false) hx hb d_M_publish_144 (by decide) (fun c144 => ?_) (fun c144 => ?_)
                        · skip
                          refine lv_aload_n hx hb d_M_publish_151 rfl (lv_at hl 3 rfl) ?_
                          refine lv_iconst (v := nI 0) hx hb d_M_publish_152 (by decide) ?_
                          refine lv_iload_n hx hb d_M_publish_153 rfl (lv_at hl 4 rfl) ?_
                          refine lv_iload_n hx hb d_M_publish_154 rfl (lv_at hl 5 rfl) ?_
                          refine lv_iload_n hx hb d_M_publish_155 rfl (lv_at hl 6 rfl) ?_
                          have hai2 := aI_lo hlA hai
                          have hl9 : rows.length < 120 := by have := of_decide_eq_false c133; omega
                          refine aM (rV (As := [.int (nI 0), .int (nI wn), .int v0, .int sum]) (rest := []) C0 (c_M_write l g _ x ad _ _ _ hm.1 (nI 0) (nI wn) (v0) (sum) rows.length T.length 0 hl9 g32 g33 (by omega) (by omega) (hai2.1.2.1)) (m_zK hZ hm) k_M_publish_156 rfl rfl ⟨Nat.le_of_ble_eq_true rfl, Nat.le_of_ble_eq_true rfl⟩ (m_recv hK hm) rfl hl.1 rfl (Nat.le_of_ble_eq_true rfl) d_M_publish_156 ⟨Nat.zero_le _, Nat.zero_le _⟩) hm (fun v F1 A1 B1 H locs hp hm => ?_)
                          obtain ⟨rfl, eF, eA, eB⟩ := hp
                          rw [eF, eA, eB] at hm
                          clear eF eA eB
                          refine W.eq (g2 := F0 m 159 ls [.int (nI rows.length)]) rfl ?_
                          have hcd : cd = 0 := hcd.symm.trans (by simp [c82, c133])
                          subst hcd
                          exact W.iret hx hb hr (fun t9 ht hW => ⟨_, _, _, _, rfl, by rw [ht]; exact ⟨hm.1, hm.2.1, hm.2.2.1, fun _ h => by cases h⟩, ⟨rfl, lo_u hlF, rfl, fun o => by rw [if_pos rfl]; exact wr_aI (o := o) (u := T) hai2 hl9 hx30 (by omega) hc (fun k hk => absurd hk (Nat.not_lt_zero _)) rfl (by decide) nil_c (Or.inl rfl)⟩⟩) hm.2.2.2 d_M_publish_159 hlk
                        · skip
                          first | exact absurd c144 (by decide) | exact absurd (by decide) c144
                      · skip
                        refine lv_iconst (v := nI 1) hx hb d_M_publish_136 (by decide) ?_
                        refine lv_goto (tgt := 141) hx hb d_M_publish_137 (by decide) ?_
                        refine aM (rV (As := [.int (nI 0), .int (nI 1)]) (rest := []) C0 (c_M_refuses l g _ x ad _ _ _ hm.1 false true) (m_zK hZ hm) k_M_publish_141 rfl rfl ⟨Nat.le_of_ble_eq_true rfl, Nat.le_of_ble_eq_true rfl⟩ (m_recv hK hm) rfl hl.1 rfl (Nat.le_of_ble_eq_true rfl) d_M_publish_141 ⟨Nat.zero_le _, Nat.zero_le _⟩) hm (fun v F1 A1 B1 H locs hp hm => ?_)
                        obtain ⟨rfl, eF, eA, eB⟩ := hp
                        rw [eF, eA, eB] at hm
                        clear eF eA eB
                        have hm : mS g s.heap H x ad (upd Fg 0 (nI 2)) (updA (updA Ag 34 f3) 35 f4) B locs := hm
                        refine W.eq (g2 := F0 m 144 ls [.int (bI true)]) rfl ?_
                        refine z_eq (tgt := 151) (v := true) hx hb d_M_publish_144 (by decide) (fun c144 => ?_) (fun c144 => ?_)
                        · skip
                          first | exact absurd c144 (by decide) | exact absurd (by decide) c144
                        · skip
                          refine lv_iconst (v := nI 0) hx hb d_M_publish_147 (by decide) ?_
                          refine lv_goto (tgt := 159) hx hb d_M_publish_148 (by decide) ?_
                          have hcd : cd = 2 := hcd.symm.trans (by simp [c82, c133])
                          subst hcd
                          exact W.iret hx hb hr (fun t9 ht hW => ⟨_, _, _, _, rfl, by rw [ht]; exact ⟨hm.1, hm.2.1, hm.2.2.1, fun _ h => by cases h⟩, ⟨rfl, lo_u hlF, rfl, fun o => by rw [if_neg (by decide)]; exact aI_lo hlA hai⟩⟩) hm.2.2.2 d_M_publish_159 hlk
            · skip
              rw [hmm] at hcd
              dsimp only at hcd
              have hkk : kk < tb.1.length := mtT_lt hmm
              obtain ⟨n1, n2, n3, n4⟩ := hTT.2.2.2.1 kk hkk
              obtain ⟨p1, p2, p3⟩ := ok4 kk hkk
              obtain ⟨w1, w2⟩ := hTT.2.2.2.2.1 _ p3
              refine W.eq (g2 := F0 m 56 ls [.int (nI kk)]) rfl ?_
              refine lv_istore (lv' := [(5, .int (nI kk)), (4, .int (nI 0)), (0, .ref x), (1, .int (nI wn)), (2, .int v0), (3, .int sum)]) hx hb d_M_publish_56 hl (by decide) rfl (fun ls hl => ?_)
              refine lv_iload hx hb d_M_publish_58 (lv_at hl 1 rfl) ?_
              refine lv_if_ne (tgt := 118) hx hb d_M_publish_60 (by decide) (fun c60 => ?_) (fun c60 => ?_)
              · skip
                first | exact absurd c60 (by decide) | exact absurd (by decide) c60
              · skip
                refine lv_iload hx hb d_M_publish_63 (lv_at hl 0 rfl) ?_
                refine lv_iconst (v := (-1)) hx hb d_M_publish_65 (by decide) ?_
                refine lv_icmp_ne (tgt := 88) hx hb d_M_publish_66 (by decide) (fun c66 => ?_) (fun c66 => ?_)
                · skip
                  refine lv_aload_n hx hb d_M_publish_88 rfl (lv_at hl 2 rfl) ?_
                  refine lv_iload hx hb d_M_publish_89 (lv_at hl 0 rfl) ?_
                  refine lv_iload_n hx hb d_M_publish_91 rfl (lv_at hl 3 rfl) ?_
                  refine aP (rV (As := [.int (nI kk), .int (nI wn)]) (rest := []) C0 (c_M_hasRight l g _ x ad _ _ _ hm.1 kk (nmT tb kk).2.2 wn (by omega) n4 (by omega)) (m_zK hZ hm) k_M_publish_92 rfl rfl ⟨Nat.le_of_ble_eq_true rfl, Nat.le_of_ble_eq_true rfl⟩ (m_recv hK hm) rfl hl.1 rfl (Nat.le_of_ble_eq_true rfl) d_M_publish_92 ⟨Nat.zero_le _, Nat.zero_le _⟩) ?_
                  intro v hv; subst hv
                  have eh : decide (Ag 19 kk = nI 1 ∧ (Ag 21 (nmT tb kk).2.2 = nI wn ∨ rbit (Ag 22 (nmT tb kk).2.2) wn = true)) = hrT tb kk (nI wn) := by rw [hrT, decide_eq_decide, n3, w1, w2, nI_clamp (by omega)]; exact Iff.rfl
                  rw [eh]
                  clear eh
                  refine W.eq (g2 := F0 m 95 ls [.int (bI (hrT tb kk (nI wn)))]) rfl ?_
                  refine z_eq (tgt := 118) (v := hrT tb kk (nI wn)) hx hb d_M_publish_95 (by decide) (fun c95 => ?_) (fun c95 => ?_)
                  · skip
                    refine lv_iconst (v := nI 0) hx hb d_M_publish_118 (by decide) ?_
                    refine lv_istore (lv' := [(6, .int (nI 0)), (5, .int (nI kk)), (4, .int (nI 0)), (0, .ref x), (1, .int (nI wn)), (2, .int v0), (3, .int sum)]) hx hb d_M_publish_119 hl (by decide) rfl (fun ls hl => ?_)
                    refine lv_aload_n hx hb d_M_publish_121 rfl (lv_at hl 3 rfl) ?_
                    refine lv_iload hx hb d_M_publish_122 (lv_at hl 2 rfl) ?_
                    refine lv_iload hx hb d_M_publish_124 (lv_at hl 0 rfl) ?_
                    refine lv_if_eq (tgt := 136) hx hb d_M_publish_126 (by decide) (fun c126 => ?_) (fun c126 => ?_)
                    · skip
                      refine lv_iconst (v := nI 1) hx hb d_M_publish_136 (by decide) ?_
                      refine lv_goto (tgt := 141) hx hb d_M_publish_137 (by decide) ?_
                      refine aM (rV (As := [.int (nI 0), .int (nI 1)]) (rest := []) C0 (c_M_refuses l g _ x ad _ _ _ hm.1 false true) (m_zK hZ hm) k_M_publish_141 rfl rfl ⟨Nat.le_of_ble_eq_true rfl, Nat.le_of_ble_eq_true rfl⟩ (m_recv hK hm) rfl hl.1 rfl (Nat.le_of_ble_eq_true rfl) d_M_publish_141 ⟨Nat.zero_le _, Nat.zero_le _⟩) hm (fun v F1 A1 B1 H locs hp hm => ?_)
                      obtain ⟨rfl, eF, eA, eB⟩ := hp
                      rw [eF, eA, eB] at hm
                      clear eF eA eB
                      have hm : mS g s.heap H x ad (upd Fg 0 (nI 2)) Ag B locs := hm
                      refine W.eq (g2 := F0 m 144 ls [.int (bI true)]) rfl ?_
                      refine z_eq (tgt := 151) (v := true) hx hb d_M_publish_144 (by decide) (fun c144 => ?_) (fun c144 => ?_)
                      · skip
                        first | exact absurd c144 (by decide) | exact absurd (by decide) c144
                      · skip
                        refine lv_iconst (v := nI 0) hx hb d_M_publish_147 (by decide) ?_
                        refine lv_goto (tgt := 159) hx hb d_M_publish_148 (by decide) ?_
                        have hcd : cd = 2 := hcd.symm.trans (by simp [c95])
                        subst hcd
                        exact W.iret hx hb hr (fun t9 ht hW => ⟨_, _, _, _, rfl, by rw [ht]; exact ⟨hm.1, hm.2.1, hm.2.2.1, fun _ h => by cases h⟩, ⟨rfl, lo_u hlF, rfl, fun o => by rw [if_neg (by decide)]; exact aI_lo hlA hai⟩⟩) hm.2.2.2 d_M_publish_159 hlk
                    · skip
                      first | exact absurd c126 (by decide) | exact absurd (by decide) c126
                  · skip
                    refine lv_aload_n hx hb d_M_publish_98 rfl (lv_at hl 2 rfl) ?_
                    refine lv_aload_n hx hb d_M_publish_99 rfl (lv_at hl 2 rfl) ?_
                    refine m_get hx hb hts hown hK hm 20 (by decide) (hts (.fieldLink "RegistryLogModel" 59 "RegistryLogModel" "nameOf" "[I") (in_4 (List.mem_of_getElem? (i := 229) rfl) rfl)) rfl (v := .ref (ad 20)) rfl d_M_publish_100 ?_
                    refine lv_iload hx hb d_M_publish_103 (lv_at hl 0 rfl) ?_
                    refine m_ld hx hb hK hm 20 rfl kk rfl (show kk < 240 from by omega) d_M_publish_105 ?_
                    refine W.eq (g2 := F0 m 106 ls [.int (nI ((nmT tb kk).2.2)), .ref x]) (by rw [n4]) ?_
                    refine lv_iload_n hx hb d_M_publish_106 rfl (lv_at hl 4 rfl) ?_
                    refine aP (rV (As := [.int (nI ((nmT tb kk).2.2)), .int v0]) (rest := []) C0 (c_M_versionAt l g _ x ad _ _ _ hm.1 tb.2.2.length hTT.2.2.1 (by omega) (nI (nmT tb kk).2.2) v0) (m_zK hZ hm) k_M_publish_107 rfl rfl ⟨Nat.le_of_ble_eq_true rfl, Nat.le_of_ble_eq_true rfl⟩ (m_recv hK hm) rfl hl.1 rfl (Nat.le_of_ble_eq_true rfl) d_M_publish_107 ⟨Nat.zero_le _, Nat.zero_le _⟩) ?_
                    intro v9 hv; subst hv
                    rw [show vaL Ag (nI (nmT tb kk).2.2) v0 tb.2.2.length 0 (-1) = oI (vtT tb (nmT tb kk).2.2 v0) from vaL_T hTT hok h120 (by omega)]
                    rcases hvv : vtT tb (nmT tb kk).2.2 v0 with _ | vk
                    · skip
                      simp only [hvv] at hcd
                      refine W.eq (g2 := F0 m 110 ls [.int ((-1))]) rfl ?_
                      refine lv_iconst (v := (-1)) hx hb d_M_publish_110 (by decide) ?_
                      refine lv_icmp_ne (tgt := 118) hx hb d_M_publish_111 (by decide) (fun c111 => ?_) (fun c111 => ?_)
                      · skip
                        first | exact absurd c111 (by decide) | exact absurd (by decide) c111
                      · skip
                        refine lv_iconst (v := nI 1) hx hb d_M_publish_114 (by decide) ?_
                        refine lv_goto (tgt := 119) hx hb d_M_publish_115 (by decide) ?_
                        refine lv_istore (lv' := [(6, .int (nI 1)), (5, .int (nI kk)), (4, .int (nI 0)), (0, .ref x), (1, .int (nI wn)), (2, .int v0), (3, .int sum)]) hx hb d_M_publish_119 hl (by decide) rfl (fun ls hl => ?_)
                        refine lv_aload_n hx hb d_M_publish_121 rfl (lv_at hl 3 rfl) ?_
                        refine lv_iload hx hb d_M_publish_122 (lv_at hl 2 rfl) ?_
                        refine lv_iload hx hb d_M_publish_124 (lv_at hl 0 rfl) ?_
                        refine lv_if_eq (tgt := 136) hx hb d_M_publish_126 (by decide) (fun c126 => ?_) (fun c126 => ?_)
                        · skip
                          first | exact absurd c126 (by decide) | exact absurd (by decide) c126
                        · skip
                          refine lv_aload_n hx hb d_M_publish_129 rfl (lv_at hl 3 rfl) ?_
                          refine aP (rV (As := []) (rest := [.int (nI 0), .ref x]) C0 (c_M_isFull l g _ x ad _ _ _ hm.1 rows.length g12 h120) (m_zK hZ hm) k_M_publish_130 rfl rfl ⟨Nat.le_of_ble_eq_true rfl, Nat.le_of_ble_eq_true rfl⟩ (m_recv hK hm) rfl hl.1 rfl (Nat.le_of_ble_eq_true rfl) d_M_publish_130 ⟨Nat.zero_le _, Nat.zero_le _⟩) ?_
                          intro v hv; subst hv
                          refine W.eq (g2 := F0 m 133 ls [.int (bI (decide (rows.length = 120))), .int (nI 0), .ref x]) rfl ?_
                          refine z_eq (tgt := 140) (v := decide (rows.length = 120)) hx hb d_M_publish_133 (by decide) (fun c133 => ?_) (fun c133 => ?_)
                          · skip
                            refine lv_iconst (v := nI 0) hx hb d_M_publish_140 (by decide) ?_
                            refine aM (rV (As := [.int (nI 0), .int (nI 0)]) (rest := []) C0 (c_M_refuses l g _ x ad _ _ _ hm.1 false false) (m_zK hZ hm) k_M_publish_141 rfl rfl ⟨Nat.le_of_ble_eq_true rfl, Nat.le_of_ble_eq_true rfl⟩ (m_recv hK hm) rfl hl.1 rfl (Nat.le_of_ble_eq_true rfl) d_M_publish_141 ⟨Nat.zero_le _, Nat.zero_le _⟩) hm (fun v F1 A1 B1 H locs hp hm => ?_)
                            obtain ⟨rfl, eF, eA, eB⟩ := hp
                            rw [eF, eA, eB] at hm
                            clear eF eA eB
                            have hm : mS g s.heap H x ad (upd Fg 0 (nI 0)) Ag B locs := hm
                            refine W.eq (g2 := F0 m 144 ls [.int (bI false)]) rfl ?_
                            refine z_eq (tgt := 151) (v := false) hx hb d_M_publish_144 (by decide) (fun c144 => ?_) (fun c144 => ?_)
                            · skip
                              refine lv_aload_n hx hb d_M_publish_151 rfl (lv_at hl 3 rfl) ?_
                              refine lv_iconst (v := nI 0) hx hb d_M_publish_152 (by decide) ?_
                              refine lv_iload_n hx hb d_M_publish_153 rfl (lv_at hl 4 rfl) ?_
                              refine lv_iload_n hx hb d_M_publish_154 rfl (lv_at hl 5 rfl) ?_
                              refine lv_iload_n hx hb d_M_publish_155 rfl (lv_at hl 6 rfl) ?_
                              have hai2 := aI_lo hlA hai
                              have hl9 : rows.length < 120 := by have := of_decide_eq_false c133; omega
                              refine aM (rV (As := [.int (nI 0), .int (nI wn), .int v0, .int sum]) (rest := []) C0 (c_M_write l g _ x ad _ _ _ hm.1 (nI 0) (nI wn) (v0) (sum) rows.length T.length 0 hl9 g32 g33 (by omega) (by omega) (hai2.1.2.1)) (m_zK hZ hm) k_M_publish_156 rfl rfl ⟨Nat.le_of_ble_eq_true rfl, Nat.le_of_ble_eq_true rfl⟩ (m_recv hK hm) rfl hl.1 rfl (Nat.le_of_ble_eq_true rfl) d_M_publish_156 ⟨Nat.zero_le _, Nat.zero_le _⟩) hm (fun v F1 A1 B1 H locs hp hm => ?_)
                              obtain ⟨rfl, eF, eA, eB⟩ := hp
                              rw [eF, eA, eB] at hm
                              clear eF eA eB
                              refine W.eq (g2 := F0 m 159 ls [.int (nI rows.length)]) rfl ?_
                              have hcd : cd = 0 := hcd.symm.trans (by simp [c95, c133])
                              subst hcd
                              exact W.iret hx hb hr (fun t9 ht hW => ⟨_, _, _, _, rfl, by rw [ht]; exact ⟨hm.1, hm.2.1, hm.2.2.1, fun _ h => by cases h⟩, ⟨rfl, lo_u hlF, rfl, fun o => by rw [if_pos rfl]; exact wr_aI (o := o) (u := T) hai2 hl9 hx30 (by omega) hc (fun k hk => absurd hk (Nat.not_lt_zero _)) rfl (by decide) nil_c (Or.inl rfl)⟩⟩) hm.2.2.2 d_M_publish_159 hlk
                            · skip
                              first | exact absurd c144 (by decide) | exact absurd (by decide) c144
                          · skip
                            refine lv_iconst (v := nI 1) hx hb d_M_publish_136 (by decide) ?_
                            refine lv_goto (tgt := 141) hx hb d_M_publish_137 (by decide) ?_
                            refine aM (rV (As := [.int (nI 0), .int (nI 1)]) (rest := []) C0 (c_M_refuses l g _ x ad _ _ _ hm.1 false true) (m_zK hZ hm) k_M_publish_141 rfl rfl ⟨Nat.le_of_ble_eq_true rfl, Nat.le_of_ble_eq_true rfl⟩ (m_recv hK hm) rfl hl.1 rfl (Nat.le_of_ble_eq_true rfl) d_M_publish_141 ⟨Nat.zero_le _, Nat.zero_le _⟩) hm (fun v F1 A1 B1 H locs hp hm => ?_)
                            obtain ⟨rfl, eF, eA, eB⟩ := hp
                            rw [eF, eA, eB] at hm
                            clear eF eA eB
                            have hm : mS g s.heap H x ad (upd Fg 0 (nI 2)) Ag B locs := hm
                            refine W.eq (g2 := F0 m 144 ls [.int (bI true)]) rfl ?_
                            refine z_eq (tgt := 151) (v := true) hx hb d_M_publish_144 (by decide) (fun c144 => ?_) (fun c144 => ?_)
                            · skip
                              first | exact absurd c144 (by decide) | exact absurd (by decide) c144
                            · skip
                              refine lv_iconst (v := nI 0) hx hb d_M_publish_147 (by decide) ?_
                              refine lv_goto (tgt := 159) hx hb d_M_publish_148 (by decide) ?_
                              have hcd : cd = 2 := hcd.symm.trans (by simp [c95, c133])
                              subst hcd
                              exact W.iret hx hb hr (fun t9 ht hW => ⟨_, _, _, _, rfl, by rw [ht]; exact ⟨hm.1, hm.2.1, hm.2.2.1, fun _ h => by cases h⟩, ⟨rfl, lo_u hlF, rfl, fun o => by rw [if_neg (by decide)]; exact aI_lo hlA hai⟩⟩) hm.2.2.2 d_M_publish_159 hlk
                    · skip
                      simp only [hvv] at hcd
                      have hvk : vk < tb.2.2.length := vtT_lt hvv
                      obtain ⟨v1, v2, v3, v4⟩ := hTT.2.2.2.2.2 vk hvk
                      refine W.eq (g2 := F0 m 110 ls [.int (nI vk)]) rfl ?_
                      refine lv_iconst (v := (-1)) hx hb d_M_publish_110 (by decide) ?_
                      refine lv_icmp_ne (tgt := 118) hx hb d_M_publish_111 (by decide) (fun c111 => ?_) (fun c111 => ?_)
                      · skip
                        refine lv_iconst (v := nI 0) hx hb d_M_publish_118 (by decide) ?_
                        refine lv_istore (lv' := [(6, .int (nI 0)), (5, .int (nI kk)), (4, .int (nI 0)), (0, .ref x), (1, .int (nI wn)), (2, .int v0), (3, .int sum)]) hx hb d_M_publish_119 hl (by decide) rfl (fun ls hl => ?_)
                        refine lv_aload_n hx hb d_M_publish_121 rfl (lv_at hl 3 rfl) ?_
                        refine lv_iload hx hb d_M_publish_122 (lv_at hl 2 rfl) ?_
                        refine lv_iload hx hb d_M_publish_124 (lv_at hl 0 rfl) ?_
                        refine lv_if_eq (tgt := 136) hx hb d_M_publish_126 (by decide) (fun c126 => ?_) (fun c126 => ?_)
                        · skip
                          refine lv_iconst (v := nI 1) hx hb d_M_publish_136 (by decide) ?_
                          refine lv_goto (tgt := 141) hx hb d_M_publish_137 (by decide) ?_
                          refine aM (rV (As := [.int (nI 0), .int (nI 1)]) (rest := []) C0 (c_M_refuses l g _ x ad _ _ _ hm.1 false true) (m_zK hZ hm) k_M_publish_141 rfl rfl ⟨Nat.le_of_ble_eq_true rfl, Nat.le_of_ble_eq_true rfl⟩ (m_recv hK hm) rfl hl.1 rfl (Nat.le_of_ble_eq_true rfl) d_M_publish_141 ⟨Nat.zero_le _, Nat.zero_le _⟩) hm (fun v F1 A1 B1 H locs hp hm => ?_)
                          obtain ⟨rfl, eF, eA, eB⟩ := hp
                          rw [eF, eA, eB] at hm
                          clear eF eA eB
                          have hm : mS g s.heap H x ad (upd Fg 0 (nI 2)) Ag B locs := hm
                          refine W.eq (g2 := F0 m 144 ls [.int (bI true)]) rfl ?_
                          refine z_eq (tgt := 151) (v := true) hx hb d_M_publish_144 (by decide) (fun c144 => ?_) (fun c144 => ?_)
                          · skip
                            first | exact absurd c144 (by decide) | exact absurd (by decide) c144
                          · skip
                            refine lv_iconst (v := nI 0) hx hb d_M_publish_147 (by decide) ?_
                            refine lv_goto (tgt := 159) hx hb d_M_publish_148 (by decide) ?_
                            have hcd : cd = 2 := hcd.symm.trans (by simp [c95])
                            subst hcd
                            exact W.iret hx hb hr (fun t9 ht hW => ⟨_, _, _, _, rfl, by rw [ht]; exact ⟨hm.1, hm.2.1, hm.2.2.1, fun _ h => by cases h⟩, ⟨rfl, lo_u hlF, rfl, fun o => by rw [if_neg (by decide)]; exact aI_lo hlA hai⟩⟩) hm.2.2.2 d_M_publish_159 hlk
                        · skip
                          first | exact absurd c126 (by decide) | exact absurd (by decide) c126
                      · skip
                        exact absurd c111 (nI_m1 (by omega))
                · skip
                  exact absurd c66 (nI_m1 (by omega))
          · skip
            first | exact absurd c36 (by decide) | exact absurd (by decide) c36
        · skip
          refine lv_iconst (v := nI 1) hx hb d_M_publish_22 (by decide) ?_
          refine lv_goto (tgt := 27) hx hb d_M_publish_23 (by decide) ?_
          have hb9 : (nameM T 0 T.length && (isP who && isV v0)) = false := by rw [c19, Bool.and_false, Bool.and_false]
          rw [hb9, endC, if_pos (by rfl)] at hcd
          refine lv_istore (lv' := [(4, .int (nI 1)), (0, .ref x), (1, .int who), (2, .int v0), (3, .int sum)]) hx hb d_M_publish_27 hl (by decide) rfl (fun ls hl => ?_)
          refine lv_aload_n hx hb d_M_publish_29 rfl (lv_at hl 1 rfl) ?_
          refine lv_iconst (v := nI 4) hx hb d_M_publish_30 (by decide) ?_
          refine aM (rV (As := [.int (nI 4)]) (rest := []) C0 (c_M_goThrough l g _ x ad _ _ _ hm.1 4 (by decide) rows (refR_lo hlA hai.1) tb htb) (m_zK hZ hm) k_M_publish_31 rfl rfl ⟨Nat.le_of_ble_eq_true rfl, Nat.le_of_ble_eq_true rfl⟩ (m_recv hK hm) rfl hl.1 rfl (Nat.le_of_ble_eq_true rfl) d_M_publish_31 ⟨Nat.zero_le _, Nat.zero_le _⟩) hm (fun v Fg Ag Bg H locs hp hm => ?_)
          obtain ⟨rfl, hbF, hbA, eB, hTT⟩ := hp
          rw [eB] at hm
          clear eB
          have hok := ok_ref hai.1 htb
          have h120 : rows.length ≤ 120 := hai.1.1
          obtain ⟨ok1, ok2, ok3, ok4, ok5⟩ := id hok
          have hlF : lo Fg _ := lo_tr (lo_bt hbF) hlF
          have hlA : lo Ag A := lo_tr (lo_bt hbA) hlA
          refine W.eq (g2 := F0 m 34 ls []) rfl ?_
          have g32 : Fg 32 = nI T.length := by rw [hbF 32 (by omega)]; rfl
          have g33 : Fg 33 = nI 0 := by rw [hbF 33 (by omega)]; rfl
          have hx30 : txt Ag 30 0 T := by unfold txt; rw [hbA 30 (by omega)]; exact hx30
          have g12 : Ag 12 4 = nI rows.length := by rw [hlA 12 (by omega)]; exact hai.1.2.1
          refine lv_iload hx hb d_M_publish_34 (lv_at hl 0 rfl) ?_
          refine lv_if_eq (tgt := 43) hx hb d_M_publish_36 (by decide) (fun c36 => ?_) (fun c36 => ?_)
          · skip
            first | exact absurd c36 (by decide) | exact absurd (by decide) c36
          · skip
            refine lv_iconst (v := (-1)) hx hb d_M_publish_39 (by decide) ?_
            refine lv_goto (tgt := 56) hx hb d_M_publish_40 (by decide) ?_
            refine lv_istore (lv' := [(5, .int ((-1))), (4, .int (nI 1)), (0, .ref x), (1, .int who), (2, .int v0), (3, .int sum)]) hx hb d_M_publish_56 hl (by decide) rfl (fun ls hl => ?_)
            refine lv_iload hx hb d_M_publish_58 (lv_at hl 1 rfl) ?_
            refine lv_if_ne (tgt := 118) hx hb d_M_publish_60 (by decide) (fun c60 => ?_) (fun c60 => ?_)
            · skip
              refine lv_iconst (v := nI 0) hx hb d_M_publish_118 (by decide) ?_
              refine lv_istore (lv' := [(6, .int (nI 0)), (5, .int ((-1))), (4, .int (nI 1)), (0, .ref x), (1, .int who), (2, .int v0), (3, .int sum)]) hx hb d_M_publish_119 hl (by decide) rfl (fun ls hl => ?_)
              refine lv_aload_n hx hb d_M_publish_121 rfl (lv_at hl 3 rfl) ?_
              refine lv_iload hx hb d_M_publish_122 (lv_at hl 2 rfl) ?_
              refine lv_iload hx hb d_M_publish_124 (lv_at hl 0 rfl) ?_
              refine lv_if_eq (tgt := 136) hx hb d_M_publish_126 (by decide) (fun c126 => ?_) (fun c126 => ?_)
              · skip
                refine lv_iconst (v := nI 1) hx hb d_M_publish_136 (by decide) ?_
                refine lv_goto (tgt := 141) hx hb d_M_publish_137 (by decide) ?_
                refine aM (rV (As := [.int (nI 1), .int (nI 1)]) (rest := []) C0 (c_M_refuses l g _ x ad _ _ _ hm.1 true true) (m_zK hZ hm) k_M_publish_141 rfl rfl ⟨Nat.le_of_ble_eq_true rfl, Nat.le_of_ble_eq_true rfl⟩ (m_recv hK hm) rfl hl.1 rfl (Nat.le_of_ble_eq_true rfl) d_M_publish_141 ⟨Nat.zero_le _, Nat.zero_le _⟩) hm (fun v F1 A1 B1 H locs hp hm => ?_)
                obtain ⟨rfl, eF, eA, eB⟩ := hp
                rw [eF, eA, eB] at hm
                clear eF eA eB
                have hm : mS g s.heap H x ad (upd Fg 0 (nI 1)) Ag B locs := hm
                refine W.eq (g2 := F0 m 144 ls [.int (bI true)]) rfl ?_
                refine z_eq (tgt := 151) (v := true) hx hb d_M_publish_144 (by decide) (fun c144 => ?_) (fun c144 => ?_)
                · skip
                  first | exact absurd c144 (by decide) | exact absurd (by decide) c144
                · skip
                  refine lv_iconst (v := nI 0) hx hb d_M_publish_147 (by decide) ?_
                  refine lv_goto (tgt := 159) hx hb d_M_publish_148 (by decide) ?_
                  have hcd : cd = 1 := hcd.symm
                  subst hcd
                  exact W.iret hx hb hr (fun t9 ht hW => ⟨_, _, _, _, rfl, by rw [ht]; exact ⟨hm.1, hm.2.1, hm.2.2.1, fun _ h => by cases h⟩, ⟨rfl, lo_u hlF, rfl, fun o => by rw [if_neg (by decide)]; exact aI_lo hlA hai⟩⟩) hm.2.2.2 d_M_publish_159 hlk
              · skip
                first | exact absurd c126 (by decide) | exact absurd (by decide) c126
            · skip
              first | exact absurd c60 (by decide) | exact absurd (by decide) c60
  · skip
    simp only [if_neg hN] at hp
    obtain ⟨rfl, eF, eA, eB⟩ := hp
    rw [eF, eA, eB] at hm
    clear eF eA eB
    refine W.eq (g2 := F0 m 5 ls [.int (bI false)]) rfl ?_
    have hlF : lo (upd F 2 (nI 0)) (upd F 2 (nI 0)) := lo_rf _
    have hlA : lo A A := lo_rf _
    refine z_eq (tgt := 22) (v := false) hx hb d_M_publish_5 (by decide) (fun c5 => ?_) (fun c5 => ?_)
    · skip
      refine lv_iconst (v := nI 1) hx hb d_M_publish_22 (by decide) ?_
      refine lv_goto (tgt := 27) hx hb d_M_publish_23 (by decide) ?_
      have hb9 : (nameM T 0 T.length && (isP who && isV v0)) = false := by rw [Bool.eq_false_iff.mpr hN]; rfl
      rw [hb9, endC, if_pos (by rfl)] at hcd
      refine lv_istore (lv' := [(4, .int (nI 1)), (0, .ref x), (1, .int who), (2, .int v0), (3, .int sum)]) hx hb d_M_publish_27 hl (by decide) rfl (fun ls hl => ?_)
      refine lv_aload_n hx hb d_M_publish_29 rfl (lv_at hl 1 rfl) ?_
      refine lv_iconst (v := nI 4) hx hb d_M_publish_30 (by decide) ?_
      refine aM (rV (As := [.int (nI 4)]) (rest := []) C0 (c_M_goThrough l g _ x ad _ _ _ hm.1 4 (by decide) rows (refR_lo hlA hai.1) tb htb) (m_zK hZ hm) k_M_publish_31 rfl rfl ⟨Nat.le_of_ble_eq_true rfl, Nat.le_of_ble_eq_true rfl⟩ (m_recv hK hm) rfl hl.1 rfl (Nat.le_of_ble_eq_true rfl) d_M_publish_31 ⟨Nat.zero_le _, Nat.zero_le _⟩) hm (fun v Fg Ag Bg H locs hp hm => ?_)
      obtain ⟨rfl, hbF, hbA, eB, hTT⟩ := hp
      rw [eB] at hm
      clear eB
      have hok := ok_ref hai.1 htb
      have h120 : rows.length ≤ 120 := hai.1.1
      obtain ⟨ok1, ok2, ok3, ok4, ok5⟩ := id hok
      have hlF : lo Fg _ := lo_tr (lo_bt hbF) hlF
      have hlA : lo Ag A := lo_tr (lo_bt hbA) hlA
      refine W.eq (g2 := F0 m 34 ls []) rfl ?_
      have g12 : Ag 12 4 = nI rows.length := by rw [hlA 12 (by omega)]; exact hai.1.2.1
      refine lv_iload hx hb d_M_publish_34 (lv_at hl 0 rfl) ?_
      refine lv_if_eq (tgt := 43) hx hb d_M_publish_36 (by decide) (fun c36 => ?_) (fun c36 => ?_)
      · skip
        first | exact absurd c36 (by decide) | exact absurd (by decide) c36
      · skip
        refine lv_iconst (v := (-1)) hx hb d_M_publish_39 (by decide) ?_
        refine lv_goto (tgt := 56) hx hb d_M_publish_40 (by decide) ?_
        refine lv_istore (lv' := [(5, .int ((-1))), (4, .int (nI 1)), (0, .ref x), (1, .int who), (2, .int v0), (3, .int sum)]) hx hb d_M_publish_56 hl (by decide) rfl (fun ls hl => ?_)
        refine lv_iload hx hb d_M_publish_58 (lv_at hl 1 rfl) ?_
        refine lv_if_ne (tgt := 118) hx hb d_M_publish_60 (by decide) (fun c60 => ?_) (fun c60 => ?_)
        · skip
          refine lv_iconst (v := nI 0) hx hb d_M_publish_118 (by decide) ?_
          refine lv_istore (lv' := [(6, .int (nI 0)), (5, .int ((-1))), (4, .int (nI 1)), (0, .ref x), (1, .int who), (2, .int v0), (3, .int sum)]) hx hb d_M_publish_119 hl (by decide) rfl (fun ls hl => ?_)
          refine lv_aload_n hx hb d_M_publish_121 rfl (lv_at hl 3 rfl) ?_
          refine lv_iload hx hb d_M_publish_122 (lv_at hl 2 rfl) ?_
          refine lv_iload hx hb d_M_publish_124 (lv_at hl 0 rfl) ?_
          refine lv_if_eq (tgt := 136) hx hb d_M_publish_126 (by decide) (fun c126 => ?_) (fun c126 => ?_)
          · skip
            refine lv_iconst (v := nI 1) hx hb d_M_publish_136 (by decide) ?_
            refine lv_goto (tgt := 141) hx hb d_M_publish_137 (by decide) ?_
            refine aM (rV (As := [.int (nI 1), .int (nI 1)]) (rest := []) C0 (c_M_refuses l g _ x ad _ _ _ hm.1 true true) (m_zK hZ hm) k_M_publish_141 rfl rfl ⟨Nat.le_of_ble_eq_true rfl, Nat.le_of_ble_eq_true rfl⟩ (m_recv hK hm) rfl hl.1 rfl (Nat.le_of_ble_eq_true rfl) d_M_publish_141 ⟨Nat.zero_le _, Nat.zero_le _⟩) hm (fun v F1 A1 B1 H locs hp hm => ?_)
            obtain ⟨rfl, eF, eA, eB⟩ := hp
            rw [eF, eA, eB] at hm
            clear eF eA eB
            have hm : mS g s.heap H x ad (upd Fg 0 (nI 1)) Ag B locs := hm
            refine W.eq (g2 := F0 m 144 ls [.int (bI true)]) rfl ?_
            refine z_eq (tgt := 151) (v := true) hx hb d_M_publish_144 (by decide) (fun c144 => ?_) (fun c144 => ?_)
            · skip
              first | exact absurd c144 (by decide) | exact absurd (by decide) c144
            · skip
              refine lv_iconst (v := nI 0) hx hb d_M_publish_147 (by decide) ?_
              refine lv_goto (tgt := 159) hx hb d_M_publish_148 (by decide) ?_
              have hcd : cd = 1 := hcd.symm
              subst hcd
              exact W.iret hx hb hr (fun t9 ht hW => ⟨_, _, _, _, rfl, by rw [ht]; exact ⟨hm.1, hm.2.1, hm.2.2.1, fun _ h => by cases h⟩, ⟨rfl, lo_u hlF, rfl, fun o => by rw [if_neg (by decide)]; exact aI_lo hlA hai⟩⟩) hm.2.2.2 d_M_publish_159 hlk
          · skip
            first | exact absurd c126 (by decide) | exact absurd (by decide) c126
        · skip
          first | exact absurd c60 (by decide) | exact absurd (by decide) c60
    · skip
      first | exact absurd c5 (by decide) | exact absurd (by decide) c5
theorem k_M_yank_2 : kV "RegistryLogModel" 161 "RegistryLogModel" y_M_takes b_M_takes 5 (some .boolean) 1 := ⟨(in_5 (List.mem_of_getElem? (i := 122) rfl) rfl), (in_5 (List.mem_of_getElem? (i := 124) rfl) rfl), (in_0 (List.mem_of_getElem? (i := 6) rfl) rfl), (in_1 (List.mem_of_getElem? (i := 22) rfl) rfl), (in_5 (List.mem_of_getElem? (i := 125) rfl) rfl), ⟨by decide, by decide, by decide +kernel⟩⟩
theorem k_M_yank_9 : kS "RegistryLogModel" 165 y_M_isPerson b_M_isPerson 1 (some .boolean) 1 := ⟨(in_5 (List.mem_of_getElem? (i := 133) rfl) rfl), (in_5 (List.mem_of_getElem? (i := 134) rfl) rfl), (in_1 (List.mem_of_getElem? (i := 22) rfl) rfl), (in_5 (List.mem_of_getElem? (i := 135) rfl) rfl), ⟨by decide, by decide, by decide +kernel⟩⟩
theorem k_M_yank_16 : kS "RegistryLogModel" 168 y_M_isVersion b_M_isVersion 1 (some .boolean) 1 := ⟨(in_5 (List.mem_of_getElem? (i := 136) rfl) rfl), (in_5 (List.mem_of_getElem? (i := 137) rfl) rfl), (in_1 (List.mem_of_getElem? (i := 22) rfl) rfl), (in_5 (List.mem_of_getElem? (i := 138) rfl) rfl), ⟨by decide, by decide, by decide +kernel⟩⟩
theorem k_M_yank_31 : kV "RegistryLogModel" 171 "RegistryLogModel" y_M_goThrough b_M_goThrough 5 none 1 := ⟨(in_5 (List.mem_of_getElem? (i := 139) rfl) rfl), (in_5 (List.mem_of_getElem? (i := 141) rfl) rfl), (in_0 (List.mem_of_getElem? (i := 8) rfl) rfl), (in_1 (List.mem_of_getElem? (i := 22) rfl) rfl), (in_5 (List.mem_of_getElem? (i := 142) rfl) rfl), ⟨by decide, by decide, by decide +kernel⟩⟩
theorem k_M_yank_53 : kV "RegistryLogModel" 142 "RegistryLogModel" y_M_met b_M_met 8 (some .int) 3 := ⟨(in_5 (List.mem_of_getElem? (i := 143) rfl) rfl), (in_5 (List.mem_of_getElem? (i := 145) rfl) rfl), (in_0 (List.mem_of_getElem? (i := 9) rfl) rfl), (in_1 (List.mem_of_getElem? (i := 22) rfl) rfl), (in_5 (List.mem_of_getElem? (i := 146) rfl) rfl), ⟨by decide, by decide, by decide +kernel⟩⟩
theorem k_M_yank_77 : kV "RegistryLogModel" 150 "RegistryLogModel" y_M_versionAt b_M_versionAt 5 (some .int) 2 := ⟨(in_5 (List.mem_of_getElem? (i := 151) rfl) rfl), (in_5 (List.mem_of_getElem? (i := 153) rfl) rfl), (in_0 (List.mem_of_getElem? (i := 11) rfl) rfl), (in_1 (List.mem_of_getElem? (i := 22) rfl) rfl), (in_5 (List.mem_of_getElem? (i := 154) rfl) rfl), ⟨by decide, by decide, by decide +kernel⟩⟩
theorem k_M_yank_91 : kV "RegistryLogModel" 178 "RegistryLogModel" y_M_hasRight b_M_hasRight 3 (some .boolean) 2 := ⟨(in_5 (List.mem_of_getElem? (i := 166) rfl) rfl), (in_5 (List.mem_of_getElem? (i := 168) rfl) rfl), (in_0 (List.mem_of_getElem? (i := 14) rfl) rfl), (in_1 (List.mem_of_getElem? (i := 22) rfl) rfl), (in_5 (List.mem_of_getElem? (i := 169) rfl) rfl), ⟨by decide, by decide, by decide +kernel⟩⟩
theorem k_M_yank_139 : kV "RegistryLogModel" 181 "RegistryLogModel" y_M_isFull b_M_isFull 1 (some .boolean) 0 := ⟨(in_5 (List.mem_of_getElem? (i := 174) rfl) rfl), (in_5 (List.mem_of_getElem? (i := 176) rfl) rfl), (in_0 (List.mem_of_getElem? (i := 16) rfl) rfl), (in_1 (List.mem_of_getElem? (i := 22) rfl) rfl), (in_5 (List.mem_of_getElem? (i := 177) rfl) rfl), ⟨by decide, by decide, by decide +kernel⟩⟩
theorem k_M_yank_150 : kV "RegistryLogModel" 185 "RegistryLogModel" y_M_refuses b_M_refuses 3 (some .boolean) 2 := ⟨(in_5 (List.mem_of_getElem? (i := 178) rfl) rfl), (in_5 (List.mem_of_getElem? (i := 180) rfl) rfl), (in_0 (List.mem_of_getElem? (i := 17) rfl) rfl), (in_1 (List.mem_of_getElem? (i := 22) rfl) rfl), (in_5 (List.mem_of_getElem? (i := 181) rfl) rfl), ⟨by decide, by decide, by decide +kernel⟩⟩
theorem k_M_yank_173 : kV "RegistryLogModel" 189 "RegistryLogModel" y_M_write b_M_write 7 (some .int) 4 := ⟨(in_5 (List.mem_of_getElem? (i := 182) rfl) rfl), (in_5 (List.mem_of_getElem? (i := 184) rfl) rfl), (in_0 (List.mem_of_getElem? (i := 18) rfl) rfl), (in_1 (List.mem_of_getElem? (i := 22) rfl) rfl), (in_5 (List.mem_of_getElem? (i := 185) rfl) rfl), ⟨by decide, by decide, by decide +kernel⟩⟩
set_option maxHeartbeats 4000000 in
set_option maxRecDepth 100000 in
/-- yank -/
theorem c_M_yank (l : Launch) (g : gG) (H : Heap) (x : Nat) (ad : Nat → Nat) (F : Nat → Int32) (A : Nat → Nat → Int32) (B : Nat → Nat → Int64) (hm0 : mW g H x ad F A B) (T : List Nat) (hT : ∀ k, k < T.length → A 1 k = nI (T.getD k 0)) (hc : ∀ k, T.getD k 0 < 128) (hT24 : T.length ≤ 24) (hty : F 2 = nI T.length) (rows : List Rw) (mir : Nat → List Rw) (hai : aI A rows mir) (tb : Tb) (htb : foT rows = some tb) (who v0 : Int32) (on : Bool) (cd : Nat) (hcd : endC (!(nameM T 0 T.length && (isP who && isV v0))) (yanT tb T who v0 on) rows.length = cd) : Met l y_M_yank (wC y_M_yank b_M_yank 8 (some .int)) (rmk 3 0 0 77) (pC g H [.ref x, .int who, .int v0, .int (bI on)]) (qM g H x ad (fun v F1 A1 B1 => v = some (.int (if cd = 0 then nI rows.length else 0)) ∧ lo F1 (upd (upd F 2 (nI 0)) 0 (nI cd)) ∧ B1 = B ∧ ∀ o, aI A1 (if cd = 0 then rows ++ [(1, who, T, T, v0, bI on, o)] else rows) mir)) 0 0 (mN x ad) := by
  refine mB (by decide) (Nat.le_of_ble_eq_true rfl) ?_
  intro p e s m below meth c ls C0 hH hZ hnm hl
  have C0 : cF g p s m _ meth c b_M_yank 8 "RegistryLogModel" (some .int) := C0
  obtain ⟨hx, hb, hml, hown, hts, hr, hlk, hK⟩ := id C0
  subst hH
  have hl : lv_has ls 8 [(0, .ref x), (1, .int who), (2, .int v0), (3, .int (bI on))] := hl
  have hm := mS.rf hm0
  refine lv_aload_n hx hb d_M_yank_0 rfl (lv_at hl 0 rfl) ?_
  refine lv_iconst (v := nI 0) hx hb d_M_yank_1 (by decide) ?_
  refine aM (rV (As := [.int (nI 0)]) (rest := []) C0 (c_M_takes0 l g _ x ad _ _ _ hm.1 T hT hc hT24 hty) (m_zK hZ hm) k_M_yank_2 rfl rfl ⟨Nat.le_of_ble_eq_true rfl, Nat.le_of_ble_eq_true rfl⟩ (m_recv hK hm) rfl hl.1 rfl (Nat.le_of_ble_eq_true rfl) d_M_yank_2 ⟨Nat.zero_le _, Nat.zero_le _⟩) hm (fun v F1 A1 B1 H locs hp hm => ?_)
  by_cases hN : nameM T 0 T.length = true
  · skip
    simp only [if_pos hN] at hp
    obtain ⟨rfl, eF, eA, eB⟩ := hp
    rw [eF, eA, eB] at hm
    clear eF eA eB
    have h10 := nameM_le hN
    refine W.eq (g2 := F0 m 5 ls [.int (bI true)]) rfl ?_
    have hlF : lo (upd (upd (upd F 2 (nI 0)) 32 (nI T.length)) 33 (nI 0)) (upd F 2 (nI 0)) := lo_tr (lo_hi (by omega)) (lo_hi (by omega))
    have hlA : lo (updA A 30 (va_cpy (A 1) (A 30) 0 0 T.length)) A := lo_hA (by omega)
    have hx30 : txt (updA A 30 (va_cpy (A 1) (A 30) 0 0 T.length)) 30 0 T := fun k hk => (show va_cpy (A 1) (A 30) 0 0 T.length (0 + k) = nI (T.getD k 0) from by rw [cpy_in hk, Nat.zero_add]; exact hT k hk)
    refine z_eq (tgt := 22) (v := true) hx hb d_M_yank_5 (by decide) (fun c5 => ?_) (fun c5 => ?_)
    · skip
      first | exact absurd c5 (by decide) | exact absurd (by decide) c5
    · skip
      refine lv_iload_n hx hb d_M_yank_8 rfl (lv_at hl 1 rfl) ?_
      refine aP (rS (As := [.int who]) (rest := []) C0 (c_M_isPerson l g _ who) (m_zK hZ hm) k_M_yank_9 rfl rfl ⟨Nat.le_of_ble_eq_true rfl, Nat.le_of_ble_eq_true rfl⟩ rfl hl.1 rfl (Nat.le_of_ble_eq_true rfl) d_M_yank_9 ⟨Nat.zero_le _, Nat.zero_le _⟩) ?_
      intro v hv; subst hv
      refine W.eq (g2 := F0 m 12 ls [.int (bI (isP who))]) rfl ?_
      refine z_eq (tgt := 22) (v := isP who) hx hb d_M_yank_12 (by decide) (fun c12 => ?_) (fun c12 => ?_)
      · skip
        refine lv_iconst (v := nI 1) hx hb d_M_yank_22 (by decide) ?_
        refine lv_goto (tgt := 27) hx hb d_M_yank_23 (by decide) ?_
        have hb9 : (nameM T 0 T.length && (isP who && isV v0)) = false := by rw [c12, Bool.false_and, Bool.and_false]
        rw [hb9, endC, if_pos (by rfl)] at hcd
        refine lv_istore (lv' := [(4, .int (nI 1)), (0, .ref x), (1, .int who), (2, .int v0), (3, .int (bI on))]) hx hb d_M_yank_27 hl (by decide) rfl (fun ls hl => ?_)
        refine lv_aload_n hx hb d_M_yank_29 rfl (lv_at hl 1 rfl) ?_
        refine lv_iconst (v := nI 4) hx hb d_M_yank_30 (by decide) ?_
        refine aM (rV (As := [.int (nI 4)]) (rest := []) C0 (c_M_goThrough l g _ x ad _ _ _ hm.1 4 (by decide) rows (refR_lo hlA hai.1) tb htb) (m_zK hZ hm) k_M_yank_31 rfl rfl ⟨Nat.le_of_ble_eq_true rfl, Nat.le_of_ble_eq_true rfl⟩ (m_recv hK hm) rfl hl.1 rfl (Nat.le_of_ble_eq_true rfl) d_M_yank_31 ⟨Nat.zero_le _, Nat.zero_le _⟩) hm (fun v Fg Ag Bg H locs hp hm => ?_)
        obtain ⟨rfl, hbF, hbA, eB, hTT⟩ := hp
        rw [eB] at hm
        clear eB
        have hok := ok_ref hai.1 htb
        have h120 : rows.length ≤ 120 := hai.1.1
        obtain ⟨ok1, ok2, ok3, ok4, ok5⟩ := id hok
        have hlF : lo Fg _ := lo_tr (lo_bt hbF) hlF
        have hlA : lo Ag A := lo_tr (lo_bt hbA) hlA
        refine W.eq (g2 := F0 m 34 ls []) rfl ?_
        have g32 : Fg 32 = nI T.length := by rw [hbF 32 (by omega)]; rfl
        have g33 : Fg 33 = nI 0 := by rw [hbF 33 (by omega)]; rfl
        have hx30 : txt Ag 30 0 T := by unfold txt; rw [hbA 30 (by omega)]; exact hx30
        have g12 : Ag 12 4 = nI rows.length := by rw [hlA 12 (by omega)]; exact hai.1.2.1
        refine lv_iload hx hb d_M_yank_34 (lv_at hl 0 rfl) ?_
        refine lv_if_eq (tgt := 43) hx hb d_M_yank_36 (by decide) (fun c36 => ?_) (fun c36 => ?_)
        · skip
          first | exact absurd c36 (by decide) | exact absurd (by decide) c36
        · skip
          refine lv_iconst (v := (-1)) hx hb d_M_yank_39 (by decide) ?_
          refine lv_goto (tgt := 56) hx hb d_M_yank_40 (by decide) ?_
          refine lv_istore (lv' := [(5, .int ((-1))), (4, .int (nI 1)), (0, .ref x), (1, .int who), (2, .int v0), (3, .int (bI on))]) hx hb d_M_yank_56 hl (by decide) rfl (fun ls hl => ?_)
          refine lv_iload hx hb d_M_yank_58 (lv_at hl 0 rfl) ?_
          refine lv_iconst (v := (-1)) hx hb d_M_yank_60 (by decide) ?_
          refine lv_icmp_ne (tgt := 68) hx hb d_M_yank_61 (by decide) (fun c61 => ?_) (fun c61 => ?_)
          · skip
            first | exact absurd c61 (by decide) | exact absurd (by decide) c61
          · skip
            refine lv_iconst (v := (-1)) hx hb d_M_yank_64 (by decide) ?_
            refine lv_goto (tgt := 80) hx hb d_M_yank_65 (by decide) ?_
            refine lv_istore (lv' := [(6, .int ((-1))), (5, .int ((-1))), (4, .int (nI 1)), (0, .ref x), (1, .int who), (2, .int v0), (3, .int (bI on))]) hx hb d_M_yank_80 hl (by decide) rfl (fun ls hl => ?_)
            refine lv_iload hx hb d_M_yank_82 (lv_at hl 2 rfl) ?_
            refine lv_if_ne (tgt := 127) hx hb d_M_yank_84 (by decide) (fun c84 => ?_) (fun c84 => ?_)
            · skip
              refine lv_iconst (v := nI 0) hx hb d_M_yank_127 (by decide) ?_
              refine lv_istore (lv' := [(7, .int (nI 0)), (6, .int ((-1))), (5, .int ((-1))), (4, .int (nI 1)), (0, .ref x), (1, .int who), (2, .int v0), (3, .int (bI on))]) hx hb d_M_yank_128 hl (by decide) rfl (fun ls hl => ?_)
              refine lv_aload_n hx hb d_M_yank_130 rfl (lv_at hl 4 rfl) ?_
              refine lv_iload hx hb d_M_yank_131 (lv_at hl 3 rfl) ?_
              refine lv_iload hx hb d_M_yank_133 (lv_at hl 0 rfl) ?_
              refine lv_if_eq (tgt := 145) hx hb d_M_yank_135 (by decide) (fun c135 => ?_) (fun c135 => ?_)
              · skip
                refine lv_iconst (v := nI 1) hx hb d_M_yank_145 (by decide) ?_
                refine lv_goto (tgt := 150) hx hb d_M_yank_146 (by decide) ?_
                refine aM (rV (As := [.int (nI 1), .int (nI 1)]) (rest := []) C0 (c_M_refuses l g _ x ad _ _ _ hm.1 true true) (m_zK hZ hm) k_M_yank_150 rfl rfl ⟨Nat.le_of_ble_eq_true rfl, Nat.le_of_ble_eq_true rfl⟩ (m_recv hK hm) rfl hl.1 rfl (Nat.le_of_ble_eq_true rfl) d_M_yank_150 ⟨Nat.zero_le _, Nat.zero_le _⟩) hm (fun v F1 A1 B1 H locs hp hm => ?_)
                obtain ⟨rfl, eF, eA, eB⟩ := hp
                rw [eF, eA, eB] at hm
                clear eF eA eB
                have hm : mS g s.heap H x ad (upd Fg 0 (nI 1)) Ag B locs := hm
                refine W.eq (g2 := F0 m 153 ls [.int (bI true)]) rfl ?_
                refine z_eq (tgt := 160) (v := true) hx hb d_M_yank_153 (by decide) (fun c153 => ?_) (fun c153 => ?_)
                · skip
                  first | exact absurd c153 (by decide) | exact absurd (by decide) c153
                · skip
                  refine lv_iconst (v := nI 0) hx hb d_M_yank_156 (by decide) ?_
                  refine lv_goto (tgt := 176) hx hb d_M_yank_157 (by decide) ?_
                  have hcd : cd = 1 := hcd.symm
                  subst hcd
                  exact W.iret hx hb hr (fun t9 ht hW => ⟨_, _, _, _, rfl, by rw [ht]; exact ⟨hm.1, hm.2.1, hm.2.2.1, fun _ h => by cases h⟩, ⟨rfl, lo_u hlF, rfl, fun o => by rw [if_neg (by decide)]; exact aI_lo hlA hai⟩⟩) hm.2.2.2 d_M_yank_176 hlk
              · skip
                first | exact absurd c135 (by decide) | exact absurd (by decide) c135
            · skip
              first | exact absurd c84 (by decide) | exact absurd (by decide) c84
      · skip
        refine lv_iload_n hx hb d_M_yank_15 rfl (lv_at hl 2 rfl) ?_
        refine aP (rS (As := [.int v0]) (rest := []) C0 (c_M_isVersion l g _ v0) (m_zK hZ hm) k_M_yank_16 rfl rfl ⟨Nat.le_of_ble_eq_true rfl, Nat.le_of_ble_eq_true rfl⟩ rfl hl.1 rfl (Nat.le_of_ble_eq_true rfl) d_M_yank_16 ⟨Nat.zero_le _, Nat.zero_le _⟩) ?_
        intro v hv; subst hv
        refine W.eq (g2 := F0 m 19 ls [.int (bI (isV v0))]) rfl ?_
        refine z_ne (tgt := 26) (v := isV v0) hx hb d_M_yank_19 (by decide) (fun c19 => ?_) (fun c19 => ?_)
        · skip
          refine lv_iconst (v := nI 0) hx hb d_M_yank_26 (by decide) ?_
          have hb9 : (nameM T 0 T.length && (isP who && isV v0)) = true := by rw [hN, c12, c19]; rfl
          rw [hb9, endC, if_neg (by decide), yanT] at hcd
          obtain ⟨wn, hwn, ewn⟩ := ix_ (n := 8) (by decide) c12
          subst ewn
          refine lv_istore (lv' := [(4, .int (nI 0)), (0, .ref x), (1, .int (nI wn)), (2, .int v0), (3, .int (bI on))]) hx hb d_M_yank_27 hl (by decide) rfl (fun ls hl => ?_)
          refine lv_aload_n hx hb d_M_yank_29 rfl (lv_at hl 1 rfl) ?_
          refine lv_iconst (v := nI 4) hx hb d_M_yank_30 (by decide) ?_
          refine aM (rV (As := [.int (nI 4)]) (rest := []) C0 (c_M_goThrough l g _ x ad _ _ _ hm.1 4 (by decide) rows (refR_lo hlA hai.1) tb htb) (m_zK hZ hm) k_M_yank_31 rfl rfl ⟨Nat.le_of_ble_eq_true rfl, Nat.le_of_ble_eq_true rfl⟩ (m_recv hK hm) rfl hl.1 rfl (Nat.le_of_ble_eq_true rfl) d_M_yank_31 ⟨Nat.zero_le _, Nat.zero_le _⟩) hm (fun v Fg Ag Bg H locs hp hm => ?_)
          obtain ⟨rfl, hbF, hbA, eB, hTT⟩ := hp
          rw [eB] at hm
          clear eB
          have hok := ok_ref hai.1 htb
          have h120 : rows.length ≤ 120 := hai.1.1
          obtain ⟨ok1, ok2, ok3, ok4, ok5⟩ := id hok
          have hlF : lo Fg _ := lo_tr (lo_bt hbF) hlF
          have hlA : lo Ag A := lo_tr (lo_bt hbA) hlA
          refine W.eq (g2 := F0 m 34 ls []) rfl ?_
          have g32 : Fg 32 = nI T.length := by rw [hbF 32 (by omega)]; rfl
          have g33 : Fg 33 = nI 0 := by rw [hbF 33 (by omega)]; rfl
          have hx30 : txt Ag 30 0 T := by unfold txt; rw [hbA 30 (by omega)]; exact hx30
          have g12 : Ag 12 4 = nI rows.length := by rw [hlA 12 (by omega)]; exact hai.1.2.1
          refine lv_iload hx hb d_M_yank_34 (lv_at hl 0 rfl) ?_
          refine lv_if_eq (tgt := 43) hx hb d_M_yank_36 (by decide) (fun c36 => ?_) (fun c36 => ?_)
          · skip
            refine lv_aload_n hx hb d_M_yank_43 rfl (lv_at hl 1 rfl) ?_
            refine lv_aload_n hx hb d_M_yank_44 rfl (lv_at hl 1 rfl) ?_
            refine m_get hx hb hts hown hK hm 30 (by decide) (hts (.fieldLink "RegistryLogModel" 80 "RegistryLogModel" "one" "[I") (in_4 (List.mem_of_getElem? (i := 239) rfl) rfl)) rfl (v := .ref (ad 30)) rfl d_M_yank_45 ?_
            refine lv_iconst (v := nI 0) hx hb d_M_yank_48 (by decide) ?_
            refine lv_aload_n hx hb d_M_yank_49 rfl (lv_at hl 1 rfl) ?_
            refine m_get hx hb hts hown hK hm 32 (by decide) (hts (.fieldLink "RegistryLogModel" 123 "RegistryLogModel" "oneSize" "I") (in_5 (List.mem_of_getElem? (i := 1) rfl) rfl)) rfl (v := .int (nI T.length)) (congrArg (fun z => some (Value.int z)) g32) d_M_yank_50 ?_
            refine aM (rV (As := [.ref (ad 30), .int (nI 0), .int (nI T.length)]) (rest := []) C0 (c_M_met l g _ x ad _ _ _ hm.1 30 0 T.length tb.1.length rfl (by omega) (by show 0 + T.length ≤ 10; omega) hTT.1 (by omega)) (m_zK hZ hm) k_M_yank_53 rfl rfl ⟨Nat.le_of_ble_eq_true rfl, Nat.le_of_ble_eq_true rfl⟩ (m_recv hK hm) rfl hl.1 rfl (Nat.le_of_ble_eq_true rfl) d_M_yank_53 ⟨Nat.zero_le _, Nat.zero_le _⟩) hm (fun v F1 A1 B1 H locs hp hm => ?_)
            obtain ⟨rfl, eF, eA, eB⟩ := hp
            rw [eF, eA, eB] at hm
            clear eF eA eB
            rw [show metA Ag 30 0 T.length tb.1.length 0 (-1) = oI (mtT tb T) from metA_T hTT hok hx30 (by omega) hc]
            rcases hmm : mtT tb T with _ | kk
            · skip
              rw [hmm] at hcd
              dsimp only at hcd
              refine W.eq (g2 := F0 m 56 ls [.int ((-1))]) rfl ?_
              refine lv_istore (lv' := [(5, .int ((-1))), (4, .int (nI 0)), (0, .ref x), (1, .int (nI wn)), (2, .int v0), (3, .int (bI on))]) hx hb d_M_yank_56 hl (by decide) rfl (fun ls hl => ?_)
              refine lv_iload hx hb d_M_yank_58 (lv_at hl 0 rfl) ?_
              refine lv_iconst (v := (-1)) hx hb d_M_yank_60 (by decide) ?_
              refine lv_icmp_ne (tgt := 68) hx hb d_M_yank_61 (by decide) (fun c61 => ?_) (fun c61 => ?_)
              · skip
                first | exact absurd c61 (by decide) | exact absurd (by decide) c61
              · skip
                refine lv_iconst (v := (-1)) hx hb d_M_yank_64 (by decide) ?_
                refine lv_goto (tgt := 80) hx hb d_M_yank_65 (by decide) ?_
                refine lv_istore (lv' := [(6, .int ((-1))), (5, .int ((-1))), (4, .int (nI 0)), (0, .ref x), (1, .int (nI wn)), (2, .int v0), (3, .int (bI on))]) hx hb d_M_yank_80 hl (by decide) rfl (fun ls hl => ?_)
                refine lv_iload hx hb d_M_yank_82 (lv_at hl 2 rfl) ?_
                refine lv_if_ne (tgt := 127) hx hb d_M_yank_84 (by decide) (fun c84 => ?_) (fun c84 => ?_)
                · skip
                  first | exact absurd c84 (by decide) | exact absurd (by decide) c84
                · skip
                  refine lv_aload_n hx hb d_M_yank_87 rfl (lv_at hl 3 rfl) ?_
                  refine lv_iload hx hb d_M_yank_88 (lv_at hl 1 rfl) ?_
                  refine lv_iload_n hx hb d_M_yank_90 rfl (lv_at hl 4 rfl) ?_
                  refine aP (rV (As := [.int ((-1)), .int (nI wn)]) (rest := []) C0 (c_M_hasRight0 l g _ x ad _ _ _ hm.1 (nI wn)) (m_zK hZ hm) k_M_yank_91 rfl rfl ⟨Nat.le_of_ble_eq_true rfl, Nat.le_of_ble_eq_true rfl⟩ (m_recv hK hm) rfl hl.1 rfl (Nat.le_of_ble_eq_true rfl) d_M_yank_91 ⟨Nat.zero_le _, Nat.zero_le _⟩) ?_
                  intro v hv; subst hv
                  refine W.eq (g2 := F0 m 94 ls [.int (bI false)]) rfl ?_
                  refine z_eq (tgt := 127) (v := false) hx hb d_M_yank_94 (by decide) (fun c94 => ?_) (fun c94 => ?_)
                  · skip
                    refine lv_iconst (v := nI 0) hx hb d_M_yank_127 (by decide) ?_
                    refine lv_istore (lv' := [(7, .int (nI 0)), (6, .int ((-1))), (5, .int ((-1))), (4, .int (nI 0)), (0, .ref x), (1, .int (nI wn)), (2, .int v0), (3, .int (bI on))]) hx hb d_M_yank_128 hl (by decide) rfl (fun ls hl => ?_)
                    refine lv_aload_n hx hb d_M_yank_130 rfl (lv_at hl 4 rfl) ?_
                    refine lv_iload hx hb d_M_yank_131 (lv_at hl 3 rfl) ?_
                    refine lv_iload hx hb d_M_yank_133 (lv_at hl 0 rfl) ?_
                    refine lv_if_eq (tgt := 145) hx hb d_M_yank_135 (by decide) (fun c135 => ?_) (fun c135 => ?_)
                    · skip
                      refine lv_iconst (v := nI 1) hx hb d_M_yank_145 (by decide) ?_
                      refine lv_goto (tgt := 150) hx hb d_M_yank_146 (by decide) ?_
                      refine aM (rV (As := [.int (nI 0), .int (nI 1)]) (rest := []) C0 (c_M_refuses l g _ x ad _ _ _ hm.1 false true) (m_zK hZ hm) k_M_yank_150 rfl rfl ⟨Nat.le_of_ble_eq_true rfl, Nat.le_of_ble_eq_true rfl⟩ (m_recv hK hm) rfl hl.1 rfl (Nat.le_of_ble_eq_true rfl) d_M_yank_150 ⟨Nat.zero_le _, Nat.zero_le _⟩) hm (fun v F1 A1 B1 H locs hp hm => ?_)
                      obtain ⟨rfl, eF, eA, eB⟩ := hp
                      rw [eF, eA, eB] at hm
                      clear eF eA eB
                      have hm : mS g s.heap H x ad (upd Fg 0 (nI 2)) Ag B locs := hm
                      refine W.eq (g2 := F0 m 153 ls [.int (bI true)]) rfl ?_
                      refine z_eq (tgt := 160) (v := true) hx hb d_M_yank_153 (by decide) (fun c153 => ?_) (fun c153 => ?_)
                      · skip
                        first | exact absurd c153 (by decide) | exact absurd (by decide) c153
                      · skip
                        refine lv_iconst (v := nI 0) hx hb d_M_yank_156 (by decide) ?_
                        refine lv_goto (tgt := 176) hx hb d_M_yank_157 (by decide) ?_
                        have hcd : cd = 2 := hcd.symm.trans (by simp [])
                        subst hcd
                        exact W.iret hx hb hr (fun t9 ht hW => ⟨_, _, _, _, rfl, by rw [ht]; exact ⟨hm.1, hm.2.1, hm.2.2.1, fun _ h => by cases h⟩, ⟨rfl, lo_u hlF, rfl, fun o => by rw [if_neg (by decide)]; exact aI_lo hlA hai⟩⟩) hm.2.2.2 d_M_yank_176 hlk
                    · skip
                      first | exact absurd c135 (by decide) | exact absurd (by decide) c135
                  · skip
                    first | exact absurd c94 (by decide) | exact absurd (by decide) c94
            · skip
              rw [hmm] at hcd
              dsimp only at hcd
              have hkk : kk < tb.1.length := mtT_lt hmm
              obtain ⟨n1, n2, n3, n4⟩ := hTT.2.2.2.1 kk hkk
              obtain ⟨p1, p2, p3⟩ := ok4 kk hkk
              obtain ⟨w1, w2⟩ := hTT.2.2.2.2.1 _ p3
              refine W.eq (g2 := F0 m 56 ls [.int (nI kk)]) rfl ?_
              refine lv_istore (lv' := [(5, .int (nI kk)), (4, .int (nI 0)), (0, .ref x), (1, .int (nI wn)), (2, .int v0), (3, .int (bI on))]) hx hb d_M_yank_56 hl (by decide) rfl (fun ls hl => ?_)
              refine lv_iload hx hb d_M_yank_58 (lv_at hl 0 rfl) ?_
              refine lv_iconst (v := (-1)) hx hb d_M_yank_60 (by decide) ?_
              refine lv_icmp_ne (tgt := 68) hx hb d_M_yank_61 (by decide) (fun c61 => ?_) (fun c61 => ?_)
              · skip
                refine lv_aload_n hx hb d_M_yank_68 rfl (lv_at hl 2 rfl) ?_
                refine lv_aload_n hx hb d_M_yank_69 rfl (lv_at hl 2 rfl) ?_
                refine m_get hx hb hts hown hK hm 20 (by decide) (hts (.fieldLink "RegistryLogModel" 59 "RegistryLogModel" "nameOf" "[I") (in_4 (List.mem_of_getElem? (i := 229) rfl) rfl)) rfl (v := .ref (ad 20)) rfl d_M_yank_70 ?_
                refine lv_iload hx hb d_M_yank_73 (lv_at hl 0 rfl) ?_
                refine m_ld hx hb hK hm 20 rfl kk rfl (show kk < 240 from by omega) d_M_yank_75 ?_
                refine W.eq (g2 := F0 m 76 ls [.int (nI ((nmT tb kk).2.2)), .ref x]) (by rw [n4]) ?_
                refine lv_iload_n hx hb d_M_yank_76 rfl (lv_at hl 4 rfl) ?_
                refine aP (rV (As := [.int (nI ((nmT tb kk).2.2)), .int v0]) (rest := []) C0 (c_M_versionAt l g _ x ad _ _ _ hm.1 tb.2.2.length hTT.2.2.1 (by omega) (nI (nmT tb kk).2.2) v0) (m_zK hZ hm) k_M_yank_77 rfl rfl ⟨Nat.le_of_ble_eq_true rfl, Nat.le_of_ble_eq_true rfl⟩ (m_recv hK hm) rfl hl.1 rfl (Nat.le_of_ble_eq_true rfl) d_M_yank_77 ⟨Nat.zero_le _, Nat.zero_le _⟩) ?_
                intro v9 hv; subst hv
                rw [show vaL Ag (nI (nmT tb kk).2.2) v0 tb.2.2.length 0 (-1) = oI (vtT tb (nmT tb kk).2.2 v0) from vaL_T hTT hok h120 (by omega)]
                rcases hvv : vtT tb (nmT tb kk).2.2 v0 with _ | vk
                · skip
                  simp only [hvv] at hcd
                  refine W.eq (g2 := F0 m 80 ls [.int ((-1))]) rfl ?_
                  refine lv_istore (lv' := [(6, .int ((-1))), (5, .int (nI kk)), (4, .int (nI 0)), (0, .ref x), (1, .int (nI wn)), (2, .int v0), (3, .int (bI on))]) hx hb d_M_yank_80 hl (by decide) rfl (fun ls hl => ?_)
                  refine lv_iload hx hb d_M_yank_82 (lv_at hl 2 rfl) ?_
                  refine lv_if_ne (tgt := 127) hx hb d_M_yank_84 (by decide) (fun c84 => ?_) (fun c84 => ?_)
                  · skip
                    first | exact absurd c84 (by decide) | exact absurd (by decide) c84
                  · skip
                    refine lv_aload_n hx hb d_M_yank_87 rfl (lv_at hl 3 rfl) ?_
                    refine lv_iload hx hb d_M_yank_88 (lv_at hl 1 rfl) ?_
                    refine lv_iload_n hx hb d_M_yank_90 rfl (lv_at hl 4 rfl) ?_
                    refine aP (rV (As := [.int (nI kk), .int (nI wn)]) (rest := []) C0 (c_M_hasRight l g _ x ad _ _ _ hm.1 kk (nmT tb kk).2.2 wn (by omega) n4 (by omega)) (m_zK hZ hm) k_M_yank_91 rfl rfl ⟨Nat.le_of_ble_eq_true rfl, Nat.le_of_ble_eq_true rfl⟩ (m_recv hK hm) rfl hl.1 rfl (Nat.le_of_ble_eq_true rfl) d_M_yank_91 ⟨Nat.zero_le _, Nat.zero_le _⟩) ?_
                    intro v hv; subst hv
                    have eh : decide (Ag 19 kk = nI 1 ∧ (Ag 21 (nmT tb kk).2.2 = nI wn ∨ rbit (Ag 22 (nmT tb kk).2.2) wn = true)) = hrT tb kk (nI wn) := by rw [hrT, decide_eq_decide, n3, w1, w2, nI_clamp (by omega)]; exact Iff.rfl
                    rw [eh]
                    clear eh
                    refine W.eq (g2 := F0 m 94 ls [.int (bI (hrT tb kk (nI wn)))]) rfl ?_
                    refine z_eq (tgt := 127) (v := hrT tb kk (nI wn)) hx hb d_M_yank_94 (by decide) (fun c94 => ?_) (fun c94 => ?_)
                    · skip
                      refine lv_iconst (v := nI 0) hx hb d_M_yank_127 (by decide) ?_
                      refine lv_istore (lv' := [(7, .int (nI 0)), (6, .int ((-1))), (5, .int (nI kk)), (4, .int (nI 0)), (0, .ref x), (1, .int (nI wn)), (2, .int v0), (3, .int (bI on))]) hx hb d_M_yank_128 hl (by decide) rfl (fun ls hl => ?_)
                      refine lv_aload_n hx hb d_M_yank_130 rfl (lv_at hl 4 rfl) ?_
                      refine lv_iload hx hb d_M_yank_131 (lv_at hl 3 rfl) ?_
                      refine lv_iload hx hb d_M_yank_133 (lv_at hl 0 rfl) ?_
                      refine lv_if_eq (tgt := 145) hx hb d_M_yank_135 (by decide) (fun c135 => ?_) (fun c135 => ?_)
                      · skip
                        refine lv_iconst (v := nI 1) hx hb d_M_yank_145 (by decide) ?_
                        refine lv_goto (tgt := 150) hx hb d_M_yank_146 (by decide) ?_
                        refine aM (rV (As := [.int (nI 0), .int (nI 1)]) (rest := []) C0 (c_M_refuses l g _ x ad _ _ _ hm.1 false true) (m_zK hZ hm) k_M_yank_150 rfl rfl ⟨Nat.le_of_ble_eq_true rfl, Nat.le_of_ble_eq_true rfl⟩ (m_recv hK hm) rfl hl.1 rfl (Nat.le_of_ble_eq_true rfl) d_M_yank_150 ⟨Nat.zero_le _, Nat.zero_le _⟩) hm (fun v F1 A1 B1 H locs hp hm => ?_)
                        obtain ⟨rfl, eF, eA, eB⟩ := hp
                        rw [eF, eA, eB] at hm
                        clear eF eA eB
                        have hm : mS g s.heap H x ad (upd Fg 0 (nI 2)) Ag B locs := hm
                        refine W.eq (g2 := F0 m 153 ls [.int (bI true)]) rfl ?_
                        refine z_eq (tgt := 160) (v := true) hx hb d_M_yank_153 (by decide) (fun c153 => ?_) (fun c153 => ?_)
                        · skip
                          first | exact absurd c153 (by decide) | exact absurd (by decide) c153
                        · skip
                          refine lv_iconst (v := nI 0) hx hb d_M_yank_156 (by decide) ?_
                          refine lv_goto (tgt := 176) hx hb d_M_yank_157 (by decide) ?_
                          have hcd : cd = 2 := hcd.symm.trans (by simp [c94])
                          subst hcd
                          exact W.iret hx hb hr (fun t9 ht hW => ⟨_, _, _, _, rfl, by rw [ht]; exact ⟨hm.1, hm.2.1, hm.2.2.1, fun _ h => by cases h⟩, ⟨rfl, lo_u hlF, rfl, fun o => by rw [if_neg (by decide)]; exact aI_lo hlA hai⟩⟩) hm.2.2.2 d_M_yank_176 hlk
                      · skip
                        first | exact absurd c135 (by decide) | exact absurd (by decide) c135
                    · skip
                      refine lv_iload hx hb d_M_yank_97 (lv_at hl 0 rfl) ?_
                      refine lv_iconst (v := (-1)) hx hb d_M_yank_99 (by decide) ?_
                      refine lv_icmp_eq (tgt := 127) hx hb d_M_yank_100 (by decide) (fun c100 => ?_) (fun c100 => ?_)
                      · skip
                        refine lv_iconst (v := nI 0) hx hb d_M_yank_127 (by decide) ?_
                        refine lv_istore (lv' := [(7, .int (nI 0)), (6, .int ((-1))), (5, .int (nI kk)), (4, .int (nI 0)), (0, .ref x), (1, .int (nI wn)), (2, .int v0), (3, .int (bI on))]) hx hb d_M_yank_128 hl (by decide) rfl (fun ls hl => ?_)
                        refine lv_aload_n hx hb d_M_yank_130 rfl (lv_at hl 4 rfl) ?_
                        refine lv_iload hx hb d_M_yank_131 (lv_at hl 3 rfl) ?_
                        refine lv_iload hx hb d_M_yank_133 (lv_at hl 0 rfl) ?_
                        refine lv_if_eq (tgt := 145) hx hb d_M_yank_135 (by decide) (fun c135 => ?_) (fun c135 => ?_)
                        · skip
                          refine lv_iconst (v := nI 1) hx hb d_M_yank_145 (by decide) ?_
                          refine lv_goto (tgt := 150) hx hb d_M_yank_146 (by decide) ?_
                          refine aM (rV (As := [.int (nI 0), .int (nI 1)]) (rest := []) C0 (c_M_refuses l g _ x ad _ _ _ hm.1 false true) (m_zK hZ hm) k_M_yank_150 rfl rfl ⟨Nat.le_of_ble_eq_true rfl, Nat.le_of_ble_eq_true rfl⟩ (m_recv hK hm) rfl hl.1 rfl (Nat.le_of_ble_eq_true rfl) d_M_yank_150 ⟨Nat.zero_le _, Nat.zero_le _⟩) hm (fun v F1 A1 B1 H locs hp hm => ?_)
                          obtain ⟨rfl, eF, eA, eB⟩ := hp
                          rw [eF, eA, eB] at hm
                          clear eF eA eB
                          have hm : mS g s.heap H x ad (upd Fg 0 (nI 2)) Ag B locs := hm
                          refine W.eq (g2 := F0 m 153 ls [.int (bI true)]) rfl ?_
                          refine z_eq (tgt := 160) (v := true) hx hb d_M_yank_153 (by decide) (fun c153 => ?_) (fun c153 => ?_)
                          · skip
                            first | exact absurd c153 (by decide) | exact absurd (by decide) c153
                          · skip
                            refine lv_iconst (v := nI 0) hx hb d_M_yank_156 (by decide) ?_
                            refine lv_goto (tgt := 176) hx hb d_M_yank_157 (by decide) ?_
                            have hcd : cd = 2 := hcd.symm.trans (by simp [c94])
                            subst hcd
                            exact W.iret hx hb hr (fun t9 ht hW => ⟨_, _, _, _, rfl, by rw [ht]; exact ⟨hm.1, hm.2.1, hm.2.2.1, fun _ h => by cases h⟩, ⟨rfl, lo_u hlF, rfl, fun o => by rw [if_neg (by decide)]; exact aI_lo hlA hai⟩⟩) hm.2.2.2 d_M_yank_176 hlk
                        · skip
                          first | exact absurd c135 (by decide) | exact absurd (by decide) c135
                      · skip
                        first | exact absurd c100 (by decide) | exact absurd (by decide) c100
                · skip
                  simp only [hvv] at hcd
                  have hvk : vk < tb.2.2.length := vtT_lt hvv
                  obtain ⟨v1, v2, v3, v4⟩ := hTT.2.2.2.2.2 vk hvk
                  refine W.eq (g2 := F0 m 80 ls [.int (nI vk)]) rfl ?_
                  refine lv_istore (lv' := [(6, .int (nI vk)), (5, .int (nI kk)), (4, .int (nI 0)), (0, .ref x), (1, .int (nI wn)), (2, .int v0), (3, .int (bI on))]) hx hb d_M_yank_80 hl (by decide) rfl (fun ls hl => ?_)
                  refine lv_iload hx hb d_M_yank_82 (lv_at hl 2 rfl) ?_
                  refine lv_if_ne (tgt := 127) hx hb d_M_yank_84 (by decide) (fun c84 => ?_) (fun c84 => ?_)
                  · skip
                    first | exact absurd c84 (by decide) | exact absurd (by decide) c84
                  · skip
                    refine lv_aload_n hx hb d_M_yank_87 rfl (lv_at hl 3 rfl) ?_
                    refine lv_iload hx hb d_M_yank_88 (lv_at hl 1 rfl) ?_
                    refine lv_iload_n hx hb d_M_yank_90 rfl (lv_at hl 4 rfl) ?_
                    refine aP (rV (As := [.int (nI kk), .int (nI wn)]) (rest := []) C0 (c_M_hasRight l g _ x ad _ _ _ hm.1 kk (nmT tb kk).2.2 wn (by omega) n4 (by omega)) (m_zK hZ hm) k_M_yank_91 rfl rfl ⟨Nat.le_of_ble_eq_true rfl, Nat.le_of_ble_eq_true rfl⟩ (m_recv hK hm) rfl hl.1 rfl (Nat.le_of_ble_eq_true rfl) d_M_yank_91 ⟨Nat.zero_le _, Nat.zero_le _⟩) ?_
                    intro v hv; subst hv
                    have eh : decide (Ag 19 kk = nI 1 ∧ (Ag 21 (nmT tb kk).2.2 = nI wn ∨ rbit (Ag 22 (nmT tb kk).2.2) wn = true)) = hrT tb kk (nI wn) := by rw [hrT, decide_eq_decide, n3, w1, w2, nI_clamp (by omega)]; exact Iff.rfl
                    rw [eh]
                    clear eh
                    refine W.eq (g2 := F0 m 94 ls [.int (bI (hrT tb kk (nI wn)))]) rfl ?_
                    refine z_eq (tgt := 127) (v := hrT tb kk (nI wn)) hx hb d_M_yank_94 (by decide) (fun c94 => ?_) (fun c94 => ?_)
                    · skip
                      refine lv_iconst (v := nI 0) hx hb d_M_yank_127 (by decide) ?_
                      refine lv_istore (lv' := [(7, .int (nI 0)), (6, .int (nI vk)), (5, .int (nI kk)), (4, .int (nI 0)), (0, .ref x), (1, .int (nI wn)), (2, .int v0), (3, .int (bI on))]) hx hb d_M_yank_128 hl (by decide) rfl (fun ls hl => ?_)
                      refine lv_aload_n hx hb d_M_yank_130 rfl (lv_at hl 4 rfl) ?_
                      refine lv_iload hx hb d_M_yank_131 (lv_at hl 3 rfl) ?_
                      refine lv_iload hx hb d_M_yank_133 (lv_at hl 0 rfl) ?_
                      refine lv_if_eq (tgt := 145) hx hb d_M_yank_135 (by decide) (fun c135 => ?_) (fun c135 => ?_)
                      · skip
                        refine lv_iconst (v := nI 1) hx hb d_M_yank_145 (by decide) ?_
                        refine lv_goto (tgt := 150) hx hb d_M_yank_146 (by decide) ?_
                        refine aM (rV (As := [.int (nI 0), .int (nI 1)]) (rest := []) C0 (c_M_refuses l g _ x ad _ _ _ hm.1 false true) (m_zK hZ hm) k_M_yank_150 rfl rfl ⟨Nat.le_of_ble_eq_true rfl, Nat.le_of_ble_eq_true rfl⟩ (m_recv hK hm) rfl hl.1 rfl (Nat.le_of_ble_eq_true rfl) d_M_yank_150 ⟨Nat.zero_le _, Nat.zero_le _⟩) hm (fun v F1 A1 B1 H locs hp hm => ?_)
                        obtain ⟨rfl, eF, eA, eB⟩ := hp
                        rw [eF, eA, eB] at hm
                        clear eF eA eB
                        have hm : mS g s.heap H x ad (upd Fg 0 (nI 2)) Ag B locs := hm
                        refine W.eq (g2 := F0 m 153 ls [.int (bI true)]) rfl ?_
                        refine z_eq (tgt := 160) (v := true) hx hb d_M_yank_153 (by decide) (fun c153 => ?_) (fun c153 => ?_)
                        · skip
                          first | exact absurd c153 (by decide) | exact absurd (by decide) c153
                        · skip
                          refine lv_iconst (v := nI 0) hx hb d_M_yank_156 (by decide) ?_
                          refine lv_goto (tgt := 176) hx hb d_M_yank_157 (by decide) ?_
                          have hcd : cd = 2 := hcd.symm.trans (by simp [c94])
                          subst hcd
                          exact W.iret hx hb hr (fun t9 ht hW => ⟨_, _, _, _, rfl, by rw [ht]; exact ⟨hm.1, hm.2.1, hm.2.2.1, fun _ h => by cases h⟩, ⟨rfl, lo_u hlF, rfl, fun o => by rw [if_neg (by decide)]; exact aI_lo hlA hai⟩⟩) hm.2.2.2 d_M_yank_176 hlk
                      · skip
                        first | exact absurd c135 (by decide) | exact absurd (by decide) c135
                    · skip
                      refine lv_iload hx hb d_M_yank_97 (lv_at hl 0 rfl) ?_
                      refine lv_iconst (v := (-1)) hx hb d_M_yank_99 (by decide) ?_
                      refine lv_icmp_eq (tgt := 127) hx hb d_M_yank_100 (by decide) (fun c100 => ?_) (fun c100 => ?_)
                      · skip
                        exact absurd c100 (nI_m1 (by omega))
                      · skip
                        refine lv_aload_n hx hb d_M_yank_103 rfl (lv_at hl 3 rfl) ?_
                        refine m_get hx hb hts hown hK hm 26 (by decide) (hts (.fieldLink "RegistryLogModel" 77 "RegistryLogModel" "versionYanked" "[I") (in_4 (List.mem_of_getElem? (i := 235) rfl) rfl)) rfl (v := .ref (ad 26)) rfl d_M_yank_104 ?_
                        refine lv_iload hx hb d_M_yank_107 (lv_at hl 0 rfl) ?_
                        refine m_ld hx hb hK hm 26 rfl vk rfl (show vk < 120 from by omega) d_M_yank_109 ?_
                        refine lv_iconst (v := nI 1) hx hb d_M_yank_110 (by decide) ?_
                        refine lv_icmp_ne (tgt := 118) hx hb d_M_yank_111 (by decide) (fun c111 => ?_) (fun c111 => ?_)
                        · skip
                          refine lv_iconst (v := nI 0) hx hb d_M_yank_118 (by decide) ?_
                          refine lv_iload_n hx hb d_M_yank_119 rfl (lv_at hl 6 rfl) ?_
                          refine lv_icmp_eq (tgt := 127) hx hb d_M_yank_120 (by decide) (fun c120 => ?_) (fun c120 => ?_)
                          · skip
                            refine lv_iconst (v := nI 0) hx hb d_M_yank_127 (by decide) ?_
                            refine lv_istore (lv' := [(7, .int (nI 0)), (6, .int (nI vk)), (5, .int (nI kk)), (4, .int (nI 0)), (0, .ref x), (1, .int (nI wn)), (2, .int v0), (3, .int (bI on))]) hx hb d_M_yank_128 hl (by decide) rfl (fun ls hl => ?_)
                            refine lv_aload_n hx hb d_M_yank_130 rfl (lv_at hl 4 rfl) ?_
                            refine lv_iload hx hb d_M_yank_131 (lv_at hl 3 rfl) ?_
                            refine lv_iload hx hb d_M_yank_133 (lv_at hl 0 rfl) ?_
                            refine lv_if_eq (tgt := 145) hx hb d_M_yank_135 (by decide) (fun c135 => ?_) (fun c135 => ?_)
                            · skip
                              refine lv_iconst (v := nI 1) hx hb d_M_yank_145 (by decide) ?_
                              refine lv_goto (tgt := 150) hx hb d_M_yank_146 (by decide) ?_
                              refine aM (rV (As := [.int (nI 0), .int (nI 1)]) (rest := []) C0 (c_M_refuses l g _ x ad _ _ _ hm.1 false true) (m_zK hZ hm) k_M_yank_150 rfl rfl ⟨Nat.le_of_ble_eq_true rfl, Nat.le_of_ble_eq_true rfl⟩ (m_recv hK hm) rfl hl.1 rfl (Nat.le_of_ble_eq_true rfl) d_M_yank_150 ⟨Nat.zero_le _, Nat.zero_le _⟩) hm (fun v F1 A1 B1 H locs hp hm => ?_)
                              obtain ⟨rfl, eF, eA, eB⟩ := hp
                              rw [eF, eA, eB] at hm
                              clear eF eA eB
                              have hm : mS g s.heap H x ad (upd Fg 0 (nI 2)) Ag B locs := hm
                              refine W.eq (g2 := F0 m 153 ls [.int (bI true)]) rfl ?_
                              refine z_eq (tgt := 160) (v := true) hx hb d_M_yank_153 (by decide) (fun c153 => ?_) (fun c153 => ?_)
                              · skip
                                first | exact absurd c153 (by decide) | exact absurd (by decide) c153
                              · skip
                                refine lv_iconst (v := nI 0) hx hb d_M_yank_156 (by decide) ?_
                                refine lv_goto (tgt := 176) hx hb d_M_yank_157 (by decide) ?_
                                have cy : decide ((veT tb vk).2.2.2 = 1) = false := by rw [← v4]; exact decide_eq_false c111
                                have c120 : bI false = bI on := c120
                                have hcd : cd = 2 := hcd.symm.trans (by simp [c94, cy, c120])
                                subst hcd
                                exact W.iret hx hb hr (fun t9 ht hW => ⟨_, _, _, _, rfl, by rw [ht]; exact ⟨hm.1, hm.2.1, hm.2.2.1, fun _ h => by cases h⟩, ⟨rfl, lo_u hlF, rfl, fun o => by rw [if_neg (by decide)]; exact aI_lo hlA hai⟩⟩) hm.2.2.2 d_M_yank_176 hlk
                            · skip
                              first | exact absurd c135 (by decide) | exact absurd (by decide) c135
                          · skip
                            refine lv_iconst (v := nI 1) hx hb d_M_yank_123 (by decide) ?_
                            refine lv_goto (tgt := 128) hx hb d_M_yank_124 (by decide) ?_
                            refine lv_istore (lv' := [(7, .int (nI 1)), (6, .int (nI vk)), (5, .int (nI kk)), (4, .int (nI 0)), (0, .ref x), (1, .int (nI wn)), (2, .int v0), (3, .int (bI on))]) hx hb d_M_yank_128 hl (by decide) rfl (fun ls hl => ?_)
                            refine lv_aload_n hx hb d_M_yank_130 rfl (lv_at hl 4 rfl) ?_
                            refine lv_iload hx hb d_M_yank_131 (lv_at hl 3 rfl) ?_
                            refine lv_iload hx hb d_M_yank_133 (lv_at hl 0 rfl) ?_
                            refine lv_if_eq (tgt := 145) hx hb d_M_yank_135 (by decide) (fun c135 => ?_) (fun c135 => ?_)
                            · skip
                              first | exact absurd c135 (by decide) | exact absurd (by decide) c135
                            · skip
                              refine lv_aload_n hx hb d_M_yank_138 rfl (lv_at hl 4 rfl) ?_
                              refine aP (rV (As := []) (rest := [.int (nI 0), .ref x]) C0 (c_M_isFull l g _ x ad _ _ _ hm.1 rows.length g12 h120) (m_zK hZ hm) k_M_yank_139 rfl rfl ⟨Nat.le_of_ble_eq_true rfl, Nat.le_of_ble_eq_true rfl⟩ (m_recv hK hm) rfl hl.1 rfl (Nat.le_of_ble_eq_true rfl) d_M_yank_139 ⟨Nat.zero_le _, Nat.zero_le _⟩) ?_
                              intro v hv; subst hv
                              refine W.eq (g2 := F0 m 142 ls [.int (bI (decide (rows.length = 120))), .int (nI 0), .ref x]) rfl ?_
                              refine z_eq (tgt := 149) (v := decide (rows.length = 120)) hx hb d_M_yank_142 (by decide) (fun c142 => ?_) (fun c142 => ?_)
                              · skip
                                refine lv_iconst (v := nI 0) hx hb d_M_yank_149 (by decide) ?_
                                refine aM (rV (As := [.int (nI 0), .int (nI 0)]) (rest := []) C0 (c_M_refuses l g _ x ad _ _ _ hm.1 false false) (m_zK hZ hm) k_M_yank_150 rfl rfl ⟨Nat.le_of_ble_eq_true rfl, Nat.le_of_ble_eq_true rfl⟩ (m_recv hK hm) rfl hl.1 rfl (Nat.le_of_ble_eq_true rfl) d_M_yank_150 ⟨Nat.zero_le _, Nat.zero_le _⟩) hm (fun v F1 A1 B1 H locs hp hm => ?_)
                                obtain ⟨rfl, eF, eA, eB⟩ := hp
                                rw [eF, eA, eB] at hm
                                clear eF eA eB
                                have hm : mS g s.heap H x ad (upd Fg 0 (nI 0)) Ag B locs := hm
                                refine W.eq (g2 := F0 m 153 ls [.int (bI false)]) rfl ?_
                                refine z_eq (tgt := 160) (v := false) hx hb d_M_yank_153 (by decide) (fun c153 => ?_) (fun c153 => ?_)
                                · skip
                                  refine lv_aload_n hx hb d_M_yank_160 rfl (lv_at hl 4 rfl) ?_
                                  refine lv_iconst (v := nI 1) hx hb d_M_yank_161 (by decide) ?_
                                  refine lv_iload_n hx hb d_M_yank_162 rfl (lv_at hl 5 rfl) ?_
                                  refine lv_iload_n hx hb d_M_yank_163 rfl (lv_at hl 6 rfl) ?_
                                  refine lv_iload_n hx hb d_M_yank_164 rfl (lv_at hl 7 rfl) ?_
                                  refine z_eq (tgt := 172) (v := on) hx hb d_M_yank_165 (by decide) (fun c165 => ?_) (fun c165 => ?_)
                                  · skip
                                    refine lv_iconst (v := nI 0) hx hb d_M_yank_172 (by decide) ?_
                                    have hai2 := aI_lo hlA hai
                                    have hl9 : rows.length < 120 := by have := of_decide_eq_false c142; omega
                                    refine aM (rV (As := [.int (nI 1), .int (nI wn), .int v0, .int (nI 0)]) (rest := []) C0 (c_M_write l g _ x ad _ _ _ hm.1 (nI 1) (nI wn) (v0) (nI 0) rows.length T.length 0 hl9 g32 g33 (by omega) (by omega) (hai2.1.2.1)) (m_zK hZ hm) k_M_yank_173 rfl rfl ⟨Nat.le_of_ble_eq_true rfl, Nat.le_of_ble_eq_true rfl⟩ (m_recv hK hm) rfl hl.1 rfl (Nat.le_of_ble_eq_true rfl) d_M_yank_173 ⟨Nat.zero_le _, Nat.zero_le _⟩) hm (fun v F1 A1 B1 H locs hp hm => ?_)
                                    obtain ⟨rfl, eF, eA, eB⟩ := hp
                                    rw [eF, eA, eB] at hm
                                    clear eF eA eB
                                    refine W.eq (g2 := F0 m 176 ls [.int (nI rows.length)]) rfl ?_
                                    have cy : decide ((veT tb vk).2.2.2 = 1) = false := by rw [← v4]; exact decide_eq_false c111
                                    have c120 : ¬ bI false = bI on := c120
                                    have hcd : cd = 0 := hcd.symm.trans (by simp [c94, cy, c120, c142])
                                    subst hcd
                                    subst c165
                                    exact W.iret hx hb hr (fun t9 ht hW => ⟨_, _, _, _, rfl, by rw [ht]; exact ⟨hm.1, hm.2.1, hm.2.2.1, fun _ h => by cases h⟩, ⟨rfl, lo_u hlF, rfl, fun o => by rw [if_pos rfl]; exact wr_aI (k0 := nI 1) (o := o) (u := T) hai2 hl9 hx30 (by omega) hc (fun k hk => absurd hk (Nat.not_lt_zero _)) rfl (by omega) nil_c (Or.inr (Or.inl rfl))⟩⟩) hm.2.2.2 d_M_yank_176 hlk
                                  · skip
                                    refine lv_iconst (v := nI 1) hx hb d_M_yank_168 (by decide) ?_
                                    refine lv_goto (tgt := 173) hx hb d_M_yank_169 (by decide) ?_
                                    have hai2 := aI_lo hlA hai
                                    have hl9 : rows.length < 120 := by have := of_decide_eq_false c142; omega
                                    refine aM (rV (As := [.int (nI 1), .int (nI wn), .int v0, .int (nI 1)]) (rest := []) C0 (c_M_write l g _ x ad _ _ _ hm.1 (nI 1) (nI wn) (v0) (nI 1) rows.length T.length 0 hl9 g32 g33 (by omega) (by omega) (hai2.1.2.1)) (m_zK hZ hm) k_M_yank_173 rfl rfl ⟨Nat.le_of_ble_eq_true rfl, Nat.le_of_ble_eq_true rfl⟩ (m_recv hK hm) rfl hl.1 rfl (Nat.le_of_ble_eq_true rfl) d_M_yank_173 ⟨Nat.zero_le _, Nat.zero_le _⟩) hm (fun v F1 A1 B1 H locs hp hm => ?_)
                                    obtain ⟨rfl, eF, eA, eB⟩ := hp
                                    rw [eF, eA, eB] at hm
                                    clear eF eA eB
                                    refine W.eq (g2 := F0 m 176 ls [.int (nI rows.length)]) rfl ?_
                                    have cy : decide ((veT tb vk).2.2.2 = 1) = false := by rw [← v4]; exact decide_eq_false c111
                                    have c120 : ¬ bI false = bI on := c120
                                    have hcd : cd = 0 := hcd.symm.trans (by simp [c94, cy, c120, c142])
                                    subst hcd
                                    subst c165
                                    exact W.iret hx hb hr (fun t9 ht hW => ⟨_, _, _, _, rfl, by rw [ht]; exact ⟨hm.1, hm.2.1, hm.2.2.1, fun _ h => by cases h⟩, ⟨rfl, lo_u hlF, rfl, fun o => by rw [if_pos rfl]; exact wr_aI (k0 := nI 1) (o := o) (u := T) hai2 hl9 hx30 (by omega) hc (fun k hk => absurd hk (Nat.not_lt_zero _)) rfl (by omega) nil_c (Or.inr (Or.inl rfl))⟩⟩) hm.2.2.2 d_M_yank_176 hlk
                                · skip
                                  first | exact absurd c153 (by decide) | exact absurd (by decide) c153
                              · skip
                                refine lv_iconst (v := nI 1) hx hb d_M_yank_145 (by decide) ?_
                                refine lv_goto (tgt := 150) hx hb d_M_yank_146 (by decide) ?_
                                refine aM (rV (As := [.int (nI 0), .int (nI 1)]) (rest := []) C0 (c_M_refuses l g _ x ad _ _ _ hm.1 false true) (m_zK hZ hm) k_M_yank_150 rfl rfl ⟨Nat.le_of_ble_eq_true rfl, Nat.le_of_ble_eq_true rfl⟩ (m_recv hK hm) rfl hl.1 rfl (Nat.le_of_ble_eq_true rfl) d_M_yank_150 ⟨Nat.zero_le _, Nat.zero_le _⟩) hm (fun v F1 A1 B1 H locs hp hm => ?_)
                                obtain ⟨rfl, eF, eA, eB⟩ := hp
                                rw [eF, eA, eB] at hm
                                clear eF eA eB
                                have hm : mS g s.heap H x ad (upd Fg 0 (nI 2)) Ag B locs := hm
                                refine W.eq (g2 := F0 m 153 ls [.int (bI true)]) rfl ?_
                                refine z_eq (tgt := 160) (v := true) hx hb d_M_yank_153 (by decide) (fun c153 => ?_) (fun c153 => ?_)
                                · skip
                                  first | exact absurd c153 (by decide) | exact absurd (by decide) c153
                                · skip
                                  refine lv_iconst (v := nI 0) hx hb d_M_yank_156 (by decide) ?_
                                  refine lv_goto (tgt := 176) hx hb d_M_yank_157 (by decide) ?_
                                  have cy : decide ((veT tb vk).2.2.2 = 1) = false := by rw [← v4]; exact decide_eq_false c111
                                  have c120 : ¬ bI false = bI on := c120
                                  have hcd : cd = 2 := hcd.symm.trans (by simp [c94, cy, c120, c142])
                                  subst hcd
                                  exact W.iret hx hb hr (fun t9 ht hW => ⟨_, _, _, _, rfl, by rw [ht]; exact ⟨hm.1, hm.2.1, hm.2.2.1, fun _ h => by cases h⟩, ⟨rfl, lo_u hlF, rfl, fun o => by rw [if_neg (by decide)]; exact aI_lo hlA hai⟩⟩) hm.2.2.2 d_M_yank_176 hlk
                        · skip
                          refine lv_iconst (v := nI 1) hx hb d_M_yank_114 (by decide) ?_
                          refine lv_goto (tgt := 119) hx hb d_M_yank_115 (by decide) ?_
                          refine lv_iload_n hx hb d_M_yank_119 rfl (lv_at hl 6 rfl) ?_
                          refine lv_icmp_eq (tgt := 127) hx hb d_M_yank_120 (by decide) (fun c120 => ?_) (fun c120 => ?_)
                          · skip
                            refine lv_iconst (v := nI 0) hx hb d_M_yank_127 (by decide) ?_
                            refine lv_istore (lv' := [(7, .int (nI 0)), (6, .int (nI vk)), (5, .int (nI kk)), (4, .int (nI 0)), (0, .ref x), (1, .int (nI wn)), (2, .int v0), (3, .int (bI on))]) hx hb d_M_yank_128 hl (by decide) rfl (fun ls hl => ?_)
                            refine lv_aload_n hx hb d_M_yank_130 rfl (lv_at hl 4 rfl) ?_
                            refine lv_iload hx hb d_M_yank_131 (lv_at hl 3 rfl) ?_
                            refine lv_iload hx hb d_M_yank_133 (lv_at hl 0 rfl) ?_
                            refine lv_if_eq (tgt := 145) hx hb d_M_yank_135 (by decide) (fun c135 => ?_) (fun c135 => ?_)
                            · skip
                              refine lv_iconst (v := nI 1) hx hb d_M_yank_145 (by decide) ?_
                              refine lv_goto (tgt := 150) hx hb d_M_yank_146 (by decide) ?_
                              refine aM (rV (As := [.int (nI 0), .int (nI 1)]) (rest := []) C0 (c_M_refuses l g _ x ad _ _ _ hm.1 false true) (m_zK hZ hm) k_M_yank_150 rfl rfl ⟨Nat.le_of_ble_eq_true rfl, Nat.le_of_ble_eq_true rfl⟩ (m_recv hK hm) rfl hl.1 rfl (Nat.le_of_ble_eq_true rfl) d_M_yank_150 ⟨Nat.zero_le _, Nat.zero_le _⟩) hm (fun v F1 A1 B1 H locs hp hm => ?_)
                              obtain ⟨rfl, eF, eA, eB⟩ := hp
                              rw [eF, eA, eB] at hm
                              clear eF eA eB
                              have hm : mS g s.heap H x ad (upd Fg 0 (nI 2)) Ag B locs := hm
                              refine W.eq (g2 := F0 m 153 ls [.int (bI true)]) rfl ?_
                              refine z_eq (tgt := 160) (v := true) hx hb d_M_yank_153 (by decide) (fun c153 => ?_) (fun c153 => ?_)
                              · skip
                                first | exact absurd c153 (by decide) | exact absurd (by decide) c153
                              · skip
                                refine lv_iconst (v := nI 0) hx hb d_M_yank_156 (by decide) ?_
                                refine lv_goto (tgt := 176) hx hb d_M_yank_157 (by decide) ?_
                                have cy : decide ((veT tb vk).2.2.2 = 1) = true := by rw [← v4]; exact decide_eq_true c111
                                have c120 : bI true = bI on := c120
                                have hcd : cd = 2 := hcd.symm.trans (by simp [c94, cy, c120])
                                subst hcd
                                exact W.iret hx hb hr (fun t9 ht hW => ⟨_, _, _, _, rfl, by rw [ht]; exact ⟨hm.1, hm.2.1, hm.2.2.1, fun _ h => by cases h⟩, ⟨rfl, lo_u hlF, rfl, fun o => by rw [if_neg (by decide)]; exact aI_lo hlA hai⟩⟩) hm.2.2.2 d_M_yank_176 hlk
                            · skip
                              first | exact absurd c135 (by decide) | exact absurd (by decide) c135
                          · skip
                            refine lv_iconst (v := nI 1) hx hb d_M_yank_123 (by decide) ?_
                            refine lv_goto (tgt := 128) hx hb d_M_yank_124 (by decide) ?_
                            refine lv_istore (lv' := [(7, .int (nI 1)), (6, .int (nI vk)), (5, .int (nI kk)), (4, .int (nI 0)), (0, .ref x), (1, .int (nI wn)), (2, .int v0), (3, .int (bI on))]) hx hb d_M_yank_128 hl (by decide) rfl (fun ls hl => ?_)
                            refine lv_aload_n hx hb d_M_yank_130 rfl (lv_at hl 4 rfl) ?_
                            refine lv_iload hx hb d_M_yank_131 (lv_at hl 3 rfl) ?_
                            refine lv_iload hx hb d_M_yank_133 (lv_at hl 0 rfl) ?_
                            refine lv_if_eq (tgt := 145) hx hb d_M_yank_135 (by decide) (fun c135 => ?_) (fun c135 => ?_)
                            · skip
                              first | exact absurd c135 (by decide) | exact absurd (by decide) c135
                            · skip
                              refine lv_aload_n hx hb d_M_yank_138 rfl (lv_at hl 4 rfl) ?_
                              refine aP (rV (As := []) (rest := [.int (nI 0), .ref x]) C0 (c_M_isFull l g _ x ad _ _ _ hm.1 rows.length g12 h120) (m_zK hZ hm) k_M_yank_139 rfl rfl ⟨Nat.le_of_ble_eq_true rfl, Nat.le_of_ble_eq_true rfl⟩ (m_recv hK hm) rfl hl.1 rfl (Nat.le_of_ble_eq_true rfl) d_M_yank_139 ⟨Nat.zero_le _, Nat.zero_le _⟩) ?_
                              intro v hv; subst hv
                              refine W.eq (g2 := F0 m 142 ls [.int (bI (decide (rows.length = 120))), .int (nI 0), .ref x]) rfl ?_
                              refine z_eq (tgt := 149) (v := decide (rows.length = 120)) hx hb d_M_yank_142 (by decide) (fun c142 => ?_) (fun c142 => ?_)
                              · skip
                                refine lv_iconst (v := nI 0) hx hb d_M_yank_149 (by decide) ?_
                                refine aM (rV (As := [.int (nI 0), .int (nI 0)]) (rest := []) C0 (c_M_refuses l g _ x ad _ _ _ hm.1 false false) (m_zK hZ hm) k_M_yank_150 rfl rfl ⟨Nat.le_of_ble_eq_true rfl, Nat.le_of_ble_eq_true rfl⟩ (m_recv hK hm) rfl hl.1 rfl (Nat.le_of_ble_eq_true rfl) d_M_yank_150 ⟨Nat.zero_le _, Nat.zero_le _⟩) hm (fun v F1 A1 B1 H locs hp hm => ?_)
                                obtain ⟨rfl, eF, eA, eB⟩ := hp
                                rw [eF, eA, eB] at hm
                                clear eF eA eB
                                have hm : mS g s.heap H x ad (upd Fg 0 (nI 0)) Ag B locs := hm
                                refine W.eq (g2 := F0 m 153 ls [.int (bI false)]) rfl ?_
                                refine z_eq (tgt := 160) (v := false) hx hb d_M_yank_153 (by decide) (fun c153 => ?_) (fun c153 => ?_)
                                · skip
                                  refine lv_aload_n hx hb d_M_yank_160 rfl (lv_at hl 4 rfl) ?_
                                  refine lv_iconst (v := nI 1) hx hb d_M_yank_161 (by decide) ?_
                                  refine lv_iload_n hx hb d_M_yank_162 rfl (lv_at hl 5 rfl) ?_
                                  refine lv_iload_n hx hb d_M_yank_163 rfl (lv_at hl 6 rfl) ?_
                                  refine lv_iload_n hx hb d_M_yank_164 rfl (lv_at hl 7 rfl) ?_
                                  refine z_eq (tgt := 172) (v := on) hx hb d_M_yank_165 (by decide) (fun c165 => ?_) (fun c165 => ?_)
                                  · skip
                                    refine lv_iconst (v := nI 0) hx hb d_M_yank_172 (by decide) ?_
                                    have hai2 := aI_lo hlA hai
                                    have hl9 : rows.length < 120 := by have := of_decide_eq_false c142; omega
                                    refine aM (rV (As := [.int (nI 1), .int (nI wn), .int v0, .int (nI 0)]) (rest := []) C0 (c_M_write l g _ x ad _ _ _ hm.1 (nI 1) (nI wn) (v0) (nI 0) rows.length T.length 0 hl9 g32 g33 (by omega) (by omega) (hai2.1.2.1)) (m_zK hZ hm) k_M_yank_173 rfl rfl ⟨Nat.le_of_ble_eq_true rfl, Nat.le_of_ble_eq_true rfl⟩ (m_recv hK hm) rfl hl.1 rfl (Nat.le_of_ble_eq_true rfl) d_M_yank_173 ⟨Nat.zero_le _, Nat.zero_le _⟩) hm (fun v F1 A1 B1 H locs hp hm => ?_)
                                    obtain ⟨rfl, eF, eA, eB⟩ := hp
                                    rw [eF, eA, eB] at hm
                                    clear eF eA eB
                                    refine W.eq (g2 := F0 m 176 ls [.int (nI rows.length)]) rfl ?_
                                    have cy : decide ((veT tb vk).2.2.2 = 1) = true := by rw [← v4]; exact decide_eq_true c111
                                    have c120 : ¬ bI true = bI on := c120
                                    have hcd : cd = 0 := hcd.symm.trans (by simp [c94, cy, c120, c142])
                                    subst hcd
                                    subst c165
                                    exact W.iret hx hb hr (fun t9 ht hW => ⟨_, _, _, _, rfl, by rw [ht]; exact ⟨hm.1, hm.2.1, hm.2.2.1, fun _ h => by cases h⟩, ⟨rfl, lo_u hlF, rfl, fun o => by rw [if_pos rfl]; exact wr_aI (k0 := nI 1) (o := o) (u := T) hai2 hl9 hx30 (by omega) hc (fun k hk => absurd hk (Nat.not_lt_zero _)) rfl (by omega) nil_c (Or.inr (Or.inl rfl))⟩⟩) hm.2.2.2 d_M_yank_176 hlk
                                  · skip
                                    refine lv_iconst (v := nI 1) hx hb d_M_yank_168 (by decide) ?_
                                    refine lv_goto (tgt := 173) hx hb d_M_yank_169 (by decide) ?_
                                    have hai2 := aI_lo hlA hai
                                    have hl9 : rows.length < 120 := by have := of_decide_eq_false c142; omega
                                    refine aM (rV (As := [.int (nI 1), .int (nI wn), .int v0, .int (nI 1)]) (rest := []) C0 (c_M_write l g _ x ad _ _ _ hm.1 (nI 1) (nI wn) (v0) (nI 1) rows.length T.length 0 hl9 g32 g33 (by omega) (by omega) (hai2.1.2.1)) (m_zK hZ hm) k_M_yank_173 rfl rfl ⟨Nat.le_of_ble_eq_true rfl, Nat.le_of_ble_eq_true rfl⟩ (m_recv hK hm) rfl hl.1 rfl (Nat.le_of_ble_eq_true rfl) d_M_yank_173 ⟨Nat.zero_le _, Nat.zero_le _⟩) hm (fun v F1 A1 B1 H locs hp hm => ?_)
                                    obtain ⟨rfl, eF, eA, eB⟩ := hp
                                    rw [eF, eA, eB] at hm
                                    clear eF eA eB
                                    refine W.eq (g2 := F0 m 176 ls [.int (nI rows.length)]) rfl ?_
                                    have cy : decide ((veT tb vk).2.2.2 = 1) = true := by rw [← v4]; exact decide_eq_true c111
                                    have c120 : ¬ bI true = bI on := c120
                                    have hcd : cd = 0 := hcd.symm.trans (by simp [c94, cy, c120, c142])
                                    subst hcd
                                    subst c165
                                    exact W.iret hx hb hr (fun t9 ht hW => ⟨_, _, _, _, rfl, by rw [ht]; exact ⟨hm.1, hm.2.1, hm.2.2.1, fun _ h => by cases h⟩, ⟨rfl, lo_u hlF, rfl, fun o => by rw [if_pos rfl]; exact wr_aI (k0 := nI 1) (o := o) (u := T) hai2 hl9 hx30 (by omega) hc (fun k hk => absurd hk (Nat.not_lt_zero _)) rfl (by omega) nil_c (Or.inr (Or.inl rfl))⟩⟩) hm.2.2.2 d_M_yank_176 hlk
                                · skip
                                  first | exact absurd c153 (by decide) | exact absurd (by decide) c153
                              · skip
                                refine lv_iconst (v := nI 1) hx hb d_M_yank_145 (by decide) ?_
                                refine lv_goto (tgt := 150) hx hb d_M_yank_146 (by decide) ?_
                                refine aM (rV (As := [.int (nI 0), .int (nI 1)]) (rest := []) C0 (c_M_refuses l g _ x ad _ _ _ hm.1 false true) (m_zK hZ hm) k_M_yank_150 rfl rfl ⟨Nat.le_of_ble_eq_true rfl, Nat.le_of_ble_eq_true rfl⟩ (m_recv hK hm) rfl hl.1 rfl (Nat.le_of_ble_eq_true rfl) d_M_yank_150 ⟨Nat.zero_le _, Nat.zero_le _⟩) hm (fun v F1 A1 B1 H locs hp hm => ?_)
                                obtain ⟨rfl, eF, eA, eB⟩ := hp
                                rw [eF, eA, eB] at hm
                                clear eF eA eB
                                have hm : mS g s.heap H x ad (upd Fg 0 (nI 2)) Ag B locs := hm
                                refine W.eq (g2 := F0 m 153 ls [.int (bI true)]) rfl ?_
                                refine z_eq (tgt := 160) (v := true) hx hb d_M_yank_153 (by decide) (fun c153 => ?_) (fun c153 => ?_)
                                · skip
                                  first | exact absurd c153 (by decide) | exact absurd (by decide) c153
                                · skip
                                  refine lv_iconst (v := nI 0) hx hb d_M_yank_156 (by decide) ?_
                                  refine lv_goto (tgt := 176) hx hb d_M_yank_157 (by decide) ?_
                                  have cy : decide ((veT tb vk).2.2.2 = 1) = true := by rw [← v4]; exact decide_eq_true c111
                                  have c120 : ¬ bI true = bI on := c120
                                  have hcd : cd = 2 := hcd.symm.trans (by simp [c94, cy, c120, c142])
                                  subst hcd
                                  exact W.iret hx hb hr (fun t9 ht hW => ⟨_, _, _, _, rfl, by rw [ht]; exact ⟨hm.1, hm.2.1, hm.2.2.1, fun _ h => by cases h⟩, ⟨rfl, lo_u hlF, rfl, fun o => by rw [if_neg (by decide)]; exact aI_lo hlA hai⟩⟩) hm.2.2.2 d_M_yank_176 hlk
              · skip
                exact absurd c61 (nI_m1 (by omega))
          · skip
            first | exact absurd c36 (by decide) | exact absurd (by decide) c36
        · skip
          refine lv_iconst (v := nI 1) hx hb d_M_yank_22 (by decide) ?_
          refine lv_goto (tgt := 27) hx hb d_M_yank_23 (by decide) ?_
          have hb9 : (nameM T 0 T.length && (isP who && isV v0)) = false := by rw [c19, Bool.and_false, Bool.and_false]
          rw [hb9, endC, if_pos (by rfl)] at hcd
          refine lv_istore (lv' := [(4, .int (nI 1)), (0, .ref x), (1, .int who), (2, .int v0), (3, .int (bI on))]) hx hb d_M_yank_27 hl (by decide) rfl (fun ls hl => ?_)
          refine lv_aload_n hx hb d_M_yank_29 rfl (lv_at hl 1 rfl) ?_
          refine lv_iconst (v := nI 4) hx hb d_M_yank_30 (by decide) ?_
          refine aM (rV (As := [.int (nI 4)]) (rest := []) C0 (c_M_goThrough l g _ x ad _ _ _ hm.1 4 (by decide) rows (refR_lo hlA hai.1) tb htb) (m_zK hZ hm) k_M_yank_31 rfl rfl ⟨Nat.le_of_ble_eq_true rfl, Nat.le_of_ble_eq_true rfl⟩ (m_recv hK hm) rfl hl.1 rfl (Nat.le_of_ble_eq_true rfl) d_M_yank_31 ⟨Nat.zero_le _, Nat.zero_le _⟩) hm (fun v Fg Ag Bg H locs hp hm => ?_)
          obtain ⟨rfl, hbF, hbA, eB, hTT⟩ := hp
          rw [eB] at hm
          clear eB
          have hok := ok_ref hai.1 htb
          have h120 : rows.length ≤ 120 := hai.1.1
          obtain ⟨ok1, ok2, ok3, ok4, ok5⟩ := id hok
          have hlF : lo Fg _ := lo_tr (lo_bt hbF) hlF
          have hlA : lo Ag A := lo_tr (lo_bt hbA) hlA
          refine W.eq (g2 := F0 m 34 ls []) rfl ?_
          have g32 : Fg 32 = nI T.length := by rw [hbF 32 (by omega)]; rfl
          have g33 : Fg 33 = nI 0 := by rw [hbF 33 (by omega)]; rfl
          have hx30 : txt Ag 30 0 T := by unfold txt; rw [hbA 30 (by omega)]; exact hx30
          have g12 : Ag 12 4 = nI rows.length := by rw [hlA 12 (by omega)]; exact hai.1.2.1
          refine lv_iload hx hb d_M_yank_34 (lv_at hl 0 rfl) ?_
          refine lv_if_eq (tgt := 43) hx hb d_M_yank_36 (by decide) (fun c36 => ?_) (fun c36 => ?_)
          · skip
            first | exact absurd c36 (by decide) | exact absurd (by decide) c36
          · skip
            refine lv_iconst (v := (-1)) hx hb d_M_yank_39 (by decide) ?_
            refine lv_goto (tgt := 56) hx hb d_M_yank_40 (by decide) ?_
            refine lv_istore (lv' := [(5, .int ((-1))), (4, .int (nI 1)), (0, .ref x), (1, .int who), (2, .int v0), (3, .int (bI on))]) hx hb d_M_yank_56 hl (by decide) rfl (fun ls hl => ?_)
            refine lv_iload hx hb d_M_yank_58 (lv_at hl 0 rfl) ?_
            refine lv_iconst (v := (-1)) hx hb d_M_yank_60 (by decide) ?_
            refine lv_icmp_ne (tgt := 68) hx hb d_M_yank_61 (by decide) (fun c61 => ?_) (fun c61 => ?_)
            · skip
              first | exact absurd c61 (by decide) | exact absurd (by decide) c61
            · skip
              refine lv_iconst (v := (-1)) hx hb d_M_yank_64 (by decide) ?_
              refine lv_goto (tgt := 80) hx hb d_M_yank_65 (by decide) ?_
              refine lv_istore (lv' := [(6, .int ((-1))), (5, .int ((-1))), (4, .int (nI 1)), (0, .ref x), (1, .int who), (2, .int v0), (3, .int (bI on))]) hx hb d_M_yank_80 hl (by decide) rfl (fun ls hl => ?_)
              refine lv_iload hx hb d_M_yank_82 (lv_at hl 2 rfl) ?_
              refine lv_if_ne (tgt := 127) hx hb d_M_yank_84 (by decide) (fun c84 => ?_) (fun c84 => ?_)
              · skip
                refine lv_iconst (v := nI 0) hx hb d_M_yank_127 (by decide) ?_
                refine lv_istore (lv' := [(7, .int (nI 0)), (6, .int ((-1))), (5, .int ((-1))), (4, .int (nI 1)), (0, .ref x), (1, .int who), (2, .int v0), (3, .int (bI on))]) hx hb d_M_yank_128 hl (by decide) rfl (fun ls hl => ?_)
                refine lv_aload_n hx hb d_M_yank_130 rfl (lv_at hl 4 rfl) ?_
                refine lv_iload hx hb d_M_yank_131 (lv_at hl 3 rfl) ?_
                refine lv_iload hx hb d_M_yank_133 (lv_at hl 0 rfl) ?_
                refine lv_if_eq (tgt := 145) hx hb d_M_yank_135 (by decide) (fun c135 => ?_) (fun c135 => ?_)
                · skip
                  refine lv_iconst (v := nI 1) hx hb d_M_yank_145 (by decide) ?_
                  refine lv_goto (tgt := 150) hx hb d_M_yank_146 (by decide) ?_
                  refine aM (rV (As := [.int (nI 1), .int (nI 1)]) (rest := []) C0 (c_M_refuses l g _ x ad _ _ _ hm.1 true true) (m_zK hZ hm) k_M_yank_150 rfl rfl ⟨Nat.le_of_ble_eq_true rfl, Nat.le_of_ble_eq_true rfl⟩ (m_recv hK hm) rfl hl.1 rfl (Nat.le_of_ble_eq_true rfl) d_M_yank_150 ⟨Nat.zero_le _, Nat.zero_le _⟩) hm (fun v F1 A1 B1 H locs hp hm => ?_)
                  obtain ⟨rfl, eF, eA, eB⟩ := hp
                  rw [eF, eA, eB] at hm
                  clear eF eA eB
                  have hm : mS g s.heap H x ad (upd Fg 0 (nI 1)) Ag B locs := hm
                  refine W.eq (g2 := F0 m 153 ls [.int (bI true)]) rfl ?_
                  refine z_eq (tgt := 160) (v := true) hx hb d_M_yank_153 (by decide) (fun c153 => ?_) (fun c153 => ?_)
                  · skip
                    first | exact absurd c153 (by decide) | exact absurd (by decide) c153
                  · skip
                    refine lv_iconst (v := nI 0) hx hb d_M_yank_156 (by decide) ?_
                    refine lv_goto (tgt := 176) hx hb d_M_yank_157 (by decide) ?_
                    have hcd : cd = 1 := hcd.symm
                    subst hcd
                    exact W.iret hx hb hr (fun t9 ht hW => ⟨_, _, _, _, rfl, by rw [ht]; exact ⟨hm.1, hm.2.1, hm.2.2.1, fun _ h => by cases h⟩, ⟨rfl, lo_u hlF, rfl, fun o => by rw [if_neg (by decide)]; exact aI_lo hlA hai⟩⟩) hm.2.2.2 d_M_yank_176 hlk
                · skip
                  first | exact absurd c135 (by decide) | exact absurd (by decide) c135
              · skip
                first | exact absurd c84 (by decide) | exact absurd (by decide) c84
  · skip
    simp only [if_neg hN] at hp
    obtain ⟨rfl, eF, eA, eB⟩ := hp
    rw [eF, eA, eB] at hm
    clear eF eA eB
    refine W.eq (g2 := F0 m 5 ls [.int (bI false)]) rfl ?_
    have hlF : lo (upd F 2 (nI 0)) (upd F 2 (nI 0)) := lo_rf _
    have hlA : lo A A := lo_rf _
    refine z_eq (tgt := 22) (v := false) hx hb d_M_yank_5 (by decide) (fun c5 => ?_) (fun c5 => ?_)
    · skip
      refine lv_iconst (v := nI 1) hx hb d_M_yank_22 (by decide) ?_
      refine lv_goto (tgt := 27) hx hb d_M_yank_23 (by decide) ?_
      have hb9 : (nameM T 0 T.length && (isP who && isV v0)) = false := by rw [Bool.eq_false_iff.mpr hN]; rfl
      rw [hb9, endC, if_pos (by rfl)] at hcd
      refine lv_istore (lv' := [(4, .int (nI 1)), (0, .ref x), (1, .int who), (2, .int v0), (3, .int (bI on))]) hx hb d_M_yank_27 hl (by decide) rfl (fun ls hl => ?_)
      refine lv_aload_n hx hb d_M_yank_29 rfl (lv_at hl 1 rfl) ?_
      refine lv_iconst (v := nI 4) hx hb d_M_yank_30 (by decide) ?_
      refine aM (rV (As := [.int (nI 4)]) (rest := []) C0 (c_M_goThrough l g _ x ad _ _ _ hm.1 4 (by decide) rows (refR_lo hlA hai.1) tb htb) (m_zK hZ hm) k_M_yank_31 rfl rfl ⟨Nat.le_of_ble_eq_true rfl, Nat.le_of_ble_eq_true rfl⟩ (m_recv hK hm) rfl hl.1 rfl (Nat.le_of_ble_eq_true rfl) d_M_yank_31 ⟨Nat.zero_le _, Nat.zero_le _⟩) hm (fun v Fg Ag Bg H locs hp hm => ?_)
      obtain ⟨rfl, hbF, hbA, eB, hTT⟩ := hp
      rw [eB] at hm
      clear eB
      have hok := ok_ref hai.1 htb
      have h120 : rows.length ≤ 120 := hai.1.1
      obtain ⟨ok1, ok2, ok3, ok4, ok5⟩ := id hok
      have hlF : lo Fg _ := lo_tr (lo_bt hbF) hlF
      have hlA : lo Ag A := lo_tr (lo_bt hbA) hlA
      refine W.eq (g2 := F0 m 34 ls []) rfl ?_
      have g12 : Ag 12 4 = nI rows.length := by rw [hlA 12 (by omega)]; exact hai.1.2.1
      refine lv_iload hx hb d_M_yank_34 (lv_at hl 0 rfl) ?_
      refine lv_if_eq (tgt := 43) hx hb d_M_yank_36 (by decide) (fun c36 => ?_) (fun c36 => ?_)
      · skip
        first | exact absurd c36 (by decide) | exact absurd (by decide) c36
      · skip
        refine lv_iconst (v := (-1)) hx hb d_M_yank_39 (by decide) ?_
        refine lv_goto (tgt := 56) hx hb d_M_yank_40 (by decide) ?_
        refine lv_istore (lv' := [(5, .int ((-1))), (4, .int (nI 1)), (0, .ref x), (1, .int who), (2, .int v0), (3, .int (bI on))]) hx hb d_M_yank_56 hl (by decide) rfl (fun ls hl => ?_)
        refine lv_iload hx hb d_M_yank_58 (lv_at hl 0 rfl) ?_
        refine lv_iconst (v := (-1)) hx hb d_M_yank_60 (by decide) ?_
        refine lv_icmp_ne (tgt := 68) hx hb d_M_yank_61 (by decide) (fun c61 => ?_) (fun c61 => ?_)
        · skip
          first | exact absurd c61 (by decide) | exact absurd (by decide) c61
        · skip
          refine lv_iconst (v := (-1)) hx hb d_M_yank_64 (by decide) ?_
          refine lv_goto (tgt := 80) hx hb d_M_yank_65 (by decide) ?_
          refine lv_istore (lv' := [(6, .int ((-1))), (5, .int ((-1))), (4, .int (nI 1)), (0, .ref x), (1, .int who), (2, .int v0), (3, .int (bI on))]) hx hb d_M_yank_80 hl (by decide) rfl (fun ls hl => ?_)
          refine lv_iload hx hb d_M_yank_82 (lv_at hl 2 rfl) ?_
          refine lv_if_ne (tgt := 127) hx hb d_M_yank_84 (by decide) (fun c84 => ?_) (fun c84 => ?_)
          · skip
            refine lv_iconst (v := nI 0) hx hb d_M_yank_127 (by decide) ?_
            refine lv_istore (lv' := [(7, .int (nI 0)), (6, .int ((-1))), (5, .int ((-1))), (4, .int (nI 1)), (0, .ref x), (1, .int who), (2, .int v0), (3, .int (bI on))]) hx hb d_M_yank_128 hl (by decide) rfl (fun ls hl => ?_)
            refine lv_aload_n hx hb d_M_yank_130 rfl (lv_at hl 4 rfl) ?_
            refine lv_iload hx hb d_M_yank_131 (lv_at hl 3 rfl) ?_
            refine lv_iload hx hb d_M_yank_133 (lv_at hl 0 rfl) ?_
            refine lv_if_eq (tgt := 145) hx hb d_M_yank_135 (by decide) (fun c135 => ?_) (fun c135 => ?_)
            · skip
              refine lv_iconst (v := nI 1) hx hb d_M_yank_145 (by decide) ?_
              refine lv_goto (tgt := 150) hx hb d_M_yank_146 (by decide) ?_
              refine aM (rV (As := [.int (nI 1), .int (nI 1)]) (rest := []) C0 (c_M_refuses l g _ x ad _ _ _ hm.1 true true) (m_zK hZ hm) k_M_yank_150 rfl rfl ⟨Nat.le_of_ble_eq_true rfl, Nat.le_of_ble_eq_true rfl⟩ (m_recv hK hm) rfl hl.1 rfl (Nat.le_of_ble_eq_true rfl) d_M_yank_150 ⟨Nat.zero_le _, Nat.zero_le _⟩) hm (fun v F1 A1 B1 H locs hp hm => ?_)
              obtain ⟨rfl, eF, eA, eB⟩ := hp
              rw [eF, eA, eB] at hm
              clear eF eA eB
              have hm : mS g s.heap H x ad (upd Fg 0 (nI 1)) Ag B locs := hm
              refine W.eq (g2 := F0 m 153 ls [.int (bI true)]) rfl ?_
              refine z_eq (tgt := 160) (v := true) hx hb d_M_yank_153 (by decide) (fun c153 => ?_) (fun c153 => ?_)
              · skip
                first | exact absurd c153 (by decide) | exact absurd (by decide) c153
              · skip
                refine lv_iconst (v := nI 0) hx hb d_M_yank_156 (by decide) ?_
                refine lv_goto (tgt := 176) hx hb d_M_yank_157 (by decide) ?_
                have hcd : cd = 1 := hcd.symm
                subst hcd
                exact W.iret hx hb hr (fun t9 ht hW => ⟨_, _, _, _, rfl, by rw [ht]; exact ⟨hm.1, hm.2.1, hm.2.2.1, fun _ h => by cases h⟩, ⟨rfl, lo_u hlF, rfl, fun o => by rw [if_neg (by decide)]; exact aI_lo hlA hai⟩⟩) hm.2.2.2 d_M_yank_176 hlk
            · skip
              first | exact absurd c135 (by decide) | exact absurd (by decide) c135
          · skip
            first | exact absurd c84 (by decide) | exact absurd (by decide) c84
    · skip
      first | exact absurd c5 (by decide) | exact absurd (by decide) c5
theorem k_M_grant_2 : kV "RegistryLogModel" 161 "RegistryLogModel" y_M_takes b_M_takes 5 (some .boolean) 1 := ⟨(in_5 (List.mem_of_getElem? (i := 122) rfl) rfl), (in_5 (List.mem_of_getElem? (i := 124) rfl) rfl), (in_0 (List.mem_of_getElem? (i := 6) rfl) rfl), (in_1 (List.mem_of_getElem? (i := 22) rfl) rfl), (in_5 (List.mem_of_getElem? (i := 125) rfl) rfl), ⟨by decide, by decide, by decide +kernel⟩⟩
theorem k_M_grant_9 : kS "RegistryLogModel" 165 y_M_isPerson b_M_isPerson 1 (some .boolean) 1 := ⟨(in_5 (List.mem_of_getElem? (i := 133) rfl) rfl), (in_5 (List.mem_of_getElem? (i := 134) rfl) rfl), (in_1 (List.mem_of_getElem? (i := 22) rfl) rfl), (in_5 (List.mem_of_getElem? (i := 135) rfl) rfl), ⟨by decide, by decide, by decide +kernel⟩⟩
theorem k_M_grant_16 : kS "RegistryLogModel" 165 y_M_isPerson b_M_isPerson 1 (some .boolean) 1 := ⟨(in_5 (List.mem_of_getElem? (i := 133) rfl) rfl), (in_5 (List.mem_of_getElem? (i := 134) rfl) rfl), (in_1 (List.mem_of_getElem? (i := 22) rfl) rfl), (in_5 (List.mem_of_getElem? (i := 135) rfl) rfl), ⟨by decide, by decide, by decide +kernel⟩⟩
theorem k_M_grant_31 : kV "RegistryLogModel" 171 "RegistryLogModel" y_M_goThrough b_M_goThrough 5 none 1 := ⟨(in_5 (List.mem_of_getElem? (i := 139) rfl) rfl), (in_5 (List.mem_of_getElem? (i := 141) rfl) rfl), (in_0 (List.mem_of_getElem? (i := 8) rfl) rfl), (in_1 (List.mem_of_getElem? (i := 22) rfl) rfl), (in_5 (List.mem_of_getElem? (i := 142) rfl) rfl), ⟨by decide, by decide, by decide +kernel⟩⟩
theorem k_M_grant_53 : kV "RegistryLogModel" 142 "RegistryLogModel" y_M_met b_M_met 8 (some .int) 3 := ⟨(in_5 (List.mem_of_getElem? (i := 143) rfl) rfl), (in_5 (List.mem_of_getElem? (i := 145) rfl) rfl), (in_0 (List.mem_of_getElem? (i := 9) rfl) rfl), (in_1 (List.mem_of_getElem? (i := 22) rfl) rfl), (in_5 (List.mem_of_getElem? (i := 146) rfl) rfl), ⟨by decide, by decide, by decide +kernel⟩⟩
theorem k_M_grant_67 : kV "RegistryLogModel" 193 "RegistryLogModel" y_M_isFounder b_M_isFounder 3 (some .boolean) 2 := ⟨(in_5 (List.mem_of_getElem? (i := 194) rfl) rfl), (in_5 (List.mem_of_getElem? (i := 196) rfl) rfl), (in_0 (List.mem_of_getElem? (i := 19) rfl) rfl), (in_1 (List.mem_of_getElem? (i := 22) rfl) rfl), (in_5 (List.mem_of_getElem? (i := 197) rfl) rfl), ⟨by decide, by decide, by decide +kernel⟩⟩
theorem k_M_grant_82 : kV "RegistryLogModel" 178 "RegistryLogModel" y_M_hasRight b_M_hasRight 3 (some .boolean) 2 := ⟨(in_5 (List.mem_of_getElem? (i := 166) rfl) rfl), (in_5 (List.mem_of_getElem? (i := 168) rfl) rfl), (in_0 (List.mem_of_getElem? (i := 14) rfl) rfl), (in_1 (List.mem_of_getElem? (i := 22) rfl) rfl), (in_5 (List.mem_of_getElem? (i := 169) rfl) rfl), ⟨by decide, by decide, by decide +kernel⟩⟩
theorem k_M_grant_105 : kV "RegistryLogModel" 181 "RegistryLogModel" y_M_isFull b_M_isFull 1 (some .boolean) 0 := ⟨(in_5 (List.mem_of_getElem? (i := 174) rfl) rfl), (in_5 (List.mem_of_getElem? (i := 176) rfl) rfl), (in_0 (List.mem_of_getElem? (i := 16) rfl) rfl), (in_1 (List.mem_of_getElem? (i := 22) rfl) rfl), (in_5 (List.mem_of_getElem? (i := 177) rfl) rfl), ⟨by decide, by decide, by decide +kernel⟩⟩
theorem k_M_grant_116 : kV "RegistryLogModel" 185 "RegistryLogModel" y_M_refuses b_M_refuses 3 (some .boolean) 2 := ⟨(in_5 (List.mem_of_getElem? (i := 178) rfl) rfl), (in_5 (List.mem_of_getElem? (i := 180) rfl) rfl), (in_0 (List.mem_of_getElem? (i := 17) rfl) rfl), (in_1 (List.mem_of_getElem? (i := 22) rfl) rfl), (in_5 (List.mem_of_getElem? (i := 181) rfl) rfl), ⟨by decide, by decide, by decide +kernel⟩⟩
theorem k_M_grant_139 : kV "RegistryLogModel" 189 "RegistryLogModel" y_M_write b_M_write 7 (some .int) 4 := ⟨(in_5 (List.mem_of_getElem? (i := 182) rfl) rfl), (in_5 (List.mem_of_getElem? (i := 184) rfl) rfl), (in_0 (List.mem_of_getElem? (i := 18) rfl) rfl), (in_1 (List.mem_of_getElem? (i := 22) rfl) rfl), (in_5 (List.mem_of_getElem? (i := 185) rfl) rfl), ⟨by decide, by decide, by decide +kernel⟩⟩
set_option maxHeartbeats 4000000 in
set_option maxRecDepth 100000 in
/-- grant -/
theorem c_M_grant (l : Launch) (g : gG) (H : Heap) (x : Nat) (ad : Nat → Nat) (F : Nat → Int32) (A : Nat → Nat → Int32) (B : Nat → Nat → Int64) (hm0 : mW g H x ad F A B) (T : List Nat) (hT : ∀ k, k < T.length → A 1 k = nI (T.getD k 0)) (hc : ∀ k, T.getD k 0 < 128) (hT24 : T.length ≤ 24) (hty : F 2 = nI T.length) (rows : List Rw) (mir : Nat → List Rw) (hai : aI A rows mir) (tb : Tb) (htb : foT rows = some tb) (who oth : Int32) (on : Bool) (cd : Nat) (hcd : endC (!(nameM T 0 T.length && (isP who && isP oth))) (graT tb T who oth on) rows.length = cd) : Met l y_M_grant (wC y_M_grant b_M_grant 7 (some .int)) (rmk 3 0 0 77) (pC g H [.ref x, .int who, .int oth, .int (bI on)]) (qM g H x ad (fun v F1 A1 B1 => v = some (.int (if cd = 0 then nI rows.length else 0)) ∧ lo F1 (upd (upd F 2 (nI 0)) 0 (nI cd)) ∧ B1 = B ∧ ∀ o, aI A1 (if cd = 0 then rows ++ [(2, who, T, T, oth, bI on, o)] else rows) mir)) 0 0 (mN x ad) := by
  refine mB (by decide) (Nat.le_of_ble_eq_true rfl) ?_
  intro p e s m below meth c ls C0 hH hZ hnm hl
  have C0 : cF g p s m _ meth c b_M_grant 7 "RegistryLogModel" (some .int) := C0
  obtain ⟨hx, hb, hml, hown, hts, hr, hlk, hK⟩ := id C0
  subst hH
  have hl : lv_has ls 7 [(0, .ref x), (1, .int who), (2, .int oth), (3, .int (bI on))] := hl
  have hm := mS.rf hm0
  refine lv_aload_n hx hb d_M_grant_0 rfl (lv_at hl 0 rfl) ?_
  refine lv_iconst (v := nI 0) hx hb d_M_grant_1 (by decide) ?_
  refine aM (rV (As := [.int (nI 0)]) (rest := []) C0 (c_M_takes0 l g _ x ad _ _ _ hm.1 T hT hc hT24 hty) (m_zK hZ hm) k_M_grant_2 rfl rfl ⟨Nat.le_of_ble_eq_true rfl, Nat.le_of_ble_eq_true rfl⟩ (m_recv hK hm) rfl hl.1 rfl (Nat.le_of_ble_eq_true rfl) d_M_grant_2 ⟨Nat.zero_le _, Nat.zero_le _⟩) hm (fun v F1 A1 B1 H locs hp hm => ?_)
  by_cases hN : nameM T 0 T.length = true
  · skip
    simp only [if_pos hN] at hp
    obtain ⟨rfl, eF, eA, eB⟩ := hp
    rw [eF, eA, eB] at hm
    clear eF eA eB
    have h10 := nameM_le hN
    refine W.eq (g2 := F0 m 5 ls [.int (bI true)]) rfl ?_
    have hlF : lo (upd (upd (upd F 2 (nI 0)) 32 (nI T.length)) 33 (nI 0)) (upd F 2 (nI 0)) := lo_tr (lo_hi (by omega)) (lo_hi (by omega))
    have hlA : lo (updA A 30 (va_cpy (A 1) (A 30) 0 0 T.length)) A := lo_hA (by omega)
    have hx30 : txt (updA A 30 (va_cpy (A 1) (A 30) 0 0 T.length)) 30 0 T := fun k hk => (show va_cpy (A 1) (A 30) 0 0 T.length (0 + k) = nI (T.getD k 0) from by rw [cpy_in hk, Nat.zero_add]; exact hT k hk)
    refine z_eq (tgt := 22) (v := true) hx hb d_M_grant_5 (by decide) (fun c5 => ?_) (fun c5 => ?_)
    · skip
      first | exact absurd c5 (by decide) | exact absurd (by decide) c5
    · skip
      refine lv_iload_n hx hb d_M_grant_8 rfl (lv_at hl 1 rfl) ?_
      refine aP (rS (As := [.int who]) (rest := []) C0 (c_M_isPerson l g _ who) (m_zK hZ hm) k_M_grant_9 rfl rfl ⟨Nat.le_of_ble_eq_true rfl, Nat.le_of_ble_eq_true rfl⟩ rfl hl.1 rfl (Nat.le_of_ble_eq_true rfl) d_M_grant_9 ⟨Nat.zero_le _, Nat.zero_le _⟩) ?_
      intro v hv; subst hv
      refine W.eq (g2 := F0 m 12 ls [.int (bI (isP who))]) rfl ?_
      refine z_eq (tgt := 22) (v := isP who) hx hb d_M_grant_12 (by decide) (fun c12 => ?_) (fun c12 => ?_)
      · skip
        refine lv_iconst (v := nI 1) hx hb d_M_grant_22 (by decide) ?_
        refine lv_goto (tgt := 27) hx hb d_M_grant_23 (by decide) ?_
        have hb9 : (nameM T 0 T.length && (isP who && isP oth)) = false := by rw [c12, Bool.false_and, Bool.and_false]
        rw [hb9, endC, if_pos (by rfl)] at hcd
        refine lv_istore (lv' := [(4, .int (nI 1)), (0, .ref x), (1, .int who), (2, .int oth), (3, .int (bI on))]) hx hb d_M_grant_27 hl (by decide) rfl (fun ls hl => ?_)
        refine lv_aload_n hx hb d_M_grant_29 rfl (lv_at hl 1 rfl) ?_
        refine lv_iconst (v := nI 4) hx hb d_M_grant_30 (by decide) ?_
        refine aM (rV (As := [.int (nI 4)]) (rest := []) C0 (c_M_goThrough l g _ x ad _ _ _ hm.1 4 (by decide) rows (refR_lo hlA hai.1) tb htb) (m_zK hZ hm) k_M_grant_31 rfl rfl ⟨Nat.le_of_ble_eq_true rfl, Nat.le_of_ble_eq_true rfl⟩ (m_recv hK hm) rfl hl.1 rfl (Nat.le_of_ble_eq_true rfl) d_M_grant_31 ⟨Nat.zero_le _, Nat.zero_le _⟩) hm (fun v Fg Ag Bg H locs hp hm => ?_)
        obtain ⟨rfl, hbF, hbA, eB, hTT⟩ := hp
        rw [eB] at hm
        clear eB
        have hok := ok_ref hai.1 htb
        have h120 : rows.length ≤ 120 := hai.1.1
        obtain ⟨ok1, ok2, ok3, ok4, ok5⟩ := id hok
        have hlF : lo Fg _ := lo_tr (lo_bt hbF) hlF
        have hlA : lo Ag A := lo_tr (lo_bt hbA) hlA
        refine W.eq (g2 := F0 m 34 ls []) rfl ?_
        have g32 : Fg 32 = nI T.length := by rw [hbF 32 (by omega)]; rfl
        have g33 : Fg 33 = nI 0 := by rw [hbF 33 (by omega)]; rfl
        have hx30 : txt Ag 30 0 T := by unfold txt; rw [hbA 30 (by omega)]; exact hx30
        have g12 : Ag 12 4 = nI rows.length := by rw [hlA 12 (by omega)]; exact hai.1.2.1
        refine lv_iload hx hb d_M_grant_34 (lv_at hl 0 rfl) ?_
        refine lv_if_eq (tgt := 43) hx hb d_M_grant_36 (by decide) (fun c36 => ?_) (fun c36 => ?_)
        · skip
          first | exact absurd c36 (by decide) | exact absurd (by decide) c36
        · skip
          refine lv_iconst (v := (-1)) hx hb d_M_grant_39 (by decide) ?_
          refine lv_goto (tgt := 56) hx hb d_M_grant_40 (by decide) ?_
          refine lv_istore (lv' := [(5, .int ((-1))), (4, .int (nI 1)), (0, .ref x), (1, .int who), (2, .int oth), (3, .int (bI on))]) hx hb d_M_grant_56 hl (by decide) rfl (fun ls hl => ?_)
          refine lv_iload hx hb d_M_grant_58 (lv_at hl 1 rfl) ?_
          refine lv_if_ne (tgt := 93) hx hb d_M_grant_60 (by decide) (fun c60 => ?_) (fun c60 => ?_)
          · skip
            refine lv_iconst (v := nI 0) hx hb d_M_grant_93 (by decide) ?_
            refine lv_istore (lv' := [(6, .int (nI 0)), (5, .int ((-1))), (4, .int (nI 1)), (0, .ref x), (1, .int who), (2, .int oth), (3, .int (bI on))]) hx hb d_M_grant_94 hl (by decide) rfl (fun ls hl => ?_)
            refine lv_aload_n hx hb d_M_grant_96 rfl (lv_at hl 3 rfl) ?_
            refine lv_iload hx hb d_M_grant_97 (lv_at hl 2 rfl) ?_
            refine lv_iload hx hb d_M_grant_99 (lv_at hl 0 rfl) ?_
            refine lv_if_eq (tgt := 111) hx hb d_M_grant_101 (by decide) (fun c101 => ?_) (fun c101 => ?_)
            · skip
              refine lv_iconst (v := nI 1) hx hb d_M_grant_111 (by decide) ?_
              refine lv_goto (tgt := 116) hx hb d_M_grant_112 (by decide) ?_
              refine aM (rV (As := [.int (nI 1), .int (nI 1)]) (rest := []) C0 (c_M_refuses l g _ x ad _ _ _ hm.1 true true) (m_zK hZ hm) k_M_grant_116 rfl rfl ⟨Nat.le_of_ble_eq_true rfl, Nat.le_of_ble_eq_true rfl⟩ (m_recv hK hm) rfl hl.1 rfl (Nat.le_of_ble_eq_true rfl) d_M_grant_116 ⟨Nat.zero_le _, Nat.zero_le _⟩) hm (fun v F1 A1 B1 H locs hp hm => ?_)
              obtain ⟨rfl, eF, eA, eB⟩ := hp
              rw [eF, eA, eB] at hm
              clear eF eA eB
              have hm : mS g s.heap H x ad (upd Fg 0 (nI 1)) Ag B locs := hm
              refine W.eq (g2 := F0 m 119 ls [.int (bI true)]) rfl ?_
              refine z_eq (tgt := 126) (v := true) hx hb d_M_grant_119 (by decide) (fun c119 => ?_) (fun c119 => ?_)
              · skip
                first | exact absurd c119 (by decide) | exact absurd (by decide) c119
              · skip
                refine lv_iconst (v := nI 0) hx hb d_M_grant_122 (by decide) ?_
                refine lv_goto (tgt := 142) hx hb d_M_grant_123 (by decide) ?_
                have hcd : cd = 1 := hcd.symm
                subst hcd
                exact W.iret hx hb hr (fun t9 ht hW => ⟨_, _, _, _, rfl, by rw [ht]; exact ⟨hm.1, hm.2.1, hm.2.2.1, fun _ h => by cases h⟩, ⟨rfl, lo_u hlF, rfl, fun o => by rw [if_neg (by decide)]; exact aI_lo hlA hai⟩⟩) hm.2.2.2 d_M_grant_142 hlk
            · skip
              first | exact absurd c101 (by decide) | exact absurd (by decide) c101
          · skip
            first | exact absurd c60 (by decide) | exact absurd (by decide) c60
      · skip
        refine lv_iload_n hx hb d_M_grant_15 rfl (lv_at hl 2 rfl) ?_
        refine aP (rS (As := [.int oth]) (rest := []) C0 (c_M_isPerson l g _ oth) (m_zK hZ hm) k_M_grant_16 rfl rfl ⟨Nat.le_of_ble_eq_true rfl, Nat.le_of_ble_eq_true rfl⟩ rfl hl.1 rfl (Nat.le_of_ble_eq_true rfl) d_M_grant_16 ⟨Nat.zero_le _, Nat.zero_le _⟩) ?_
        intro v hv; subst hv
        refine W.eq (g2 := F0 m 19 ls [.int (bI (isP oth))]) rfl ?_
        refine z_ne (tgt := 26) (v := isP oth) hx hb d_M_grant_19 (by decide) (fun c19 => ?_) (fun c19 => ?_)
        · skip
          refine lv_iconst (v := nI 0) hx hb d_M_grant_26 (by decide) ?_
          have hb9 : (nameM T 0 T.length && (isP who && isP oth)) = true := by rw [hN, c12, c19]; rfl
          rw [hb9, endC, if_neg (by decide), graT] at hcd
          obtain ⟨wn, hwn, ewn⟩ := ix_ (n := 8) (by decide) c12
          subst ewn
          obtain ⟨on2, hon2, eon2⟩ := ix_ (n := 8) (by decide) c19
          subst eon2
          refine lv_istore (lv' := [(4, .int (nI 0)), (0, .ref x), (1, .int (nI wn)), (2, .int (nI on2)), (3, .int (bI on))]) hx hb d_M_grant_27 hl (by decide) rfl (fun ls hl => ?_)
          refine lv_aload_n hx hb d_M_grant_29 rfl (lv_at hl 1 rfl) ?_
          refine lv_iconst (v := nI 4) hx hb d_M_grant_30 (by decide) ?_
          refine aM (rV (As := [.int (nI 4)]) (rest := []) C0 (c_M_goThrough l g _ x ad _ _ _ hm.1 4 (by decide) rows (refR_lo hlA hai.1) tb htb) (m_zK hZ hm) k_M_grant_31 rfl rfl ⟨Nat.le_of_ble_eq_true rfl, Nat.le_of_ble_eq_true rfl⟩ (m_recv hK hm) rfl hl.1 rfl (Nat.le_of_ble_eq_true rfl) d_M_grant_31 ⟨Nat.zero_le _, Nat.zero_le _⟩) hm (fun v Fg Ag Bg H locs hp hm => ?_)
          obtain ⟨rfl, hbF, hbA, eB, hTT⟩ := hp
          rw [eB] at hm
          clear eB
          have hok := ok_ref hai.1 htb
          have h120 : rows.length ≤ 120 := hai.1.1
          obtain ⟨ok1, ok2, ok3, ok4, ok5⟩ := id hok
          have hlF : lo Fg _ := lo_tr (lo_bt hbF) hlF
          have hlA : lo Ag A := lo_tr (lo_bt hbA) hlA
          refine W.eq (g2 := F0 m 34 ls []) rfl ?_
          have g32 : Fg 32 = nI T.length := by rw [hbF 32 (by omega)]; rfl
          have g33 : Fg 33 = nI 0 := by rw [hbF 33 (by omega)]; rfl
          have hx30 : txt Ag 30 0 T := by unfold txt; rw [hbA 30 (by omega)]; exact hx30
          have g12 : Ag 12 4 = nI rows.length := by rw [hlA 12 (by omega)]; exact hai.1.2.1
          refine lv_iload hx hb d_M_grant_34 (lv_at hl 0 rfl) ?_
          refine lv_if_eq (tgt := 43) hx hb d_M_grant_36 (by decide) (fun c36 => ?_) (fun c36 => ?_)
          · skip
            refine lv_aload_n hx hb d_M_grant_43 rfl (lv_at hl 1 rfl) ?_
            refine lv_aload_n hx hb d_M_grant_44 rfl (lv_at hl 1 rfl) ?_
            refine m_get hx hb hts hown hK hm 30 (by decide) (hts (.fieldLink "RegistryLogModel" 80 "RegistryLogModel" "one" "[I") (in_4 (List.mem_of_getElem? (i := 239) rfl) rfl)) rfl (v := .ref (ad 30)) rfl d_M_grant_45 ?_
            refine lv_iconst (v := nI 0) hx hb d_M_grant_48 (by decide) ?_
            refine lv_aload_n hx hb d_M_grant_49 rfl (lv_at hl 1 rfl) ?_
            refine m_get hx hb hts hown hK hm 32 (by decide) (hts (.fieldLink "RegistryLogModel" 123 "RegistryLogModel" "oneSize" "I") (in_5 (List.mem_of_getElem? (i := 1) rfl) rfl)) rfl (v := .int (nI T.length)) (congrArg (fun z => some (Value.int z)) g32) d_M_grant_50 ?_
            refine aM (rV (As := [.ref (ad 30), .int (nI 0), .int (nI T.length)]) (rest := []) C0 (c_M_met l g _ x ad _ _ _ hm.1 30 0 T.length tb.1.length rfl (by omega) (by show 0 + T.length ≤ 10; omega) hTT.1 (by omega)) (m_zK hZ hm) k_M_grant_53 rfl rfl ⟨Nat.le_of_ble_eq_true rfl, Nat.le_of_ble_eq_true rfl⟩ (m_recv hK hm) rfl hl.1 rfl (Nat.le_of_ble_eq_true rfl) d_M_grant_53 ⟨Nat.zero_le _, Nat.zero_le _⟩) hm (fun v F1 A1 B1 H locs hp hm => ?_)
            obtain ⟨rfl, eF, eA, eB⟩ := hp
            rw [eF, eA, eB] at hm
            clear eF eA eB
            rw [show metA Ag 30 0 T.length tb.1.length 0 (-1) = oI (mtT tb T) from metA_T hTT hok hx30 (by omega) hc]
            rcases hmm : mtT tb T with _ | kk
            · skip
              rw [hmm] at hcd
              dsimp only at hcd
              refine W.eq (g2 := F0 m 56 ls [.int ((-1))]) rfl ?_
              refine lv_istore (lv' := [(5, .int ((-1))), (4, .int (nI 0)), (0, .ref x), (1, .int (nI wn)), (2, .int (nI on2)), (3, .int (bI on))]) hx hb d_M_grant_56 hl (by decide) rfl (fun ls hl => ?_)
              refine lv_iload hx hb d_M_grant_58 (lv_at hl 1 rfl) ?_
              refine lv_if_ne (tgt := 93) hx hb d_M_grant_60 (by decide) (fun c60 => ?_) (fun c60 => ?_)
              · skip
                first | exact absurd c60 (by decide) | exact absurd (by decide) c60
              · skip
                refine lv_aload_n hx hb d_M_grant_63 rfl (lv_at hl 2 rfl) ?_
                refine lv_iload hx hb d_M_grant_64 (lv_at hl 0 rfl) ?_
                refine lv_iload_n hx hb d_M_grant_66 rfl (lv_at hl 3 rfl) ?_
                refine aP (rV (As := [.int ((-1)), .int (nI wn)]) (rest := []) C0 (c_M_isFounder0 l g _ x ad _ _ _ hm.1 (nI wn)) (m_zK hZ hm) k_M_grant_67 rfl rfl ⟨Nat.le_of_ble_eq_true rfl, Nat.le_of_ble_eq_true rfl⟩ (m_recv hK hm) rfl hl.1 rfl (Nat.le_of_ble_eq_true rfl) d_M_grant_67 ⟨Nat.zero_le _, Nat.zero_le _⟩) ?_
                intro v hv; subst hv
                refine W.eq (g2 := F0 m 70 ls [.int (bI false)]) rfl ?_
                refine z_eq (tgt := 93) (v := false) hx hb d_M_grant_70 (by decide) (fun c70 => ?_) (fun c70 => ?_)
                · skip
                  refine lv_iconst (v := nI 0) hx hb d_M_grant_93 (by decide) ?_
                  refine lv_istore (lv' := [(6, .int (nI 0)), (5, .int ((-1))), (4, .int (nI 0)), (0, .ref x), (1, .int (nI wn)), (2, .int (nI on2)), (3, .int (bI on))]) hx hb d_M_grant_94 hl (by decide) rfl (fun ls hl => ?_)
                  refine lv_aload_n hx hb d_M_grant_96 rfl (lv_at hl 3 rfl) ?_
                  refine lv_iload hx hb d_M_grant_97 (lv_at hl 2 rfl) ?_
                  refine lv_iload hx hb d_M_grant_99 (lv_at hl 0 rfl) ?_
                  refine lv_if_eq (tgt := 111) hx hb d_M_grant_101 (by decide) (fun c101 => ?_) (fun c101 => ?_)
                  · skip
                    refine lv_iconst (v := nI 1) hx hb d_M_grant_111 (by decide) ?_
                    refine lv_goto (tgt := 116) hx hb d_M_grant_112 (by decide) ?_
                    refine aM (rV (As := [.int (nI 0), .int (nI 1)]) (rest := []) C0 (c_M_refuses l g _ x ad _ _ _ hm.1 false true) (m_zK hZ hm) k_M_grant_116 rfl rfl ⟨Nat.le_of_ble_eq_true rfl, Nat.le_of_ble_eq_true rfl⟩ (m_recv hK hm) rfl hl.1 rfl (Nat.le_of_ble_eq_true rfl) d_M_grant_116 ⟨Nat.zero_le _, Nat.zero_le _⟩) hm (fun v F1 A1 B1 H locs hp hm => ?_)
                    obtain ⟨rfl, eF, eA, eB⟩ := hp
                    rw [eF, eA, eB] at hm
                    clear eF eA eB
                    have hm : mS g s.heap H x ad (upd Fg 0 (nI 2)) Ag B locs := hm
                    refine W.eq (g2 := F0 m 119 ls [.int (bI true)]) rfl ?_
                    refine z_eq (tgt := 126) (v := true) hx hb d_M_grant_119 (by decide) (fun c119 => ?_) (fun c119 => ?_)
                    · skip
                      first | exact absurd c119 (by decide) | exact absurd (by decide) c119
                    · skip
                      refine lv_iconst (v := nI 0) hx hb d_M_grant_122 (by decide) ?_
                      refine lv_goto (tgt := 142) hx hb d_M_grant_123 (by decide) ?_
                      have hcd : cd = 2 := hcd.symm.trans (by simp [])
                      subst hcd
                      exact W.iret hx hb hr (fun t9 ht hW => ⟨_, _, _, _, rfl, by rw [ht]; exact ⟨hm.1, hm.2.1, hm.2.2.1, fun _ h => by cases h⟩, ⟨rfl, lo_u hlF, rfl, fun o => by rw [if_neg (by decide)]; exact aI_lo hlA hai⟩⟩) hm.2.2.2 d_M_grant_142 hlk
                  · skip
                    first | exact absurd c101 (by decide) | exact absurd (by decide) c101
                · skip
                  first | exact absurd c70 (by decide) | exact absurd (by decide) c70
            · skip
              rw [hmm] at hcd
              dsimp only at hcd
              have hkk : kk < tb.1.length := mtT_lt hmm
              obtain ⟨n1, n2, n3, n4⟩ := hTT.2.2.2.1 kk hkk
              obtain ⟨p1, p2, p3⟩ := ok4 kk hkk
              obtain ⟨w1, w2⟩ := hTT.2.2.2.2.1 _ p3
              refine W.eq (g2 := F0 m 56 ls [.int (nI kk)]) rfl ?_
              refine lv_istore (lv' := [(5, .int (nI kk)), (4, .int (nI 0)), (0, .ref x), (1, .int (nI wn)), (2, .int (nI on2)), (3, .int (bI on))]) hx hb d_M_grant_56 hl (by decide) rfl (fun ls hl => ?_)
              refine lv_iload hx hb d_M_grant_58 (lv_at hl 1 rfl) ?_
              refine lv_if_ne (tgt := 93) hx hb d_M_grant_60 (by decide) (fun c60 => ?_) (fun c60 => ?_)
              · skip
                first | exact absurd c60 (by decide) | exact absurd (by decide) c60
              · skip
                refine lv_aload_n hx hb d_M_grant_63 rfl (lv_at hl 2 rfl) ?_
                refine lv_iload hx hb d_M_grant_64 (lv_at hl 0 rfl) ?_
                refine lv_iload_n hx hb d_M_grant_66 rfl (lv_at hl 3 rfl) ?_
                refine aP (rV (As := [.int (nI kk), .int (nI wn)]) (rest := []) C0 (c_M_isFounder l g _ x ad _ _ _ hm.1 kk (nmT tb kk).2.2 (by omega) n4 (by omega) (nI wn)) (m_zK hZ hm) k_M_grant_67 rfl rfl ⟨Nat.le_of_ble_eq_true rfl, Nat.le_of_ble_eq_true rfl⟩ (m_recv hK hm) rfl hl.1 rfl (Nat.le_of_ble_eq_true rfl) d_M_grant_67 ⟨Nat.zero_le _, Nat.zero_le _⟩) ?_
                intro v hv; subst hv
                have eh : decide (Ag 19 kk = nI 1 ∧ Ag 21 (nmT tb kk).2.2 = nI wn) = fdT tb kk (nI wn) := by rw [fdT, decide_eq_decide, n3, w1]; exact Iff.rfl
                rw [eh]
                clear eh
                refine W.eq (g2 := F0 m 70 ls [.int (bI (fdT tb kk (nI wn)))]) rfl ?_
                refine z_eq (tgt := 93) (v := fdT tb kk (nI wn)) hx hb d_M_grant_70 (by decide) (fun c70 => ?_) (fun c70 => ?_)
                · skip
                  refine lv_iconst (v := nI 0) hx hb d_M_grant_93 (by decide) ?_
                  refine lv_istore (lv' := [(6, .int (nI 0)), (5, .int (nI kk)), (4, .int (nI 0)), (0, .ref x), (1, .int (nI wn)), (2, .int (nI on2)), (3, .int (bI on))]) hx hb d_M_grant_94 hl (by decide) rfl (fun ls hl => ?_)
                  refine lv_aload_n hx hb d_M_grant_96 rfl (lv_at hl 3 rfl) ?_
                  refine lv_iload hx hb d_M_grant_97 (lv_at hl 2 rfl) ?_
                  refine lv_iload hx hb d_M_grant_99 (lv_at hl 0 rfl) ?_
                  refine lv_if_eq (tgt := 111) hx hb d_M_grant_101 (by decide) (fun c101 => ?_) (fun c101 => ?_)
                  · skip
                    refine lv_iconst (v := nI 1) hx hb d_M_grant_111 (by decide) ?_
                    refine lv_goto (tgt := 116) hx hb d_M_grant_112 (by decide) ?_
                    refine aM (rV (As := [.int (nI 0), .int (nI 1)]) (rest := []) C0 (c_M_refuses l g _ x ad _ _ _ hm.1 false true) (m_zK hZ hm) k_M_grant_116 rfl rfl ⟨Nat.le_of_ble_eq_true rfl, Nat.le_of_ble_eq_true rfl⟩ (m_recv hK hm) rfl hl.1 rfl (Nat.le_of_ble_eq_true rfl) d_M_grant_116 ⟨Nat.zero_le _, Nat.zero_le _⟩) hm (fun v F1 A1 B1 H locs hp hm => ?_)
                    obtain ⟨rfl, eF, eA, eB⟩ := hp
                    rw [eF, eA, eB] at hm
                    clear eF eA eB
                    have hm : mS g s.heap H x ad (upd Fg 0 (nI 2)) Ag B locs := hm
                    refine W.eq (g2 := F0 m 119 ls [.int (bI true)]) rfl ?_
                    refine z_eq (tgt := 126) (v := true) hx hb d_M_grant_119 (by decide) (fun c119 => ?_) (fun c119 => ?_)
                    · skip
                      first | exact absurd c119 (by decide) | exact absurd (by decide) c119
                    · skip
                      refine lv_iconst (v := nI 0) hx hb d_M_grant_122 (by decide) ?_
                      refine lv_goto (tgt := 142) hx hb d_M_grant_123 (by decide) ?_
                      have hcd : cd = 2 := hcd.symm.trans (by simp [c70])
                      subst hcd
                      exact W.iret hx hb hr (fun t9 ht hW => ⟨_, _, _, _, rfl, by rw [ht]; exact ⟨hm.1, hm.2.1, hm.2.2.1, fun _ h => by cases h⟩, ⟨rfl, lo_u hlF, rfl, fun o => by rw [if_neg (by decide)]; exact aI_lo hlA hai⟩⟩) hm.2.2.2 d_M_grant_142 hlk
                  · skip
                    first | exact absurd c101 (by decide) | exact absurd (by decide) c101
                · skip
                  refine lv_iload_n hx hb d_M_grant_73 rfl (lv_at hl 4 rfl) ?_
                  refine lv_iload_n hx hb d_M_grant_74 rfl (lv_at hl 3 rfl) ?_
                  refine n_eq (tgt := 93) (a := on2) (b := wn) hx hb d_M_grant_75 (by decide) (by omega) (by omega) (fun c75 => ?_) (fun c75 => ?_)
                  · skip
                    refine lv_iconst (v := nI 0) hx hb d_M_grant_93 (by decide) ?_
                    refine lv_istore (lv' := [(6, .int (nI 0)), (5, .int (nI kk)), (4, .int (nI 0)), (0, .ref x), (1, .int (nI wn)), (2, .int (nI on2)), (3, .int (bI on))]) hx hb d_M_grant_94 hl (by decide) rfl (fun ls hl => ?_)
                    refine lv_aload_n hx hb d_M_grant_96 rfl (lv_at hl 3 rfl) ?_
                    refine lv_iload hx hb d_M_grant_97 (lv_at hl 2 rfl) ?_
                    refine lv_iload hx hb d_M_grant_99 (lv_at hl 0 rfl) ?_
                    refine lv_if_eq (tgt := 111) hx hb d_M_grant_101 (by decide) (fun c101 => ?_) (fun c101 => ?_)
                    · skip
                      refine lv_iconst (v := nI 1) hx hb d_M_grant_111 (by decide) ?_
                      refine lv_goto (tgt := 116) hx hb d_M_grant_112 (by decide) ?_
                      refine aM (rV (As := [.int (nI 0), .int (nI 1)]) (rest := []) C0 (c_M_refuses l g _ x ad _ _ _ hm.1 false true) (m_zK hZ hm) k_M_grant_116 rfl rfl ⟨Nat.le_of_ble_eq_true rfl, Nat.le_of_ble_eq_true rfl⟩ (m_recv hK hm) rfl hl.1 rfl (Nat.le_of_ble_eq_true rfl) d_M_grant_116 ⟨Nat.zero_le _, Nat.zero_le _⟩) hm (fun v F1 A1 B1 H locs hp hm => ?_)
                      obtain ⟨rfl, eF, eA, eB⟩ := hp
                      rw [eF, eA, eB] at hm
                      clear eF eA eB
                      have hm : mS g s.heap H x ad (upd Fg 0 (nI 2)) Ag B locs := hm
                      refine W.eq (g2 := F0 m 119 ls [.int (bI true)]) rfl ?_
                      refine z_eq (tgt := 126) (v := true) hx hb d_M_grant_119 (by decide) (fun c119 => ?_) (fun c119 => ?_)
                      · skip
                        first | exact absurd c119 (by decide) | exact absurd (by decide) c119
                      · skip
                        refine lv_iconst (v := nI 0) hx hb d_M_grant_122 (by decide) ?_
                        refine lv_goto (tgt := 142) hx hb d_M_grant_123 (by decide) ?_
                        have cz : nI on2 = nI wn := by rw [c75]
                        have hcd : cd = 2 := hcd.symm.trans (by simp [c70, cz])
                        subst hcd
                        exact W.iret hx hb hr (fun t9 ht hW => ⟨_, _, _, _, rfl, by rw [ht]; exact ⟨hm.1, hm.2.1, hm.2.2.1, fun _ h => by cases h⟩, ⟨rfl, lo_u hlF, rfl, fun o => by rw [if_neg (by decide)]; exact aI_lo hlA hai⟩⟩) hm.2.2.2 d_M_grant_142 hlk
                    · skip
                      first | exact absurd c101 (by decide) | exact absurd (by decide) c101
                  · skip
                    refine lv_aload_n hx hb d_M_grant_78 rfl (lv_at hl 2 rfl) ?_
                    refine lv_iload hx hb d_M_grant_79 (lv_at hl 0 rfl) ?_
                    refine lv_iload_n hx hb d_M_grant_81 rfl (lv_at hl 4 rfl) ?_
                    refine aP (rV (As := [.int (nI kk), .int (nI on2)]) (rest := []) C0 (c_M_hasRight l g _ x ad _ _ _ hm.1 kk (nmT tb kk).2.2 on2 (by omega) n4 (by omega)) (m_zK hZ hm) k_M_grant_82 rfl rfl ⟨Nat.le_of_ble_eq_true rfl, Nat.le_of_ble_eq_true rfl⟩ (m_recv hK hm) rfl hl.1 rfl (Nat.le_of_ble_eq_true rfl) d_M_grant_82 ⟨Nat.zero_le _, Nat.zero_le _⟩) ?_
                    intro v hv; subst hv
                    have eh : decide (Ag 19 kk = nI 1 ∧ (Ag 21 (nmT tb kk).2.2 = nI on2 ∨ rbit (Ag 22 (nmT tb kk).2.2) on2 = true)) = hrT tb kk (nI on2) := by rw [hrT, decide_eq_decide, n3, w1, w2, nI_clamp (by omega)]; exact Iff.rfl
                    rw [eh]
                    clear eh
                    refine W.eq (g2 := F0 m 85 ls [.int (bI (hrT tb kk (nI on2)))]) rfl ?_
                    refine lv_iload_n hx hb d_M_grant_85 rfl (lv_at hl 5 rfl) ?_
                    refine lv_icmp_eq (tgt := 93) hx hb d_M_grant_86 (by decide) (fun c86 => ?_) (fun c86 => ?_)
                    · skip
                      refine lv_iconst (v := nI 0) hx hb d_M_grant_93 (by decide) ?_
                      refine lv_istore (lv' := [(6, .int (nI 0)), (5, .int (nI kk)), (4, .int (nI 0)), (0, .ref x), (1, .int (nI wn)), (2, .int (nI on2)), (3, .int (bI on))]) hx hb d_M_grant_94 hl (by decide) rfl (fun ls hl => ?_)
                      refine lv_aload_n hx hb d_M_grant_96 rfl (lv_at hl 3 rfl) ?_
                      refine lv_iload hx hb d_M_grant_97 (lv_at hl 2 rfl) ?_
                      refine lv_iload hx hb d_M_grant_99 (lv_at hl 0 rfl) ?_
                      refine lv_if_eq (tgt := 111) hx hb d_M_grant_101 (by decide) (fun c101 => ?_) (fun c101 => ?_)
                      · skip
                        refine lv_iconst (v := nI 1) hx hb d_M_grant_111 (by decide) ?_
                        refine lv_goto (tgt := 116) hx hb d_M_grant_112 (by decide) ?_
                        refine aM (rV (As := [.int (nI 0), .int (nI 1)]) (rest := []) C0 (c_M_refuses l g _ x ad _ _ _ hm.1 false true) (m_zK hZ hm) k_M_grant_116 rfl rfl ⟨Nat.le_of_ble_eq_true rfl, Nat.le_of_ble_eq_true rfl⟩ (m_recv hK hm) rfl hl.1 rfl (Nat.le_of_ble_eq_true rfl) d_M_grant_116 ⟨Nat.zero_le _, Nat.zero_le _⟩) hm (fun v F1 A1 B1 H locs hp hm => ?_)
                        obtain ⟨rfl, eF, eA, eB⟩ := hp
                        rw [eF, eA, eB] at hm
                        clear eF eA eB
                        have hm : mS g s.heap H x ad (upd Fg 0 (nI 2)) Ag B locs := hm
                        refine W.eq (g2 := F0 m 119 ls [.int (bI true)]) rfl ?_
                        refine z_eq (tgt := 126) (v := true) hx hb d_M_grant_119 (by decide) (fun c119 => ?_) (fun c119 => ?_)
                        · skip
                          first | exact absurd c119 (by decide) | exact absurd (by decide) c119
                        · skip
                          refine lv_iconst (v := nI 0) hx hb d_M_grant_122 (by decide) ?_
                          refine lv_goto (tgt := 142) hx hb d_M_grant_123 (by decide) ?_
                          have cz : ¬ nI on2 = nI wn := fun z => c75 ((nI_eq (by omega) (by omega)).mp z)
                          have hcd : cd = 2 := hcd.symm.trans (by simp [c70, cz, c86])
                          subst hcd
                          exact W.iret hx hb hr (fun t9 ht hW => ⟨_, _, _, _, rfl, by rw [ht]; exact ⟨hm.1, hm.2.1, hm.2.2.1, fun _ h => by cases h⟩, ⟨rfl, lo_u hlF, rfl, fun o => by rw [if_neg (by decide)]; exact aI_lo hlA hai⟩⟩) hm.2.2.2 d_M_grant_142 hlk
                      · skip
                        first | exact absurd c101 (by decide) | exact absurd (by decide) c101
                    · skip
                      refine lv_iconst (v := nI 1) hx hb d_M_grant_89 (by decide) ?_
                      refine lv_goto (tgt := 94) hx hb d_M_grant_90 (by decide) ?_
                      refine lv_istore (lv' := [(6, .int (nI 1)), (5, .int (nI kk)), (4, .int (nI 0)), (0, .ref x), (1, .int (nI wn)), (2, .int (nI on2)), (3, .int (bI on))]) hx hb d_M_grant_94 hl (by decide) rfl (fun ls hl => ?_)
                      refine lv_aload_n hx hb d_M_grant_96 rfl (lv_at hl 3 rfl) ?_
                      refine lv_iload hx hb d_M_grant_97 (lv_at hl 2 rfl) ?_
                      refine lv_iload hx hb d_M_grant_99 (lv_at hl 0 rfl) ?_
                      refine lv_if_eq (tgt := 111) hx hb d_M_grant_101 (by decide) (fun c101 => ?_) (fun c101 => ?_)
                      · skip
                        first | exact absurd c101 (by decide) | exact absurd (by decide) c101
                      · skip
                        refine lv_aload_n hx hb d_M_grant_104 rfl (lv_at hl 3 rfl) ?_
                        refine aP (rV (As := []) (rest := [.int (nI 0), .ref x]) C0 (c_M_isFull l g _ x ad _ _ _ hm.1 rows.length g12 h120) (m_zK hZ hm) k_M_grant_105 rfl rfl ⟨Nat.le_of_ble_eq_true rfl, Nat.le_of_ble_eq_true rfl⟩ (m_recv hK hm) rfl hl.1 rfl (Nat.le_of_ble_eq_true rfl) d_M_grant_105 ⟨Nat.zero_le _, Nat.zero_le _⟩) ?_
                        intro v hv; subst hv
                        refine W.eq (g2 := F0 m 108 ls [.int (bI (decide (rows.length = 120))), .int (nI 0), .ref x]) rfl ?_
                        refine z_eq (tgt := 115) (v := decide (rows.length = 120)) hx hb d_M_grant_108 (by decide) (fun c108 => ?_) (fun c108 => ?_)
                        · skip
                          refine lv_iconst (v := nI 0) hx hb d_M_grant_115 (by decide) ?_
                          refine aM (rV (As := [.int (nI 0), .int (nI 0)]) (rest := []) C0 (c_M_refuses l g _ x ad _ _ _ hm.1 false false) (m_zK hZ hm) k_M_grant_116 rfl rfl ⟨Nat.le_of_ble_eq_true rfl, Nat.le_of_ble_eq_true rfl⟩ (m_recv hK hm) rfl hl.1 rfl (Nat.le_of_ble_eq_true rfl) d_M_grant_116 ⟨Nat.zero_le _, Nat.zero_le _⟩) hm (fun v F1 A1 B1 H locs hp hm => ?_)
                          obtain ⟨rfl, eF, eA, eB⟩ := hp
                          rw [eF, eA, eB] at hm
                          clear eF eA eB
                          have hm : mS g s.heap H x ad (upd Fg 0 (nI 0)) Ag B locs := hm
                          refine W.eq (g2 := F0 m 119 ls [.int (bI false)]) rfl ?_
                          refine z_eq (tgt := 126) (v := false) hx hb d_M_grant_119 (by decide) (fun c119 => ?_) (fun c119 => ?_)
                          · skip
                            refine lv_aload_n hx hb d_M_grant_126 rfl (lv_at hl 3 rfl) ?_
                            refine lv_iconst (v := nI 2) hx hb d_M_grant_127 (by decide) ?_
                            refine lv_iload_n hx hb d_M_grant_128 rfl (lv_at hl 4 rfl) ?_
                            refine lv_iload_n hx hb d_M_grant_129 rfl (lv_at hl 5 rfl) ?_
                            refine lv_iload_n hx hb d_M_grant_130 rfl (lv_at hl 6 rfl) ?_
                            refine z_eq (tgt := 138) (v := on) hx hb d_M_grant_131 (by decide) (fun c131 => ?_) (fun c131 => ?_)
                            · skip
                              refine lv_iconst (v := nI 0) hx hb d_M_grant_138 (by decide) ?_
                              have hai2 := aI_lo hlA hai
                              have hl9 : rows.length < 120 := by have := of_decide_eq_false c108; omega
                              refine aM (rV (As := [.int (nI 2), .int (nI wn), .int (nI on2), .int (nI 0)]) (rest := []) C0 (c_M_write l g _ x ad _ _ _ hm.1 (nI 2) (nI wn) (nI on2) (nI 0) rows.length T.length 0 hl9 g32 g33 (by omega) (by omega) (hai2.1.2.1)) (m_zK hZ hm) k_M_grant_139 rfl rfl ⟨Nat.le_of_ble_eq_true rfl, Nat.le_of_ble_eq_true rfl⟩ (m_recv hK hm) rfl hl.1 rfl (Nat.le_of_ble_eq_true rfl) d_M_grant_139 ⟨Nat.zero_le _, Nat.zero_le _⟩) hm (fun v F1 A1 B1 H locs hp hm => ?_)
                              obtain ⟨rfl, eF, eA, eB⟩ := hp
                              rw [eF, eA, eB] at hm
                              clear eF eA eB
                              refine W.eq (g2 := F0 m 142 ls [.int (nI rows.length)]) rfl ?_
                              have cz : ¬ nI on2 = nI wn := fun z => c75 ((nI_eq (by omega) (by omega)).mp z)
                              have hcd : cd = 0 := hcd.symm.trans (by simp [c70, cz, c86, c108])
                              subst hcd
                              subst c131
                              exact W.iret hx hb hr (fun t9 ht hW => ⟨_, _, _, _, rfl, by rw [ht]; exact ⟨hm.1, hm.2.1, hm.2.2.1, fun _ h => by cases h⟩, ⟨rfl, lo_u hlF, rfl, fun o => by rw [if_pos rfl]; exact wr_aI (k0 := nI 2) (o := o) (u := T) hai2 hl9 hx30 (by omega) hc (fun k hk => absurd hk (Nat.not_lt_zero _)) rfl (by omega) nil_c (Or.inr (Or.inr (Or.inl rfl)))⟩⟩) hm.2.2.2 d_M_grant_142 hlk
                            · skip
                              refine lv_iconst (v := nI 1) hx hb d_M_grant_134 (by decide) ?_
                              refine lv_goto (tgt := 139) hx hb d_M_grant_135 (by decide) ?_
                              have hai2 := aI_lo hlA hai
                              have hl9 : rows.length < 120 := by have := of_decide_eq_false c108; omega
                              refine aM (rV (As := [.int (nI 2), .int (nI wn), .int (nI on2), .int (nI 1)]) (rest := []) C0 (c_M_write l g _ x ad _ _ _ hm.1 (nI 2) (nI wn) (nI on2) (nI 1) rows.length T.length 0 hl9 g32 g33 (by omega) (by omega) (hai2.1.2.1)) (m_zK hZ hm) k_M_grant_139 rfl rfl ⟨Nat.le_of_ble_eq_true rfl, Nat.le_of_ble_eq_true rfl⟩ (m_recv hK hm) rfl hl.1 rfl (Nat.le_of_ble_eq_true rfl) d_M_grant_139 ⟨Nat.zero_le _, Nat.zero_le _⟩) hm (fun v F1 A1 B1 H locs hp hm => ?_)
                              obtain ⟨rfl, eF, eA, eB⟩ := hp
                              rw [eF, eA, eB] at hm
                              clear eF eA eB
                              refine W.eq (g2 := F0 m 142 ls [.int (nI rows.length)]) rfl ?_
                              have cz : ¬ nI on2 = nI wn := fun z => c75 ((nI_eq (by omega) (by omega)).mp z)
                              have hcd : cd = 0 := hcd.symm.trans (by simp [c70, cz, c86, c108])
                              subst hcd
                              subst c131
                              exact W.iret hx hb hr (fun t9 ht hW => ⟨_, _, _, _, rfl, by rw [ht]; exact ⟨hm.1, hm.2.1, hm.2.2.1, fun _ h => by cases h⟩, ⟨rfl, lo_u hlF, rfl, fun o => by rw [if_pos rfl]; exact wr_aI (k0 := nI 2) (o := o) (u := T) hai2 hl9 hx30 (by omega) hc (fun k hk => absurd hk (Nat.not_lt_zero _)) rfl (by omega) nil_c (Or.inr (Or.inr (Or.inl rfl)))⟩⟩) hm.2.2.2 d_M_grant_142 hlk
                          · skip
                            first | exact absurd c119 (by decide) | exact absurd (by decide) c119
                        · skip
                          refine lv_iconst (v := nI 1) hx hb d_M_grant_111 (by decide) ?_
                          refine lv_goto (tgt := 116) hx hb d_M_grant_112 (by decide) ?_
                          refine aM (rV (As := [.int (nI 0), .int (nI 1)]) (rest := []) C0 (c_M_refuses l g _ x ad _ _ _ hm.1 false true) (m_zK hZ hm) k_M_grant_116 rfl rfl ⟨Nat.le_of_ble_eq_true rfl, Nat.le_of_ble_eq_true rfl⟩ (m_recv hK hm) rfl hl.1 rfl (Nat.le_of_ble_eq_true rfl) d_M_grant_116 ⟨Nat.zero_le _, Nat.zero_le _⟩) hm (fun v F1 A1 B1 H locs hp hm => ?_)
                          obtain ⟨rfl, eF, eA, eB⟩ := hp
                          rw [eF, eA, eB] at hm
                          clear eF eA eB
                          have hm : mS g s.heap H x ad (upd Fg 0 (nI 2)) Ag B locs := hm
                          refine W.eq (g2 := F0 m 119 ls [.int (bI true)]) rfl ?_
                          refine z_eq (tgt := 126) (v := true) hx hb d_M_grant_119 (by decide) (fun c119 => ?_) (fun c119 => ?_)
                          · skip
                            first | exact absurd c119 (by decide) | exact absurd (by decide) c119
                          · skip
                            refine lv_iconst (v := nI 0) hx hb d_M_grant_122 (by decide) ?_
                            refine lv_goto (tgt := 142) hx hb d_M_grant_123 (by decide) ?_
                            have cz : ¬ nI on2 = nI wn := fun z => c75 ((nI_eq (by omega) (by omega)).mp z)
                            have hcd : cd = 2 := hcd.symm.trans (by simp [c70, cz, c86, c108])
                            subst hcd
                            exact W.iret hx hb hr (fun t9 ht hW => ⟨_, _, _, _, rfl, by rw [ht]; exact ⟨hm.1, hm.2.1, hm.2.2.1, fun _ h => by cases h⟩, ⟨rfl, lo_u hlF, rfl, fun o => by rw [if_neg (by decide)]; exact aI_lo hlA hai⟩⟩) hm.2.2.2 d_M_grant_142 hlk
          · skip
            first | exact absurd c36 (by decide) | exact absurd (by decide) c36
        · skip
          refine lv_iconst (v := nI 1) hx hb d_M_grant_22 (by decide) ?_
          refine lv_goto (tgt := 27) hx hb d_M_grant_23 (by decide) ?_
          have hb9 : (nameM T 0 T.length && (isP who && isP oth)) = false := by rw [c19, Bool.and_false, Bool.and_false]
          rw [hb9, endC, if_pos (by rfl)] at hcd
          refine lv_istore (lv' := [(4, .int (nI 1)), (0, .ref x), (1, .int who), (2, .int oth), (3, .int (bI on))]) hx hb d_M_grant_27 hl (by decide) rfl (fun ls hl => ?_)
          refine lv_aload_n hx hb d_M_grant_29 rfl (lv_at hl 1 rfl) ?_
          refine lv_iconst (v := nI 4) hx hb d_M_grant_30 (by decide) ?_
          refine aM (rV (As := [.int (nI 4)]) (rest := []) C0 (c_M_goThrough l g _ x ad _ _ _ hm.1 4 (by decide) rows (refR_lo hlA hai.1) tb htb) (m_zK hZ hm) k_M_grant_31 rfl rfl ⟨Nat.le_of_ble_eq_true rfl, Nat.le_of_ble_eq_true rfl⟩ (m_recv hK hm) rfl hl.1 rfl (Nat.le_of_ble_eq_true rfl) d_M_grant_31 ⟨Nat.zero_le _, Nat.zero_le _⟩) hm (fun v Fg Ag Bg H locs hp hm => ?_)
          obtain ⟨rfl, hbF, hbA, eB, hTT⟩ := hp
          rw [eB] at hm
          clear eB
          have hok := ok_ref hai.1 htb
          have h120 : rows.length ≤ 120 := hai.1.1
          obtain ⟨ok1, ok2, ok3, ok4, ok5⟩ := id hok
          have hlF : lo Fg _ := lo_tr (lo_bt hbF) hlF
          have hlA : lo Ag A := lo_tr (lo_bt hbA) hlA
          refine W.eq (g2 := F0 m 34 ls []) rfl ?_
          have g32 : Fg 32 = nI T.length := by rw [hbF 32 (by omega)]; rfl
          have g33 : Fg 33 = nI 0 := by rw [hbF 33 (by omega)]; rfl
          have hx30 : txt Ag 30 0 T := by unfold txt; rw [hbA 30 (by omega)]; exact hx30
          have g12 : Ag 12 4 = nI rows.length := by rw [hlA 12 (by omega)]; exact hai.1.2.1
          refine lv_iload hx hb d_M_grant_34 (lv_at hl 0 rfl) ?_
          refine lv_if_eq (tgt := 43) hx hb d_M_grant_36 (by decide) (fun c36 => ?_) (fun c36 => ?_)
          · skip
            first | exact absurd c36 (by decide) | exact absurd (by decide) c36
          · skip
            refine lv_iconst (v := (-1)) hx hb d_M_grant_39 (by decide) ?_
            refine lv_goto (tgt := 56) hx hb d_M_grant_40 (by decide) ?_
            refine lv_istore (lv' := [(5, .int ((-1))), (4, .int (nI 1)), (0, .ref x), (1, .int who), (2, .int oth), (3, .int (bI on))]) hx hb d_M_grant_56 hl (by decide) rfl (fun ls hl => ?_)
            refine lv_iload hx hb d_M_grant_58 (lv_at hl 1 rfl) ?_
            refine lv_if_ne (tgt := 93) hx hb d_M_grant_60 (by decide) (fun c60 => ?_) (fun c60 => ?_)
            · skip
              refine lv_iconst (v := nI 0) hx hb d_M_grant_93 (by decide) ?_
              refine lv_istore (lv' := [(6, .int (nI 0)), (5, .int ((-1))), (4, .int (nI 1)), (0, .ref x), (1, .int who), (2, .int oth), (3, .int (bI on))]) hx hb d_M_grant_94 hl (by decide) rfl (fun ls hl => ?_)
              refine lv_aload_n hx hb d_M_grant_96 rfl (lv_at hl 3 rfl) ?_
              refine lv_iload hx hb d_M_grant_97 (lv_at hl 2 rfl) ?_
              refine lv_iload hx hb d_M_grant_99 (lv_at hl 0 rfl) ?_
              refine lv_if_eq (tgt := 111) hx hb d_M_grant_101 (by decide) (fun c101 => ?_) (fun c101 => ?_)
              · skip
                refine lv_iconst (v := nI 1) hx hb d_M_grant_111 (by decide) ?_
                refine lv_goto (tgt := 116) hx hb d_M_grant_112 (by decide) ?_
                refine aM (rV (As := [.int (nI 1), .int (nI 1)]) (rest := []) C0 (c_M_refuses l g _ x ad _ _ _ hm.1 true true) (m_zK hZ hm) k_M_grant_116 rfl rfl ⟨Nat.le_of_ble_eq_true rfl, Nat.le_of_ble_eq_true rfl⟩ (m_recv hK hm) rfl hl.1 rfl (Nat.le_of_ble_eq_true rfl) d_M_grant_116 ⟨Nat.zero_le _, Nat.zero_le _⟩) hm (fun v F1 A1 B1 H locs hp hm => ?_)
                obtain ⟨rfl, eF, eA, eB⟩ := hp
                rw [eF, eA, eB] at hm
                clear eF eA eB
                have hm : mS g s.heap H x ad (upd Fg 0 (nI 1)) Ag B locs := hm
                refine W.eq (g2 := F0 m 119 ls [.int (bI true)]) rfl ?_
                refine z_eq (tgt := 126) (v := true) hx hb d_M_grant_119 (by decide) (fun c119 => ?_) (fun c119 => ?_)
                · skip
                  first | exact absurd c119 (by decide) | exact absurd (by decide) c119
                · skip
                  refine lv_iconst (v := nI 0) hx hb d_M_grant_122 (by decide) ?_
                  refine lv_goto (tgt := 142) hx hb d_M_grant_123 (by decide) ?_
                  have hcd : cd = 1 := hcd.symm
                  subst hcd
                  exact W.iret hx hb hr (fun t9 ht hW => ⟨_, _, _, _, rfl, by rw [ht]; exact ⟨hm.1, hm.2.1, hm.2.2.1, fun _ h => by cases h⟩, ⟨rfl, lo_u hlF, rfl, fun o => by rw [if_neg (by decide)]; exact aI_lo hlA hai⟩⟩) hm.2.2.2 d_M_grant_142 hlk
              · skip
                first | exact absurd c101 (by decide) | exact absurd (by decide) c101
            · skip
              first | exact absurd c60 (by decide) | exact absurd (by decide) c60
  · skip
    simp only [if_neg hN] at hp
    obtain ⟨rfl, eF, eA, eB⟩ := hp
    rw [eF, eA, eB] at hm
    clear eF eA eB
    refine W.eq (g2 := F0 m 5 ls [.int (bI false)]) rfl ?_
    have hlF : lo (upd F 2 (nI 0)) (upd F 2 (nI 0)) := lo_rf _
    have hlA : lo A A := lo_rf _
    refine z_eq (tgt := 22) (v := false) hx hb d_M_grant_5 (by decide) (fun c5 => ?_) (fun c5 => ?_)
    · skip
      refine lv_iconst (v := nI 1) hx hb d_M_grant_22 (by decide) ?_
      refine lv_goto (tgt := 27) hx hb d_M_grant_23 (by decide) ?_
      have hb9 : (nameM T 0 T.length && (isP who && isP oth)) = false := by rw [Bool.eq_false_iff.mpr hN]; rfl
      rw [hb9, endC, if_pos (by rfl)] at hcd
      refine lv_istore (lv' := [(4, .int (nI 1)), (0, .ref x), (1, .int who), (2, .int oth), (3, .int (bI on))]) hx hb d_M_grant_27 hl (by decide) rfl (fun ls hl => ?_)
      refine lv_aload_n hx hb d_M_grant_29 rfl (lv_at hl 1 rfl) ?_
      refine lv_iconst (v := nI 4) hx hb d_M_grant_30 (by decide) ?_
      refine aM (rV (As := [.int (nI 4)]) (rest := []) C0 (c_M_goThrough l g _ x ad _ _ _ hm.1 4 (by decide) rows (refR_lo hlA hai.1) tb htb) (m_zK hZ hm) k_M_grant_31 rfl rfl ⟨Nat.le_of_ble_eq_true rfl, Nat.le_of_ble_eq_true rfl⟩ (m_recv hK hm) rfl hl.1 rfl (Nat.le_of_ble_eq_true rfl) d_M_grant_31 ⟨Nat.zero_le _, Nat.zero_le _⟩) hm (fun v Fg Ag Bg H locs hp hm => ?_)
      obtain ⟨rfl, hbF, hbA, eB, hTT⟩ := hp
      rw [eB] at hm
      clear eB
      have hok := ok_ref hai.1 htb
      have h120 : rows.length ≤ 120 := hai.1.1
      obtain ⟨ok1, ok2, ok3, ok4, ok5⟩ := id hok
      have hlF : lo Fg _ := lo_tr (lo_bt hbF) hlF
      have hlA : lo Ag A := lo_tr (lo_bt hbA) hlA
      refine W.eq (g2 := F0 m 34 ls []) rfl ?_
      have g12 : Ag 12 4 = nI rows.length := by rw [hlA 12 (by omega)]; exact hai.1.2.1
      refine lv_iload hx hb d_M_grant_34 (lv_at hl 0 rfl) ?_
      refine lv_if_eq (tgt := 43) hx hb d_M_grant_36 (by decide) (fun c36 => ?_) (fun c36 => ?_)
      · skip
        first | exact absurd c36 (by decide) | exact absurd (by decide) c36
      · skip
        refine lv_iconst (v := (-1)) hx hb d_M_grant_39 (by decide) ?_
        refine lv_goto (tgt := 56) hx hb d_M_grant_40 (by decide) ?_
        refine lv_istore (lv' := [(5, .int ((-1))), (4, .int (nI 1)), (0, .ref x), (1, .int who), (2, .int oth), (3, .int (bI on))]) hx hb d_M_grant_56 hl (by decide) rfl (fun ls hl => ?_)
        refine lv_iload hx hb d_M_grant_58 (lv_at hl 1 rfl) ?_
        refine lv_if_ne (tgt := 93) hx hb d_M_grant_60 (by decide) (fun c60 => ?_) (fun c60 => ?_)
        · skip
          refine lv_iconst (v := nI 0) hx hb d_M_grant_93 (by decide) ?_
          refine lv_istore (lv' := [(6, .int (nI 0)), (5, .int ((-1))), (4, .int (nI 1)), (0, .ref x), (1, .int who), (2, .int oth), (3, .int (bI on))]) hx hb d_M_grant_94 hl (by decide) rfl (fun ls hl => ?_)
          refine lv_aload_n hx hb d_M_grant_96 rfl (lv_at hl 3 rfl) ?_
          refine lv_iload hx hb d_M_grant_97 (lv_at hl 2 rfl) ?_
          refine lv_iload hx hb d_M_grant_99 (lv_at hl 0 rfl) ?_
          refine lv_if_eq (tgt := 111) hx hb d_M_grant_101 (by decide) (fun c101 => ?_) (fun c101 => ?_)
          · skip
            refine lv_iconst (v := nI 1) hx hb d_M_grant_111 (by decide) ?_
            refine lv_goto (tgt := 116) hx hb d_M_grant_112 (by decide) ?_
            refine aM (rV (As := [.int (nI 1), .int (nI 1)]) (rest := []) C0 (c_M_refuses l g _ x ad _ _ _ hm.1 true true) (m_zK hZ hm) k_M_grant_116 rfl rfl ⟨Nat.le_of_ble_eq_true rfl, Nat.le_of_ble_eq_true rfl⟩ (m_recv hK hm) rfl hl.1 rfl (Nat.le_of_ble_eq_true rfl) d_M_grant_116 ⟨Nat.zero_le _, Nat.zero_le _⟩) hm (fun v F1 A1 B1 H locs hp hm => ?_)
            obtain ⟨rfl, eF, eA, eB⟩ := hp
            rw [eF, eA, eB] at hm
            clear eF eA eB
            have hm : mS g s.heap H x ad (upd Fg 0 (nI 1)) Ag B locs := hm
            refine W.eq (g2 := F0 m 119 ls [.int (bI true)]) rfl ?_
            refine z_eq (tgt := 126) (v := true) hx hb d_M_grant_119 (by decide) (fun c119 => ?_) (fun c119 => ?_)
            · skip
              first | exact absurd c119 (by decide) | exact absurd (by decide) c119
            · skip
              refine lv_iconst (v := nI 0) hx hb d_M_grant_122 (by decide) ?_
              refine lv_goto (tgt := 142) hx hb d_M_grant_123 (by decide) ?_
              have hcd : cd = 1 := hcd.symm
              subst hcd
              exact W.iret hx hb hr (fun t9 ht hW => ⟨_, _, _, _, rfl, by rw [ht]; exact ⟨hm.1, hm.2.1, hm.2.2.1, fun _ h => by cases h⟩, ⟨rfl, lo_u hlF, rfl, fun o => by rw [if_neg (by decide)]; exact aI_lo hlA hai⟩⟩) hm.2.2.2 d_M_grant_142 hlk
          · skip
            first | exact absurd c101 (by decide) | exact absurd (by decide) c101
        · skip
          first | exact absurd c60 (by decide) | exact absurd (by decide) c60
    · skip
      first | exact absurd c5 (by decide) | exact absurd (by decide) c5
theorem k_M_move_2 : kV "RegistryLogModel" 161 "RegistryLogModel" y_M_takes b_M_takes 5 (some .boolean) 1 := ⟨(in_5 (List.mem_of_getElem? (i := 122) rfl) rfl), (in_5 (List.mem_of_getElem? (i := 124) rfl) rfl), (in_0 (List.mem_of_getElem? (i := 6) rfl) rfl), (in_1 (List.mem_of_getElem? (i := 22) rfl) rfl), (in_5 (List.mem_of_getElem? (i := 125) rfl) rfl), ⟨by decide, by decide, by decide +kernel⟩⟩
theorem k_M_move_9 : kS "RegistryLogModel" 165 y_M_isPerson b_M_isPerson 1 (some .boolean) 1 := ⟨(in_5 (List.mem_of_getElem? (i := 133) rfl) rfl), (in_5 (List.mem_of_getElem? (i := 134) rfl) rfl), (in_1 (List.mem_of_getElem? (i := 22) rfl) rfl), (in_5 (List.mem_of_getElem? (i := 135) rfl) rfl), ⟨by decide, by decide, by decide +kernel⟩⟩
theorem k_M_move_23 : kV "RegistryLogModel" 171 "RegistryLogModel" y_M_goThrough b_M_goThrough 5 none 1 := ⟨(in_5 (List.mem_of_getElem? (i := 139) rfl) rfl), (in_5 (List.mem_of_getElem? (i := 141) rfl) rfl), (in_0 (List.mem_of_getElem? (i := 8) rfl) rfl), (in_1 (List.mem_of_getElem? (i := 22) rfl) rfl), (in_5 (List.mem_of_getElem? (i := 142) rfl) rfl), ⟨by decide, by decide, by decide +kernel⟩⟩
theorem k_M_move_44 : kV "RegistryLogModel" 142 "RegistryLogModel" y_M_met b_M_met 8 (some .int) 3 := ⟨(in_5 (List.mem_of_getElem? (i := 143) rfl) rfl), (in_5 (List.mem_of_getElem? (i := 145) rfl) rfl), (in_0 (List.mem_of_getElem? (i := 9) rfl) rfl), (in_1 (List.mem_of_getElem? (i := 22) rfl) rfl), (in_5 (List.mem_of_getElem? (i := 146) rfl) rfl), ⟨by decide, by decide, by decide +kernel⟩⟩
theorem k_M_move_55 : kV "RegistryLogModel" 193 "RegistryLogModel" y_M_isFounder b_M_isFounder 3 (some .boolean) 2 := ⟨(in_5 (List.mem_of_getElem? (i := 194) rfl) rfl), (in_5 (List.mem_of_getElem? (i := 196) rfl) rfl), (in_0 (List.mem_of_getElem? (i := 19) rfl) rfl), (in_1 (List.mem_of_getElem? (i := 22) rfl) rfl), (in_5 (List.mem_of_getElem? (i := 197) rfl) rfl), ⟨by decide, by decide, by decide +kernel⟩⟩
theorem k_M_move_71 : kV "RegistryLogModel" 175 "RegistryLogModel" y_M_isFree b_M_isFree 6 (some .boolean) 3 := ⟨(in_5 (List.mem_of_getElem? (i := 155) rfl) rfl), (in_5 (List.mem_of_getElem? (i := 157) rfl) rfl), (in_0 (List.mem_of_getElem? (i := 12) rfl) rfl), (in_1 (List.mem_of_getElem? (i := 22) rfl) rfl), (in_5 (List.mem_of_getElem? (i := 158) rfl) rfl), ⟨by decide, by decide, by decide +kernel⟩⟩
theorem k_M_move_92 : kV "RegistryLogModel" 181 "RegistryLogModel" y_M_isFull b_M_isFull 1 (some .boolean) 0 := ⟨(in_5 (List.mem_of_getElem? (i := 174) rfl) rfl), (in_5 (List.mem_of_getElem? (i := 176) rfl) rfl), (in_0 (List.mem_of_getElem? (i := 16) rfl) rfl), (in_1 (List.mem_of_getElem? (i := 22) rfl) rfl), (in_5 (List.mem_of_getElem? (i := 177) rfl) rfl), ⟨by decide, by decide, by decide +kernel⟩⟩
theorem k_M_move_103 : kV "RegistryLogModel" 185 "RegistryLogModel" y_M_refuses b_M_refuses 3 (some .boolean) 2 := ⟨(in_5 (List.mem_of_getElem? (i := 178) rfl) rfl), (in_5 (List.mem_of_getElem? (i := 180) rfl) rfl), (in_0 (List.mem_of_getElem? (i := 17) rfl) rfl), (in_1 (List.mem_of_getElem? (i := 22) rfl) rfl), (in_5 (List.mem_of_getElem? (i := 181) rfl) rfl), ⟨by decide, by decide, by decide +kernel⟩⟩
theorem k_M_move_118 : kV "RegistryLogModel" 189 "RegistryLogModel" y_M_write b_M_write 7 (some .int) 4 := ⟨(in_5 (List.mem_of_getElem? (i := 182) rfl) rfl), (in_5 (List.mem_of_getElem? (i := 184) rfl) rfl), (in_0 (List.mem_of_getElem? (i := 18) rfl) rfl), (in_1 (List.mem_of_getElem? (i := 22) rfl) rfl), (in_5 (List.mem_of_getElem? (i := 185) rfl) rfl), ⟨by decide, by decide, by decide +kernel⟩⟩
set_option maxHeartbeats 4000000 in
set_option maxRecDepth 100000 in
/-- move -/
theorem c_M_move (l : Launch) (g : gG) (H : Heap) (x : Nat) (ad : Nat → Nat) (F : Nat → Int32) (A : Nat → Nat → Int32) (B : Nat → Nat → Int64) (hm0 : mW g H x ad F A B) (T : List Nat) (hT : ∀ k, k < T.length → A 1 k = nI (T.getD k 0)) (hc : ∀ k, T.getD k 0 < 128) (hT24 : T.length ≤ 24) (hty : F 2 = nI T.length) (rows : List Rw) (mir : Nat → List Rw) (hai : aI A rows mir) (tb : Tb) (htb : foT rows = some tb) (who : Int32) (cd : Nat) (hcd : endC (!((decide (cutM T < T.length) && (nameM T 0 (cutM T) && nameM T (cutM T + 1) T.length)) && isP who)) (movT tb (T.take (cutM T)) (T.drop (cutM T + 1)) who) rows.length = cd) : Met l y_M_move (wC y_M_move b_M_move 5 (some .int)) (rmk 3 0 0 77) (pC g H [.ref x, .int who]) (qM g H x ad (fun v F1 A1 B1 => v = some (.int (if cd = 0 then nI rows.length else 0)) ∧ lo F1 (upd (upd F 2 (nI 0)) 0 (nI cd)) ∧ B1 = B ∧ ∀ o, aI A1 (if cd = 0 then rows ++ [(3, who, T.take (cutM T), T.drop (cutM T + 1), -1, 0, o)] else rows) mir)) 0 0 (mN x ad) := by
  refine mB (by decide) (Nat.le_of_ble_eq_true rfl) ?_
  intro p e s m below meth c ls C0 hH hZ hnm hl
  have C0 : cF g p s m _ meth c b_M_move 5 "RegistryLogModel" (some .int) := C0
  obtain ⟨hx, hb, hml, hown, hts, hr, hlk, hK⟩ := id C0
  subst hH
  have hl : lv_has ls 5 [(0, .ref x), (1, .int who)] := hl
  have hm := mS.rf hm0
  refine lv_aload_n hx hb d_M_move_0 rfl (lv_at hl 0 rfl) ?_
  refine lv_iconst (v := nI 1) hx hb d_M_move_1 (by decide) ?_
  refine aM (rV (As := [.int (nI 1)]) (rest := []) C0 (c_M_takes1 l g _ x ad _ _ _ hm.1 T hT hc hT24 hty) (m_zK hZ hm) k_M_move_2 rfl rfl ⟨Nat.le_of_ble_eq_true rfl, Nat.le_of_ble_eq_true rfl⟩ (m_recv hK hm) rfl hl.1 rfl (Nat.le_of_ble_eq_true rfl) d_M_move_2 ⟨Nat.zero_le _, Nat.zero_le _⟩) hm (fun v F1 A1 B1 H locs hp hm => ?_)
  by_cases hN : cutM T < T.length ∧ nameM T 0 (cutM T) = true ∧ nameM T (cutM T + 1) T.length = true
  · skip
    simp only [if_pos hN] at hp
    obtain ⟨rfl, eF, eA, eB⟩ := hp
    rw [eF, eA, eB] at hm
    clear eF eA eB
    have h10 := nameM_le hN.2.1
    have h11 := nameM_le hN.2.2
    refine W.eq (g2 := F0 m 5 ls [.int (bI true)]) rfl ?_
    have hlF : lo (upd (upd (upd F 2 (nI 0)) 32 (nI (cutM T))) 33 (nI (T.length - cutM T - 1))) (upd F 2 (nI 0)) := lo_tr (lo_hi (by omega)) (lo_hi (by omega))
    have hlA : lo (updA (updA A 30 (va_cpy (A 1) (A 30) 0 0 (cutM T))) 31 (va_cpy (A 1) (A 31) (cutM T + 1) 0 (T.length - cutM T - 1))) A := lo_tr (lo_hA (by omega)) (lo_hA (by omega))
    obtain ⟨t1, et1⟩ : ∃ t, t = T.take (cutM T) := ⟨_, rfl⟩
    obtain ⟨t2, et2⟩ : ∃ t, t = T.drop (cutM T + 1) := ⟨_, rfl⟩
    have l1 : t1.length = cutM T := by rw [et1, List.length_take]; omega
    have l2 : t2.length = T.length - cutM T - 1 := by rw [et2, List.length_drop]; omega
    have d1 : ∀ k, t1.getD k 0 < 128 := fun k => by rw [et1, List.getD_eq_getElem?_getD, List.getElem?_take]; split; (rw [← List.getD_eq_getElem?_getD]; exact hc k); decide
    have d2 : ∀ k, t2.getD k 0 < 128 := fun k => by rw [et2, List.getD_eq_getElem?_getD, List.getElem?_drop, ← List.getD_eq_getElem?_getD]; exact hc _
    have hx30 : txt (updA (updA A 30 (va_cpy (A 1) (A 30) 0 0 (cutM T))) 31 (va_cpy (A 1) (A 31) (cutM T + 1) 0 (T.length - cutM T - 1))) 30 0 t1 := fun k hk => (show va_cpy (A 1) (A 30) 0 0 (cutM T) (0 + k) = nI (t1.getD k 0) from by rw [cpy_in (by omega), Nat.zero_add, hT k (by omega), et1, List.getD_eq_getElem?_getD, List.getD_eq_getElem?_getD, List.getElem?_take, if_pos (by omega)])
    have hx31 : txt (updA (updA A 30 (va_cpy (A 1) (A 30) 0 0 (cutM T))) 31 (va_cpy (A 1) (A 31) (cutM T + 1) 0 (T.length - cutM T - 1))) 31 0 t2 := fun k hk => (show va_cpy (A 1) (A 31) (cutM T + 1) 0 (T.length - cutM T - 1) (0 + k) = nI (t2.getD k 0) from by rw [cpy_in (by omega), hT _ (by omega), et2, List.getD_eq_getElem?_getD, List.getD_eq_getElem?_getD, List.getElem?_drop])
    refine z_eq (tgt := 15) (v := true) hx hb d_M_move_5 (by decide) (fun c5 => ?_) (fun c5 => ?_)
    · skip
      first | exact absurd c5 (by decide) | exact absurd (by decide) c5
    · skip
      refine lv_iload_n hx hb d_M_move_8 rfl (lv_at hl 1 rfl) ?_
      refine aP (rS (As := [.int who]) (rest := []) C0 (c_M_isPerson l g _ who) (m_zK hZ hm) k_M_move_9 rfl rfl ⟨Nat.le_of_ble_eq_true rfl, Nat.le_of_ble_eq_true rfl⟩ rfl hl.1 rfl (Nat.le_of_ble_eq_true rfl) d_M_move_9 ⟨Nat.zero_le _, Nat.zero_le _⟩) ?_
      intro v hv; subst hv
      refine W.eq (g2 := F0 m 12 ls [.int (bI (isP who))]) rfl ?_
      refine z_ne (tgt := 19) (v := isP who) hx hb d_M_move_12 (by decide) (fun c12 => ?_) (fun c12 => ?_)
      · skip
        refine lv_iconst (v := nI 0) hx hb d_M_move_19 (by decide) ?_
        have hb9 : ((decide (cutM T < T.length) && (nameM T 0 (cutM T) && nameM T (cutM T + 1) T.length)) && isP who) = true := by rw [decide_eq_true hN.1, hN.2.1, hN.2.2, c12]; rfl
        rw [hb9, endC, if_neg (by decide), movT] at hcd
        obtain ⟨wn, hwn, ewn⟩ := ix_ (n := 8) (by decide) c12
        subst ewn
        rw [← et1, ← et2] at hcd ⊢
        refine lv_istore_n (lv' := [(2, .int (nI 0)), (0, .ref x), (1, .int (nI wn))]) hx hb d_M_move_20 rfl hl (by decide) rfl (fun ls hl => ?_)
        refine lv_aload_n hx hb d_M_move_21 rfl (lv_at hl 1 rfl) ?_
        refine lv_iconst (v := nI 4) hx hb d_M_move_22 (by decide) ?_
        refine aM (rV (As := [.int (nI 4)]) (rest := []) C0 (c_M_goThrough l g _ x ad _ _ _ hm.1 4 (by decide) rows (refR_lo hlA hai.1) tb htb) (m_zK hZ hm) k_M_move_23 rfl rfl ⟨Nat.le_of_ble_eq_true rfl, Nat.le_of_ble_eq_true rfl⟩ (m_recv hK hm) rfl hl.1 rfl (Nat.le_of_ble_eq_true rfl) d_M_move_23 ⟨Nat.zero_le _, Nat.zero_le _⟩) hm (fun v Fg Ag Bg H locs hp hm => ?_)
        obtain ⟨rfl, hbF, hbA, eB, hTT⟩ := hp
        rw [eB] at hm
        clear eB
        have hok := ok_ref hai.1 htb
        have h120 : rows.length ≤ 120 := hai.1.1
        obtain ⟨ok1, ok2, ok3, ok4, ok5⟩ := id hok
        have hlF : lo Fg _ := lo_tr (lo_bt hbF) hlF
        have hlA : lo Ag A := lo_tr (lo_bt hbA) hlA
        refine W.eq (g2 := F0 m 26 ls []) rfl ?_
        have g32 : Fg 32 = nI t1.length := by rw [hbF 32 (by omega), l1]; rfl
        have g33 : Fg 33 = nI t2.length := by rw [hbF 33 (by omega), l2]; rfl
        have hx30 : txt Ag 30 0 t1 := by unfold txt; rw [hbA 30 (by omega)]; exact hx30
        have hx31 : txt Ag 31 0 t2 := by unfold txt; rw [hbA 31 (by omega)]; exact hx31
        have g12 : Ag 12 4 = nI rows.length := by rw [hlA 12 (by omega)]; exact hai.1.2.1
        refine lv_iload_n hx hb d_M_move_26 rfl (lv_at hl 0 rfl) ?_
        refine lv_if_eq (tgt := 34) hx hb d_M_move_27 (by decide) (fun c27 => ?_) (fun c27 => ?_)
        · skip
          refine lv_aload_n hx hb d_M_move_34 rfl (lv_at hl 1 rfl) ?_
          refine lv_aload_n hx hb d_M_move_35 rfl (lv_at hl 1 rfl) ?_
          refine m_get hx hb hts hown hK hm 30 (by decide) (hts (.fieldLink "RegistryLogModel" 80 "RegistryLogModel" "one" "[I") (in_4 (List.mem_of_getElem? (i := 239) rfl) rfl)) rfl (v := .ref (ad 30)) rfl d_M_move_36 ?_
          refine lv_iconst (v := nI 0) hx hb d_M_move_39 (by decide) ?_
          refine lv_aload_n hx hb d_M_move_40 rfl (lv_at hl 1 rfl) ?_
          refine m_get hx hb hts hown hK hm 32 (by decide) (hts (.fieldLink "RegistryLogModel" 123 "RegistryLogModel" "oneSize" "I") (in_5 (List.mem_of_getElem? (i := 1) rfl) rfl)) rfl (v := .int (nI t1.length)) (congrArg (fun z => some (Value.int z)) g32) d_M_move_41 ?_
          refine aM (rV (As := [.ref (ad 30), .int (nI 0), .int (nI t1.length)]) (rest := []) C0 (c_M_met l g _ x ad _ _ _ hm.1 30 0 t1.length tb.1.length rfl (by omega) (by show 0 + t1.length ≤ 10; omega) hTT.1 (by omega)) (m_zK hZ hm) k_M_move_44 rfl rfl ⟨Nat.le_of_ble_eq_true rfl, Nat.le_of_ble_eq_true rfl⟩ (m_recv hK hm) rfl hl.1 rfl (Nat.le_of_ble_eq_true rfl) d_M_move_44 ⟨Nat.zero_le _, Nat.zero_le _⟩) hm (fun v F1 A1 B1 H locs hp hm => ?_)
          obtain ⟨rfl, eF, eA, eB⟩ := hp
          rw [eF, eA, eB] at hm
          clear eF eA eB
          rw [show metA Ag 30 0 t1.length tb.1.length 0 (-1) = oI (mtT tb t1) from metA_T hTT hok hx30 (by omega) d1]
          rcases hmm : mtT tb t1 with _ | kk
          · skip
            rw [hmm] at hcd
            dsimp only at hcd
            refine W.eq (g2 := F0 m 47 ls [.int ((-1))]) rfl ?_
            refine lv_istore_n (lv' := [(3, .int ((-1))), (2, .int (nI 0)), (0, .ref x), (1, .int (nI wn))]) hx hb d_M_move_47 rfl hl (by decide) rfl (fun ls hl => ?_)
            refine lv_iload_n hx hb d_M_move_48 rfl (lv_at hl 1 rfl) ?_
            refine lv_if_ne (tgt := 81) hx hb d_M_move_49 (by decide) (fun c49 => ?_) (fun c49 => ?_)
            · skip
              first | exact absurd c49 (by decide) | exact absurd (by decide) c49
            · skip
              refine lv_aload_n hx hb d_M_move_52 rfl (lv_at hl 2 rfl) ?_
              refine lv_iload_n hx hb d_M_move_53 rfl (lv_at hl 0 rfl) ?_
              refine lv_iload_n hx hb d_M_move_54 rfl (lv_at hl 3 rfl) ?_
              refine aP (rV (As := [.int ((-1)), .int (nI wn)]) (rest := []) C0 (c_M_isFounder0 l g _ x ad _ _ _ hm.1 (nI wn)) (m_zK hZ hm) k_M_move_55 rfl rfl ⟨Nat.le_of_ble_eq_true rfl, Nat.le_of_ble_eq_true rfl⟩ (m_recv hK hm) rfl hl.1 rfl (Nat.le_of_ble_eq_true rfl) d_M_move_55 ⟨Nat.zero_le _, Nat.zero_le _⟩) ?_
              intro v hv; subst hv
              refine W.eq (g2 := F0 m 58 ls [.int (bI false)]) rfl ?_
              refine z_eq (tgt := 81) (v := false) hx hb d_M_move_58 (by decide) (fun c58 => ?_) (fun c58 => ?_)
              · skip
                refine lv_iconst (v := nI 0) hx hb d_M_move_81 (by decide) ?_
                refine lv_istore (lv' := [(4, .int (nI 0)), (3, .int ((-1))), (2, .int (nI 0)), (0, .ref x), (1, .int (nI wn))]) hx hb d_M_move_82 hl (by decide) rfl (fun ls hl => ?_)
                refine lv_aload_n hx hb d_M_move_84 rfl (lv_at hl 3 rfl) ?_
                refine lv_iload_n hx hb d_M_move_85 rfl (lv_at hl 2 rfl) ?_
                refine lv_iload hx hb d_M_move_86 (lv_at hl 0 rfl) ?_
                refine lv_if_eq (tgt := 98) hx hb d_M_move_88 (by decide) (fun c88 => ?_) (fun c88 => ?_)
                · skip
                  refine lv_iconst (v := nI 1) hx hb d_M_move_98 (by decide) ?_
                  refine lv_goto (tgt := 103) hx hb d_M_move_99 (by decide) ?_
                  refine aM (rV (As := [.int (nI 0), .int (nI 1)]) (rest := []) C0 (c_M_refuses l g _ x ad _ _ _ hm.1 false true) (m_zK hZ hm) k_M_move_103 rfl rfl ⟨Nat.le_of_ble_eq_true rfl, Nat.le_of_ble_eq_true rfl⟩ (m_recv hK hm) rfl hl.1 rfl (Nat.le_of_ble_eq_true rfl) d_M_move_103 ⟨Nat.zero_le _, Nat.zero_le _⟩) hm (fun v F1 A1 B1 H locs hp hm => ?_)
                  obtain ⟨rfl, eF, eA, eB⟩ := hp
                  rw [eF, eA, eB] at hm
                  clear eF eA eB
                  have hm : mS g s.heap H x ad (upd Fg 0 (nI 2)) Ag B locs := hm
                  refine W.eq (g2 := F0 m 106 ls [.int (bI true)]) rfl ?_
                  refine z_eq (tgt := 113) (v := true) hx hb d_M_move_106 (by decide) (fun c106 => ?_) (fun c106 => ?_)
                  · skip
                    first | exact absurd c106 (by decide) | exact absurd (by decide) c106
                  · skip
                    refine lv_iconst (v := nI 0) hx hb d_M_move_109 (by decide) ?_
                    refine lv_goto (tgt := 121) hx hb d_M_move_110 (by decide) ?_
                    have hcd : cd = 2 := hcd.symm.trans (by simp [])
                    subst hcd
                    exact W.iret hx hb hr (fun t9 ht hW => ⟨_, _, _, _, rfl, by rw [ht]; exact ⟨hm.1, hm.2.1, hm.2.2.1, fun _ h => by cases h⟩, ⟨rfl, lo_u hlF, rfl, fun o => by rw [if_neg (by decide)]; exact aI_lo hlA hai⟩⟩) hm.2.2.2 d_M_move_121 hlk
                · skip
                  first | exact absurd c88 (by decide) | exact absurd (by decide) c88
              · skip
                first | exact absurd c58 (by decide) | exact absurd (by decide) c58
          · skip
            rw [hmm] at hcd
            dsimp only at hcd
            have hkk : kk < tb.1.length := mtT_lt hmm
            obtain ⟨n1, n2, n3, n4⟩ := hTT.2.2.2.1 kk hkk
            obtain ⟨p1, p2, p3⟩ := ok4 kk hkk
            obtain ⟨w1, w2⟩ := hTT.2.2.2.2.1 _ p3
            refine W.eq (g2 := F0 m 47 ls [.int (nI kk)]) rfl ?_
            refine lv_istore_n (lv' := [(3, .int (nI kk)), (2, .int (nI 0)), (0, .ref x), (1, .int (nI wn))]) hx hb d_M_move_47 rfl hl (by decide) rfl (fun ls hl => ?_)
            refine lv_iload_n hx hb d_M_move_48 rfl (lv_at hl 1 rfl) ?_
            refine lv_if_ne (tgt := 81) hx hb d_M_move_49 (by decide) (fun c49 => ?_) (fun c49 => ?_)
            · skip
              first | exact absurd c49 (by decide) | exact absurd (by decide) c49
            · skip
              refine lv_aload_n hx hb d_M_move_52 rfl (lv_at hl 2 rfl) ?_
              refine lv_iload_n hx hb d_M_move_53 rfl (lv_at hl 0 rfl) ?_
              refine lv_iload_n hx hb d_M_move_54 rfl (lv_at hl 3 rfl) ?_
              refine aP (rV (As := [.int (nI kk), .int (nI wn)]) (rest := []) C0 (c_M_isFounder l g _ x ad _ _ _ hm.1 kk (nmT tb kk).2.2 (by omega) n4 (by omega) (nI wn)) (m_zK hZ hm) k_M_move_55 rfl rfl ⟨Nat.le_of_ble_eq_true rfl, Nat.le_of_ble_eq_true rfl⟩ (m_recv hK hm) rfl hl.1 rfl (Nat.le_of_ble_eq_true rfl) d_M_move_55 ⟨Nat.zero_le _, Nat.zero_le _⟩) ?_
              intro v hv; subst hv
              have eh : decide (Ag 19 kk = nI 1 ∧ Ag 21 (nmT tb kk).2.2 = nI wn) = fdT tb kk (nI wn) := by rw [fdT, decide_eq_decide, n3, w1]; exact Iff.rfl
              rw [eh]
              clear eh
              refine W.eq (g2 := F0 m 58 ls [.int (bI (fdT tb kk (nI wn)))]) rfl ?_
              refine z_eq (tgt := 81) (v := fdT tb kk (nI wn)) hx hb d_M_move_58 (by decide) (fun c58 => ?_) (fun c58 => ?_)
              · skip
                refine lv_iconst (v := nI 0) hx hb d_M_move_81 (by decide) ?_
                refine lv_istore (lv' := [(4, .int (nI 0)), (3, .int (nI kk)), (2, .int (nI 0)), (0, .ref x), (1, .int (nI wn))]) hx hb d_M_move_82 hl (by decide) rfl (fun ls hl => ?_)
                refine lv_aload_n hx hb d_M_move_84 rfl (lv_at hl 3 rfl) ?_
                refine lv_iload_n hx hb d_M_move_85 rfl (lv_at hl 2 rfl) ?_
                refine lv_iload hx hb d_M_move_86 (lv_at hl 0 rfl) ?_
                refine lv_if_eq (tgt := 98) hx hb d_M_move_88 (by decide) (fun c88 => ?_) (fun c88 => ?_)
                · skip
                  refine lv_iconst (v := nI 1) hx hb d_M_move_98 (by decide) ?_
                  refine lv_goto (tgt := 103) hx hb d_M_move_99 (by decide) ?_
                  refine aM (rV (As := [.int (nI 0), .int (nI 1)]) (rest := []) C0 (c_M_refuses l g _ x ad _ _ _ hm.1 false true) (m_zK hZ hm) k_M_move_103 rfl rfl ⟨Nat.le_of_ble_eq_true rfl, Nat.le_of_ble_eq_true rfl⟩ (m_recv hK hm) rfl hl.1 rfl (Nat.le_of_ble_eq_true rfl) d_M_move_103 ⟨Nat.zero_le _, Nat.zero_le _⟩) hm (fun v F1 A1 B1 H locs hp hm => ?_)
                  obtain ⟨rfl, eF, eA, eB⟩ := hp
                  rw [eF, eA, eB] at hm
                  clear eF eA eB
                  have hm : mS g s.heap H x ad (upd Fg 0 (nI 2)) Ag B locs := hm
                  refine W.eq (g2 := F0 m 106 ls [.int (bI true)]) rfl ?_
                  refine z_eq (tgt := 113) (v := true) hx hb d_M_move_106 (by decide) (fun c106 => ?_) (fun c106 => ?_)
                  · skip
                    first | exact absurd c106 (by decide) | exact absurd (by decide) c106
                  · skip
                    refine lv_iconst (v := nI 0) hx hb d_M_move_109 (by decide) ?_
                    refine lv_goto (tgt := 121) hx hb d_M_move_110 (by decide) ?_
                    have hcd : cd = 2 := hcd.symm.trans (by simp [c58])
                    subst hcd
                    exact W.iret hx hb hr (fun t9 ht hW => ⟨_, _, _, _, rfl, by rw [ht]; exact ⟨hm.1, hm.2.1, hm.2.2.1, fun _ h => by cases h⟩, ⟨rfl, lo_u hlF, rfl, fun o => by rw [if_neg (by decide)]; exact aI_lo hlA hai⟩⟩) hm.2.2.2 d_M_move_121 hlk
                · skip
                  first | exact absurd c88 (by decide) | exact absurd (by decide) c88
              · skip
                refine lv_aload_n hx hb d_M_move_61 rfl (lv_at hl 2 rfl) ?_
                refine lv_aload_n hx hb d_M_move_62 rfl (lv_at hl 2 rfl) ?_
                refine m_get hx hb hts hown hK hm 31 (by decide) (hts (.fieldLink "RegistryLogModel" 83 "RegistryLogModel" "two" "[I") (in_5 (List.mem_of_getElem? (i := 0) rfl) rfl)) rfl (v := .ref (ad 31)) rfl d_M_move_63 ?_
                refine lv_aload_n hx hb d_M_move_66 rfl (lv_at hl 2 rfl) ?_
                refine m_get hx hb hts hown hK hm 33 (by decide) (hts (.fieldLink "RegistryLogModel" 126 "RegistryLogModel" "twoSize" "I") (in_5 (List.mem_of_getElem? (i := 2) rfl) rfl)) rfl (v := .int (nI t2.length)) (congrArg (fun z => some (Value.int z)) g33) d_M_move_67 ?_
                refine lv_iload_n hx hb d_M_move_70 rfl (lv_at hl 0 rfl) ?_
                refine aM (rV (As := [.ref (ad 31), .int (nI t2.length), .int (nI kk)]) (rest := []) C0 (c_M_isFree31 l g _ x ad _ _ _ hm.1 t2 tb.1.length (fun k => (nmT tb k).1) (by omega) hx31 d2 (repN_T hTT hok h120) (nI kk)) (m_zK hZ hm) k_M_move_71 rfl rfl ⟨Nat.le_of_ble_eq_true rfl, Nat.le_of_ble_eq_true rfl⟩ (m_recv hK hm) rfl hl.1 rfl (Nat.le_of_ble_eq_true rfl) d_M_move_71 ⟨Nat.zero_le _, Nat.zero_le _⟩) hm (fun v F1 A1 B1 H locs hp hm => ?_)
                obtain ⟨rfl, eF, ⟨f3, f4, eA⟩, eB⟩ := hp
                rw [eF, eA, eB] at hm
                clear eF eA eB
                rw [free_T hTT hok h120 hx31 (by omega) d2]
                have hlA : lo (updA (updA Ag 34 f3) 35 f4) A := lo_tr (lo_tr (lo_hA (by omega)) (lo_hA (by omega))) hlA
                refine W.eq (g2 := F0 m 74 ls [.int (bI (freT tb t2 (nI kk)))]) rfl ?_
                refine z_eq (tgt := 81) (v := freT tb t2 (nI kk)) hx hb d_M_move_74 (by decide) (fun c74 => ?_) (fun c74 => ?_)
                · skip
                  refine lv_iconst (v := nI 0) hx hb d_M_move_81 (by decide) ?_
                  refine lv_istore (lv' := [(4, .int (nI 0)), (3, .int (nI kk)), (2, .int (nI 0)), (0, .ref x), (1, .int (nI wn))]) hx hb d_M_move_82 hl (by decide) rfl (fun ls hl => ?_)
                  refine lv_aload_n hx hb d_M_move_84 rfl (lv_at hl 3 rfl) ?_
                  refine lv_iload_n hx hb d_M_move_85 rfl (lv_at hl 2 rfl) ?_
                  refine lv_iload hx hb d_M_move_86 (lv_at hl 0 rfl) ?_
                  refine lv_if_eq (tgt := 98) hx hb d_M_move_88 (by decide) (fun c88 => ?_) (fun c88 => ?_)
                  · skip
                    refine lv_iconst (v := nI 1) hx hb d_M_move_98 (by decide) ?_
                    refine lv_goto (tgt := 103) hx hb d_M_move_99 (by decide) ?_
                    refine aM (rV (As := [.int (nI 0), .int (nI 1)]) (rest := []) C0 (c_M_refuses l g _ x ad _ _ _ hm.1 false true) (m_zK hZ hm) k_M_move_103 rfl rfl ⟨Nat.le_of_ble_eq_true rfl, Nat.le_of_ble_eq_true rfl⟩ (m_recv hK hm) rfl hl.1 rfl (Nat.le_of_ble_eq_true rfl) d_M_move_103 ⟨Nat.zero_le _, Nat.zero_le _⟩) hm (fun v F1 A1 B1 H locs hp hm => ?_)
                    obtain ⟨rfl, eF, eA, eB⟩ := hp
                    rw [eF, eA, eB] at hm
                    clear eF eA eB
                    have hm : mS g s.heap H x ad (upd Fg 0 (nI 2)) (updA (updA Ag 34 f3) 35 f4) B locs := hm
                    refine W.eq (g2 := F0 m 106 ls [.int (bI true)]) rfl ?_
                    refine z_eq (tgt := 113) (v := true) hx hb d_M_move_106 (by decide) (fun c106 => ?_) (fun c106 => ?_)
                    · skip
                      first | exact absurd c106 (by decide) | exact absurd (by decide) c106
                    · skip
                      refine lv_iconst (v := nI 0) hx hb d_M_move_109 (by decide) ?_
                      refine lv_goto (tgt := 121) hx hb d_M_move_110 (by decide) ?_
                      have hcd : cd = 2 := hcd.symm.trans (by simp [c58, c74])
                      subst hcd
                      exact W.iret hx hb hr (fun t9 ht hW => ⟨_, _, _, _, rfl, by rw [ht]; exact ⟨hm.1, hm.2.1, hm.2.2.1, fun _ h => by cases h⟩, ⟨rfl, lo_u hlF, rfl, fun o => by rw [if_neg (by decide)]; exact aI_lo hlA hai⟩⟩) hm.2.2.2 d_M_move_121 hlk
                  · skip
                    first | exact absurd c88 (by decide) | exact absurd (by decide) c88
                · skip
                  refine lv_iconst (v := nI 1) hx hb d_M_move_77 (by decide) ?_
                  refine lv_goto (tgt := 82) hx hb d_M_move_78 (by decide) ?_
                  refine lv_istore (lv' := [(4, .int (nI 1)), (3, .int (nI kk)), (2, .int (nI 0)), (0, .ref x), (1, .int (nI wn))]) hx hb d_M_move_82 hl (by decide) rfl (fun ls hl => ?_)
                  refine lv_aload_n hx hb d_M_move_84 rfl (lv_at hl 3 rfl) ?_
                  refine lv_iload_n hx hb d_M_move_85 rfl (lv_at hl 2 rfl) ?_
                  refine lv_iload hx hb d_M_move_86 (lv_at hl 0 rfl) ?_
                  refine lv_if_eq (tgt := 98) hx hb d_M_move_88 (by decide) (fun c88 => ?_) (fun c88 => ?_)
                  · skip
                    first | exact absurd c88 (by decide) | exact absurd (by decide) c88
                  · skip
                    refine lv_aload_n hx hb d_M_move_91 rfl (lv_at hl 3 rfl) ?_
                    refine aP (rV (As := []) (rest := [.int (nI 0), .ref x]) C0 (c_M_isFull l g _ x ad _ _ _ hm.1 rows.length g12 h120) (m_zK hZ hm) k_M_move_92 rfl rfl ⟨Nat.le_of_ble_eq_true rfl, Nat.le_of_ble_eq_true rfl⟩ (m_recv hK hm) rfl hl.1 rfl (Nat.le_of_ble_eq_true rfl) d_M_move_92 ⟨Nat.zero_le _, Nat.zero_le _⟩) ?_
                    intro v hv; subst hv
                    refine W.eq (g2 := F0 m 95 ls [.int (bI (decide (rows.length = 120))), .int (nI 0), .ref x]) rfl ?_
                    refine z_eq (tgt := 102) (v := decide (rows.length = 120)) hx hb d_M_move_95 (by decide) (fun c95 => ?_) (fun c95 => ?_)
                    · skip
                      refine lv_iconst (v := nI 0) hx hb d_M_move_102 (by decide) ?_
                      refine aM (rV (As := [.int (nI 0), .int (nI 0)]) (rest := []) C0 (c_M_refuses l g _ x ad _ _ _ hm.1 false false) (m_zK hZ hm) k_M_move_103 rfl rfl ⟨Nat.le_of_ble_eq_true rfl, Nat.le_of_ble_eq_true rfl⟩ (m_recv hK hm) rfl hl.1 rfl (Nat.le_of_ble_eq_true rfl) d_M_move_103 ⟨Nat.zero_le _, Nat.zero_le _⟩) hm (fun v F1 A1 B1 H locs hp hm => ?_)
                      obtain ⟨rfl, eF, eA, eB⟩ := hp
                      rw [eF, eA, eB] at hm
                      clear eF eA eB
                      have hm : mS g s.heap H x ad (upd Fg 0 (nI 0)) (updA (updA Ag 34 f3) 35 f4) B locs := hm
                      refine W.eq (g2 := F0 m 106 ls [.int (bI false)]) rfl ?_
                      refine z_eq (tgt := 113) (v := false) hx hb d_M_move_106 (by decide) (fun c106 => ?_) (fun c106 => ?_)
                      · skip
                        refine lv_aload_n hx hb d_M_move_113 rfl (lv_at hl 3 rfl) ?_
                        refine lv_iconst (v := nI 3) hx hb d_M_move_114 (by decide) ?_
                        refine lv_iload_n hx hb d_M_move_115 rfl (lv_at hl 4 rfl) ?_
                        refine lv_iconst (v := (-1)) hx hb d_M_move_116 (by decide) ?_
                        refine lv_iconst (v := nI 0) hx hb d_M_move_117 (by decide) ?_
                        have hai2 := aI_lo hlA hai
                        have hl9 : rows.length < 120 := by have := of_decide_eq_false c95; omega
                        refine aM (rV (As := [.int (nI 3), .int (nI wn), .int ((-1)), .int (nI 0)]) (rest := []) C0 (c_M_write l g _ x ad _ _ _ hm.1 (nI 3) (nI wn) ((-1)) (nI 0) rows.length t1.length t2.length hl9 g32 g33 (by omega) (by omega) (hai2.1.2.1)) (m_zK hZ hm) k_M_move_118 rfl rfl ⟨Nat.le_of_ble_eq_true rfl, Nat.le_of_ble_eq_true rfl⟩ (m_recv hK hm) rfl hl.1 rfl (Nat.le_of_ble_eq_true rfl) d_M_move_118 ⟨Nat.zero_le _, Nat.zero_le _⟩) hm (fun v F1 A1 B1 H locs hp hm => ?_)
                        obtain ⟨rfl, eF, eA, eB⟩ := hp
                        rw [eF, eA, eB] at hm
                        clear eF eA eB
                        refine W.eq (g2 := F0 m 121 ls [.int (nI rows.length)]) rfl ?_
                        have hcd : cd = 0 := hcd.symm.trans (by simp [c58, c74, c95])
                        subst hcd
                        exact W.iret hx hb hr (fun t9 ht hW => ⟨_, _, _, _, rfl, by rw [ht]; exact ⟨hm.1, hm.2.1, hm.2.2.1, fun _ h => by cases h⟩, ⟨rfl, lo_u hlF, rfl, fun o => by rw [if_pos rfl]; exact wr_aI (k0 := nI 3) (o := o) (u := t2) hai2 hl9 hx30 (by omega) d1 hx31 rfl (by omega) d2 (Or.inr (Or.inr (Or.inr rfl)))⟩⟩) hm.2.2.2 d_M_move_121 hlk
                      · skip
                        first | exact absurd c106 (by decide) | exact absurd (by decide) c106
                    · skip
                      refine lv_iconst (v := nI 1) hx hb d_M_move_98 (by decide) ?_
                      refine lv_goto (tgt := 103) hx hb d_M_move_99 (by decide) ?_
                      refine aM (rV (As := [.int (nI 0), .int (nI 1)]) (rest := []) C0 (c_M_refuses l g _ x ad _ _ _ hm.1 false true) (m_zK hZ hm) k_M_move_103 rfl rfl ⟨Nat.le_of_ble_eq_true rfl, Nat.le_of_ble_eq_true rfl⟩ (m_recv hK hm) rfl hl.1 rfl (Nat.le_of_ble_eq_true rfl) d_M_move_103 ⟨Nat.zero_le _, Nat.zero_le _⟩) hm (fun v F1 A1 B1 H locs hp hm => ?_)
                      obtain ⟨rfl, eF, eA, eB⟩ := hp
                      rw [eF, eA, eB] at hm
                      clear eF eA eB
                      have hm : mS g s.heap H x ad (upd Fg 0 (nI 2)) (updA (updA Ag 34 f3) 35 f4) B locs := hm
                      refine W.eq (g2 := F0 m 106 ls [.int (bI true)]) rfl ?_
                      refine z_eq (tgt := 113) (v := true) hx hb d_M_move_106 (by decide) (fun c106 => ?_) (fun c106 => ?_)
                      · skip
                        first | exact absurd c106 (by decide) | exact absurd (by decide) c106
                      · skip
                        refine lv_iconst (v := nI 0) hx hb d_M_move_109 (by decide) ?_
                        refine lv_goto (tgt := 121) hx hb d_M_move_110 (by decide) ?_
                        have hcd : cd = 2 := hcd.symm.trans (by simp [c58, c74, c95])
                        subst hcd
                        exact W.iret hx hb hr (fun t9 ht hW => ⟨_, _, _, _, rfl, by rw [ht]; exact ⟨hm.1, hm.2.1, hm.2.2.1, fun _ h => by cases h⟩, ⟨rfl, lo_u hlF, rfl, fun o => by rw [if_neg (by decide)]; exact aI_lo hlA hai⟩⟩) hm.2.2.2 d_M_move_121 hlk
        · skip
          first | exact absurd c27 (by decide) | exact absurd (by decide) c27
      · skip
        refine lv_iconst (v := nI 1) hx hb d_M_move_15 (by decide) ?_
        refine lv_goto (tgt := 20) hx hb d_M_move_16 (by decide) ?_
        have hb9 : ((decide (cutM T < T.length) && (nameM T 0 (cutM T) && nameM T (cutM T + 1) T.length)) && isP who) = false := by rw [c12, Bool.and_false]
        rw [hb9, endC, if_pos (by rfl)] at hcd
        refine lv_istore_n (lv' := [(2, .int (nI 1)), (0, .ref x), (1, .int who)]) hx hb d_M_move_20 rfl hl (by decide) rfl (fun ls hl => ?_)
        refine lv_aload_n hx hb d_M_move_21 rfl (lv_at hl 1 rfl) ?_
        refine lv_iconst (v := nI 4) hx hb d_M_move_22 (by decide) ?_
        refine aM (rV (As := [.int (nI 4)]) (rest := []) C0 (c_M_goThrough l g _ x ad _ _ _ hm.1 4 (by decide) rows (refR_lo hlA hai.1) tb htb) (m_zK hZ hm) k_M_move_23 rfl rfl ⟨Nat.le_of_ble_eq_true rfl, Nat.le_of_ble_eq_true rfl⟩ (m_recv hK hm) rfl hl.1 rfl (Nat.le_of_ble_eq_true rfl) d_M_move_23 ⟨Nat.zero_le _, Nat.zero_le _⟩) hm (fun v Fg Ag Bg H locs hp hm => ?_)
        obtain ⟨rfl, hbF, hbA, eB, hTT⟩ := hp
        rw [eB] at hm
        clear eB
        have hok := ok_ref hai.1 htb
        have h120 : rows.length ≤ 120 := hai.1.1
        obtain ⟨ok1, ok2, ok3, ok4, ok5⟩ := id hok
        have hlF : lo Fg _ := lo_tr (lo_bt hbF) hlF
        have hlA : lo Ag A := lo_tr (lo_bt hbA) hlA
        refine W.eq (g2 := F0 m 26 ls []) rfl ?_
        have g32 : Fg 32 = nI t1.length := by rw [hbF 32 (by omega), l1]; rfl
        have g33 : Fg 33 = nI t2.length := by rw [hbF 33 (by omega), l2]; rfl
        have hx30 : txt Ag 30 0 t1 := by unfold txt; rw [hbA 30 (by omega)]; exact hx30
        have hx31 : txt Ag 31 0 t2 := by unfold txt; rw [hbA 31 (by omega)]; exact hx31
        have g12 : Ag 12 4 = nI rows.length := by rw [hlA 12 (by omega)]; exact hai.1.2.1
        refine lv_iload_n hx hb d_M_move_26 rfl (lv_at hl 0 rfl) ?_
        refine lv_if_eq (tgt := 34) hx hb d_M_move_27 (by decide) (fun c27 => ?_) (fun c27 => ?_)
        · skip
          first | exact absurd c27 (by decide) | exact absurd (by decide) c27
        · skip
          refine lv_iconst (v := (-1)) hx hb d_M_move_30 (by decide) ?_
          refine lv_goto (tgt := 47) hx hb d_M_move_31 (by decide) ?_
          refine lv_istore_n (lv' := [(3, .int ((-1))), (2, .int (nI 1)), (0, .ref x), (1, .int who)]) hx hb d_M_move_47 rfl hl (by decide) rfl (fun ls hl => ?_)
          refine lv_iload_n hx hb d_M_move_48 rfl (lv_at hl 1 rfl) ?_
          refine lv_if_ne (tgt := 81) hx hb d_M_move_49 (by decide) (fun c49 => ?_) (fun c49 => ?_)
          · skip
            refine lv_iconst (v := nI 0) hx hb d_M_move_81 (by decide) ?_
            refine lv_istore (lv' := [(4, .int (nI 0)), (3, .int ((-1))), (2, .int (nI 1)), (0, .ref x), (1, .int who)]) hx hb d_M_move_82 hl (by decide) rfl (fun ls hl => ?_)
            refine lv_aload_n hx hb d_M_move_84 rfl (lv_at hl 3 rfl) ?_
            refine lv_iload_n hx hb d_M_move_85 rfl (lv_at hl 2 rfl) ?_
            refine lv_iload hx hb d_M_move_86 (lv_at hl 0 rfl) ?_
            refine lv_if_eq (tgt := 98) hx hb d_M_move_88 (by decide) (fun c88 => ?_) (fun c88 => ?_)
            · skip
              refine lv_iconst (v := nI 1) hx hb d_M_move_98 (by decide) ?_
              refine lv_goto (tgt := 103) hx hb d_M_move_99 (by decide) ?_
              refine aM (rV (As := [.int (nI 1), .int (nI 1)]) (rest := []) C0 (c_M_refuses l g _ x ad _ _ _ hm.1 true true) (m_zK hZ hm) k_M_move_103 rfl rfl ⟨Nat.le_of_ble_eq_true rfl, Nat.le_of_ble_eq_true rfl⟩ (m_recv hK hm) rfl hl.1 rfl (Nat.le_of_ble_eq_true rfl) d_M_move_103 ⟨Nat.zero_le _, Nat.zero_le _⟩) hm (fun v F1 A1 B1 H locs hp hm => ?_)
              obtain ⟨rfl, eF, eA, eB⟩ := hp
              rw [eF, eA, eB] at hm
              clear eF eA eB
              have hm : mS g s.heap H x ad (upd Fg 0 (nI 1)) Ag B locs := hm
              refine W.eq (g2 := F0 m 106 ls [.int (bI true)]) rfl ?_
              refine z_eq (tgt := 113) (v := true) hx hb d_M_move_106 (by decide) (fun c106 => ?_) (fun c106 => ?_)
              · skip
                first | exact absurd c106 (by decide) | exact absurd (by decide) c106
              · skip
                refine lv_iconst (v := nI 0) hx hb d_M_move_109 (by decide) ?_
                refine lv_goto (tgt := 121) hx hb d_M_move_110 (by decide) ?_
                have hcd : cd = 1 := hcd.symm
                subst hcd
                exact W.iret hx hb hr (fun t9 ht hW => ⟨_, _, _, _, rfl, by rw [ht]; exact ⟨hm.1, hm.2.1, hm.2.2.1, fun _ h => by cases h⟩, ⟨rfl, lo_u hlF, rfl, fun o => by rw [if_neg (by decide)]; exact aI_lo hlA hai⟩⟩) hm.2.2.2 d_M_move_121 hlk
            · skip
              first | exact absurd c88 (by decide) | exact absurd (by decide) c88
          · skip
            first | exact absurd c49 (by decide) | exact absurd (by decide) c49
  · skip
    simp only [if_neg hN] at hp
    obtain ⟨rfl, eF, eA, eB⟩ := hp
    rw [eF, eA, eB] at hm
    clear eF eA eB
    refine W.eq (g2 := F0 m 5 ls [.int (bI false)]) rfl ?_
    have hlF : lo (upd F 2 (nI 0)) (upd F 2 (nI 0)) := lo_rf _
    have hlA : lo A A := lo_rf _
    refine z_eq (tgt := 15) (v := false) hx hb d_M_move_5 (by decide) (fun c5 => ?_) (fun c5 => ?_)
    · skip
      refine lv_iconst (v := nI 1) hx hb d_M_move_15 (by decide) ?_
      refine lv_goto (tgt := 20) hx hb d_M_move_16 (by decide) ?_
      have hb9 : ((decide (cutM T < T.length) && (nameM T 0 (cutM T) && nameM T (cutM T + 1) T.length)) && isP who) = false := by rw [show (decide (cutM T < T.length) && (nameM T 0 (cutM T) && nameM T (cutM T + 1) T.length)) = false from Bool.eq_false_iff.mpr (fun z => hN (by simpa using z))]; rfl
      rw [hb9, endC, if_pos (by rfl)] at hcd
      refine lv_istore_n (lv' := [(2, .int (nI 1)), (0, .ref x), (1, .int who)]) hx hb d_M_move_20 rfl hl (by decide) rfl (fun ls hl => ?_)
      refine lv_aload_n hx hb d_M_move_21 rfl (lv_at hl 1 rfl) ?_
      refine lv_iconst (v := nI 4) hx hb d_M_move_22 (by decide) ?_
      refine aM (rV (As := [.int (nI 4)]) (rest := []) C0 (c_M_goThrough l g _ x ad _ _ _ hm.1 4 (by decide) rows (refR_lo hlA hai.1) tb htb) (m_zK hZ hm) k_M_move_23 rfl rfl ⟨Nat.le_of_ble_eq_true rfl, Nat.le_of_ble_eq_true rfl⟩ (m_recv hK hm) rfl hl.1 rfl (Nat.le_of_ble_eq_true rfl) d_M_move_23 ⟨Nat.zero_le _, Nat.zero_le _⟩) hm (fun v Fg Ag Bg H locs hp hm => ?_)
      obtain ⟨rfl, hbF, hbA, eB, hTT⟩ := hp
      rw [eB] at hm
      clear eB
      have hok := ok_ref hai.1 htb
      have h120 : rows.length ≤ 120 := hai.1.1
      obtain ⟨ok1, ok2, ok3, ok4, ok5⟩ := id hok
      have hlF : lo Fg _ := lo_tr (lo_bt hbF) hlF
      have hlA : lo Ag A := lo_tr (lo_bt hbA) hlA
      refine W.eq (g2 := F0 m 26 ls []) rfl ?_
      have g12 : Ag 12 4 = nI rows.length := by rw [hlA 12 (by omega)]; exact hai.1.2.1
      refine lv_iload_n hx hb d_M_move_26 rfl (lv_at hl 0 rfl) ?_
      refine lv_if_eq (tgt := 34) hx hb d_M_move_27 (by decide) (fun c27 => ?_) (fun c27 => ?_)
      · skip
        first | exact absurd c27 (by decide) | exact absurd (by decide) c27
      · skip
        refine lv_iconst (v := (-1)) hx hb d_M_move_30 (by decide) ?_
        refine lv_goto (tgt := 47) hx hb d_M_move_31 (by decide) ?_
        refine lv_istore_n (lv' := [(3, .int ((-1))), (2, .int (nI 1)), (0, .ref x), (1, .int who)]) hx hb d_M_move_47 rfl hl (by decide) rfl (fun ls hl => ?_)
        refine lv_iload_n hx hb d_M_move_48 rfl (lv_at hl 1 rfl) ?_
        refine lv_if_ne (tgt := 81) hx hb d_M_move_49 (by decide) (fun c49 => ?_) (fun c49 => ?_)
        · skip
          refine lv_iconst (v := nI 0) hx hb d_M_move_81 (by decide) ?_
          refine lv_istore (lv' := [(4, .int (nI 0)), (3, .int ((-1))), (2, .int (nI 1)), (0, .ref x), (1, .int who)]) hx hb d_M_move_82 hl (by decide) rfl (fun ls hl => ?_)
          refine lv_aload_n hx hb d_M_move_84 rfl (lv_at hl 3 rfl) ?_
          refine lv_iload_n hx hb d_M_move_85 rfl (lv_at hl 2 rfl) ?_
          refine lv_iload hx hb d_M_move_86 (lv_at hl 0 rfl) ?_
          refine lv_if_eq (tgt := 98) hx hb d_M_move_88 (by decide) (fun c88 => ?_) (fun c88 => ?_)
          · skip
            refine lv_iconst (v := nI 1) hx hb d_M_move_98 (by decide) ?_
            refine lv_goto (tgt := 103) hx hb d_M_move_99 (by decide) ?_
            refine aM (rV (As := [.int (nI 1), .int (nI 1)]) (rest := []) C0 (c_M_refuses l g _ x ad _ _ _ hm.1 true true) (m_zK hZ hm) k_M_move_103 rfl rfl ⟨Nat.le_of_ble_eq_true rfl, Nat.le_of_ble_eq_true rfl⟩ (m_recv hK hm) rfl hl.1 rfl (Nat.le_of_ble_eq_true rfl) d_M_move_103 ⟨Nat.zero_le _, Nat.zero_le _⟩) hm (fun v F1 A1 B1 H locs hp hm => ?_)
            obtain ⟨rfl, eF, eA, eB⟩ := hp
            rw [eF, eA, eB] at hm
            clear eF eA eB
            have hm : mS g s.heap H x ad (upd Fg 0 (nI 1)) Ag B locs := hm
            refine W.eq (g2 := F0 m 106 ls [.int (bI true)]) rfl ?_
            refine z_eq (tgt := 113) (v := true) hx hb d_M_move_106 (by decide) (fun c106 => ?_) (fun c106 => ?_)
            · skip
              first | exact absurd c106 (by decide) | exact absurd (by decide) c106
            · skip
              refine lv_iconst (v := nI 0) hx hb d_M_move_109 (by decide) ?_
              refine lv_goto (tgt := 121) hx hb d_M_move_110 (by decide) ?_
              have hcd : cd = 1 := hcd.symm
              subst hcd
              exact W.iret hx hb hr (fun t9 ht hW => ⟨_, _, _, _, rfl, by rw [ht]; exact ⟨hm.1, hm.2.1, hm.2.2.1, fun _ h => by cases h⟩, ⟨rfl, lo_u hlF, rfl, fun o => by rw [if_neg (by decide)]; exact aI_lo hlA hai⟩⟩) hm.2.2.2 d_M_move_121 hlk
          · skip
            first | exact absurd c88 (by decide) | exact absurd (by decide) c88
        · skip
          first | exact absurd c49 (by decide) | exact absurd (by decide) c49
    · skip
      first | exact absurd c5 (by decide) | exact absurd (by decide) c5
