/-- the tables of the log or of a mirror -/
def asW (tb : Tb) (tbm : Nat → Tb) (m : Int32) : Option Tb := if m = -1 then some tb else if 0 ≤ m ∧ m < 4 then some (tbm m.toNatClampNeg) else none
def askT (ot : Option Tb) (T : List Nat) : Option (Tb × Nat) :=
  if nameM T 0 T.length = true then
    (match ot with
     | none => none
     | some t => match mtT t T with
       | none => none
       | some k => if knT t k = true then some (t, k) else none)
  else none
def foudT (r : Option (Tb × Nat)) : Int32 := match r with
  | none => -1
  | some e => (owT e.1 (nmT e.1 e.2).2.2).1
def hasT (r : Option (Tb × Nat)) (who : Int32) : Bool := match r with
  | none => false
  | some e => isP who && hrT e.1 e.2 who
def vaT (r : Option (Tb × Nat)) (v : Int32) : Option (Tb × Nat) := match r with
  | none => none
  | some e => match vtT e.1 (nmT e.1 e.2).2.2 v with
    | none => none
    | some j => some (e.1, j)
def verT (r : Option (Tb × Nat)) : Int32 := match r with
  | none => 0
  | some e => 1 + (veT e.1 e.2).2.2.2
def sumT (r : Option (Tb × Nat)) : Int32 := match r with
  | none => 0
  | some e => (veT e.1 e.2).2.2.1
theorem k_M_asked_2 : kV "RegistryLogModel" 161 "RegistryLogModel" y_M_takes b_M_takes 5 (some .boolean) 1 := ⟨(in_5 (List.mem_of_getElem? (i := 122) rfl) rfl), (in_5 (List.mem_of_getElem? (i := 124) rfl) rfl), (in_0 (List.mem_of_getElem? (i := 6) rfl) rfl), (in_1 (List.mem_of_getElem? (i := 22) rfl) rfl), (in_5 (List.mem_of_getElem? (i := 125) rfl) rfl), ⟨by decide, by decide, by decide +kernel⟩⟩
theorem k_M_asked_16 : kS "RegistryLogModel" 252 y_M_isMirror b_M_isMirror 1 (some .boolean) 1 := ⟨(in_6 (List.mem_of_getElem? (i := 37) rfl) rfl), (in_6 (List.mem_of_getElem? (i := 38) rfl) rfl), (in_1 (List.mem_of_getElem? (i := 22) rfl) rfl), (in_6 (List.mem_of_getElem? (i := 39) rfl) rfl), ⟨by decide, by decide, by decide +kernel⟩⟩
theorem k_M_asked_35 : kV "RegistryLogModel" 171 "RegistryLogModel" y_M_goThrough b_M_goThrough 5 none 1 := ⟨(in_5 (List.mem_of_getElem? (i := 139) rfl) rfl), (in_5 (List.mem_of_getElem? (i := 141) rfl) rfl), (in_0 (List.mem_of_getElem? (i := 8) rfl) rfl), (in_1 (List.mem_of_getElem? (i := 22) rfl) rfl), (in_5 (List.mem_of_getElem? (i := 142) rfl) rfl), ⟨by decide, by decide, by decide +kernel⟩⟩
theorem k_M_asked_48 : kV "RegistryLogModel" 142 "RegistryLogModel" y_M_met b_M_met 8 (some .int) 3 := ⟨(in_5 (List.mem_of_getElem? (i := 143) rfl) rfl), (in_5 (List.mem_of_getElem? (i := 145) rfl) rfl), (in_0 (List.mem_of_getElem? (i := 9) rfl) rfl), (in_1 (List.mem_of_getElem? (i := 22) rfl) rfl), (in_5 (List.mem_of_getElem? (i := 146) rfl) rfl), ⟨by decide, by decide, by decide +kernel⟩⟩
theorem k_M_asked_54 : kV "RegistryLogModel" 154 "RegistryLogModel" y_M_isKnown b_M_isKnown 2 (some .boolean) 1 := ⟨(in_5 (List.mem_of_getElem? (i := 170) rfl) rfl), (in_5 (List.mem_of_getElem? (i := 172) rfl) rfl), (in_0 (List.mem_of_getElem? (i := 15) rfl) rfl), (in_1 (List.mem_of_getElem? (i := 22) rfl) rfl), (in_5 (List.mem_of_getElem? (i := 173) rfl) rfl), ⟨by decide, by decide, by decide +kernel⟩⟩
set_option maxHeartbeats 4000000 in
set_option maxRecDepth 100000 in
/-- asked(m) -/
theorem c_M_asked (l : Launch) (g : gG) (H : Heap) (x : Nat) (ad : Nat → Nat) (F : Nat → Int32) (A : Nat → Nat → Int32) (B : Nat → Nat → Int64) (hm0 : mW g H x ad F A B) (T : List Nat) (hT : ∀ k, k < T.length → A 1 k = nI (T.getD k 0)) (hc : ∀ k, T.getD k 0 < 128) (hT24 : T.length ≤ 24) (hty : F 2 = nI T.length) (rows : List Rw) (mir : Nat → List Rw) (hai : aI A rows mir) (tb : Tb) (htb : foT rows = some tb) (tbm : Nat → Tb) (hmb : ∀ q, q < 4 → foT (mir q) = some (tbm q)) (mm : Int32) (res : Option (Tb × Nat)) (hcd : askT (asW tb tbm mm) T = res) : Met l y_M_asked (wC y_M_asked b_M_asked 4 (some .int)) (rmk 3 0 0 68) (pC g H [.ref x, .int mm]) (qM g H x ad (fun v F1 A1 B1 => v = some (.int (oI (res.map Prod.snd))) ∧ lo F1 (upd F 2 (nI 0)) ∧ lo A1 A ∧ B1 = B ∧ ∀ e, res = some e → repT F1 A1 e.1 ∧ okT e.1 120 ∧ e.2 < e.1.1.length)) 0 0 (mN x ad) := by
  refine mB (by decide) (Nat.le_of_ble_eq_true rfl) ?_
  intro p e s m below meth c ls C0 hH hZ hnm hl
  have C0 : cF g p s m _ meth c b_M_asked 4 "RegistryLogModel" (some .int) := C0
  obtain ⟨hx, hb, hml, hown, hts, hr, hlk, hK⟩ := id C0
  subst hH
  have hl : lv_has ls 4 [(0, .ref x), (1, .int mm)] := hl
  have hm := mS.rf hm0
  refine lv_aload_n hx hb d_M_asked_0 rfl (lv_at hl 0 rfl) ?_
  refine lv_iconst (v := nI 0) hx hb d_M_asked_1 (by decide) ?_
  refine aM (rV (As := [.int (nI 0)]) (rest := []) C0 (c_M_takes0 l g _ x ad _ _ _ hm.1 T hT hc hT24 hty) (m_zK hZ hm) k_M_asked_2 rfl rfl ⟨Nat.le_of_ble_eq_true rfl, Nat.le_of_ble_eq_true rfl⟩ (m_recv hK hm) rfl hl.1 rfl (Nat.le_of_ble_eq_true rfl) d_M_asked_2 ⟨Nat.zero_le _, Nat.zero_le _⟩) hm (fun v F1 A1 B1 H locs hp hm => ?_)
  by_cases hN : nameM T 0 T.length = true
  · skip
    simp only [if_pos hN] at hp
    obtain ⟨rfl, eF, eA, eB⟩ := hp
    rw [eF, eA, eB] at hm
    clear eF eA eB
    have h10 := nameM_le hN
    refine W.eq (g2 := F0 m 5 ls [.int (bI true)]) rfl ?_
    have hlF : lo (upd (upd (upd F 2 (nI 0)) 32 (nI T.length)) 33 (nI 0)) (upd F 2 (nI 0)) := lo_tr (lo_hi (by omega)) (lo_hi (by omega))
    have hlA : lo (updA A 30 (va_cpy (A 1) (A 30) 0 0 T.length)) A := lo_hA (by omega)
    have hx30 : txt (updA A 30 (va_cpy (A 1) (A 30) 0 0 T.length)) 30 0 T := fun k hk => (show va_cpy (A 1) (A 30) 0 0 T.length (0 + k) = nI (T.getD k 0) from by rw [cpy_in hk, Nat.zero_add]; exact hT k hk)
    refine lv_istore_n (lv' := [(2, .int (bI true)), (0, .ref x), (1, .int mm)]) hx hb d_M_asked_5 rfl hl (by decide) rfl (fun ls hl => ?_)
    refine lv_iload_n hx hb d_M_asked_6 rfl (lv_at hl 0 rfl) ?_
    refine z_eq (tgt := 22) (v := true) hx hb d_M_asked_7 (by decide) (fun c7 => ?_) (fun c7 => ?_)
    · skip
      first | exact absurd c7 (by decide) | exact absurd (by decide) c7
    · skip
      refine lv_iload_n hx hb d_M_asked_10 rfl (lv_at hl 2 rfl) ?_
      refine lv_iconst (v := (-1)) hx hb d_M_asked_11 (by decide) ?_
      refine lv_icmp_eq (tgt := 24) hx hb d_M_asked_12 (by decide) (fun c12 => ?_) (fun c12 => ?_)
      · skip
        refine lv_aload_n hx hb d_M_asked_24 rfl (lv_at hl 1 rfl) ?_
        refine lv_iload_n hx hb d_M_asked_25 rfl (lv_at hl 2 rfl) ?_
        refine lv_iconst (v := (-1)) hx hb d_M_asked_26 (by decide) ?_
        refine lv_icmp_ne (tgt := 34) hx hb d_M_asked_27 (by decide) (fun c27 => ?_) (fun c27 => ?_)
        · skip
          exact absurd c12 c27
        · skip
          refine lv_iconst (v := nI 4) hx hb d_M_asked_30 (by decide) ?_
          refine lv_goto (tgt := 35) hx hb d_M_asked_31 (by decide) ?_
          rw [askT.eq_def, if_pos hN, asW, if_pos c12] at hcd
          have htz := htb
          generalize tb = tz at htz hcd
          dsimp only at hcd
          refine aM (rV (As := [.int (nI 4)]) (rest := []) C0 (c_M_goThrough l g _ x ad _ _ _ hm.1 4 (by decide) rows (refR_lo hlA hai.1) tz htz) (m_zK hZ hm) k_M_asked_35 rfl rfl ⟨Nat.le_of_ble_eq_true rfl, Nat.le_of_ble_eq_true rfl⟩ (m_recv hK hm) rfl hl.1 rfl (Nat.le_of_ble_eq_true rfl) d_M_asked_35 ⟨Nat.zero_le _, Nat.zero_le _⟩) hm (fun v Fg Ag Bg H locs hp hm => ?_)
          obtain ⟨rfl, hbF, hbA, eB, hTT⟩ := hp
          rw [eB] at hm
          clear eB
          have hok := ok_ref hai.1 htz
          have h120 : rows.length ≤ 120 := hai.1.1
          obtain ⟨ok1, ok2, ok3, ok4, ok5⟩ := id hok
          have hlF : lo Fg _ := lo_tr (lo_bt hbF) hlF
          have hlA : lo Ag A := lo_tr (lo_bt hbA) hlA
          refine W.eq (g2 := F0 m 38 ls []) rfl ?_
          have g32 : Fg 32 = nI T.length := by rw [hbF 32 (by omega)]; rfl
          have g33 : Fg 33 = nI 0 := by rw [hbF 33 (by omega)]; rfl
          have hx30 : txt Ag 30 0 T := by unfold txt; rw [hbA 30 (by omega)]; exact hx30
          have g12 : Ag 12 4 = nI rows.length := by rw [hlA 12 (by omega)]; exact hai.1.2.1
          refine lv_aload_n hx hb d_M_asked_38 rfl (lv_at hl 1 rfl) ?_
          refine lv_aload_n hx hb d_M_asked_39 rfl (lv_at hl 1 rfl) ?_
          refine m_get hx hb hts hown hK hm 30 (by decide) (hts (.fieldLink "RegistryLogModel" 80 "RegistryLogModel" "one" "[I") (in_4 (List.mem_of_getElem? (i := 239) rfl) rfl)) rfl (v := .ref (ad 30)) rfl d_M_asked_40 ?_
          refine lv_iconst (v := nI 0) hx hb d_M_asked_43 (by decide) ?_
          refine lv_aload_n hx hb d_M_asked_44 rfl (lv_at hl 1 rfl) ?_
          refine m_get hx hb hts hown hK hm 32 (by decide) (hts (.fieldLink "RegistryLogModel" 123 "RegistryLogModel" "oneSize" "I") (in_5 (List.mem_of_getElem? (i := 1) rfl) rfl)) rfl (v := .int (nI T.length)) (congrArg (fun z => some (Value.int z)) g32) d_M_asked_45 ?_
          refine aM (rV (As := [.ref (ad 30), .int (nI 0), .int (nI T.length)]) (rest := []) C0 (c_M_met l g _ x ad _ _ _ hm.1 30 0 T.length tz.1.length rfl (by omega) (by show 0 + T.length ≤ 10; omega) hTT.1 (by omega)) (m_zK hZ hm) k_M_asked_48 rfl rfl ⟨Nat.le_of_ble_eq_true rfl, Nat.le_of_ble_eq_true rfl⟩ (m_recv hK hm) rfl hl.1 rfl (Nat.le_of_ble_eq_true rfl) d_M_asked_48 ⟨Nat.zero_le _, Nat.zero_le _⟩) hm (fun v F1 A1 B1 H locs hp hm => ?_)
          obtain ⟨rfl, eF, eA, eB⟩ := hp
          rw [eF, eA, eB] at hm
          clear eF eA eB
          rw [show metA Ag 30 0 T.length tz.1.length 0 (-1) = oI (mtT tz T) from metA_T hTT hok hx30 (by omega) hc]
          rcases hmm : mtT tz T with _ | kk
          · skip
            rw [hmm] at hcd
            dsimp only at hcd
            refine W.eq (g2 := F0 m 51 ls [.int ((-1))]) rfl ?_
            refine lv_istore_n (lv' := [(3, .int ((-1))), (2, .int (bI true)), (0, .ref x), (1, .int mm)]) hx hb d_M_asked_51 rfl hl (by decide) rfl (fun ls hl => ?_)
            refine lv_aload_n hx hb d_M_asked_52 rfl (lv_at hl 2 rfl) ?_
            refine lv_iload_n hx hb d_M_asked_53 rfl (lv_at hl 0 rfl) ?_
            refine aP (rV (As := [.int ((-1))]) (rest := []) C0 (c_M_isKnown0 l g _ x ad _ _ _ hm.1) (m_zK hZ hm) k_M_asked_54 rfl rfl ⟨Nat.le_of_ble_eq_true rfl, Nat.le_of_ble_eq_true rfl⟩ (m_recv hK hm) rfl hl.1 rfl (Nat.le_of_ble_eq_true rfl) d_M_asked_54 ⟨Nat.zero_le _, Nat.zero_le _⟩) ?_
            intro v hv; subst hv
            refine W.eq (g2 := F0 m 57 ls [.int (bI false)]) rfl ?_
            refine z_eq (tgt := 64) (v := false) hx hb d_M_asked_57 (by decide) (fun c57 => ?_) (fun c57 => ?_)
            · skip
              refine lv_iconst (v := (-1)) hx hb d_M_asked_64 (by decide) ?_
              subst hcd
              exact W.iret hx hb hr (fun t9 ht hW => ⟨_, _, _, _, rfl, by rw [ht]; exact ⟨hm.1, hm.2.1, hm.2.2.1, fun _ h => by cases h⟩, ⟨rfl, hlF, hlA, rfl, fun e he => by cases he⟩⟩) hm.2.2.2 d_M_asked_65 hlk
            · skip
              first | exact absurd c57 (by decide) | exact absurd (by decide) c57
          · skip
            rw [hmm] at hcd
            dsimp only at hcd
            have hkk : kk < tz.1.length := mtT_lt hmm
            obtain ⟨n1, n2, n3, n4⟩ := hTT.2.2.2.1 kk hkk
            obtain ⟨p1, p2, p3⟩ := ok4 kk hkk
            obtain ⟨w1, w2⟩ := hTT.2.2.2.2.1 _ p3
            refine W.eq (g2 := F0 m 51 ls [.int (nI kk)]) rfl ?_
            refine lv_istore_n (lv' := [(3, .int (nI kk)), (2, .int (bI true)), (0, .ref x), (1, .int mm)]) hx hb d_M_asked_51 rfl hl (by decide) rfl (fun ls hl => ?_)
            refine lv_aload_n hx hb d_M_asked_52 rfl (lv_at hl 2 rfl) ?_
            refine lv_iload_n hx hb d_M_asked_53 rfl (lv_at hl 0 rfl) ?_
            refine aP (rV (As := [.int (nI kk)]) (rest := []) C0 (c_M_isKnown l g _ x ad _ _ _ hm.1 kk (by omega)) (m_zK hZ hm) k_M_asked_54 rfl rfl ⟨Nat.le_of_ble_eq_true rfl, Nat.le_of_ble_eq_true rfl⟩ (m_recv hK hm) rfl hl.1 rfl (Nat.le_of_ble_eq_true rfl) d_M_asked_54 ⟨Nat.zero_le _, Nat.zero_le _⟩) ?_
            intro v hv; subst hv
            have eh : decide (Ag 19 kk = nI 1) = knT tz kk := by rw [knT, decide_eq_decide, n3]; exact Iff.rfl
            rw [eh]
            clear eh
            refine W.eq (g2 := F0 m 57 ls [.int (bI (knT tz kk))]) rfl ?_
            refine z_eq (tgt := 64) (v := knT tz kk) hx hb d_M_asked_57 (by decide) (fun c57 => ?_) (fun c57 => ?_)
            · skip
              refine lv_iconst (v := (-1)) hx hb d_M_asked_64 (by decide) ?_
              rw [c57, if_neg (by decide)] at hcd
              subst hcd
              exact W.iret hx hb hr (fun t9 ht hW => ⟨_, _, _, _, rfl, by rw [ht]; exact ⟨hm.1, hm.2.1, hm.2.2.1, fun _ h => by cases h⟩, ⟨rfl, hlF, hlA, rfl, fun e he => by cases he⟩⟩) hm.2.2.2 d_M_asked_65 hlk
            · skip
              refine lv_iload_n hx hb d_M_asked_60 rfl (lv_at hl 0 rfl) ?_
              refine lv_goto (tgt := 65) hx hb d_M_asked_61 (by decide) ?_
              rw [c57, if_pos rfl] at hcd
              subst hcd
              exact W.iret hx hb hr (fun t9 ht hW => ⟨_, _, _, _, rfl, by rw [ht]; exact ⟨hm.1, hm.2.1, hm.2.2.1, fun _ h => by cases h⟩, ⟨rfl, hlF, hlA, rfl, fun e he => by cases he; exact ⟨hTT, (⟨by omega, by omega, by omega, ok4, ok5⟩ : okT tz 120), hkk⟩⟩⟩) hm.2.2.2 d_M_asked_65 hlk
      · skip
        refine lv_iload_n hx hb d_M_asked_15 rfl (lv_at hl 2 rfl) ?_
        refine aP (rS (As := [.int mm]) (rest := []) C0 (c_M_isMirror l g _ mm) (m_zK hZ hm) k_M_asked_16 rfl rfl ⟨Nat.le_of_ble_eq_true rfl, Nat.le_of_ble_eq_true rfl⟩ rfl hl.1 rfl (Nat.le_of_ble_eq_true rfl) d_M_asked_16 ⟨Nat.zero_le _, Nat.zero_le _⟩) ?_
        intro v hv; subst hv
        refine W.eq (g2 := F0 m 19 ls [.int (bI (decide (0 ≤ mm ∧ mm < 4)))]) rfl ?_
        refine z_ne (tgt := 24) (v := decide (0 ≤ mm ∧ mm < 4)) hx hb d_M_asked_19 (by decide) (fun c19 => ?_) (fun c19 => ?_)
        · skip
          refine lv_aload_n hx hb d_M_asked_24 rfl (lv_at hl 1 rfl) ?_
          refine lv_iload_n hx hb d_M_asked_25 rfl (lv_at hl 2 rfl) ?_
          refine lv_iconst (v := (-1)) hx hb d_M_asked_26 (by decide) ?_
          refine lv_icmp_ne (tgt := 34) hx hb d_M_asked_27 (by decide) (fun c27 => ?_) (fun c27 => ?_)
          · skip
            obtain ⟨q1, hq1, eq1⟩ := ix_ (n := 4) (by decide) c19
            subst eq1
            refine lv_iload_n hx hb d_M_asked_34 rfl (lv_at hl 2 rfl) ?_
            rw [askT.eq_def, if_pos hN, asW, if_neg c12, if_pos (of_decide_eq_true c19), nI_clamp (by omega)] at hcd
            have htz := hmb q1 hq1
            generalize tbm q1 = tz at htz hcd
            dsimp only at hcd
            refine aM (rV (As := [.int (nI q1)]) (rest := []) C0 (c_M_goThrough l g _ x ad _ _ _ hm.1 q1 (by omega) (mir q1) (refR_lo hlA (hai.2.1 q1 hq1).1) tz htz) (m_zK hZ hm) k_M_asked_35 rfl rfl ⟨Nat.le_of_ble_eq_true rfl, Nat.le_of_ble_eq_true rfl⟩ (m_recv hK hm) rfl hl.1 rfl (Nat.le_of_ble_eq_true rfl) d_M_asked_35 ⟨Nat.zero_le _, Nat.zero_le _⟩) hm (fun v Fg Ag Bg H locs hp hm => ?_)
            obtain ⟨rfl, hbF, hbA, eB, hTT⟩ := hp
            rw [eB] at hm
            clear eB
            have hok := ok_ref (hai.2.1 q1 hq1).1 htz
            have h120 : (mir q1).length ≤ 120 := (hai.2.1 q1 hq1).1.1
            obtain ⟨ok1, ok2, ok3, ok4, ok5⟩ := id hok
            have hlF : lo Fg _ := lo_tr (lo_bt hbF) hlF
            have hlA : lo Ag A := lo_tr (lo_bt hbA) hlA
            refine W.eq (g2 := F0 m 38 ls []) rfl ?_
            have g32 : Fg 32 = nI T.length := by rw [hbF 32 (by omega)]; rfl
            have g33 : Fg 33 = nI 0 := by rw [hbF 33 (by omega)]; rfl
            have hx30 : txt Ag 30 0 T := by unfold txt; rw [hbA 30 (by omega)]; exact hx30
            have g12 : Ag 12 4 = nI rows.length := by rw [hlA 12 (by omega)]; exact hai.1.2.1
            refine lv_aload_n hx hb d_M_asked_38 rfl (lv_at hl 1 rfl) ?_
            refine lv_aload_n hx hb d_M_asked_39 rfl (lv_at hl 1 rfl) ?_
            refine m_get hx hb hts hown hK hm 30 (by decide) (hts (.fieldLink "RegistryLogModel" 80 "RegistryLogModel" "one" "[I") (in_4 (List.mem_of_getElem? (i := 239) rfl) rfl)) rfl (v := .ref (ad 30)) rfl d_M_asked_40 ?_
            refine lv_iconst (v := nI 0) hx hb d_M_asked_43 (by decide) ?_
            refine lv_aload_n hx hb d_M_asked_44 rfl (lv_at hl 1 rfl) ?_
            refine m_get hx hb hts hown hK hm 32 (by decide) (hts (.fieldLink "RegistryLogModel" 123 "RegistryLogModel" "oneSize" "I") (in_5 (List.mem_of_getElem? (i := 1) rfl) rfl)) rfl (v := .int (nI T.length)) (congrArg (fun z => some (Value.int z)) g32) d_M_asked_45 ?_
            refine aM (rV (As := [.ref (ad 30), .int (nI 0), .int (nI T.length)]) (rest := []) C0 (c_M_met l g _ x ad _ _ _ hm.1 30 0 T.length tz.1.length rfl (by omega) (by show 0 + T.length ≤ 10; omega) hTT.1 (by omega)) (m_zK hZ hm) k_M_asked_48 rfl rfl ⟨Nat.le_of_ble_eq_true rfl, Nat.le_of_ble_eq_true rfl⟩ (m_recv hK hm) rfl hl.1 rfl (Nat.le_of_ble_eq_true rfl) d_M_asked_48 ⟨Nat.zero_le _, Nat.zero_le _⟩) hm (fun v F1 A1 B1 H locs hp hm => ?_)
            obtain ⟨rfl, eF, eA, eB⟩ := hp
            rw [eF, eA, eB] at hm
            clear eF eA eB
            rw [show metA Ag 30 0 T.length tz.1.length 0 (-1) = oI (mtT tz T) from metA_T hTT hok hx30 (by omega) hc]
            rcases hmm : mtT tz T with _ | kk
            · skip
              rw [hmm] at hcd
              dsimp only at hcd
              refine W.eq (g2 := F0 m 51 ls [.int ((-1))]) rfl ?_
              refine lv_istore_n (lv' := [(3, .int ((-1))), (2, .int (bI true)), (0, .ref x), (1, .int (nI q1))]) hx hb d_M_asked_51 rfl hl (by decide) rfl (fun ls hl => ?_)
              refine lv_aload_n hx hb d_M_asked_52 rfl (lv_at hl 2 rfl) ?_
              refine lv_iload_n hx hb d_M_asked_53 rfl (lv_at hl 0 rfl) ?_
              refine aP (rV (As := [.int ((-1))]) (rest := []) C0 (c_M_isKnown0 l g _ x ad _ _ _ hm.1) (m_zK hZ hm) k_M_asked_54 rfl rfl ⟨Nat.le_of_ble_eq_true rfl, Nat.le_of_ble_eq_true rfl⟩ (m_recv hK hm) rfl hl.1 rfl (Nat.le_of_ble_eq_true rfl) d_M_asked_54 ⟨Nat.zero_le _, Nat.zero_le _⟩) ?_
              intro v hv; subst hv
              refine W.eq (g2 := F0 m 57 ls [.int (bI false)]) rfl ?_
              refine z_eq (tgt := 64) (v := false) hx hb d_M_asked_57 (by decide) (fun c57 => ?_) (fun c57 => ?_)
              · skip
                refine lv_iconst (v := (-1)) hx hb d_M_asked_64 (by decide) ?_
                subst hcd
                exact W.iret hx hb hr (fun t9 ht hW => ⟨_, _, _, _, rfl, by rw [ht]; exact ⟨hm.1, hm.2.1, hm.2.2.1, fun _ h => by cases h⟩, ⟨rfl, hlF, hlA, rfl, fun e he => by cases he⟩⟩) hm.2.2.2 d_M_asked_65 hlk
              · skip
                first | exact absurd c57 (by decide) | exact absurd (by decide) c57
            · skip
              rw [hmm] at hcd
              dsimp only at hcd
              have hkk : kk < tz.1.length := mtT_lt hmm
              obtain ⟨n1, n2, n3, n4⟩ := hTT.2.2.2.1 kk hkk
              obtain ⟨p1, p2, p3⟩ := ok4 kk hkk
              obtain ⟨w1, w2⟩ := hTT.2.2.2.2.1 _ p3
              refine W.eq (g2 := F0 m 51 ls [.int (nI kk)]) rfl ?_
              refine lv_istore_n (lv' := [(3, .int (nI kk)), (2, .int (bI true)), (0, .ref x), (1, .int (nI q1))]) hx hb d_M_asked_51 rfl hl (by decide) rfl (fun ls hl => ?_)
              refine lv_aload_n hx hb d_M_asked_52 rfl (lv_at hl 2 rfl) ?_
              refine lv_iload_n hx hb d_M_asked_53 rfl (lv_at hl 0 rfl) ?_
              refine aP (rV (As := [.int (nI kk)]) (rest := []) C0 (c_M_isKnown l g _ x ad _ _ _ hm.1 kk (by omega)) (m_zK hZ hm) k_M_asked_54 rfl rfl ⟨Nat.le_of_ble_eq_true rfl, Nat.le_of_ble_eq_true rfl⟩ (m_recv hK hm) rfl hl.1 rfl (Nat.le_of_ble_eq_true rfl) d_M_asked_54 ⟨Nat.zero_le _, Nat.zero_le _⟩) ?_
              intro v hv; subst hv
              have eh : decide (Ag 19 kk = nI 1) = knT tz kk := by rw [knT, decide_eq_decide, n3]; exact Iff.rfl
              rw [eh]
              clear eh
              refine W.eq (g2 := F0 m 57 ls [.int (bI (knT tz kk))]) rfl ?_
              refine z_eq (tgt := 64) (v := knT tz kk) hx hb d_M_asked_57 (by decide) (fun c57 => ?_) (fun c57 => ?_)
              · skip
                refine lv_iconst (v := (-1)) hx hb d_M_asked_64 (by decide) ?_
                rw [c57, if_neg (by decide)] at hcd
                subst hcd
                exact W.iret hx hb hr (fun t9 ht hW => ⟨_, _, _, _, rfl, by rw [ht]; exact ⟨hm.1, hm.2.1, hm.2.2.1, fun _ h => by cases h⟩, ⟨rfl, hlF, hlA, rfl, fun e he => by cases he⟩⟩) hm.2.2.2 d_M_asked_65 hlk
              · skip
                refine lv_iload_n hx hb d_M_asked_60 rfl (lv_at hl 0 rfl) ?_
                refine lv_goto (tgt := 65) hx hb d_M_asked_61 (by decide) ?_
                rw [c57, if_pos rfl] at hcd
                subst hcd
                exact W.iret hx hb hr (fun t9 ht hW => ⟨_, _, _, _, rfl, by rw [ht]; exact ⟨hm.1, hm.2.1, hm.2.2.1, fun _ h => by cases h⟩, ⟨rfl, hlF, hlA, rfl, fun e he => by cases he; exact ⟨hTT, (⟨by omega, by omega, by omega, ok4, ok5⟩ : okT tz 120), hkk⟩⟩⟩) hm.2.2.2 d_M_asked_65 hlk
          · skip
            exact absurd c27 c12
        · skip
          refine lv_iconst (v := (-1)) hx hb d_M_asked_22 (by decide) ?_
          rw [askT.eq_def, if_pos hN, asW, if_neg c12, if_neg (of_decide_eq_false c19)] at hcd
          subst hcd
          exact W.iret hx hb hr (fun t9 ht hW => ⟨_, _, _, _, rfl, by rw [ht]; exact ⟨hm.1, hm.2.1, hm.2.2.1, fun _ h => by cases h⟩, ⟨rfl, hlF, hlA, rfl, fun e he => by cases he⟩⟩) hm.2.2.2 d_M_asked_23 hlk
  · skip
    simp only [if_neg hN] at hp
    obtain ⟨rfl, eF, eA, eB⟩ := hp
    rw [eF, eA, eB] at hm
    clear eF eA eB
    refine W.eq (g2 := F0 m 5 ls [.int (bI false)]) rfl ?_
    have hlF : lo (upd F 2 (nI 0)) (upd F 2 (nI 0)) := lo_rf _
    have hlA : lo A A := lo_rf _
    refine lv_istore_n (lv' := [(2, .int (bI false)), (0, .ref x), (1, .int mm)]) hx hb d_M_asked_5 rfl hl (by decide) rfl (fun ls hl => ?_)
    refine lv_iload_n hx hb d_M_asked_6 rfl (lv_at hl 0 rfl) ?_
    refine z_eq (tgt := 22) (v := false) hx hb d_M_asked_7 (by decide) (fun c7 => ?_) (fun c7 => ?_)
    · skip
      refine lv_iconst (v := (-1)) hx hb d_M_asked_22 (by decide) ?_
      rw [askT.eq_def, if_neg hN] at hcd
      subst hcd
      exact W.iret hx hb hr (fun t9 ht hW => ⟨_, _, _, _, rfl, by rw [ht]; exact ⟨hm.1, hm.2.1, hm.2.2.1, fun _ h => by cases h⟩, ⟨rfl, hlF, hlA, rfl, fun e he => by cases he⟩⟩) hm.2.2.2 d_M_asked_23 hlk
    · skip
      first | exact absurd c7 (by decide) | exact absurd (by decide) c7
theorem k_M_founder_7 : kV "RegistryLogModel" 255 "RegistryLogModel" y_M_asked b_M_asked 4 (some .int) 1 := ⟨(in_6 (List.mem_of_getElem? (i := 56) rfl) rfl), (in_6 (List.mem_of_getElem? (i := 58) rfl) rfl), (in_0 (List.mem_of_getElem? (i := 25) rfl) rfl), (in_1 (List.mem_of_getElem? (i := 22) rfl) rfl), (in_6 (List.mem_of_getElem? (i := 59) rfl) rfl), ⟨by decide, by decide, by decide +kernel⟩⟩
set_option maxHeartbeats 4000000 in
set_option maxRecDepth 100000 in
/-- founder -/
theorem c_M_founder (l : Launch) (g : gG) (H : Heap) (x : Nat) (ad : Nat → Nat) (F : Nat → Int32) (A : Nat → Nat → Int32) (B : Nat → Nat → Int64) (hm0 : mW g H x ad F A B) (T : List Nat) (hT : ∀ k, k < T.length → A 1 k = nI (T.getD k 0)) (hc : ∀ k, T.getD k 0 < 128) (hT24 : T.length ≤ 24) (hty : F 2 = nI T.length) (rows : List Rw) (mir : Nat → List Rw) (hai : aI A rows mir) (tb : Tb) (htb : foT rows = some tb) (tbm : Nat → Tb) (hmb : ∀ q, q < 4 → foT (mir q) = some (tbm q)) (mm : Int32) (res : Int32) (hcd : foudT (askT (asW tb tbm mm) T) = res) : Met l y_M_founder (wC y_M_founder b_M_founder 3 (some .int)) (rmk 4 0 0 91) (pC g H [.ref x, .int mm]) (qM g H x ad (fun v F1 A1 B1 => v = some (.int res) ∧ lo F1 (upd (upd F 0 (nI 0)) 2 (nI 0)) ∧ lo A1 A ∧ B1 = B)) 0 0 (mN x ad) := by
  refine mB (by decide) (Nat.le_of_ble_eq_true rfl) ?_
  intro p e s m below meth c ls C0 hH hZ hnm hl
  have C0 : cF g p s m _ meth c b_M_founder 3 "RegistryLogModel" (some .int) := C0
  obtain ⟨hx, hb, hml, hown, hts, hr, hlk, hK⟩ := id C0
  subst hH
  have hl : lv_has ls 3 [(0, .ref x), (1, .int mm)] := hl
  have hm := mS.rf hm0
  refine lv_aload_n hx hb d_M_founder_0 rfl (lv_at hl 0 rfl) ?_
  refine lv_iconst (v := nI 0) hx hb d_M_founder_1 (by decide) ?_
  refine m_put hx hb hts hown hK hm 0 (by decide) (hts (.fieldLink "RegistryLogModel" 108 "RegistryLogModel" "code" "I") (in_4 (List.mem_of_getElem? (i := 209) rfl) rfl)) rfl rfl (v := nI 0) rfl rfl rfl rfl d_M_founder_2 (fun H locs hm => ?_)
  refine lv_aload_n hx hb d_M_founder_5 rfl (lv_at hl 0 rfl) ?_
  refine lv_iload_n hx hb d_M_founder_6 rfl (lv_at hl 1 rfl) ?_
  refine aM (rV (As := [.int mm]) (rest := []) C0 (c_M_asked l g _ x ad _ _ _ hm.1 T hT hc hT24 hty rows mir hai tb htb tbm hmb mm _ rfl) (m_zK hZ hm) k_M_founder_7 rfl rfl ⟨Nat.le_of_ble_eq_true rfl, Nat.le_of_ble_eq_true rfl⟩ (m_recv hK hm) rfl hl.1 rfl (Nat.le_of_ble_eq_true rfl) d_M_founder_7 ⟨Nat.zero_le _, Nat.zero_le _⟩) hm (fun v F1 A1 B1 H locs hp hm => ?_)
  obtain ⟨rfl, hp⟩ := hp
  obtain ⟨hlF, hlA, eB, hp3⟩ := hp
  rw [eB] at hm
  clear eB
  have hp := And.intro hlF (And.intro hlA hp3)
  clear hlF hlA hp3
  generalize hR : askT (asW tb tbm mm) T = R at hp hcd
  rcases R with _ | ⟨t, k⟩
  · skip
    refine W.eq (g2 := F0 m 10 ls [.int ((-1))]) rfl ?_
    have hlF := hp.1
    have hlA := hp.2.1
    refine lv_istore_n (lv' := [(2, .int ((-1))), (0, .ref x), (1, .int mm)]) hx hb d_M_founder_10 rfl hl (by decide) rfl (fun ls hl => ?_)
    refine lv_iload_n hx hb d_M_founder_11 rfl (lv_at hl 0 rfl) ?_
    refine lv_iconst (v := (-1)) hx hb d_M_founder_12 (by decide) ?_
    refine lv_icmp_ne (tgt := 20) hx hb d_M_founder_13 (by decide) (fun c13 => ?_) (fun c13 => ?_)
    · skip
      first | exact absurd c13 (by decide) | exact absurd (by decide) c13
    · skip
      refine lv_iconst (v := (-1)) hx hb d_M_founder_16 (by decide) ?_
      refine lv_goto (tgt := 31) hx hb d_M_founder_17 (by decide) ?_
      exact W.iret hx hb hr (fun t9 ht hW => ⟨_, _, _, _, rfl, by rw [ht]; exact ⟨hm.1, hm.2.1, hm.2.2.1, fun _ h => by cases h⟩, ⟨by rw [← hcd]; rfl, hlF, hlA, rfl⟩⟩) hm.2.2.2 d_M_founder_31 hlk
  · skip
    obtain ⟨hlF, hlA, hp3⟩ := hp
    obtain ⟨hTT, hok, hkk⟩ := hp3 (t, k) rfl
    have hkk : k < t.1.length := hkk
    have hTT : repT F1 A1 t := hTT
    have hok : okT t 120 := hok
    obtain ⟨ok1, ok2, ok3, ok4, ok5⟩ := id hok
    obtain ⟨n1, n2, n3, n4⟩ := hTT.2.2.2.1 k hkk
    obtain ⟨p1, p2, p3⟩ := ok4 k hkk
    obtain ⟨w1, w2⟩ := hTT.2.2.2.2.1 _ p3
    refine W.eq (g2 := F0 m 10 ls [.int (nI k)]) rfl ?_
    have h120 : (120 : Nat) ≤ 120 := Nat.le_refl _
    refine lv_istore_n (lv' := [(2, .int (nI k)), (0, .ref x), (1, .int mm)]) hx hb d_M_founder_10 rfl hl (by decide) rfl (fun ls hl => ?_)
    refine lv_iload_n hx hb d_M_founder_11 rfl (lv_at hl 0 rfl) ?_
    refine lv_iconst (v := (-1)) hx hb d_M_founder_12 (by decide) ?_
    refine lv_icmp_ne (tgt := 20) hx hb d_M_founder_13 (by decide) (fun c13 => ?_) (fun c13 => ?_)
    · skip
      refine lv_aload_n hx hb d_M_founder_20 rfl (lv_at hl 1 rfl) ?_
      refine m_get hx hb hts hown hK hm 21 (by decide) (hts (.fieldLink "RegistryLogModel" 62 "RegistryLogModel" "founders" "[I") (in_4 (List.mem_of_getElem? (i := 230) rfl) rfl)) rfl (v := .ref (ad 21)) rfl d_M_founder_21 ?_
      refine lv_aload_n hx hb d_M_founder_24 rfl (lv_at hl 1 rfl) ?_
      refine m_get hx hb hts hown hK hm 20 (by decide) (hts (.fieldLink "RegistryLogModel" 59 "RegistryLogModel" "nameOf" "[I") (in_4 (List.mem_of_getElem? (i := 229) rfl) rfl)) rfl (v := .ref (ad 20)) rfl d_M_founder_25 ?_
      refine lv_iload_n hx hb d_M_founder_28 rfl (lv_at hl 0 rfl) ?_
      refine m_ld hx hb hK hm 20 rfl k rfl (show k < 240 from by omega) d_M_founder_29 ?_
      refine W.eq (g2 := F0 m 30 ls [.int (nI ((nmT t k).2.2)), .ref (ad 21)]) (by rw [n4]) ?_
      refine m_ld hx hb hK hm 21 rfl ((nmT t k).2.2) rfl (show (nmT t k).2.2 < 120 from by omega) d_M_founder_30 ?_
      refine W.eq (g2 := F0 m 31 ls [.int ((owT t (nmT t k).2.2).1)]) (by rw [w1]) ?_
      exact W.iret hx hb hr (fun t9 ht hW => ⟨_, _, _, _, rfl, by rw [ht]; exact ⟨hm.1, hm.2.1, hm.2.2.1, fun _ h => by cases h⟩, ⟨by rw [← hcd]; rfl, hlF, hlA, rfl⟩⟩) hm.2.2.2 d_M_founder_31 hlk
    · skip
      exact absurd c13 (nI_m1 (by omega))
theorem k_M_has_7 : kV "RegistryLogModel" 255 "RegistryLogModel" y_M_asked b_M_asked 4 (some .int) 1 := ⟨(in_6 (List.mem_of_getElem? (i := 56) rfl) rfl), (in_6 (List.mem_of_getElem? (i := 58) rfl) rfl), (in_0 (List.mem_of_getElem? (i := 25) rfl) rfl), (in_1 (List.mem_of_getElem? (i := 22) rfl) rfl), (in_6 (List.mem_of_getElem? (i := 59) rfl) rfl), ⟨by decide, by decide, by decide +kernel⟩⟩
theorem k_M_has_17 : kS "RegistryLogModel" 165 y_M_isPerson b_M_isPerson 1 (some .boolean) 1 := ⟨(in_5 (List.mem_of_getElem? (i := 133) rfl) rfl), (in_5 (List.mem_of_getElem? (i := 134) rfl) rfl), (in_1 (List.mem_of_getElem? (i := 22) rfl) rfl), (in_5 (List.mem_of_getElem? (i := 135) rfl) rfl), ⟨by decide, by decide, by decide +kernel⟩⟩
theorem k_M_has_26 : kV "RegistryLogModel" 178 "RegistryLogModel" y_M_hasRight b_M_hasRight 3 (some .boolean) 2 := ⟨(in_5 (List.mem_of_getElem? (i := 166) rfl) rfl), (in_5 (List.mem_of_getElem? (i := 168) rfl) rfl), (in_0 (List.mem_of_getElem? (i := 14) rfl) rfl), (in_1 (List.mem_of_getElem? (i := 22) rfl) rfl), (in_5 (List.mem_of_getElem? (i := 169) rfl) rfl), ⟨by decide, by decide, by decide +kernel⟩⟩
set_option maxHeartbeats 4000000 in
set_option maxRecDepth 100000 in
/-- has -/
theorem c_M_has (l : Launch) (g : gG) (H : Heap) (x : Nat) (ad : Nat → Nat) (F : Nat → Int32) (A : Nat → Nat → Int32) (B : Nat → Nat → Int64) (hm0 : mW g H x ad F A B) (T : List Nat) (hT : ∀ k, k < T.length → A 1 k = nI (T.getD k 0)) (hc : ∀ k, T.getD k 0 < 128) (hT24 : T.length ≤ 24) (hty : F 2 = nI T.length) (rows : List Rw) (mir : Nat → List Rw) (hai : aI A rows mir) (tb : Tb) (htb : foT rows = some tb) (tbm : Nat → Tb) (hmb : ∀ q, q < 4 → foT (mir q) = some (tbm q)) (mm : Int32) (who : Int32) (res : Bool) (hcd : hasT (askT (asW tb tbm mm) T) who = res) : Met l y_M_has (wC y_M_has b_M_has 4 (some .boolean)) (rmk 4 0 0 91) (pC g H [.ref x, .int mm, .int who]) (qM g H x ad (fun v F1 A1 B1 => v = some (.int (bI res)) ∧ lo F1 (upd (upd F 0 (nI 0)) 2 (nI 0)) ∧ lo A1 A ∧ B1 = B)) 0 0 (mN x ad) := by
  refine mB (by decide) (Nat.le_of_ble_eq_true rfl) ?_
  intro p e s m below meth c ls C0 hH hZ hnm hl
  have C0 : cF g p s m _ meth c b_M_has 4 "RegistryLogModel" (some .boolean) := C0
  obtain ⟨hx, hb, hml, hown, hts, hr, hlk, hK⟩ := id C0
  subst hH
  have hl : lv_has ls 4 [(0, .ref x), (1, .int mm), (2, .int who)] := hl
  have hm := mS.rf hm0
  refine lv_aload_n hx hb d_M_has_0 rfl (lv_at hl 0 rfl) ?_
  refine lv_iconst (v := nI 0) hx hb d_M_has_1 (by decide) ?_
  refine m_put hx hb hts hown hK hm 0 (by decide) (hts (.fieldLink "RegistryLogModel" 108 "RegistryLogModel" "code" "I") (in_4 (List.mem_of_getElem? (i := 209) rfl) rfl)) rfl rfl (v := nI 0) rfl rfl rfl rfl d_M_has_2 (fun H locs hm => ?_)
  refine lv_aload_n hx hb d_M_has_5 rfl (lv_at hl 0 rfl) ?_
  refine lv_iload_n hx hb d_M_has_6 rfl (lv_at hl 1 rfl) ?_
  refine aM (rV (As := [.int mm]) (rest := []) C0 (c_M_asked l g _ x ad _ _ _ hm.1 T hT hc hT24 hty rows mir hai tb htb tbm hmb mm _ rfl) (m_zK hZ hm) k_M_has_7 rfl rfl ⟨Nat.le_of_ble_eq_true rfl, Nat.le_of_ble_eq_true rfl⟩ (m_recv hK hm) rfl hl.1 rfl (Nat.le_of_ble_eq_true rfl) d_M_has_7 ⟨Nat.zero_le _, Nat.zero_le _⟩) hm (fun v F1 A1 B1 H locs hp hm => ?_)
  obtain ⟨rfl, hp⟩ := hp
  obtain ⟨hlF, hlA, eB, hp3⟩ := hp
  rw [eB] at hm
  clear eB
  have hp := And.intro hlF (And.intro hlA hp3)
  clear hlF hlA hp3
  generalize hR : askT (asW tb tbm mm) T = R at hp hcd
  rcases R with _ | ⟨t, k⟩
  · skip
    refine W.eq (g2 := F0 m 10 ls [.int ((-1))]) rfl ?_
    have hlF := hp.1
    have hlA := hp.2.1
    refine lv_istore_n (lv' := [(3, .int ((-1))), (0, .ref x), (1, .int mm), (2, .int who)]) hx hb d_M_has_10 rfl hl (by decide) rfl (fun ls hl => ?_)
    refine lv_iload_n hx hb d_M_has_11 rfl (lv_at hl 0 rfl) ?_
    refine lv_iconst (v := (-1)) hx hb d_M_has_12 (by decide) ?_
    refine lv_icmp_eq (tgt := 36) hx hb d_M_has_13 (by decide) (fun c13 => ?_) (fun c13 => ?_)
    · skip
      refine lv_iconst (v := nI 0) hx hb d_M_has_36 (by decide) ?_
      exact W.zret hx hb hr rfl (fun t9 ht hW => ⟨_, _, _, _, rfl, by rw [ht]; exact ⟨hm.1, hm.2.1, hm.2.2.1, fun _ h => by cases h⟩, ⟨by rw [← hcd]; rfl, hlF, hlA, rfl⟩⟩) hm.2.2.2 d_M_has_37 hlk
    · skip
      first | exact absurd c13 (by decide) | exact absurd (by decide) c13
  · skip
    obtain ⟨hlF, hlA, hp3⟩ := hp
    obtain ⟨hTT, hok, hkk⟩ := hp3 (t, k) rfl
    have hkk : k < t.1.length := hkk
    have hTT : repT F1 A1 t := hTT
    have hok : okT t 120 := hok
    obtain ⟨ok1, ok2, ok3, ok4, ok5⟩ := id hok
    obtain ⟨n1, n2, n3, n4⟩ := hTT.2.2.2.1 k hkk
    obtain ⟨p1, p2, p3⟩ := ok4 k hkk
    obtain ⟨w1, w2⟩ := hTT.2.2.2.2.1 _ p3
    refine W.eq (g2 := F0 m 10 ls [.int (nI k)]) rfl ?_
    have h120 : (120 : Nat) ≤ 120 := Nat.le_refl _
    refine lv_istore_n (lv' := [(3, .int (nI k)), (0, .ref x), (1, .int mm), (2, .int who)]) hx hb d_M_has_10 rfl hl (by decide) rfl (fun ls hl => ?_)
    refine lv_iload_n hx hb d_M_has_11 rfl (lv_at hl 0 rfl) ?_
    refine lv_iconst (v := (-1)) hx hb d_M_has_12 (by decide) ?_
    refine lv_icmp_eq (tgt := 36) hx hb d_M_has_13 (by decide) (fun c13 => ?_) (fun c13 => ?_)
    · skip
      exact absurd c13 (nI_m1 (by omega))
    · skip
      refine lv_iload_n hx hb d_M_has_16 rfl (lv_at hl 3 rfl) ?_
      refine aP (rS (As := [.int who]) (rest := []) C0 (c_M_isPerson l g _ who) (m_zK hZ hm) k_M_has_17 rfl rfl ⟨Nat.le_of_ble_eq_true rfl, Nat.le_of_ble_eq_true rfl⟩ rfl hl.1 rfl (Nat.le_of_ble_eq_true rfl) d_M_has_17 ⟨Nat.zero_le _, Nat.zero_le _⟩) ?_
      intro v hv; subst hv
      refine W.eq (g2 := F0 m 20 ls [.int (bI (isP who))]) rfl ?_
      refine z_eq (tgt := 36) (v := isP who) hx hb d_M_has_20 (by decide) (fun c20 => ?_) (fun c20 => ?_)
      · skip
        refine lv_iconst (v := nI 0) hx hb d_M_has_36 (by decide) ?_
        exact W.zret hx hb hr rfl (fun t9 ht hW => ⟨_, _, _, _, rfl, by rw [ht]; exact ⟨hm.1, hm.2.1, hm.2.2.1, fun _ h => by cases h⟩, ⟨by rw [← hcd]; show _ = some (Value.int (bI (isP who && hrT t k who))); rw [c20]; rfl, hlF, hlA, rfl⟩⟩) hm.2.2.2 d_M_has_37 hlk
      · skip
        obtain ⟨wn, hwn, ewn⟩ := ix_ (n := 8) (by decide) c20
        subst ewn
        refine lv_aload_n hx hb d_M_has_23 rfl (lv_at hl 1 rfl) ?_
        refine lv_iload_n hx hb d_M_has_24 rfl (lv_at hl 0 rfl) ?_
        refine lv_iload_n hx hb d_M_has_25 rfl (lv_at hl 3 rfl) ?_
        refine aP (rV (As := [.int (nI k), .int (nI wn)]) (rest := []) C0 (c_M_hasRight l g _ x ad _ _ _ hm.1 k (nmT t k).2.2 wn (by omega) n4 (by omega)) (m_zK hZ hm) k_M_has_26 rfl rfl ⟨Nat.le_of_ble_eq_true rfl, Nat.le_of_ble_eq_true rfl⟩ (m_recv hK hm) rfl hl.1 rfl (Nat.le_of_ble_eq_true rfl) d_M_has_26 ⟨Nat.zero_le _, Nat.zero_le _⟩) ?_
        intro v hv; subst hv
        have eh : decide (A1 19 k = nI 1 ∧ (A1 21 (nmT t k).2.2 = nI wn ∨ rbit (A1 22 (nmT t k).2.2) wn = true)) = hrT t k (nI wn) := by rw [hrT, decide_eq_decide, n3, w1, w2, nI_clamp (by omega)]; exact Iff.rfl
        rw [eh]
        clear eh
        refine W.eq (g2 := F0 m 29 ls [.int (bI (hrT t k (nI wn)))]) rfl ?_
        refine z_eq (tgt := 36) (v := hrT t k (nI wn)) hx hb d_M_has_29 (by decide) (fun c29 => ?_) (fun c29 => ?_)
        · skip
          refine lv_iconst (v := nI 0) hx hb d_M_has_36 (by decide) ?_
          exact W.zret hx hb hr rfl (fun t9 ht hW => ⟨_, _, _, _, rfl, by rw [ht]; exact ⟨hm.1, hm.2.1, hm.2.2.1, fun _ h => by cases h⟩, ⟨by rw [← hcd]; show _ = some (Value.int (bI (isP (nI wn) && hrT t k (nI wn)))); rw [c20, c29]; rfl, hlF, hlA, rfl⟩⟩) hm.2.2.2 d_M_has_37 hlk
        · skip
          refine lv_iconst (v := nI 1) hx hb d_M_has_32 (by decide) ?_
          refine lv_goto (tgt := 37) hx hb d_M_has_33 (by decide) ?_
          exact W.zret hx hb hr rfl (fun t9 ht hW => ⟨_, _, _, _, rfl, by rw [ht]; exact ⟨hm.1, hm.2.1, hm.2.2.1, fun _ h => by cases h⟩, ⟨by rw [← hcd]; show _ = some (Value.int (bI (isP (nI wn) && hrT t k (nI wn)))); rw [c20, c29]; rfl, hlF, hlA, rfl⟩⟩) hm.2.2.2 d_M_has_37 hlk
theorem k_M_versionAsked_2 : kV "RegistryLogModel" 255 "RegistryLogModel" y_M_asked b_M_asked 4 (some .int) 1 := ⟨(in_6 (List.mem_of_getElem? (i := 56) rfl) rfl), (in_6 (List.mem_of_getElem? (i := 58) rfl) rfl), (in_0 (List.mem_of_getElem? (i := 25) rfl) rfl), (in_1 (List.mem_of_getElem? (i := 22) rfl) rfl), (in_6 (List.mem_of_getElem? (i := 59) rfl) rfl), ⟨by decide, by decide, by decide +kernel⟩⟩
theorem k_M_versionAsked_23 : kV "RegistryLogModel" 150 "RegistryLogModel" y_M_versionAt b_M_versionAt 5 (some .int) 2 := ⟨(in_5 (List.mem_of_getElem? (i := 151) rfl) rfl), (in_5 (List.mem_of_getElem? (i := 153) rfl) rfl), (in_0 (List.mem_of_getElem? (i := 11) rfl) rfl), (in_1 (List.mem_of_getElem? (i := 22) rfl) rfl), (in_5 (List.mem_of_getElem? (i := 154) rfl) rfl), ⟨by decide, by decide, by decide +kernel⟩⟩
set_option maxHeartbeats 4000000 in
set_option maxRecDepth 100000 in
/-- versionAsked -/
theorem c_M_versionAsked (l : Launch) (g : gG) (H : Heap) (x : Nat) (ad : Nat → Nat) (F : Nat → Int32) (A : Nat → Nat → Int32) (B : Nat → Nat → Int64) (hm0 : mW g H x ad F A B) (T : List Nat) (hT : ∀ k, k < T.length → A 1 k = nI (T.getD k 0)) (hc : ∀ k, T.getD k 0 < 128) (hT24 : T.length ≤ 24) (hty : F 2 = nI T.length) (rows : List Rw) (mir : Nat → List Rw) (hai : aI A rows mir) (tb : Tb) (htb : foT rows = some tb) (tbm : Nat → Tb) (hmb : ∀ q, q < 4 → foT (mir q) = some (tbm q)) (mm : Int32) (v0 : Int32) (res : Option (Tb × Nat)) (hcd : vaT (askT (asW tb tbm mm) T) v0 = res) : Met l y_M_versionAsked (wC y_M_versionAsked b_M_versionAsked 4 (some .int)) (rmk 4 0 0 91) (pC g H [.ref x, .int mm, .int v0]) (qM g H x ad (fun v F1 A1 B1 => v = some (.int (oI (res.map Prod.snd))) ∧ (∀ e, res = some e → repT F1 A1 e.1 ∧ okT e.1 120 ∧ e.2 < e.1.2.2.length) ∧ lo F1 (upd F 2 (nI 0)) ∧ lo A1 A ∧ B1 = B)) 0 0 (mN x ad) := by
  refine mB (by decide) (Nat.le_of_ble_eq_true rfl) ?_
  intro p e s m below meth c ls C0 hH hZ hnm hl
  have C0 : cF g p s m _ meth c b_M_versionAsked 4 "RegistryLogModel" (some .int) := C0
  obtain ⟨hx, hb, hml, hown, hts, hr, hlk, hK⟩ := id C0
  subst hH
  have hl : lv_has ls 4 [(0, .ref x), (1, .int mm), (2, .int v0)] := hl
  have hm := mS.rf hm0
  refine lv_aload_n hx hb d_M_versionAsked_0 rfl (lv_at hl 0 rfl) ?_
  refine lv_iload_n hx hb d_M_versionAsked_1 rfl (lv_at hl 1 rfl) ?_
  refine aM (rV (As := [.int mm]) (rest := []) C0 (c_M_asked l g _ x ad _ _ _ hm.1 T hT hc hT24 hty rows mir hai tb htb tbm hmb mm _ rfl) (m_zK hZ hm) k_M_versionAsked_2 rfl rfl ⟨Nat.le_of_ble_eq_true rfl, Nat.le_of_ble_eq_true rfl⟩ (m_recv hK hm) rfl hl.1 rfl (Nat.le_of_ble_eq_true rfl) d_M_versionAsked_2 ⟨Nat.zero_le _, Nat.zero_le _⟩) hm (fun v F1 A1 B1 H locs hp hm => ?_)
  obtain ⟨rfl, hp⟩ := hp
  obtain ⟨hlF, hlA, eB, hp3⟩ := hp
  rw [eB] at hm
  clear eB
  have hp := And.intro hlF (And.intro hlA hp3)
  clear hlF hlA hp3
  generalize hR : askT (asW tb tbm mm) T = R at hp hcd
  rcases R with _ | ⟨t, k⟩
  · skip
    refine W.eq (g2 := F0 m 5 ls [.int ((-1))]) rfl ?_
    have hlF := hp.1
    have hlA := hp.2.1
    refine lv_istore_n (lv' := [(3, .int ((-1))), (0, .ref x), (1, .int mm), (2, .int v0)]) hx hb d_M_versionAsked_5 rfl hl (by decide) rfl (fun ls hl => ?_)
    refine lv_iload_n hx hb d_M_versionAsked_6 rfl (lv_at hl 0 rfl) ?_
    refine lv_iconst (v := (-1)) hx hb d_M_versionAsked_7 (by decide) ?_
    refine lv_icmp_ne (tgt := 15) hx hb d_M_versionAsked_8 (by decide) (fun c8 => ?_) (fun c8 => ?_)
    · skip
      first | exact absurd c8 (by decide) | exact absurd (by decide) c8
    · skip
      refine lv_iconst (v := (-1)) hx hb d_M_versionAsked_11 (by decide) ?_
      refine lv_goto (tgt := 26) hx hb d_M_versionAsked_12 (by decide) ?_
      have hcd : none = res := hcd
      subst hcd
      exact W.iret hx hb hr (fun t9 ht hW => ⟨_, _, _, _, rfl, by rw [ht]; exact ⟨hm.1, hm.2.1, hm.2.2.1, fun _ h => by cases h⟩, ⟨rfl, (fun e he => by cases he), hlF, hlA, rfl⟩⟩) hm.2.2.2 d_M_versionAsked_26 hlk
  · skip
    obtain ⟨hlF, hlA, hp3⟩ := hp
    obtain ⟨hTT, hok, hkk⟩ := hp3 (t, k) rfl
    have hkk : k < t.1.length := hkk
    have hTT : repT F1 A1 t := hTT
    have hok : okT t 120 := hok
    obtain ⟨ok1, ok2, ok3, ok4, ok5⟩ := id hok
    obtain ⟨n1, n2, n3, n4⟩ := hTT.2.2.2.1 k hkk
    obtain ⟨p1, p2, p3⟩ := ok4 k hkk
    obtain ⟨w1, w2⟩ := hTT.2.2.2.2.1 _ p3
    refine W.eq (g2 := F0 m 5 ls [.int (nI k)]) rfl ?_
    have h120 : (120 : Nat) ≤ 120 := Nat.le_refl _
    refine lv_istore_n (lv' := [(3, .int (nI k)), (0, .ref x), (1, .int mm), (2, .int v0)]) hx hb d_M_versionAsked_5 rfl hl (by decide) rfl (fun ls hl => ?_)
    refine lv_iload_n hx hb d_M_versionAsked_6 rfl (lv_at hl 0 rfl) ?_
    refine lv_iconst (v := (-1)) hx hb d_M_versionAsked_7 (by decide) ?_
    refine lv_icmp_ne (tgt := 15) hx hb d_M_versionAsked_8 (by decide) (fun c8 => ?_) (fun c8 => ?_)
    · skip
      refine lv_aload_n hx hb d_M_versionAsked_15 rfl (lv_at hl 1 rfl) ?_
      refine lv_aload_n hx hb d_M_versionAsked_16 rfl (lv_at hl 1 rfl) ?_
      refine m_get hx hb hts hown hK hm 20 (by decide) (hts (.fieldLink "RegistryLogModel" 59 "RegistryLogModel" "nameOf" "[I") (in_4 (List.mem_of_getElem? (i := 229) rfl) rfl)) rfl (v := .ref (ad 20)) rfl d_M_versionAsked_17 ?_
      refine lv_iload_n hx hb d_M_versionAsked_20 rfl (lv_at hl 0 rfl) ?_
      refine m_ld hx hb hK hm 20 rfl k rfl (show k < 240 from by omega) d_M_versionAsked_21 ?_
      refine W.eq (g2 := F0 m 22 ls [.int (nI ((nmT t k).2.2)), .ref x]) (by rw [n4]) ?_
      refine lv_iload_n hx hb d_M_versionAsked_22 rfl (lv_at hl 3 rfl) ?_
      refine aP (rV (As := [.int (nI ((nmT t k).2.2)), .int v0]) (rest := []) C0 (c_M_versionAt l g _ x ad _ _ _ hm.1 t.2.2.length hTT.2.2.1 (by omega) (nI (nmT t k).2.2) v0) (m_zK hZ hm) k_M_versionAsked_23 rfl rfl ⟨Nat.le_of_ble_eq_true rfl, Nat.le_of_ble_eq_true rfl⟩ (m_recv hK hm) rfl hl.1 rfl (Nat.le_of_ble_eq_true rfl) d_M_versionAsked_23 ⟨Nat.zero_le _, Nat.zero_le _⟩) ?_
      intro v9 hv; subst hv
      rw [show vaL A1 (nI (nmT t k).2.2) v0 t.2.2.length 0 (-1) = oI (vtT t (nmT t k).2.2 v0) from vaL_T hTT hok h120 (by omega)]
      have hcd : (match vtT t (nmT t k).2.2 v0 with | none => none | some j => some (t, j)) = res := hcd
      rcases hvv : vtT t (nmT t k).2.2 v0 with _ | vk
      · skip
        rw [hvv] at hcd
        dsimp only at hcd
        refine W.eq (g2 := F0 m 26 ls [.int ((-1))]) rfl ?_
        subst hcd
        exact W.iret hx hb hr (fun t9 ht hW => ⟨_, _, _, _, rfl, by rw [ht]; exact ⟨hm.1, hm.2.1, hm.2.2.1, fun _ h => by cases h⟩, ⟨rfl, (fun e he => by cases he), hlF, hlA, rfl⟩⟩) hm.2.2.2 d_M_versionAsked_26 hlk
      · skip
        rw [hvv] at hcd
        dsimp only at hcd
        have hvk : vk < t.2.2.length := vtT_lt hvv
        refine W.eq (g2 := F0 m 26 ls [.int (nI vk)]) rfl ?_
        subst hcd
        exact W.iret hx hb hr (fun t9 ht hW => ⟨_, _, _, _, rfl, by rw [ht]; exact ⟨hm.1, hm.2.1, hm.2.2.1, fun _ h => by cases h⟩, ⟨rfl, (fun e he => by cases he; exact ⟨hTT, hok, hvk⟩), hlF, hlA, rfl⟩⟩) hm.2.2.2 d_M_versionAsked_26 hlk
    · skip
      exact absurd c8 (nI_m1 (by omega))
theorem k_M_version_8 : kV "RegistryLogModel" 258 "RegistryLogModel" y_M_versionAsked b_M_versionAsked 4 (some .int) 2 := ⟨(in_6 (List.mem_of_getElem? (i := 68) rfl) rfl), (in_6 (List.mem_of_getElem? (i := 70) rfl) rfl), (in_0 (List.mem_of_getElem? (i := 26) rfl) rfl), (in_1 (List.mem_of_getElem? (i := 22) rfl) rfl), (in_6 (List.mem_of_getElem? (i := 71) rfl) rfl), ⟨by decide, by decide, by decide +kernel⟩⟩
set_option maxHeartbeats 4000000 in
set_option maxRecDepth 100000 in
/-- version -/
theorem c_M_version (l : Launch) (g : gG) (H : Heap) (x : Nat) (ad : Nat → Nat) (F : Nat → Int32) (A : Nat → Nat → Int32) (B : Nat → Nat → Int64) (hm0 : mW g H x ad F A B) (T : List Nat) (hT : ∀ k, k < T.length → A 1 k = nI (T.getD k 0)) (hc : ∀ k, T.getD k 0 < 128) (hT24 : T.length ≤ 24) (hty : F 2 = nI T.length) (rows : List Rw) (mir : Nat → List Rw) (hai : aI A rows mir) (tb : Tb) (htb : foT rows = some tb) (tbm : Nat → Tb) (hmb : ∀ q, q < 4 → foT (mir q) = some (tbm q)) (mm : Int32) (v0 res : Int32) (hcd : verT (vaT (askT (asW tb tbm mm) T) v0) = res) : Met l y_M_version (wC y_M_version b_M_version 4 (some .int)) (rmk 5 0 0 114) (pC g H [.ref x, .int mm, .int v0]) (qM g H x ad (fun v F1 A1 B1 => v = some (.int res) ∧ lo F1 (upd (upd F 0 (nI 0)) 2 (nI 0)) ∧ lo A1 A ∧ B1 = B)) 0 0 (mN x ad) := by
  refine mB (by decide) (Nat.le_of_ble_eq_true rfl) ?_
  intro p e s m below meth c ls C0 hH hZ hnm hl
  have C0 : cF g p s m _ meth c b_M_version 4 "RegistryLogModel" (some .int) := C0
  obtain ⟨hx, hb, hml, hown, hts, hr, hlk, hK⟩ := id C0
  subst hH
  have hl : lv_has ls 4 [(0, .ref x), (1, .int mm), (2, .int v0)] := hl
  have hm := mS.rf hm0
  refine lv_aload_n hx hb d_M_version_0 rfl (lv_at hl 0 rfl) ?_
  refine lv_iconst (v := nI 0) hx hb d_M_version_1 (by decide) ?_
  refine m_put hx hb hts hown hK hm 0 (by decide) (hts (.fieldLink "RegistryLogModel" 108 "RegistryLogModel" "code" "I") (in_4 (List.mem_of_getElem? (i := 209) rfl) rfl)) rfl rfl (v := nI 0) rfl rfl rfl rfl d_M_version_2 (fun H locs hm => ?_)
  refine lv_aload_n hx hb d_M_version_5 rfl (lv_at hl 0 rfl) ?_
  refine lv_iload_n hx hb d_M_version_6 rfl (lv_at hl 1 rfl) ?_
  refine lv_iload_n hx hb d_M_version_7 rfl (lv_at hl 2 rfl) ?_
  refine aM (rV (As := [.int mm, .int v0]) (rest := []) C0 (c_M_versionAsked l g _ x ad _ _ _ hm.1 T hT hc hT24 hty rows mir hai tb htb tbm hmb mm v0 _ rfl) (m_zK hZ hm) k_M_version_8 rfl rfl ⟨Nat.le_of_ble_eq_true rfl, Nat.le_of_ble_eq_true rfl⟩ (m_recv hK hm) rfl hl.1 rfl (Nat.le_of_ble_eq_true rfl) d_M_version_8 ⟨Nat.zero_le _, Nat.zero_le _⟩) hm (fun v F1 A1 B1 H locs hp hm => ?_)
  obtain ⟨rfl, hp3, hlF, hlA, eB⟩ := hp
  rw [eB] at hm
  clear eB
  have hp := And.intro hp3 (And.intro hlF hlA)
  clear hlF hlA hp3
  generalize hR : vaT (askT (asW tb tbm mm) T) v0 = R at hp hcd
  rcases R with _ | ⟨t, k⟩
  · skip
    refine W.eq (g2 := F0 m 11 ls [.int ((-1))]) rfl ?_
    obtain ⟨hp3, hlF, hlA⟩ := hp
    refine lv_istore_n (lv' := [(3, .int ((-1))), (0, .ref x), (1, .int mm), (2, .int v0)]) hx hb d_M_version_11 rfl hl (by decide) rfl (fun ls hl => ?_)
    refine lv_iload_n hx hb d_M_version_12 rfl (lv_at hl 0 rfl) ?_
    refine lv_iconst (v := (-1)) hx hb d_M_version_13 (by decide) ?_
    refine lv_icmp_ne (tgt := 21) hx hb d_M_version_14 (by decide) (fun c14 => ?_) (fun c14 => ?_)
    · skip
      first | exact absurd c14 (by decide) | exact absurd (by decide) c14
    · skip
      refine lv_iconst (v := nI 0) hx hb d_M_version_17 (by decide) ?_
      refine lv_goto (tgt := 29) hx hb d_M_version_18 (by decide) ?_
      exact W.iret hx hb hr (fun t9 ht hW => ⟨_, _, _, _, rfl, by rw [ht]; exact ⟨hm.1, hm.2.1, hm.2.2.1, fun _ h => by cases h⟩, ⟨by rw [← hcd]; rfl, hlF, hlA, rfl⟩⟩) hm.2.2.2 d_M_version_29 hlk
  · skip
    obtain ⟨hp3, hlF, hlA⟩ := hp
    obtain ⟨hTT, hok, hkk⟩ := hp3 (t, k) rfl
    have hkk : k < t.2.2.length := hkk
    have hTT : repT F1 A1 t := hTT
    have hok : okT t 120 := hok
    obtain ⟨ok1, ok2, ok3, ok4, ok5⟩ := id hok
    obtain ⟨v1, v2, v3, v4⟩ := hTT.2.2.2.2.2 k hkk
    refine W.eq (g2 := F0 m 11 ls [.int (nI k)]) rfl ?_
    refine lv_istore_n (lv' := [(3, .int (nI k)), (0, .ref x), (1, .int mm), (2, .int v0)]) hx hb d_M_version_11 rfl hl (by decide) rfl (fun ls hl => ?_)
    refine lv_iload_n hx hb d_M_version_12 rfl (lv_at hl 0 rfl) ?_
    refine lv_iconst (v := (-1)) hx hb d_M_version_13 (by decide) ?_
    refine lv_icmp_ne (tgt := 21) hx hb d_M_version_14 (by decide) (fun c14 => ?_) (fun c14 => ?_)
    · skip
      refine lv_iconst (v := nI 1) hx hb d_M_version_21 (by decide) ?_
      refine lv_aload_n hx hb d_M_version_22 rfl (lv_at hl 1 rfl) ?_
      refine m_get hx hb hts hown hK hm 26 (by decide) (hts (.fieldLink "RegistryLogModel" 77 "RegistryLogModel" "versionYanked" "[I") (in_4 (List.mem_of_getElem? (i := 235) rfl) rfl)) rfl (v := .ref (ad 26)) rfl d_M_version_23 ?_
      refine lv_iload_n hx hb d_M_version_26 rfl (lv_at hl 0 rfl) ?_
      refine m_ld hx hb hK hm 26 rfl k rfl (show k < 120 from by omega) d_M_version_27 ?_
      refine W.eq (g2 := F0 m 28 ls [.int ((veT t k).2.2.2), .int (nI 1)]) (by rw [v4]) ?_
      refine lv_iadd hx hb d_M_version_28 ?_
      exact W.iret hx hb hr (fun t9 ht hW => ⟨_, _, _, _, rfl, by rw [ht]; exact ⟨hm.1, hm.2.1, hm.2.2.1, fun _ h => by cases h⟩, ⟨by rw [← hcd]; rfl, hlF, hlA, rfl⟩⟩) hm.2.2.2 d_M_version_29 hlk
    · skip
      exact absurd c14 (nI_m1 (by omega))
theorem k_M_sum_8 : kV "RegistryLogModel" 258 "RegistryLogModel" y_M_versionAsked b_M_versionAsked 4 (some .int) 2 := ⟨(in_6 (List.mem_of_getElem? (i := 68) rfl) rfl), (in_6 (List.mem_of_getElem? (i := 70) rfl) rfl), (in_0 (List.mem_of_getElem? (i := 26) rfl) rfl), (in_1 (List.mem_of_getElem? (i := 22) rfl) rfl), (in_6 (List.mem_of_getElem? (i := 71) rfl) rfl), ⟨by decide, by decide, by decide +kernel⟩⟩
set_option maxHeartbeats 4000000 in
set_option maxRecDepth 100000 in
/-- sum -/
theorem c_M_sum (l : Launch) (g : gG) (H : Heap) (x : Nat) (ad : Nat → Nat) (F : Nat → Int32) (A : Nat → Nat → Int32) (B : Nat → Nat → Int64) (hm0 : mW g H x ad F A B) (T : List Nat) (hT : ∀ k, k < T.length → A 1 k = nI (T.getD k 0)) (hc : ∀ k, T.getD k 0 < 128) (hT24 : T.length ≤ 24) (hty : F 2 = nI T.length) (rows : List Rw) (mir : Nat → List Rw) (hai : aI A rows mir) (tb : Tb) (htb : foT rows = some tb) (tbm : Nat → Tb) (hmb : ∀ q, q < 4 → foT (mir q) = some (tbm q)) (mm : Int32) (v0 res : Int32) (hcd : sumT (vaT (askT (asW tb tbm mm) T) v0) = res) : Met l y_M_sum (wC y_M_sum b_M_sum 4 (some .int)) (rmk 5 0 0 114) (pC g H [.ref x, .int mm, .int v0]) (qM g H x ad (fun v F1 A1 B1 => v = some (.int res) ∧ lo F1 (upd (upd F 0 (nI 0)) 2 (nI 0)) ∧ lo A1 A ∧ B1 = B)) 0 0 (mN x ad) := by
  refine mB (by decide) (Nat.le_of_ble_eq_true rfl) ?_
  intro p e s m below meth c ls C0 hH hZ hnm hl
  have C0 : cF g p s m _ meth c b_M_sum 4 "RegistryLogModel" (some .int) := C0
  obtain ⟨hx, hb, hml, hown, hts, hr, hlk, hK⟩ := id C0
  subst hH
  have hl : lv_has ls 4 [(0, .ref x), (1, .int mm), (2, .int v0)] := hl
  have hm := mS.rf hm0
  refine lv_aload_n hx hb d_M_sum_0 rfl (lv_at hl 0 rfl) ?_
  refine lv_iconst (v := nI 0) hx hb d_M_sum_1 (by decide) ?_
  refine m_put hx hb hts hown hK hm 0 (by decide) (hts (.fieldLink "RegistryLogModel" 108 "RegistryLogModel" "code" "I") (in_4 (List.mem_of_getElem? (i := 209) rfl) rfl)) rfl rfl (v := nI 0) rfl rfl rfl rfl d_M_sum_2 (fun H locs hm => ?_)
  refine lv_aload_n hx hb d_M_sum_5 rfl (lv_at hl 0 rfl) ?_
  refine lv_iload_n hx hb d_M_sum_6 rfl (lv_at hl 1 rfl) ?_
  refine lv_iload_n hx hb d_M_sum_7 rfl (lv_at hl 2 rfl) ?_
  refine aM (rV (As := [.int mm, .int v0]) (rest := []) C0 (c_M_versionAsked l g _ x ad _ _ _ hm.1 T hT hc hT24 hty rows mir hai tb htb tbm hmb mm v0 _ rfl) (m_zK hZ hm) k_M_sum_8 rfl rfl ⟨Nat.le_of_ble_eq_true rfl, Nat.le_of_ble_eq_true rfl⟩ (m_recv hK hm) rfl hl.1 rfl (Nat.le_of_ble_eq_true rfl) d_M_sum_8 ⟨Nat.zero_le _, Nat.zero_le _⟩) hm (fun v F1 A1 B1 H locs hp hm => ?_)
  obtain ⟨rfl, hp3, hlF, hlA, eB⟩ := hp
  rw [eB] at hm
  clear eB
  have hp := And.intro hp3 (And.intro hlF hlA)
  clear hlF hlA hp3
  generalize hR : vaT (askT (asW tb tbm mm) T) v0 = R at hp hcd
  rcases R with _ | ⟨t, k⟩
  · skip
    refine W.eq (g2 := F0 m 11 ls [.int ((-1))]) rfl ?_
    obtain ⟨hp3, hlF, hlA⟩ := hp
    refine lv_istore_n (lv' := [(3, .int ((-1))), (0, .ref x), (1, .int mm), (2, .int v0)]) hx hb d_M_sum_11 rfl hl (by decide) rfl (fun ls hl => ?_)
    refine lv_iload_n hx hb d_M_sum_12 rfl (lv_at hl 0 rfl) ?_
    refine lv_iconst (v := (-1)) hx hb d_M_sum_13 (by decide) ?_
    refine lv_icmp_ne (tgt := 21) hx hb d_M_sum_14 (by decide) (fun c14 => ?_) (fun c14 => ?_)
    · skip
      first | exact absurd c14 (by decide) | exact absurd (by decide) c14
    · skip
      refine lv_iconst (v := nI 0) hx hb d_M_sum_17 (by decide) ?_
      refine lv_goto (tgt := 27) hx hb d_M_sum_18 (by decide) ?_
      exact W.iret hx hb hr (fun t9 ht hW => ⟨_, _, _, _, rfl, by rw [ht]; exact ⟨hm.1, hm.2.1, hm.2.2.1, fun _ h => by cases h⟩, ⟨by rw [← hcd]; rfl, hlF, hlA, rfl⟩⟩) hm.2.2.2 d_M_sum_27 hlk
  · skip
    obtain ⟨hp3, hlF, hlA⟩ := hp
    obtain ⟨hTT, hok, hkk⟩ := hp3 (t, k) rfl
    have hkk : k < t.2.2.length := hkk
    have hTT : repT F1 A1 t := hTT
    have hok : okT t 120 := hok
    obtain ⟨ok1, ok2, ok3, ok4, ok5⟩ := id hok
    obtain ⟨v1, v2, v3, v4⟩ := hTT.2.2.2.2.2 k hkk
    refine W.eq (g2 := F0 m 11 ls [.int (nI k)]) rfl ?_
    refine lv_istore_n (lv' := [(3, .int (nI k)), (0, .ref x), (1, .int mm), (2, .int v0)]) hx hb d_M_sum_11 rfl hl (by decide) rfl (fun ls hl => ?_)
    refine lv_iload_n hx hb d_M_sum_12 rfl (lv_at hl 0 rfl) ?_
    refine lv_iconst (v := (-1)) hx hb d_M_sum_13 (by decide) ?_
    refine lv_icmp_ne (tgt := 21) hx hb d_M_sum_14 (by decide) (fun c14 => ?_) (fun c14 => ?_)
    · skip
      refine lv_aload_n hx hb d_M_sum_21 rfl (lv_at hl 1 rfl) ?_
      refine m_get hx hb hts hown hK hm 25 (by decide) (hts (.fieldLink "RegistryLogModel" 74 "RegistryLogModel" "versionSum" "[I") (in_4 (List.mem_of_getElem? (i := 234) rfl) rfl)) rfl (v := .ref (ad 25)) rfl d_M_sum_22 ?_
      refine lv_iload_n hx hb d_M_sum_25 rfl (lv_at hl 0 rfl) ?_
      refine m_ld hx hb hK hm 25 rfl k rfl (show k < 120 from by omega) d_M_sum_26 ?_
      refine W.eq (g2 := F0 m 27 ls [.int ((veT t k).2.2.1)]) (by rw [v3]) ?_
      exact W.iret hx hb hr (fun t9 ht hW => ⟨_, _, _, _, rfl, by rw [ht]; exact ⟨hm.1, hm.2.1, hm.2.2.1, fun _ h => by cases h⟩, ⟨by rw [← hcd]; rfl, hlF, hlA, rfl⟩⟩) hm.2.2.2 d_M_sum_27 hlk
    · skip
      exact absurd c14 (nI_m1 (by omega))
