def ctL (T : List Nat) : Nat → Nat → Nat
  | 0, r => r
  | k + 1, r => ctL T k (if T.getD k 0 = 62 then k else r)
def cutM (T : List Nat) : Nat := ctL T T.length T.length
theorem ctL_le (T : List Nat) (n : Nat) : ∀ k r, k ≤ n → r ≤ n → ctL T k r ≤ n
  | 0, r, _, h => h
  | k + 1, r, h1, h2 => ctL_le T n k _ (by omega) (by split <;> omega)
theorem nI_dn (j : Nat) : nI j + (-1) = nI j - nI 1 := by
  rw [show (-1 : Int32) = -(nI 1) from by decide, ← Int32.sub_eq_add_neg]
set_option maxHeartbeats 4000000 in
set_option maxRecDepth 100000 in
theorem lp_M_takesC {p : Program} {l : Launch} {e : Env} {s : State} {m : MethodId} {args : Array Value} {below : List Frame} {meth : Method} {c : Code} {g : gG} {R : Room} {Q : State → Prop} (C0 : cF g p s m args meth c b_M_takes 5 "RegistryLogModel" (some .boolean)) {x : Nat} {ad : Nat → Nat} {F : Nat → Int32} {A : Nat → Nat → Int32} {B : Nat → Nat → Int64} {H : Heap} {locs : List Loc} (hm : mS g s.heap H x ad F A B locs) (T : List Nat) (hT : ∀ k, k < T.length → A 1 k = nI (T.getD k 0)) (hc : ∀ k, T.getD k 0 < 128) (hT24 : T.length ≤ 24) (res : Nat) (K : ∀ (v4 : Int32) (ls : Array Slot), lv_has ls 5 [(0, .ref x), (1, .int (bI true)), (2, .int (nI T.length)), (3, .int (nI res)), (4, .int v4)] → W p l e R s m args below meth c H locs 0 0 Q (F0 m 51 ls [])) :
    ∀ (i r : Nat), i ≤ T.length → ctL T i r = res → ∀ (ls : Array Slot), lv_has ls 5 [(0, .ref x), (1, .int (bI true)), (2, .int (nI T.length)), (3, .int (nI r)), (4, .int (nI i - nI 1))] → W p l e R s m args below meth c H locs 0 0 Q (F0 m 17 ls []) := by
  obtain ⟨hx, hb, hml, hown, hts, hr, hlk, hK⟩ := id C0
  intro i
  induction i with
  | zero =>
    intro r hi hres ls hl
    refine lv_iload hx hb d_M_takes_17 (lv_at hl 4 rfl) ?_
    refine lv_if_lt (tgt := 51) hx hb d_M_takes_19 (by decide) (fun c19 => ?_) (fun c19 => ?_)
    · skip
      rw [ctL] at hres
      subst hres
      exact K _ ls (lv_sub hl [0, 1, 2, 3, 4] rfl)
    · skip
      exact absurd (show nI 0 - nI 1 < 0 by decide) c19
  | succ i ih =>
    intro r hi hres ls hl
    have hc1 := hc i
    rw [show nI (i + 1) - nI 1 = nI i from nI_pred i] at hl
    refine lv_iload hx hb d_M_takes_17 (lv_at hl 4 rfl) ?_
    refine lv_if_lt (tgt := 51) hx hb d_M_takes_19 (by decide) (fun c19 => ?_) (fun c19 => ?_)
    · skip
      exact absurd c19 (nI_pos (by omega))
    · skip
      refine lv_iload_n hx hb d_M_takes_22 rfl (lv_at hl 1 rfl) ?_
      refine z_eq (tgt := 51) (v := true) hx hb d_M_takes_23 (by decide) (fun c23 => ?_) (fun c23 => ?_)
      · skip
        first | exact absurd c23 (by decide) | exact absurd (by decide) c23
      · skip
        refine lv_aload_n hx hb d_M_takes_26 rfl (lv_at hl 0 rfl) ?_
        refine m_get hx hb hts hown hK hm 1 (by decide) (hts (.fieldLink "RegistryLogModel" 7 "RegistryLogModel" "text" "[I") (in_4 (List.mem_of_getElem? (i := 210) rfl) rfl)) rfl (v := .ref (ad 1)) rfl d_M_takes_27 ?_
        refine lv_iload hx hb d_M_takes_30 (lv_at hl 4 rfl) ?_
        refine m_ld hx hb hK hm 1 rfl i rfl (show i < 24 from by omega) d_M_takes_32 ?_
        refine W.eq (g2 := F0 m 33 ls [.int (nI (T.getD i 0))]) (by rw [hT i (by omega)]) ?_
        refine lv_bipush (v := nI 62) hx hb d_M_takes_33 (by decide) ?_
        refine n_ne (tgt := 43) (a := T.getD i 0) (b := 62) hx hb d_M_takes_35 (by decide) (by omega) (by omega) (fun c35 => ?_) (fun c35 => ?_)
        · skip
          refine lv_iload_n hx hb d_M_takes_43 rfl (lv_at hl 3 rfl) ?_
          refine lv_istore_n (lv' := [(3, .int (nI r)), (0, .ref x), (1, .int (bI true)), (2, .int (nI T.length)), (4, .int (nI i))]) hx hb d_M_takes_44 rfl hl (by decide) rfl (fun ls hl => ?_)
          refine lv_iinc (v := nI i - nI 1) (lv' := [(4, .int (nI i - nI 1)), (3, .int (nI r)), (0, .ref x), (1, .int (bI true)), (2, .int (nI T.length))]) hx hb d_M_takes_45 hl (k := 4) rfl (nI_dn i) (by decide) rfl (fun ls hl => ?_)
          refine lv_goto (tgt := 17) hx hb d_M_takes_48 (by decide) ?_
          rw [ctL, if_neg c35] at hres
          exact ih _ (by omega) hres ls (lv_sub hl [2, 3, 4, 1, 0] rfl)
        · skip
          refine lv_iload hx hb d_M_takes_38 (lv_at hl 4 rfl) ?_
          refine lv_goto (tgt := 44) hx hb d_M_takes_40 (by decide) ?_
          refine lv_istore_n (lv' := [(3, .int (nI i)), (0, .ref x), (1, .int (bI true)), (2, .int (nI T.length)), (4, .int (nI i))]) hx hb d_M_takes_44 rfl hl (by decide) rfl (fun ls hl => ?_)
          refine lv_iinc (v := nI i - nI 1) (lv' := [(4, .int (nI i - nI 1)), (3, .int (nI i)), (0, .ref x), (1, .int (bI true)), (2, .int (nI T.length))]) hx hb d_M_takes_45 hl (k := 4) rfl (nI_dn i) (by decide) rfl (fun ls hl => ?_)
          refine lv_goto (tgt := 17) hx hb d_M_takes_48 (by decide) ?_
          rw [ctL, if_pos c35] at hres
          exact ih _ (by omega) hres ls (lv_sub hl [2, 3, 4, 1, 0] rfl)
set_option maxHeartbeats 4000000 in
set_option maxRecDepth 100000 in
/-- takes(true) -/
theorem c_M_takes1 (l : Launch) (g : gG) (H : Heap) (x : Nat) (ad : Nat → Nat) (F : Nat → Int32) (A : Nat → Nat → Int32) (B : Nat → Nat → Int64) (hm0 : mW g H x ad F A B) (T : List Nat) (hT : ∀ k, k < T.length → A 1 k = nI (T.getD k 0)) (hc : ∀ k, T.getD k 0 < 128) (hT24 : T.length ≤ 24) (hty : F 2 = nI T.length) : Met l y_M_takes (wC y_M_takes b_M_takes 5 (some .boolean)) (rmk 2 0 0 44) (pC g H [.ref x, .int (bI true)]) (qM g H x ad (fun v F1 A1 B1 => if cutM T < T.length ∧ nameM T 0 (cutM T) = true ∧ nameM T (cutM T + 1) T.length = true then (v = some (.int 1) ∧ F1 = upd (upd (upd F 2 (nI 0)) 32 (nI (cutM T))) 33 (nI (T.length - cutM T - 1)) ∧ A1 = updA (updA A 30 (va_cpy (A 1) (A 30) 0 0 (cutM T))) 31 (va_cpy (A 1) (A 31) (cutM T + 1) 0 (T.length - cutM T - 1)) ∧ B1 = B) else (v = some (.int 0) ∧ F1 = upd F 2 (nI 0) ∧ A1 = A ∧ B1 = B))) 0 0 (mN x ad) := by
  refine mB (by decide) (Nat.le_of_ble_eq_true rfl) ?_
  intro p e s m below meth c ls C0 hH hZ hnm hl
  have C0 : cF g p s m _ meth c b_M_takes 5 "RegistryLogModel" (some .boolean) := C0
  obtain ⟨hx, hb, hml, hown, hts, hr, hlk, hK⟩ := id C0
  subst hH
  have hl : lv_has ls 5 [(0, .ref x), (1, .int (bI true))] := hl
  have hm := mS.rf hm0
  have hcl : cutM T ≤ T.length := ctL_le T T.length T.length T.length (Nat.le_refl _) (Nat.le_refl _)
  refine lv_aload_n hx hb d_M_takes_0 rfl (lv_at hl 0 rfl) ?_
  refine m_get hx hb hts hown hK hm 2 (by decide) (hts (.fieldLink "RegistryLogModel" 112 "RegistryLogModel" "typed" "I") (in_4 (List.mem_of_getElem? (i := 211) rfl) rfl)) rfl (v := .int (nI T.length)) (congrArg (fun z => some (Value.int z)) hty) d_M_takes_1 ?_
  refine lv_istore_n (lv' := [(2, .int (nI T.length)), (0, .ref x), (1, .int (bI true))]) hx hb d_M_takes_4 rfl hl (by decide) rfl (fun ls hl => ?_)
  refine lv_aload_n hx hb d_M_takes_5 rfl (lv_at hl 1 rfl) ?_
  refine lv_iconst (v := nI 0) hx hb d_M_takes_6 (by decide) ?_
  refine m_put hx hb hts hown hK hm 2 (by decide) (hts (.fieldLink "RegistryLogModel" 112 "RegistryLogModel" "typed" "I") (in_4 (List.mem_of_getElem? (i := 211) rfl) rfl)) rfl rfl (v := nI 0) rfl rfl rfl rfl d_M_takes_7 (fun H locs hm => ?_)
  refine lv_iload_n hx hb d_M_takes_10 rfl (lv_at hl 0 rfl) ?_
  refine lv_istore_n (lv' := [(3, .int (nI T.length)), (2, .int (nI T.length)), (0, .ref x), (1, .int (bI true))]) hx hb d_M_takes_11 rfl hl (by decide) rfl (fun ls hl => ?_)
  refine lv_iload_n hx hb d_M_takes_12 rfl (lv_at hl 1 rfl) ?_
  refine lv_iconst (v := nI 1) hx hb d_M_takes_13 (by decide) ?_
  refine lv_isub hx hb d_M_takes_14 ?_
  refine lv_istore (lv' := [(4, .int (nI T.length - nI 1)), (3, .int (nI T.length)), (2, .int (nI T.length)), (0, .ref x), (1, .int (bI true))]) hx hb d_M_takes_15 hl (by decide) rfl (fun ls hl => ?_)
  refine lp_M_takesC C0 hm T hT hc hT24 (cutM T) (fun v4 ls hl => ?_) T.length T.length (Nat.le_refl _) rfl ls (lv_sub hl [3, 4, 2, 1, 0] rfl)
  refine lv_iload_n hx hb d_M_takes_51 rfl (lv_at hl 1 rfl) ?_
  refine z_eq (tgt := 60) (v := true) hx hb d_M_takes_52 (by decide) (fun c52 => ?_) (fun c52 => ?_)
  · skip
    first | exact absurd c52 (by decide) | exact absurd (by decide) c52
  · skip
    refine lv_iload_n hx hb d_M_takes_55 rfl (lv_at hl 3 rfl) ?_
    refine lv_iload_n hx hb d_M_takes_56 rfl (lv_at hl 2 rfl) ?_
    refine n_eq (tgt := 84) (a := cutM T) (b := T.length) hx hb d_M_takes_57 (by decide) (by omega) (by omega) (fun c57 => ?_) (fun c57 => ?_)
    · skip
      refine lv_iconst (v := nI 0) hx hb d_M_takes_84 (by decide) ?_
      exact W.zret hx hb hr rfl (fun t9 ht hW => ⟨_, _, _, _, rfl, by rw [ht]; exact ⟨hm.1, hm.2.1, hm.2.2.1, fun _ h => by cases h⟩, by (try dsimp only); rw [if_neg (fun z => absurd z.1 (by omega))]; exact ⟨rfl, rfl, rfl, rfl⟩⟩) hm.2.2.2 d_M_takes_85 hlk
    · skip
      refine lv_aload_n hx hb d_M_takes_60 rfl (lv_at hl 0 rfl) ?_
      refine lv_iconst (v := nI 0) hx hb d_M_takes_61 (by decide) ?_
      refine lv_iload_n hx hb d_M_takes_62 rfl (lv_at hl 3 rfl) ?_
      refine aP (rV (As := [.int (nI 0), .int (nI (cutM T))]) (rest := []) C0 (c_M_isName l g _ x ad _ _ _ hm.1 T hT hc hT24 0 (cutM T) (Nat.zero_le _) hcl) (m_zK hZ hm) k_M_takes_63 rfl rfl ⟨Nat.le_of_ble_eq_true rfl, Nat.le_of_ble_eq_true rfl⟩ (m_recv hK hm) rfl hl.1 rfl (Nat.le_of_ble_eq_true rfl) d_M_takes_63 ⟨Nat.zero_le _, Nat.zero_le _⟩) ?_
      intro v hv; subst hv
      refine W.eq (g2 := F0 m 66 ls [.int (bI (nameM T 0 (cutM T)))]) rfl ?_
      refine z_eq (tgt := 84) (v := nameM T 0 (cutM T)) hx hb d_M_takes_66 (by decide) (fun c66 => ?_) (fun c66 => ?_)
      · skip
        refine lv_iconst (v := nI 0) hx hb d_M_takes_84 (by decide) ?_
        exact W.zret hx hb hr rfl (fun t9 ht hW => ⟨_, _, _, _, rfl, by rw [ht]; exact ⟨hm.1, hm.2.1, hm.2.2.1, fun _ h => by cases h⟩, by (try dsimp only); rw [if_neg (fun z => absurd z.2.1 (by rw [c66]; decide))]; exact ⟨rfl, rfl, rfl, rfl⟩⟩) hm.2.2.2 d_M_takes_85 hlk
      · skip
        refine lv_iload_n hx hb d_M_takes_69 rfl (lv_at hl 1 rfl) ?_
        refine z_eq (tgt := 86) (v := true) hx hb d_M_takes_70 (by decide) (fun c70 => ?_) (fun c70 => ?_)
        · skip
          first | exact absurd c70 (by decide) | exact absurd (by decide) c70
        · skip
          refine lv_aload_n hx hb d_M_takes_73 rfl (lv_at hl 0 rfl) ?_
          refine lv_iload_n hx hb d_M_takes_74 rfl (lv_at hl 3 rfl) ?_
          refine lv_iconst (v := nI 1) hx hb d_M_takes_75 (by decide) ?_
          refine n_iadd hx hb d_M_takes_76 ?_
          refine lv_iload_n hx hb d_M_takes_77 rfl (lv_at hl 2 rfl) ?_
          refine aP (rV (As := [.int (nI ((cutM T) + 1)), .int (nI T.length)]) (rest := []) C0 (c_M_isName l g _ x ad _ _ _ hm.1 T hT hc hT24 (cutM T + 1) T.length (by omega) (Nat.le_refl _)) (m_zK hZ hm) k_M_takes_78 rfl rfl ⟨Nat.le_of_ble_eq_true rfl, Nat.le_of_ble_eq_true rfl⟩ (m_recv hK hm) rfl hl.1 rfl (Nat.le_of_ble_eq_true rfl) d_M_takes_78 ⟨Nat.zero_le _, Nat.zero_le _⟩) ?_
          intro v hv; subst hv
          refine W.eq (g2 := F0 m 81 ls [.int (bI (nameM T (cutM T + 1) T.length))]) rfl ?_
          refine z_ne (tgt := 86) (v := nameM T (cutM T + 1) T.length) hx hb d_M_takes_81 (by decide) (fun c81 => ?_) (fun c81 => ?_)
          · skip
            refine lv_aload_n hx hb d_M_takes_86 rfl (lv_at hl 0 rfl) ?_
            refine lv_iload_n hx hb d_M_takes_87 rfl (lv_at hl 3 rfl) ?_
            refine m_put hx hb hts hown hK hm 32 (by decide) (hts (.fieldLink "RegistryLogModel" 123 "RegistryLogModel" "oneSize" "I") (in_5 (List.mem_of_getElem? (i := 1) rfl) rfl)) rfl rfl (v := nI (cutM T)) rfl rfl rfl rfl d_M_takes_88 (fun H locs hm => ?_)
            refine lv_iconst (v := nI 0) hx hb d_M_takes_91 (by decide) ?_
            refine lv_istore (lv' := [(4, .int (nI 0)), (0, .ref x), (1, .int (bI true)), (2, .int (nI T.length)), (3, .int (nI (cutM T)))]) hx hb d_M_takes_92 hl (by decide) rfl (fun ls hl => ?_)
            have h10 := nameM_le c66
            have h11 := nameM_le c81
            refine lp_M_takes1 C0 (F := (upd (upd F 2 (nI 0)) 32 (nI (cutM T)))) (A := A) true T.length (cutM T) (by omega) (fun H locs hm ls hl => ?_) (cutM T + 1) 0 H locs (Nat.zero_le _) (by omega) (by rw [cpy_0, updA_id]; exact hm) ls (lv_sub hl [1, 2, 3, 4, 0] rfl)
            refine lv_aload_n hx hb d_M_takes_120 rfl (lv_at hl 0 rfl) ?_
            refine lv_iload_n hx hb d_M_takes_121 rfl (lv_at hl 1 rfl) ?_
            refine z_eq (tgt := 133) (v := true) hx hb d_M_takes_122 (by decide) (fun c122 => ?_) (fun c122 => ?_)
            · skip
              first | exact absurd c122 (by decide) | exact absurd (by decide) c122
            · skip
              refine lv_iload_n hx hb d_M_takes_125 rfl (lv_at hl 2 rfl) ?_
              refine lv_iload_n hx hb d_M_takes_126 rfl (lv_at hl 3 rfl) ?_
              refine n_isub hx hb (by omega) d_M_takes_127 ?_
              refine lv_iconst (v := nI 1) hx hb d_M_takes_128 (by decide) ?_
              refine n_isub hx hb (by omega) d_M_takes_129 ?_
              refine lv_goto (tgt := 134) hx hb d_M_takes_130 (by decide) ?_
              refine m_put hx hb hts hown hK hm 33 (by decide) (hts (.fieldLink "RegistryLogModel" 126 "RegistryLogModel" "twoSize" "I") (in_5 (List.mem_of_getElem? (i := 2) rfl) rfl)) rfl rfl (v := nI ((T.length - (cutM T)) - 1)) rfl rfl rfl rfl d_M_takes_134 (fun H locs hm => ?_)
              refine lv_iconst (v := nI 0) hx hb d_M_takes_137 (by decide) ?_
              refine lv_istore (lv' := [(4, .int (nI 0)), (0, .ref x), (1, .int (bI true)), (2, .int (nI T.length)), (3, .int (nI (cutM T)))]) hx hb d_M_takes_138 hl (by decide) rfl (fun ls hl => ?_)
              refine lp_M_takes2 C0 (F := (upd (upd (upd F 2 (nI 0)) 32 (nI (cutM T))) 33 (nI ((T.length - (cutM T)) - 1)))) (A := (updA A 30 (va_cpy (A 1) (A 30) 0 0 (cutM T)))) true T.length (cutM T) (T.length - cutM T - 1) (by omega) (by omega) rfl (fun H locs hm ls hl => ?_) (T.length - cutM T - 1 + 1) 0 H locs (Nat.zero_le _) (by omega) (by rw [cpy_0, updA_id]; exact hm) ls (lv_sub hl [1, 2, 3, 4, 0] rfl)
              refine lv_iconst (v := nI 1) hx hb d_M_takes_173 (by decide) ?_
              exact W.zret hx hb hr rfl (fun t9 ht hW => ⟨_, _, _, _, rfl, by rw [ht]; exact ⟨hm.1, hm.2.1, hm.2.2.1, fun _ h => by cases h⟩, by (try dsimp only); rw [if_pos ⟨by omega, c66, c81⟩]; exact ⟨rfl, rfl, rfl, rfl⟩⟩) hm.2.2.2 d_M_takes_174 hlk
          · skip
            refine lv_iconst (v := nI 0) hx hb d_M_takes_84 (by decide) ?_
            exact W.zret hx hb hr rfl (fun t9 ht hW => ⟨_, _, _, _, rfl, by rw [ht]; exact ⟨hm.1, hm.2.1, hm.2.2.1, fun _ h => by cases h⟩, by (try dsimp only); rw [if_neg (fun z => absurd z.2.2 (by rw [c81]; decide))]; exact ⟨rfl, rfl, rfl, rfl⟩⟩) hm.2.2.2 d_M_takes_85 hlk
theorem k_M_goDown_55 : kS "RegistryLogModel" 234 y_M_half b_M_half 2 (some .int) 1 := ⟨(in_6 (List.mem_of_getElem? (i := 6) rfl) rfl), (in_6 (List.mem_of_getElem? (i := 7) rfl) rfl), (in_1 (List.mem_of_getElem? (i := 22) rfl) rfl), (in_6 (List.mem_of_getElem? (i := 8) rfl) rfl), ⟨by decide, by decide, by decide +kernel⟩⟩
def goF (F : Nat → Int32) (st rf rn ri : Nat) (wb : Bool) : Nat → Int32 := upd (upd (upd (upd (upd F 41 (nI st)) 42 (nI rf)) 43 (nI rn)) 44 (nI ri)) 45 (bI wb)
theorem goF_n (F : Nat → Int32) (st rf rn ri st2 rf2 rn2 ri2 : Nat) (wb wb2 : Bool) : upd (upd (upd (upd (upd (goF F st rf rn ri wb) 41 (nI st2)) 44 (nI ri2)) 42 (nI rf2)) 43 (nI rn2)) 45 (bI wb2) = goF F st2 rf2 rn2 ri2 wb2 := by
  funext k
  unfold goF upd
  by_cases h1 : k = 41 <;> by_cases h2 : k = 42 <;> by_cases h3 : k = 43 <;> by_cases h4 : k = 44 <;> by_cases h5 : k = 45 <;> simp [h1, h2, h3, h4, h5] <;> omega
def goA (A : Nat → Nat → Int32) (f1 f2 f3 : Nat → Int32) : Nat → Nat → Int32 := updA (updA (updA A 38 f1) 39 f2) 40 f3
theorem goA_n (A : Nat → Nat → Int32) (f1 f2 f3 g1 g2 g3 : Nat → Int32) : updA (updA (updA (goA A f1 f2 f3) 38 g1) 39 g2) 40 g3 = goA A g1 g2 g3 := by
  funext k
  unfold goA updA
  by_cases h1 : k = 38 <;> by_cases h2 : k = 39 <;> by_cases h3 : k = 40 <;> simp [h1, h2, h3] <;> omega
/-- the way down: of each step the other part (from, how many) and whether it is the second; then what is left -/
def gdR (gr : Bool) : Nat → Nat → Nat → Nat → Bool → List (Nat × Nat × Bool) × Nat × Nat × Nat × Bool
  | 0, rf, rn, ri, wb => ([], rf, rn, ri, wb)
  | d + 1, rf, rn, ri, wb =>
    if (if gr then ri < rn else 1 < rn) then
      let lf : Bool := if gr then decide (ri ≤ fpS rn) else decide (ri < fpS rn)
      let r := gdR gr d (if lf then rf else rf + fpS rn) (if lf then fpS rn else rn - fpS rn) (if lf then ri else ri - fpS rn) (wb && lf)
      ((if lf then rf + fpS rn else rf, if lf then rn - fpS rn else fpS rn, lf) :: r.1, r.2)
    else ([], rf, rn, ri, wb)
def gdOk (L : List (Nat × Nat × Bool)) (f1 f2 f3 : Nat → Int32) : Prop := ∀ q, q < L.length → f1 q = nI (L.getD q (0, 0, false)).1 ∧ f2 q = nI (L.getD q (0, 0, false)).2.1 ∧ f3 q = bI (L.getD q (0, 0, false)).2.2
theorem gd_ap {L : List (Nat × Nat × Bool)} {f1 f2 f3 : Nat → Int32} {a b : Nat} {c : Bool} (h : gdOk L f1 f2 f3) : gdOk (L ++ [(a, b, c)]) (upd f1 L.length (nI a)) (upd f2 L.length (nI b)) (upd f3 L.length (bI c)) := by
  intro q hq
  rw [List.length_append] at hq
  simp only [List.length_cons, List.length_nil] at hq
  by_cases z : q = L.length
  · subst z
    rw [upd, upd, upd, if_pos rfl, if_pos rfl, if_pos rfl, List.getD_eq_getElem?_getD, List.getElem?_append_right (Nat.le_refl _), Nat.sub_self]
    exact ⟨rfl, rfl, rfl⟩
  · rw [upd, upd, upd, if_neg z, if_neg z, if_neg z, List.getD_eq_getElem?_getD, List.getElem?_append_left (by omega), ← List.getD_eq_getElem?_getD]
    exact h q (by omega)
set_option maxHeartbeats 4000000 in
set_option maxRecDepth 100000 in
theorem lp_M_goDownG {p : Program} {l : Launch} {e : Env} {s : State} {m : MethodId} {args : Array Value} {below : List Frame} {meth : Method} {c : Code} {g : gG} (C0 : cF g p s m args meth c b_M_goDown 6 "RegistryLogModel" none) (hZ : zK g s s.heap) {x : Nat} {ad : Nat → Nat} {F : Nat → Int32} {A : Nat → Nat → Int32} {B : Nat → Nat → Int64} (i1 i2 : Int32) (LL : List (Nat × Nat × Bool)) (a1 a2 a3 : Nat) (a4 : Bool) :
    ∀ (d rf rn ri : Nat) (wb : Bool) (L : List (Nat × Nat × Bool)) (f1 f2 f3 : Nat → Int32) (H : Heap) (locs : List Loc), rn ≤ 2 ^ d → rn ≤ 120 → rf + rn ≤ 120 → L.length + d ≤ 7 → 1 ≤ ri ∧ ri ≤ rn → mS g s.heap H x ad (goF F L.length rf rn ri wb) (goA A f1 f2 f3) B locs → gdOk L f1 f2 f3 → L ++ (gdR true d rf rn ri wb).1 = LL → (gdR true d rf rn ri wb).2 = (a1, a2, a3, a4) → ∀ (ls : Array Slot), lv_has ls 6 [(0, .ref x), (1, .int i1), (2, .int i2), (3, .int (bI true))] → W p l e (rmk 1 0 0 21) s m args below meth c H locs 0 0 (MQ below (qM g s.heap x ad (fun v F1 A1 B1 => v = none ∧ F1 = goF F LL.length a1 a2 a3 a4 ∧ (∃ f1 f2 f3, A1 = goA A f1 f2 f3 ∧ gdOk LL f1 f2 f3) ∧ B1 = B)) args s 0 0 (mN x ad)) (F0 m 25 ls []) := by
  obtain ⟨hx, hb, hml, hown, hts, hr, hlk, hK⟩ := id C0
  intro d
  induction d with
  | zero =>
    intro rf rn ri wb L f1 f2 f3 H locs hrn hr120 hrf hld hri hm hgd hL1 hL2 ls hl
    refine lv_iload_n hx hb d_M_goDown_25 rfl (lv_at hl 3 rfl) ?_
    refine z_eq (tgt := 43) (v := true) hx hb d_M_goDown_26 (by decide) (fun c26 => ?_) (fun c26 => ?_)
    · skip
      first | exact absurd c26 (by decide) | exact absurd (by decide) c26
    · skip
      refine lv_aload_n hx hb d_M_goDown_29 rfl (lv_at hl 0 rfl) ?_
      refine m_get hx hb hts hown hK hm 44 (by decide) (hts (.fieldLink "RegistryLogModel" 227 "RegistryLogModel" "restIn" "I") (in_5 (List.mem_of_getElem? (i := 13) rfl) rfl)) rfl (v := .int (nI ri)) rfl d_M_goDown_30 ?_
      refine lv_aload_n hx hb d_M_goDown_33 rfl (lv_at hl 0 rfl) ?_
      refine m_get hx hb hts hown hK hm 43 (by decide) (hts (.fieldLink "RegistryLogModel" 224 "RegistryLogModel" "restMany" "I") (in_5 (List.mem_of_getElem? (i := 12) rfl) rfl)) rfl (v := .int (nI rn)) rfl d_M_goDown_34 ?_
      refine n_ge (tgt := 257) (a := ri) (b := rn) hx hb d_M_goDown_37 (by decide) (by omega) (by omega) (fun c37 => ?_) (fun c37 => ?_)
      · skip
        rw [gdR] at hL1 hL2
        rw [List.append_nil] at hL1
        subst hL1
        cases hL2
        exact W.vret hx hb hr (fun t9 ht hW => ⟨_, _, _, _, rfl, by rw [ht]; exact ⟨hm.1, hm.2.1, hm.2.2.1, fun _ h => by cases h⟩, ⟨rfl, rfl, ⟨_, _, _, rfl, hgd⟩, rfl⟩⟩) hm.2.2.2 d_M_goDown_257 hlk
      · skip
        exact absurd c37 (by omega)
  | succ d ih =>
    intro rf rn ri wb L f1 f2 f3 H locs hrn hr120 hrf hld hri hm hgd hL1 hL2 ls hl
    have hp1 := fpS_pos rn
    refine lv_iload_n hx hb d_M_goDown_25 rfl (lv_at hl 3 rfl) ?_
    refine z_eq (tgt := 43) (v := true) hx hb d_M_goDown_26 (by decide) (fun c26 => ?_) (fun c26 => ?_)
    · skip
      first | exact absurd c26 (by decide) | exact absurd (by decide) c26
    · skip
      refine lv_aload_n hx hb d_M_goDown_29 rfl (lv_at hl 0 rfl) ?_
      refine m_get hx hb hts hown hK hm 44 (by decide) (hts (.fieldLink "RegistryLogModel" 227 "RegistryLogModel" "restIn" "I") (in_5 (List.mem_of_getElem? (i := 13) rfl) rfl)) rfl (v := .int (nI ri)) rfl d_M_goDown_30 ?_
      refine lv_aload_n hx hb d_M_goDown_33 rfl (lv_at hl 0 rfl) ?_
      refine m_get hx hb hts hown hK hm 43 (by decide) (hts (.fieldLink "RegistryLogModel" 224 "RegistryLogModel" "restMany" "I") (in_5 (List.mem_of_getElem? (i := 12) rfl) rfl)) rfl (v := .int (nI rn)) rfl d_M_goDown_34 ?_
      refine n_ge (tgt := 257) (a := ri) (b := rn) hx hb d_M_goDown_37 (by decide) (by omega) (by omega) (fun c37 => ?_) (fun c37 => ?_)
      · skip
        rw [gdR, if_neg (by simp; omega)] at hL1 hL2
        rw [List.append_nil] at hL1
        subst hL1
        cases hL2
        exact W.vret hx hb hr (fun t9 ht hW => ⟨_, _, _, _, rfl, by rw [ht]; exact ⟨hm.1, hm.2.1, hm.2.2.1, fun _ h => by cases h⟩, ⟨rfl, rfl, ⟨_, _, _, rfl, hgd⟩, rfl⟩⟩) hm.2.2.2 d_M_goDown_257 hlk
      · skip
        refine lv_goto (tgt := 51) hx hb d_M_goDown_40 (by decide) ?_
        refine lv_aload_n hx hb d_M_goDown_51 rfl (lv_at hl 0 rfl) ?_
        refine m_get hx hb hts hown hK hm 43 (by decide) (hts (.fieldLink "RegistryLogModel" 224 "RegistryLogModel" "restMany" "I") (in_5 (List.mem_of_getElem? (i := 12) rfl) rfl)) rfl (v := .int (nI rn)) rfl d_M_goDown_52 ?_
        refine aP (rS (As := [.int (nI rn)]) (rest := []) C0 (c_M_half l g _ rn hr120) (m_zK hZ hm) k_M_goDown_55 rfl rfl ⟨Nat.le_of_ble_eq_true rfl, Nat.le_of_ble_eq_true rfl⟩ rfl hl.1 rfl (Nat.le_of_ble_eq_true rfl) d_M_goDown_55 ⟨Nat.zero_le _, Nat.zero_le _⟩) ?_
        intro v hv; subst hv
        refine W.eq (g2 := F0 m 58 ls [.int (nI (fpS rn))]) rfl ?_
        have hlt := fpS_lt (n := rn) (by omega)
        refine lv_istore (lv' := [(4, .int (nI (fpS rn))), (0, .ref x), (1, .int i1), (2, .int i2), (3, .int (bI true))]) hx hb d_M_goDown_58 hl (by decide) rfl (fun ls hl => ?_)
        refine lv_iload_n hx hb d_M_goDown_60 rfl (lv_at hl 4 rfl) ?_
        refine z_eq (tgt := 81) (v := true) hx hb d_M_goDown_61 (by decide) (fun c61 => ?_) (fun c61 => ?_)
        · skip
          first | exact absurd c61 (by decide) | exact absurd (by decide) c61
        · skip
          refine lv_aload_n hx hb d_M_goDown_64 rfl (lv_at hl 1 rfl) ?_
          refine m_get hx hb hts hown hK hm 44 (by decide) (hts (.fieldLink "RegistryLogModel" 227 "RegistryLogModel" "restIn" "I") (in_5 (List.mem_of_getElem? (i := 13) rfl) rfl)) rfl (v := .int (nI ri)) rfl d_M_goDown_65 ?_
          refine lv_iload hx hb d_M_goDown_68 (lv_at hl 0 rfl) ?_
          refine n_gt (tgt := 77) (a := ri) (b := fpS rn) hx hb d_M_goDown_70 (by decide) (by omega) (by omega) (fun c70 => ?_) (fun c70 => ?_)
          · skip
            refine lv_iconst (v := nI 0) hx hb d_M_goDown_77 (by decide) ?_
            refine lv_goto (tgt := 95) hx hb d_M_goDown_78 (by decide) ?_
            refine W.eq (g2 := F0 m 95 ls [.int (bI false)]) rfl ?_
            refine lv_istore (lv' := [(5, .int (bI false)), (4, .int (nI (fpS rn))), (0, .ref x), (1, .int i1), (2, .int i2), (3, .int (bI true))]) hx hb d_M_goDown_95 hl (by decide) rfl (fun ls hl => ?_)
            refine lv_aload_n hx hb d_M_goDown_97 rfl (lv_at hl 2 rfl) ?_
            refine m_get hx hb hts hown hK hm 38 (by decide) (hts (.fieldLink "RegistryLogModel" 98 "RegistryLogModel" "otherFrom" "[I") (in_5 (List.mem_of_getElem? (i := 7) rfl) rfl)) rfl (v := .ref (ad 38)) rfl d_M_goDown_98 ?_
            refine lv_aload_n hx hb d_M_goDown_101 rfl (lv_at hl 2 rfl) ?_
            refine m_get hx hb hts hown hK hm 41 (by decide) (hts (.fieldLink "RegistryLogModel" 218 "RegistryLogModel" "steps" "I") (in_5 (List.mem_of_getElem? (i := 10) rfl) rfl)) rfl (v := .int (nI L.length)) rfl d_M_goDown_102 ?_
            refine lv_iload hx hb d_M_goDown_105 (lv_at hl 0 rfl) ?_
            refine z_eq (tgt := 120) (v := false) hx hb d_M_goDown_107 (by decide) (fun c107 => ?_) (fun c107 => ?_)
            · skip
              refine lv_aload_n hx hb d_M_goDown_120 rfl (lv_at hl 2 rfl) ?_
              refine m_get hx hb hts hown hK hm 42 (by decide) (hts (.fieldLink "RegistryLogModel" 221 "RegistryLogModel" "restFrom" "I") (in_5 (List.mem_of_getElem? (i := 11) rfl) rfl)) rfl (v := .int (nI rf)) rfl d_M_goDown_121 ?_
              refine m_st hx hb hK hm 38 rfl L.length rfl (show L.length < 16 from by omega) d_M_goDown_124 (fun H locs hm => ?_)
              have hm : mS g s.heap H x ad (goF F L.length rf rn ri wb) (updA (goA A f1 f2 f3) 38 (upd (f1) L.length (nI rf))) B locs := hm
              refine lv_aload_n hx hb d_M_goDown_125 rfl (lv_at hl 2 rfl) ?_
              refine m_get hx hb hts hown hK hm 39 (by decide) (hts (.fieldLink "RegistryLogModel" 101 "RegistryLogModel" "otherMany" "[I") (in_5 (List.mem_of_getElem? (i := 8) rfl) rfl)) rfl (v := .ref (ad 39)) rfl d_M_goDown_126 ?_
              refine lv_aload_n hx hb d_M_goDown_129 rfl (lv_at hl 2 rfl) ?_
              refine m_get hx hb hts hown hK hm 41 (by decide) (hts (.fieldLink "RegistryLogModel" 218 "RegistryLogModel" "steps" "I") (in_5 (List.mem_of_getElem? (i := 10) rfl) rfl)) rfl (v := .int (nI L.length)) rfl d_M_goDown_130 ?_
              refine lv_iload hx hb d_M_goDown_133 (lv_at hl 0 rfl) ?_
              refine z_eq (tgt := 148) (v := false) hx hb d_M_goDown_135 (by decide) (fun c135 => ?_) (fun c135 => ?_)
              · skip
                refine lv_iload hx hb d_M_goDown_148 (lv_at hl 1 rfl) ?_
                refine m_st hx hb hK hm 39 rfl L.length rfl (show L.length < 16 from by omega) d_M_goDown_150 (fun H locs hm => ?_)
                have hm : mS g s.heap H x ad (goF F L.length rf rn ri wb) (updA (updA (goA A f1 f2 f3) 38 (upd (f1) L.length (nI rf))) 39 (upd (f2) L.length (nI (fpS rn)))) B locs := hm
                refine lv_aload_n hx hb d_M_goDown_151 rfl (lv_at hl 2 rfl) ?_
                refine m_get hx hb hts hown hK hm 40 (by decide) (hts (.fieldLink "RegistryLogModel" 104 "RegistryLogModel" "isSecond" "[Z") (in_5 (List.mem_of_getElem? (i := 9) rfl) rfl)) rfl (v := .ref (ad 40)) rfl d_M_goDown_152 ?_
                refine lv_aload_n hx hb d_M_goDown_155 rfl (lv_at hl 2 rfl) ?_
                refine m_get hx hb hts hown hK hm 41 (by decide) (hts (.fieldLink "RegistryLogModel" 218 "RegistryLogModel" "steps" "I") (in_5 (List.mem_of_getElem? (i := 10) rfl) rfl)) rfl (v := .int (nI L.length)) rfl d_M_goDown_156 ?_
                refine lv_iload hx hb d_M_goDown_159 (lv_at hl 0 rfl) ?_
                refine m_stz hx hb hK hm 40 rfl L.length rfl (show L.length < 16 from by omega) d_M_goDown_161 (fun H locs hm => ?_)
                have hm : mS g s.heap H x ad (goF F L.length rf rn ri wb) (updA (updA (updA (goA A f1 f2 f3) 38 (upd (f1) L.length (nI rf))) 39 (upd (f2) L.length (nI (fpS rn)))) 40 (upd (f3) L.length (bI false))) B locs := hm
                refine lv_aload_n hx hb d_M_goDown_162 rfl (lv_at hl 2 rfl) ?_
                refine lv_dup hx hb d_M_goDown_163 rfl ?_
                refine m_get hx hb hts hown hK hm 41 (by decide) (hts (.fieldLink "RegistryLogModel" 218 "RegistryLogModel" "steps" "I") (in_5 (List.mem_of_getElem? (i := 10) rfl) rfl)) rfl (v := .int (nI L.length)) rfl d_M_goDown_164 ?_
                refine lv_iconst (v := nI 1) hx hb d_M_goDown_167 (by decide) ?_
                refine n_iadd hx hb d_M_goDown_168 ?_
                refine m_put hx hb hts hown hK hm 41 (by decide) (hts (.fieldLink "RegistryLogModel" 218 "RegistryLogModel" "steps" "I") (in_5 (List.mem_of_getElem? (i := 10) rfl) rfl)) rfl rfl (v := nI (L.length + 1)) rfl rfl rfl rfl d_M_goDown_169 (fun H locs hm => ?_)
                refine lv_aload_n hx hb d_M_goDown_172 rfl (lv_at hl 2 rfl) ?_
                refine lv_dup hx hb d_M_goDown_173 rfl ?_
                refine m_get hx hb hts hown hK hm 44 (by decide) (hts (.fieldLink "RegistryLogModel" 227 "RegistryLogModel" "restIn" "I") (in_5 (List.mem_of_getElem? (i := 13) rfl) rfl)) rfl (v := .int (nI ri)) rfl d_M_goDown_174 ?_
                refine lv_iload hx hb d_M_goDown_177 (lv_at hl 0 rfl) ?_
                refine z_eq (tgt := 186) (v := false) hx hb d_M_goDown_179 (by decide) (fun c179 => ?_) (fun c179 => ?_)
                · skip
                  refine lv_iload hx hb d_M_goDown_186 (lv_at hl 1 rfl) ?_
                  refine n_isub hx hb (by omega) d_M_goDown_188 ?_
                  refine m_put hx hb hts hown hK hm 44 (by decide) (hts (.fieldLink "RegistryLogModel" 227 "RegistryLogModel" "restIn" "I") (in_5 (List.mem_of_getElem? (i := 13) rfl) rfl)) rfl rfl (v := nI (ri - (fpS rn))) rfl rfl rfl rfl d_M_goDown_189 (fun H locs hm => ?_)
                  refine lv_aload_n hx hb d_M_goDown_192 rfl (lv_at hl 2 rfl) ?_
                  refine lv_dup hx hb d_M_goDown_193 rfl ?_
                  refine m_get hx hb hts hown hK hm 42 (by decide) (hts (.fieldLink "RegistryLogModel" 221 "RegistryLogModel" "restFrom" "I") (in_5 (List.mem_of_getElem? (i := 11) rfl) rfl)) rfl (v := .int (nI rf)) rfl d_M_goDown_194 ?_
                  refine lv_iload hx hb d_M_goDown_197 (lv_at hl 0 rfl) ?_
                  refine z_eq (tgt := 206) (v := false) hx hb d_M_goDown_199 (by decide) (fun c199 => ?_) (fun c199 => ?_)
                  · skip
                    refine lv_iload hx hb d_M_goDown_206 (lv_at hl 1 rfl) ?_
                    refine n_iadd hx hb d_M_goDown_208 ?_
                    refine m_put hx hb hts hown hK hm 42 (by decide) (hts (.fieldLink "RegistryLogModel" 221 "RegistryLogModel" "restFrom" "I") (in_5 (List.mem_of_getElem? (i := 11) rfl) rfl)) rfl rfl (v := nI (rf + (fpS rn))) rfl rfl rfl rfl d_M_goDown_209 (fun H locs hm => ?_)
                    refine lv_aload_n hx hb d_M_goDown_212 rfl (lv_at hl 2 rfl) ?_
                    refine lv_iload hx hb d_M_goDown_213 (lv_at hl 0 rfl) ?_
                    refine z_eq (tgt := 223) (v := false) hx hb d_M_goDown_215 (by decide) (fun c215 => ?_) (fun c215 => ?_)
                    · skip
                      refine lv_aload_n hx hb d_M_goDown_223 rfl (lv_at hl 2 rfl) ?_
                      refine m_get hx hb hts hown hK hm 43 (by decide) (hts (.fieldLink "RegistryLogModel" 224 "RegistryLogModel" "restMany" "I") (in_5 (List.mem_of_getElem? (i := 12) rfl) rfl)) rfl (v := .int (nI rn)) rfl d_M_goDown_224 ?_
                      refine lv_iload hx hb d_M_goDown_227 (lv_at hl 1 rfl) ?_
                      refine n_isub hx hb (by omega) d_M_goDown_229 ?_
                      refine m_put hx hb hts hown hK hm 43 (by decide) (hts (.fieldLink "RegistryLogModel" 224 "RegistryLogModel" "restMany" "I") (in_5 (List.mem_of_getElem? (i := 12) rfl) rfl)) rfl rfl (v := nI (rn - (fpS rn))) rfl rfl rfl rfl d_M_goDown_230 (fun H locs hm => ?_)
                      refine lv_aload_n hx hb d_M_goDown_233 rfl (lv_at hl 2 rfl) ?_
                      refine lv_aload_n hx hb d_M_goDown_234 rfl (lv_at hl 2 rfl) ?_
                      refine m_get hx hb hts hown hK hm 45 (by decide) (hts (.fieldLink "RegistryLogModel" 230 "RegistryLogModel" "whole" "Z") (in_5 (List.mem_of_getElem? (i := 14) rfl) rfl)) rfl (v := .int (bI wb)) rfl d_M_goDown_235 ?_
                      refine z_eq (tgt := 250) (v := wb) hx hb d_M_goDown_238 (by decide) (fun c238 => ?_) (fun c238 => ?_)
                      · skip
                        refine lv_iconst (v := nI 0) hx hb d_M_goDown_250 (by decide) ?_
                        refine W.eq (g2 := F0 m 251 ls [.int (bI false), .ref x]) rfl ?_
                        refine m_put hx hb hts hown hK hm 45 (by decide) (hts (.fieldLink "RegistryLogModel" 230 "RegistryLogModel" "whole" "Z") (in_5 (List.mem_of_getElem? (i := 14) rfl) rfl)) rfl rfl (v := bI false) rfl rfl rfl rfl d_M_goDown_251 (fun H locs hm => ?_)
                        refine lv_goto (tgt := 25) hx hb d_M_goDown_254 (by decide) ?_
                        rw [goF_n, goA_n] at hm
                        have hs : gdR true (d + 1) rf rn ri wb = ((rf, fpS rn, false) :: (gdR true d (rf + fpS rn) (rn - fpS rn) (ri - fpS rn) (wb && false)).1, (gdR true d (rf + fpS rn) (rn - fpS rn) (ri - fpS rn) (wb && false)).2) := by
                          rw [gdR]; simp [c37, Nat.not_le.mpr c70]
                        rw [hs] at hL1 hL2
                        have hh := fpS_half rn (by omega) (by omega) d (by omega) hrn
                        rw [c238] at hL1 hL2
                        exact ih (rf + fpS rn) (rn - fpS rn) (ri - fpS rn) false (L ++ [(rf, fpS rn, false)]) _ _ _ H locs hh.2 (by omega) (by omega) (by rw [List.length_append]; simp only [List.length_cons, List.length_nil]; omega) ⟨by omega, by omega⟩ (by rw [List.length_append]; exact hm) (gd_ap hgd) (by rw [List.append_assoc]; exact hL1) hL2 ls (lv_sub hl [2, 3, 4, 5] rfl)
                      · skip
                        refine lv_iload hx hb d_M_goDown_241 (lv_at hl 0 rfl) ?_
                        refine z_eq (tgt := 250) (v := false) hx hb d_M_goDown_243 (by decide) (fun c243 => ?_) (fun c243 => ?_)
                        · skip
                          refine lv_iconst (v := nI 0) hx hb d_M_goDown_250 (by decide) ?_
                          refine W.eq (g2 := F0 m 251 ls [.int (bI false), .ref x]) rfl ?_
                          refine m_put hx hb hts hown hK hm 45 (by decide) (hts (.fieldLink "RegistryLogModel" 230 "RegistryLogModel" "whole" "Z") (in_5 (List.mem_of_getElem? (i := 14) rfl) rfl)) rfl rfl (v := bI false) rfl rfl rfl rfl d_M_goDown_251 (fun H locs hm => ?_)
                          refine lv_goto (tgt := 25) hx hb d_M_goDown_254 (by decide) ?_
                          rw [goF_n, goA_n] at hm
                          have hs : gdR true (d + 1) rf rn ri wb = ((rf, fpS rn, false) :: (gdR true d (rf + fpS rn) (rn - fpS rn) (ri - fpS rn) (wb && false)).1, (gdR true d (rf + fpS rn) (rn - fpS rn) (ri - fpS rn) (wb && false)).2) := by
                            rw [gdR]; simp [c37, Nat.not_le.mpr c70]
                          rw [hs] at hL1 hL2
                          have hh := fpS_half rn (by omega) (by omega) d (by omega) hrn
                          rw [c238] at hL1 hL2
                          exact ih (rf + fpS rn) (rn - fpS rn) (ri - fpS rn) false (L ++ [(rf, fpS rn, false)]) _ _ _ H locs hh.2 (by omega) (by omega) (by rw [List.length_append]; simp only [List.length_cons, List.length_nil]; omega) ⟨by omega, by omega⟩ (by rw [List.length_append]; exact hm) (gd_ap hgd) (by rw [List.append_assoc]; exact hL1) hL2 ls (lv_sub hl [2, 3, 4, 5] rfl)
                        · skip
                          first | exact absurd c243 (by decide) | exact absurd (by decide) c243
                    · skip
                      first | exact absurd c215 (by decide) | exact absurd (by decide) c215
                  · skip
                    first | exact absurd c199 (by decide) | exact absurd (by decide) c199
                · skip
                  first | exact absurd c179 (by decide) | exact absurd (by decide) c179
              · skip
                first | exact absurd c135 (by decide) | exact absurd (by decide) c135
            · skip
              first | exact absurd c107 (by decide) | exact absurd (by decide) c107
          · skip
            refine lv_iconst (v := nI 1) hx hb d_M_goDown_73 (by decide) ?_
            refine lv_goto (tgt := 95) hx hb d_M_goDown_74 (by decide) ?_
            refine W.eq (g2 := F0 m 95 ls [.int (bI true)]) rfl ?_
            refine lv_istore (lv' := [(5, .int (bI true)), (4, .int (nI (fpS rn))), (0, .ref x), (1, .int i1), (2, .int i2), (3, .int (bI true))]) hx hb d_M_goDown_95 hl (by decide) rfl (fun ls hl => ?_)
            refine lv_aload_n hx hb d_M_goDown_97 rfl (lv_at hl 2 rfl) ?_
            refine m_get hx hb hts hown hK hm 38 (by decide) (hts (.fieldLink "RegistryLogModel" 98 "RegistryLogModel" "otherFrom" "[I") (in_5 (List.mem_of_getElem? (i := 7) rfl) rfl)) rfl (v := .ref (ad 38)) rfl d_M_goDown_98 ?_
            refine lv_aload_n hx hb d_M_goDown_101 rfl (lv_at hl 2 rfl) ?_
            refine m_get hx hb hts hown hK hm 41 (by decide) (hts (.fieldLink "RegistryLogModel" 218 "RegistryLogModel" "steps" "I") (in_5 (List.mem_of_getElem? (i := 10) rfl) rfl)) rfl (v := .int (nI L.length)) rfl d_M_goDown_102 ?_
            refine lv_iload hx hb d_M_goDown_105 (lv_at hl 0 rfl) ?_
            refine z_eq (tgt := 120) (v := true) hx hb d_M_goDown_107 (by decide) (fun c107 => ?_) (fun c107 => ?_)
            · skip
              first | exact absurd c107 (by decide) | exact absurd (by decide) c107
            · skip
              refine lv_aload_n hx hb d_M_goDown_110 rfl (lv_at hl 2 rfl) ?_
              refine m_get hx hb hts hown hK hm 42 (by decide) (hts (.fieldLink "RegistryLogModel" 221 "RegistryLogModel" "restFrom" "I") (in_5 (List.mem_of_getElem? (i := 11) rfl) rfl)) rfl (v := .int (nI rf)) rfl d_M_goDown_111 ?_
              refine lv_iload hx hb d_M_goDown_114 (lv_at hl 1 rfl) ?_
              refine n_iadd hx hb d_M_goDown_116 ?_
              refine lv_goto (tgt := 124) hx hb d_M_goDown_117 (by decide) ?_
              refine m_st hx hb hK hm 38 rfl L.length rfl (show L.length < 16 from by omega) d_M_goDown_124 (fun H locs hm => ?_)
              have hm : mS g s.heap H x ad (goF F L.length rf rn ri wb) (updA (goA A f1 f2 f3) 38 (upd (f1) L.length (nI (rf + (fpS rn))))) B locs := hm
              refine lv_aload_n hx hb d_M_goDown_125 rfl (lv_at hl 2 rfl) ?_
              refine m_get hx hb hts hown hK hm 39 (by decide) (hts (.fieldLink "RegistryLogModel" 101 "RegistryLogModel" "otherMany" "[I") (in_5 (List.mem_of_getElem? (i := 8) rfl) rfl)) rfl (v := .ref (ad 39)) rfl d_M_goDown_126 ?_
              refine lv_aload_n hx hb d_M_goDown_129 rfl (lv_at hl 2 rfl) ?_
              refine m_get hx hb hts hown hK hm 41 (by decide) (hts (.fieldLink "RegistryLogModel" 218 "RegistryLogModel" "steps" "I") (in_5 (List.mem_of_getElem? (i := 10) rfl) rfl)) rfl (v := .int (nI L.length)) rfl d_M_goDown_130 ?_
              refine lv_iload hx hb d_M_goDown_133 (lv_at hl 0 rfl) ?_
              refine z_eq (tgt := 148) (v := true) hx hb d_M_goDown_135 (by decide) (fun c135 => ?_) (fun c135 => ?_)
              · skip
                first | exact absurd c135 (by decide) | exact absurd (by decide) c135
              · skip
                refine lv_aload_n hx hb d_M_goDown_138 rfl (lv_at hl 2 rfl) ?_
                refine m_get hx hb hts hown hK hm 43 (by decide) (hts (.fieldLink "RegistryLogModel" 224 "RegistryLogModel" "restMany" "I") (in_5 (List.mem_of_getElem? (i := 12) rfl) rfl)) rfl (v := .int (nI rn)) rfl d_M_goDown_139 ?_
                refine lv_iload hx hb d_M_goDown_142 (lv_at hl 1 rfl) ?_
                refine n_isub hx hb (by omega) d_M_goDown_144 ?_
                refine lv_goto (tgt := 150) hx hb d_M_goDown_145 (by decide) ?_
                refine m_st hx hb hK hm 39 rfl L.length rfl (show L.length < 16 from by omega) d_M_goDown_150 (fun H locs hm => ?_)
                have hm : mS g s.heap H x ad (goF F L.length rf rn ri wb) (updA (updA (goA A f1 f2 f3) 38 (upd (f1) L.length (nI (rf + (fpS rn))))) 39 (upd (f2) L.length (nI (rn - (fpS rn))))) B locs := hm
                refine lv_aload_n hx hb d_M_goDown_151 rfl (lv_at hl 2 rfl) ?_
                refine m_get hx hb hts hown hK hm 40 (by decide) (hts (.fieldLink "RegistryLogModel" 104 "RegistryLogModel" "isSecond" "[Z") (in_5 (List.mem_of_getElem? (i := 9) rfl) rfl)) rfl (v := .ref (ad 40)) rfl d_M_goDown_152 ?_
                refine lv_aload_n hx hb d_M_goDown_155 rfl (lv_at hl 2 rfl) ?_
                refine m_get hx hb hts hown hK hm 41 (by decide) (hts (.fieldLink "RegistryLogModel" 218 "RegistryLogModel" "steps" "I") (in_5 (List.mem_of_getElem? (i := 10) rfl) rfl)) rfl (v := .int (nI L.length)) rfl d_M_goDown_156 ?_
                refine lv_iload hx hb d_M_goDown_159 (lv_at hl 0 rfl) ?_
                refine m_stz hx hb hK hm 40 rfl L.length rfl (show L.length < 16 from by omega) d_M_goDown_161 (fun H locs hm => ?_)
                have hm : mS g s.heap H x ad (goF F L.length rf rn ri wb) (updA (updA (updA (goA A f1 f2 f3) 38 (upd (f1) L.length (nI (rf + (fpS rn))))) 39 (upd (f2) L.length (nI (rn - (fpS rn))))) 40 (upd (f3) L.length (bI true))) B locs := hm
                refine lv_aload_n hx hb d_M_goDown_162 rfl (lv_at hl 2 rfl) ?_
                refine lv_dup hx hb d_M_goDown_163 rfl ?_
                refine m_get hx hb hts hown hK hm 41 (by decide) (hts (.fieldLink "RegistryLogModel" 218 "RegistryLogModel" "steps" "I") (in_5 (List.mem_of_getElem? (i := 10) rfl) rfl)) rfl (v := .int (nI L.length)) rfl d_M_goDown_164 ?_
                refine lv_iconst (v := nI 1) hx hb d_M_goDown_167 (by decide) ?_
                refine n_iadd hx hb d_M_goDown_168 ?_
                refine m_put hx hb hts hown hK hm 41 (by decide) (hts (.fieldLink "RegistryLogModel" 218 "RegistryLogModel" "steps" "I") (in_5 (List.mem_of_getElem? (i := 10) rfl) rfl)) rfl rfl (v := nI (L.length + 1)) rfl rfl rfl rfl d_M_goDown_169 (fun H locs hm => ?_)
                refine lv_aload_n hx hb d_M_goDown_172 rfl (lv_at hl 2 rfl) ?_
                refine lv_dup hx hb d_M_goDown_173 rfl ?_
                refine m_get hx hb hts hown hK hm 44 (by decide) (hts (.fieldLink "RegistryLogModel" 227 "RegistryLogModel" "restIn" "I") (in_5 (List.mem_of_getElem? (i := 13) rfl) rfl)) rfl (v := .int (nI ri)) rfl d_M_goDown_174 ?_
                refine lv_iload hx hb d_M_goDown_177 (lv_at hl 0 rfl) ?_
                refine z_eq (tgt := 186) (v := true) hx hb d_M_goDown_179 (by decide) (fun c179 => ?_) (fun c179 => ?_)
                · skip
                  first | exact absurd c179 (by decide) | exact absurd (by decide) c179
                · skip
                  refine lv_iconst (v := nI 0) hx hb d_M_goDown_182 (by decide) ?_
                  refine lv_goto (tgt := 188) hx hb d_M_goDown_183 (by decide) ?_
                  refine n_isub hx hb (by omega) d_M_goDown_188 ?_
                  refine m_put hx hb hts hown hK hm 44 (by decide) (hts (.fieldLink "RegistryLogModel" 227 "RegistryLogModel" "restIn" "I") (in_5 (List.mem_of_getElem? (i := 13) rfl) rfl)) rfl rfl (v := nI (ri - 0)) rfl rfl rfl rfl d_M_goDown_189 (fun H locs hm => ?_)
                  refine lv_aload_n hx hb d_M_goDown_192 rfl (lv_at hl 2 rfl) ?_
                  refine lv_dup hx hb d_M_goDown_193 rfl ?_
                  refine m_get hx hb hts hown hK hm 42 (by decide) (hts (.fieldLink "RegistryLogModel" 221 "RegistryLogModel" "restFrom" "I") (in_5 (List.mem_of_getElem? (i := 11) rfl) rfl)) rfl (v := .int (nI rf)) rfl d_M_goDown_194 ?_
                  refine lv_iload hx hb d_M_goDown_197 (lv_at hl 0 rfl) ?_
                  refine z_eq (tgt := 206) (v := true) hx hb d_M_goDown_199 (by decide) (fun c199 => ?_) (fun c199 => ?_)
                  · skip
                    first | exact absurd c199 (by decide) | exact absurd (by decide) c199
                  · skip
                    refine lv_iconst (v := nI 0) hx hb d_M_goDown_202 (by decide) ?_
                    refine lv_goto (tgt := 208) hx hb d_M_goDown_203 (by decide) ?_
                    refine n_iadd hx hb d_M_goDown_208 ?_
                    refine m_put hx hb hts hown hK hm 42 (by decide) (hts (.fieldLink "RegistryLogModel" 221 "RegistryLogModel" "restFrom" "I") (in_5 (List.mem_of_getElem? (i := 11) rfl) rfl)) rfl rfl (v := nI (rf + 0)) rfl rfl rfl rfl d_M_goDown_209 (fun H locs hm => ?_)
                    refine lv_aload_n hx hb d_M_goDown_212 rfl (lv_at hl 2 rfl) ?_
                    refine lv_iload hx hb d_M_goDown_213 (lv_at hl 0 rfl) ?_
                    refine z_eq (tgt := 223) (v := true) hx hb d_M_goDown_215 (by decide) (fun c215 => ?_) (fun c215 => ?_)
                    · skip
                      first | exact absurd c215 (by decide) | exact absurd (by decide) c215
                    · skip
                      refine lv_iload hx hb d_M_goDown_218 (lv_at hl 1 rfl) ?_
                      refine lv_goto (tgt := 230) hx hb d_M_goDown_220 (by decide) ?_
                      refine m_put hx hb hts hown hK hm 43 (by decide) (hts (.fieldLink "RegistryLogModel" 224 "RegistryLogModel" "restMany" "I") (in_5 (List.mem_of_getElem? (i := 12) rfl) rfl)) rfl rfl (v := nI (fpS rn)) rfl rfl rfl rfl d_M_goDown_230 (fun H locs hm => ?_)
                      refine lv_aload_n hx hb d_M_goDown_233 rfl (lv_at hl 2 rfl) ?_
                      refine lv_aload_n hx hb d_M_goDown_234 rfl (lv_at hl 2 rfl) ?_
                      refine m_get hx hb hts hown hK hm 45 (by decide) (hts (.fieldLink "RegistryLogModel" 230 "RegistryLogModel" "whole" "Z") (in_5 (List.mem_of_getElem? (i := 14) rfl) rfl)) rfl (v := .int (bI wb)) rfl d_M_goDown_235 ?_
                      refine z_eq (tgt := 250) (v := wb) hx hb d_M_goDown_238 (by decide) (fun c238 => ?_) (fun c238 => ?_)
                      · skip
                        refine lv_iconst (v := nI 0) hx hb d_M_goDown_250 (by decide) ?_
                        refine W.eq (g2 := F0 m 251 ls [.int (bI false), .ref x]) rfl ?_
                        refine m_put hx hb hts hown hK hm 45 (by decide) (hts (.fieldLink "RegistryLogModel" 230 "RegistryLogModel" "whole" "Z") (in_5 (List.mem_of_getElem? (i := 14) rfl) rfl)) rfl rfl (v := bI false) rfl rfl rfl rfl d_M_goDown_251 (fun H locs hm => ?_)
                        refine lv_goto (tgt := 25) hx hb d_M_goDown_254 (by decide) ?_
                        rw [goF_n, goA_n] at hm
                        have hs : gdR true (d + 1) rf rn ri wb = ((rf + fpS rn, rn - fpS rn, true) :: (gdR true d rf (fpS rn) ri (wb && true)).1, (gdR true d rf (fpS rn) ri (wb && true)).2) := by
                          rw [gdR]; simp [c37, c70]
                        rw [hs] at hL1 hL2
                        have hh := fpS_half rn (by omega) (by omega) d (by omega) hrn
                        rw [c238] at hL1 hL2
                        exact ih rf (fpS rn) ri false (L ++ [(rf + fpS rn, rn - fpS rn, true)]) _ _ _ H locs hh.1 (by omega) (by omega) (by rw [List.length_append]; simp only [List.length_cons, List.length_nil]; omega) ⟨by omega, by omega⟩ (by rw [List.length_append]; exact hm) (gd_ap hgd) (by rw [List.append_assoc]; exact hL1) hL2 ls (lv_sub hl [2, 3, 4, 5] rfl)
                      · skip
                        refine lv_iload hx hb d_M_goDown_241 (lv_at hl 0 rfl) ?_
                        refine z_eq (tgt := 250) (v := true) hx hb d_M_goDown_243 (by decide) (fun c243 => ?_) (fun c243 => ?_)
                        · skip
                          first | exact absurd c243 (by decide) | exact absurd (by decide) c243
                        · skip
                          refine lv_iconst (v := nI 1) hx hb d_M_goDown_246 (by decide) ?_
                          refine lv_goto (tgt := 251) hx hb d_M_goDown_247 (by decide) ?_
                          refine W.eq (g2 := F0 m 251 ls [.int (bI true), .ref x]) rfl ?_
                          refine m_put hx hb hts hown hK hm 45 (by decide) (hts (.fieldLink "RegistryLogModel" 230 "RegistryLogModel" "whole" "Z") (in_5 (List.mem_of_getElem? (i := 14) rfl) rfl)) rfl rfl (v := bI true) rfl rfl rfl rfl d_M_goDown_251 (fun H locs hm => ?_)
                          refine lv_goto (tgt := 25) hx hb d_M_goDown_254 (by decide) ?_
                          rw [goF_n, goA_n] at hm
                          have hs : gdR true (d + 1) rf rn ri wb = ((rf + fpS rn, rn - fpS rn, true) :: (gdR true d rf (fpS rn) ri (wb && true)).1, (gdR true d rf (fpS rn) ri (wb && true)).2) := by
                            rw [gdR]; simp [c37, c70]
                          rw [hs] at hL1 hL2
                          have hh := fpS_half rn (by omega) (by omega) d (by omega) hrn
                          rw [c238] at hL1 hL2
                          exact ih rf (fpS rn) ri true (L ++ [(rf + fpS rn, rn - fpS rn, true)]) _ _ _ H locs hh.1 (by omega) (by omega) (by rw [List.length_append]; simp only [List.length_cons, List.length_nil]; omega) ⟨by omega, by omega⟩ (by rw [List.length_append]; exact hm) (gd_ap hgd) (by rw [List.append_assoc]; exact hL1) hL2 ls (lv_sub hl [2, 3, 4, 5] rfl)
set_option maxHeartbeats 4000000 in
set_option maxRecDepth 100000 in
theorem lp_M_goDownI {p : Program} {l : Launch} {e : Env} {s : State} {m : MethodId} {args : Array Value} {below : List Frame} {meth : Method} {c : Code} {g : gG} (C0 : cF g p s m args meth c b_M_goDown 6 "RegistryLogModel" none) (hZ : zK g s s.heap) {x : Nat} {ad : Nat → Nat} {F : Nat → Int32} {A : Nat → Nat → Int32} {B : Nat → Nat → Int64} (i1 i2 : Int32) (LL : List (Nat × Nat × Bool)) (a1 a2 a3 : Nat) (a4 : Bool) :
    ∀ (d rf rn ri : Nat) (wb : Bool) (L : List (Nat × Nat × Bool)) (f1 f2 f3 : Nat → Int32) (H : Heap) (locs : List Loc), rn ≤ 2 ^ d → rn ≤ 120 → rf + rn ≤ 120 → L.length + d ≤ 7 → ri < rn → mS g s.heap H x ad (goF F L.length rf rn ri wb) (goA A f1 f2 f3) B locs → gdOk L f1 f2 f3 → L ++ (gdR false d rf rn ri wb).1 = LL → (gdR false d rf rn ri wb).2 = (a1, a2, a3, a4) → ∀ (ls : Array Slot), lv_has ls 6 [(0, .ref x), (1, .int i1), (2, .int i2), (3, .int (bI false))] → W p l e (rmk 1 0 0 21) s m args below meth c H locs 0 0 (MQ below (qM g s.heap x ad (fun v F1 A1 B1 => v = none ∧ F1 = goF F LL.length a1 a2 a3 a4 ∧ (∃ f1 f2 f3, A1 = goA A f1 f2 f3 ∧ gdOk LL f1 f2 f3) ∧ B1 = B)) args s 0 0 (mN x ad)) (F0 m 25 ls []) := by
  obtain ⟨hx, hb, hml, hown, hts, hr, hlk, hK⟩ := id C0
  intro d
  induction d with
  | zero =>
    intro rf rn ri wb L f1 f2 f3 H locs hrn hr120 hrf hld hri hm hgd hL1 hL2 ls hl
    refine lv_iload_n hx hb d_M_goDown_25 rfl (lv_at hl 3 rfl) ?_
    refine z_eq (tgt := 43) (v := false) hx hb d_M_goDown_26 (by decide) (fun c26 => ?_) (fun c26 => ?_)
    · skip
      refine lv_aload_n hx hb d_M_goDown_43 rfl (lv_at hl 0 rfl) ?_
      refine m_get hx hb hts hown hK hm 43 (by decide) (hts (.fieldLink "RegistryLogModel" 224 "RegistryLogModel" "restMany" "I") (in_5 (List.mem_of_getElem? (i := 12) rfl) rfl)) rfl (v := .int (nI rn)) rfl d_M_goDown_44 ?_
      refine lv_iconst (v := nI 1) hx hb d_M_goDown_47 (by decide) ?_
      refine n_le (tgt := 257) (a := rn) (b := 1) hx hb d_M_goDown_48 (by decide) (by omega) (by omega) (fun c48 => ?_) (fun c48 => ?_)
      · skip
        rw [gdR] at hL1 hL2
        rw [List.append_nil] at hL1
        subst hL1
        cases hL2
        exact W.vret hx hb hr (fun t9 ht hW => ⟨_, _, _, _, rfl, by rw [ht]; exact ⟨hm.1, hm.2.1, hm.2.2.1, fun _ h => by cases h⟩, ⟨rfl, rfl, ⟨_, _, _, rfl, hgd⟩, rfl⟩⟩) hm.2.2.2 d_M_goDown_257 hlk
      · skip
        exact absurd c48 (by omega)
    · skip
      first | exact absurd c26 (by decide) | exact absurd (by decide) c26
  | succ d ih =>
    intro rf rn ri wb L f1 f2 f3 H locs hrn hr120 hrf hld hri hm hgd hL1 hL2 ls hl
    have hp1 := fpS_pos rn
    refine lv_iload_n hx hb d_M_goDown_25 rfl (lv_at hl 3 rfl) ?_
    refine z_eq (tgt := 43) (v := false) hx hb d_M_goDown_26 (by decide) (fun c26 => ?_) (fun c26 => ?_)
    · skip
      refine lv_aload_n hx hb d_M_goDown_43 rfl (lv_at hl 0 rfl) ?_
      refine m_get hx hb hts hown hK hm 43 (by decide) (hts (.fieldLink "RegistryLogModel" 224 "RegistryLogModel" "restMany" "I") (in_5 (List.mem_of_getElem? (i := 12) rfl) rfl)) rfl (v := .int (nI rn)) rfl d_M_goDown_44 ?_
      refine lv_iconst (v := nI 1) hx hb d_M_goDown_47 (by decide) ?_
      refine n_le (tgt := 257) (a := rn) (b := 1) hx hb d_M_goDown_48 (by decide) (by omega) (by omega) (fun c48 => ?_) (fun c48 => ?_)
      · skip
        rw [gdR, if_neg (by simp; omega)] at hL1 hL2
        rw [List.append_nil] at hL1
        subst hL1
        cases hL2
        exact W.vret hx hb hr (fun t9 ht hW => ⟨_, _, _, _, rfl, by rw [ht]; exact ⟨hm.1, hm.2.1, hm.2.2.1, fun _ h => by cases h⟩, ⟨rfl, rfl, ⟨_, _, _, rfl, hgd⟩, rfl⟩⟩) hm.2.2.2 d_M_goDown_257 hlk
      · skip
        refine lv_aload_n hx hb d_M_goDown_51 rfl (lv_at hl 0 rfl) ?_
        refine m_get hx hb hts hown hK hm 43 (by decide) (hts (.fieldLink "RegistryLogModel" 224 "RegistryLogModel" "restMany" "I") (in_5 (List.mem_of_getElem? (i := 12) rfl) rfl)) rfl (v := .int (nI rn)) rfl d_M_goDown_52 ?_
        refine aP (rS (As := [.int (nI rn)]) (rest := []) C0 (c_M_half l g _ rn hr120) (m_zK hZ hm) k_M_goDown_55 rfl rfl ⟨Nat.le_of_ble_eq_true rfl, Nat.le_of_ble_eq_true rfl⟩ rfl hl.1 rfl (Nat.le_of_ble_eq_true rfl) d_M_goDown_55 ⟨Nat.zero_le _, Nat.zero_le _⟩) ?_
        intro v hv; subst hv
        refine W.eq (g2 := F0 m 58 ls [.int (nI (fpS rn))]) rfl ?_
        have hlt := fpS_lt (n := rn) (by omega)
        refine lv_istore (lv' := [(4, .int (nI (fpS rn))), (0, .ref x), (1, .int i1), (2, .int i2), (3, .int (bI false))]) hx hb d_M_goDown_58 hl (by decide) rfl (fun ls hl => ?_)
        refine lv_iload_n hx hb d_M_goDown_60 rfl (lv_at hl 4 rfl) ?_
        refine z_eq (tgt := 81) (v := false) hx hb d_M_goDown_61 (by decide) (fun c61 => ?_) (fun c61 => ?_)
        · skip
          refine lv_aload_n hx hb d_M_goDown_81 rfl (lv_at hl 1 rfl) ?_
          refine m_get hx hb hts hown hK hm 44 (by decide) (hts (.fieldLink "RegistryLogModel" 227 "RegistryLogModel" "restIn" "I") (in_5 (List.mem_of_getElem? (i := 13) rfl) rfl)) rfl (v := .int (nI ri)) rfl d_M_goDown_82 ?_
          refine lv_iload hx hb d_M_goDown_85 (lv_at hl 0 rfl) ?_
          refine n_ge (tgt := 94) (a := ri) (b := fpS rn) hx hb d_M_goDown_87 (by decide) (by omega) (by omega) (fun c87 => ?_) (fun c87 => ?_)
          · skip
            refine lv_iconst (v := nI 0) hx hb d_M_goDown_94 (by decide) ?_
            refine W.eq (g2 := F0 m 95 ls [.int (bI false)]) rfl ?_
            refine lv_istore (lv' := [(5, .int (bI false)), (4, .int (nI (fpS rn))), (0, .ref x), (1, .int i1), (2, .int i2), (3, .int (bI false))]) hx hb d_M_goDown_95 hl (by decide) rfl (fun ls hl => ?_)
            refine lv_aload_n hx hb d_M_goDown_97 rfl (lv_at hl 2 rfl) ?_
            refine m_get hx hb hts hown hK hm 38 (by decide) (hts (.fieldLink "RegistryLogModel" 98 "RegistryLogModel" "otherFrom" "[I") (in_5 (List.mem_of_getElem? (i := 7) rfl) rfl)) rfl (v := .ref (ad 38)) rfl d_M_goDown_98 ?_
            refine lv_aload_n hx hb d_M_goDown_101 rfl (lv_at hl 2 rfl) ?_
            refine m_get hx hb hts hown hK hm 41 (by decide) (hts (.fieldLink "RegistryLogModel" 218 "RegistryLogModel" "steps" "I") (in_5 (List.mem_of_getElem? (i := 10) rfl) rfl)) rfl (v := .int (nI L.length)) rfl d_M_goDown_102 ?_
            refine lv_iload hx hb d_M_goDown_105 (lv_at hl 0 rfl) ?_
            refine z_eq (tgt := 120) (v := false) hx hb d_M_goDown_107 (by decide) (fun c107 => ?_) (fun c107 => ?_)
            · skip
              refine lv_aload_n hx hb d_M_goDown_120 rfl (lv_at hl 2 rfl) ?_
              refine m_get hx hb hts hown hK hm 42 (by decide) (hts (.fieldLink "RegistryLogModel" 221 "RegistryLogModel" "restFrom" "I") (in_5 (List.mem_of_getElem? (i := 11) rfl) rfl)) rfl (v := .int (nI rf)) rfl d_M_goDown_121 ?_
              refine m_st hx hb hK hm 38 rfl L.length rfl (show L.length < 16 from by omega) d_M_goDown_124 (fun H locs hm => ?_)
              have hm : mS g s.heap H x ad (goF F L.length rf rn ri wb) (updA (goA A f1 f2 f3) 38 (upd (f1) L.length (nI rf))) B locs := hm
              refine lv_aload_n hx hb d_M_goDown_125 rfl (lv_at hl 2 rfl) ?_
              refine m_get hx hb hts hown hK hm 39 (by decide) (hts (.fieldLink "RegistryLogModel" 101 "RegistryLogModel" "otherMany" "[I") (in_5 (List.mem_of_getElem? (i := 8) rfl) rfl)) rfl (v := .ref (ad 39)) rfl d_M_goDown_126 ?_
              refine lv_aload_n hx hb d_M_goDown_129 rfl (lv_at hl 2 rfl) ?_
              refine m_get hx hb hts hown hK hm 41 (by decide) (hts (.fieldLink "RegistryLogModel" 218 "RegistryLogModel" "steps" "I") (in_5 (List.mem_of_getElem? (i := 10) rfl) rfl)) rfl (v := .int (nI L.length)) rfl d_M_goDown_130 ?_
              refine lv_iload hx hb d_M_goDown_133 (lv_at hl 0 rfl) ?_
              refine z_eq (tgt := 148) (v := false) hx hb d_M_goDown_135 (by decide) (fun c135 => ?_) (fun c135 => ?_)
              · skip
                refine lv_iload hx hb d_M_goDown_148 (lv_at hl 1 rfl) ?_
                refine m_st hx hb hK hm 39 rfl L.length rfl (show L.length < 16 from by omega) d_M_goDown_150 (fun H locs hm => ?_)
                have hm : mS g s.heap H x ad (goF F L.length rf rn ri wb) (updA (updA (goA A f1 f2 f3) 38 (upd (f1) L.length (nI rf))) 39 (upd (f2) L.length (nI (fpS rn)))) B locs := hm
                refine lv_aload_n hx hb d_M_goDown_151 rfl (lv_at hl 2 rfl) ?_
                refine m_get hx hb hts hown hK hm 40 (by decide) (hts (.fieldLink "RegistryLogModel" 104 "RegistryLogModel" "isSecond" "[Z") (in_5 (List.mem_of_getElem? (i := 9) rfl) rfl)) rfl (v := .ref (ad 40)) rfl d_M_goDown_152 ?_
                refine lv_aload_n hx hb d_M_goDown_155 rfl (lv_at hl 2 rfl) ?_
                refine m_get hx hb hts hown hK hm 41 (by decide) (hts (.fieldLink "RegistryLogModel" 218 "RegistryLogModel" "steps" "I") (in_5 (List.mem_of_getElem? (i := 10) rfl) rfl)) rfl (v := .int (nI L.length)) rfl d_M_goDown_156 ?_
                refine lv_iload hx hb d_M_goDown_159 (lv_at hl 0 rfl) ?_
                refine m_stz hx hb hK hm 40 rfl L.length rfl (show L.length < 16 from by omega) d_M_goDown_161 (fun H locs hm => ?_)
                have hm : mS g s.heap H x ad (goF F L.length rf rn ri wb) (updA (updA (updA (goA A f1 f2 f3) 38 (upd (f1) L.length (nI rf))) 39 (upd (f2) L.length (nI (fpS rn)))) 40 (upd (f3) L.length (bI false))) B locs := hm
                refine lv_aload_n hx hb d_M_goDown_162 rfl (lv_at hl 2 rfl) ?_
                refine lv_dup hx hb d_M_goDown_163 rfl ?_
                refine m_get hx hb hts hown hK hm 41 (by decide) (hts (.fieldLink "RegistryLogModel" 218 "RegistryLogModel" "steps" "I") (in_5 (List.mem_of_getElem? (i := 10) rfl) rfl)) rfl (v := .int (nI L.length)) rfl d_M_goDown_164 ?_
                refine lv_iconst (v := nI 1) hx hb d_M_goDown_167 (by decide) ?_
                refine n_iadd hx hb d_M_goDown_168 ?_
                refine m_put hx hb hts hown hK hm 41 (by decide) (hts (.fieldLink "RegistryLogModel" 218 "RegistryLogModel" "steps" "I") (in_5 (List.mem_of_getElem? (i := 10) rfl) rfl)) rfl rfl (v := nI (L.length + 1)) rfl rfl rfl rfl d_M_goDown_169 (fun H locs hm => ?_)
                refine lv_aload_n hx hb d_M_goDown_172 rfl (lv_at hl 2 rfl) ?_
                refine lv_dup hx hb d_M_goDown_173 rfl ?_
                refine m_get hx hb hts hown hK hm 44 (by decide) (hts (.fieldLink "RegistryLogModel" 227 "RegistryLogModel" "restIn" "I") (in_5 (List.mem_of_getElem? (i := 13) rfl) rfl)) rfl (v := .int (nI ri)) rfl d_M_goDown_174 ?_
                refine lv_iload hx hb d_M_goDown_177 (lv_at hl 0 rfl) ?_
                refine z_eq (tgt := 186) (v := false) hx hb d_M_goDown_179 (by decide) (fun c179 => ?_) (fun c179 => ?_)
                · skip
                  refine lv_iload hx hb d_M_goDown_186 (lv_at hl 1 rfl) ?_
                  refine n_isub hx hb (by omega) d_M_goDown_188 ?_
                  refine m_put hx hb hts hown hK hm 44 (by decide) (hts (.fieldLink "RegistryLogModel" 227 "RegistryLogModel" "restIn" "I") (in_5 (List.mem_of_getElem? (i := 13) rfl) rfl)) rfl rfl (v := nI (ri - (fpS rn))) rfl rfl rfl rfl d_M_goDown_189 (fun H locs hm => ?_)
                  refine lv_aload_n hx hb d_M_goDown_192 rfl (lv_at hl 2 rfl) ?_
                  refine lv_dup hx hb d_M_goDown_193 rfl ?_
                  refine m_get hx hb hts hown hK hm 42 (by decide) (hts (.fieldLink "RegistryLogModel" 221 "RegistryLogModel" "restFrom" "I") (in_5 (List.mem_of_getElem? (i := 11) rfl) rfl)) rfl (v := .int (nI rf)) rfl d_M_goDown_194 ?_
                  refine lv_iload hx hb d_M_goDown_197 (lv_at hl 0 rfl) ?_
                  refine z_eq (tgt := 206) (v := false) hx hb d_M_goDown_199 (by decide) (fun c199 => ?_) (fun c199 => ?_)
                  · skip
                    refine lv_iload hx hb d_M_goDown_206 (lv_at hl 1 rfl) ?_
                    refine n_iadd hx hb d_M_goDown_208 ?_
                    refine m_put hx hb hts hown hK hm 42 (by decide) (hts (.fieldLink "RegistryLogModel" 221 "RegistryLogModel" "restFrom" "I") (in_5 (List.mem_of_getElem? (i := 11) rfl) rfl)) rfl rfl (v := nI (rf + (fpS rn))) rfl rfl rfl rfl d_M_goDown_209 (fun H locs hm => ?_)
                    refine lv_aload_n hx hb d_M_goDown_212 rfl (lv_at hl 2 rfl) ?_
                    refine lv_iload hx hb d_M_goDown_213 (lv_at hl 0 rfl) ?_
                    refine z_eq (tgt := 223) (v := false) hx hb d_M_goDown_215 (by decide) (fun c215 => ?_) (fun c215 => ?_)
                    · skip
                      refine lv_aload_n hx hb d_M_goDown_223 rfl (lv_at hl 2 rfl) ?_
                      refine m_get hx hb hts hown hK hm 43 (by decide) (hts (.fieldLink "RegistryLogModel" 224 "RegistryLogModel" "restMany" "I") (in_5 (List.mem_of_getElem? (i := 12) rfl) rfl)) rfl (v := .int (nI rn)) rfl d_M_goDown_224 ?_
                      refine lv_iload hx hb d_M_goDown_227 (lv_at hl 1 rfl) ?_
                      refine n_isub hx hb (by omega) d_M_goDown_229 ?_
                      refine m_put hx hb hts hown hK hm 43 (by decide) (hts (.fieldLink "RegistryLogModel" 224 "RegistryLogModel" "restMany" "I") (in_5 (List.mem_of_getElem? (i := 12) rfl) rfl)) rfl rfl (v := nI (rn - (fpS rn))) rfl rfl rfl rfl d_M_goDown_230 (fun H locs hm => ?_)
                      refine lv_aload_n hx hb d_M_goDown_233 rfl (lv_at hl 2 rfl) ?_
                      refine lv_aload_n hx hb d_M_goDown_234 rfl (lv_at hl 2 rfl) ?_
                      refine m_get hx hb hts hown hK hm 45 (by decide) (hts (.fieldLink "RegistryLogModel" 230 "RegistryLogModel" "whole" "Z") (in_5 (List.mem_of_getElem? (i := 14) rfl) rfl)) rfl (v := .int (bI wb)) rfl d_M_goDown_235 ?_
                      refine z_eq (tgt := 250) (v := wb) hx hb d_M_goDown_238 (by decide) (fun c238 => ?_) (fun c238 => ?_)
                      · skip
                        refine lv_iconst (v := nI 0) hx hb d_M_goDown_250 (by decide) ?_
                        refine W.eq (g2 := F0 m 251 ls [.int (bI false), .ref x]) rfl ?_
                        refine m_put hx hb hts hown hK hm 45 (by decide) (hts (.fieldLink "RegistryLogModel" 230 "RegistryLogModel" "whole" "Z") (in_5 (List.mem_of_getElem? (i := 14) rfl) rfl)) rfl rfl (v := bI false) rfl rfl rfl rfl d_M_goDown_251 (fun H locs hm => ?_)
                        refine lv_goto (tgt := 25) hx hb d_M_goDown_254 (by decide) ?_
                        rw [goF_n, goA_n] at hm
                        have hs : gdR false (d + 1) rf rn ri wb = ((rf, fpS rn, false) :: (gdR false d (rf + fpS rn) (rn - fpS rn) (ri - fpS rn) (wb && false)).1, (gdR false d (rf + fpS rn) (rn - fpS rn) (ri - fpS rn) (wb && false)).2) := by
                          rw [gdR]; simp [c48, Nat.not_lt.mpr c87]
                        rw [hs] at hL1 hL2
                        have hh := fpS_half rn (by omega) (by omega) d (by omega) hrn
                        rw [c238] at hL1 hL2
                        exact ih (rf + fpS rn) (rn - fpS rn) (ri - fpS rn) false (L ++ [(rf, fpS rn, false)]) _ _ _ H locs hh.2 (by omega) (by omega) (by rw [List.length_append]; simp only [List.length_cons, List.length_nil]; omega) (by omega) (by rw [List.length_append]; exact hm) (gd_ap hgd) (by rw [List.append_assoc]; exact hL1) hL2 ls (lv_sub hl [2, 3, 4, 5] rfl)
                      · skip
                        refine lv_iload hx hb d_M_goDown_241 (lv_at hl 0 rfl) ?_
                        refine z_eq (tgt := 250) (v := false) hx hb d_M_goDown_243 (by decide) (fun c243 => ?_) (fun c243 => ?_)
                        · skip
                          refine lv_iconst (v := nI 0) hx hb d_M_goDown_250 (by decide) ?_
                          refine W.eq (g2 := F0 m 251 ls [.int (bI false), .ref x]) rfl ?_
                          refine m_put hx hb hts hown hK hm 45 (by decide) (hts (.fieldLink "RegistryLogModel" 230 "RegistryLogModel" "whole" "Z") (in_5 (List.mem_of_getElem? (i := 14) rfl) rfl)) rfl rfl (v := bI false) rfl rfl rfl rfl d_M_goDown_251 (fun H locs hm => ?_)
                          refine lv_goto (tgt := 25) hx hb d_M_goDown_254 (by decide) ?_
                          rw [goF_n, goA_n] at hm
                          have hs : gdR false (d + 1) rf rn ri wb = ((rf, fpS rn, false) :: (gdR false d (rf + fpS rn) (rn - fpS rn) (ri - fpS rn) (wb && false)).1, (gdR false d (rf + fpS rn) (rn - fpS rn) (ri - fpS rn) (wb && false)).2) := by
                            rw [gdR]; simp [c48, Nat.not_lt.mpr c87]
                          rw [hs] at hL1 hL2
                          have hh := fpS_half rn (by omega) (by omega) d (by omega) hrn
                          rw [c238] at hL1 hL2
                          exact ih (rf + fpS rn) (rn - fpS rn) (ri - fpS rn) false (L ++ [(rf, fpS rn, false)]) _ _ _ H locs hh.2 (by omega) (by omega) (by rw [List.length_append]; simp only [List.length_cons, List.length_nil]; omega) (by omega) (by rw [List.length_append]; exact hm) (gd_ap hgd) (by rw [List.append_assoc]; exact hL1) hL2 ls (lv_sub hl [2, 3, 4, 5] rfl)
                        · skip
                          first | exact absurd c243 (by decide) | exact absurd (by decide) c243
                    · skip
                      first | exact absurd c215 (by decide) | exact absurd (by decide) c215
                  · skip
                    first | exact absurd c199 (by decide) | exact absurd (by decide) c199
                · skip
                  first | exact absurd c179 (by decide) | exact absurd (by decide) c179
              · skip
                first | exact absurd c135 (by decide) | exact absurd (by decide) c135
            · skip
              first | exact absurd c107 (by decide) | exact absurd (by decide) c107
          · skip
            refine lv_iconst (v := nI 1) hx hb d_M_goDown_90 (by decide) ?_
            refine lv_goto (tgt := 95) hx hb d_M_goDown_91 (by decide) ?_
            refine W.eq (g2 := F0 m 95 ls [.int (bI true)]) rfl ?_
            refine lv_istore (lv' := [(5, .int (bI true)), (4, .int (nI (fpS rn))), (0, .ref x), (1, .int i1), (2, .int i2), (3, .int (bI false))]) hx hb d_M_goDown_95 hl (by decide) rfl (fun ls hl => ?_)
            refine lv_aload_n hx hb d_M_goDown_97 rfl (lv_at hl 2 rfl) ?_
            refine m_get hx hb hts hown hK hm 38 (by decide) (hts (.fieldLink "RegistryLogModel" 98 "RegistryLogModel" "otherFrom" "[I") (in_5 (List.mem_of_getElem? (i := 7) rfl) rfl)) rfl (v := .ref (ad 38)) rfl d_M_goDown_98 ?_
            refine lv_aload_n hx hb d_M_goDown_101 rfl (lv_at hl 2 rfl) ?_
            refine m_get hx hb hts hown hK hm 41 (by decide) (hts (.fieldLink "RegistryLogModel" 218 "RegistryLogModel" "steps" "I") (in_5 (List.mem_of_getElem? (i := 10) rfl) rfl)) rfl (v := .int (nI L.length)) rfl d_M_goDown_102 ?_
            refine lv_iload hx hb d_M_goDown_105 (lv_at hl 0 rfl) ?_
            refine z_eq (tgt := 120) (v := true) hx hb d_M_goDown_107 (by decide) (fun c107 => ?_) (fun c107 => ?_)
            · skip
              first | exact absurd c107 (by decide) | exact absurd (by decide) c107
            · skip
              refine lv_aload_n hx hb d_M_goDown_110 rfl (lv_at hl 2 rfl) ?_
              refine m_get hx hb hts hown hK hm 42 (by decide) (hts (.fieldLink "RegistryLogModel" 221 "RegistryLogModel" "restFrom" "I") (in_5 (List.mem_of_getElem? (i := 11) rfl) rfl)) rfl (v := .int (nI rf)) rfl d_M_goDown_111 ?_
              refine lv_iload hx hb d_M_goDown_114 (lv_at hl 1 rfl) ?_
              refine n_iadd hx hb d_M_goDown_116 ?_
              refine lv_goto (tgt := 124) hx hb d_M_goDown_117 (by decide) ?_
              refine m_st hx hb hK hm 38 rfl L.length rfl (show L.length < 16 from by omega) d_M_goDown_124 (fun H locs hm => ?_)
              have hm : mS g s.heap H x ad (goF F L.length rf rn ri wb) (updA (goA A f1 f2 f3) 38 (upd (f1) L.length (nI (rf + (fpS rn))))) B locs := hm
              refine lv_aload_n hx hb d_M_goDown_125 rfl (lv_at hl 2 rfl) ?_
              refine m_get hx hb hts hown hK hm 39 (by decide) (hts (.fieldLink "RegistryLogModel" 101 "RegistryLogModel" "otherMany" "[I") (in_5 (List.mem_of_getElem? (i := 8) rfl) rfl)) rfl (v := .ref (ad 39)) rfl d_M_goDown_126 ?_
              refine lv_aload_n hx hb d_M_goDown_129 rfl (lv_at hl 2 rfl) ?_
              refine m_get hx hb hts hown hK hm 41 (by decide) (hts (.fieldLink "RegistryLogModel" 218 "RegistryLogModel" "steps" "I") (in_5 (List.mem_of_getElem? (i := 10) rfl) rfl)) rfl (v := .int (nI L.length)) rfl d_M_goDown_130 ?_
              refine lv_iload hx hb d_M_goDown_133 (lv_at hl 0 rfl) ?_
              refine z_eq (tgt := 148) (v := true) hx hb d_M_goDown_135 (by decide) (fun c135 => ?_) (fun c135 => ?_)
              · skip
                first | exact absurd c135 (by decide) | exact absurd (by decide) c135
              · skip
                refine lv_aload_n hx hb d_M_goDown_138 rfl (lv_at hl 2 rfl) ?_
                refine m_get hx hb hts hown hK hm 43 (by decide) (hts (.fieldLink "RegistryLogModel" 224 "RegistryLogModel" "restMany" "I") (in_5 (List.mem_of_getElem? (i := 12) rfl) rfl)) rfl (v := .int (nI rn)) rfl d_M_goDown_139 ?_
                refine lv_iload hx hb d_M_goDown_142 (lv_at hl 1 rfl) ?_
                refine n_isub hx hb (by omega) d_M_goDown_144 ?_
                refine lv_goto (tgt := 150) hx hb d_M_goDown_145 (by decide) ?_
                refine m_st hx hb hK hm 39 rfl L.length rfl (show L.length < 16 from by omega) d_M_goDown_150 (fun H locs hm => ?_)
                have hm : mS g s.heap H x ad (goF F L.length rf rn ri wb) (updA (updA (goA A f1 f2 f3) 38 (upd (f1) L.length (nI (rf + (fpS rn))))) 39 (upd (f2) L.length (nI (rn - (fpS rn))))) B locs := hm
                refine lv_aload_n hx hb d_M_goDown_151 rfl (lv_at hl 2 rfl) ?_
                refine m_get hx hb hts hown hK hm 40 (by decide) (hts (.fieldLink "RegistryLogModel" 104 "RegistryLogModel" "isSecond" "[Z") (in_5 (List.mem_of_getElem? (i := 9) rfl) rfl)) rfl (v := .ref (ad 40)) rfl d_M_goDown_152 ?_
                refine lv_aload_n hx hb d_M_goDown_155 rfl (lv_at hl 2 rfl) ?_
                refine m_get hx hb hts hown hK hm 41 (by decide) (hts (.fieldLink "RegistryLogModel" 218 "RegistryLogModel" "steps" "I") (in_5 (List.mem_of_getElem? (i := 10) rfl) rfl)) rfl (v := .int (nI L.length)) rfl d_M_goDown_156 ?_
                refine lv_iload hx hb d_M_goDown_159 (lv_at hl 0 rfl) ?_
                refine m_stz hx hb hK hm 40 rfl L.length rfl (show L.length < 16 from by omega) d_M_goDown_161 (fun H locs hm => ?_)
                have hm : mS g s.heap H x ad (goF F L.length rf rn ri wb) (updA (updA (updA (goA A f1 f2 f3) 38 (upd (f1) L.length (nI (rf + (fpS rn))))) 39 (upd (f2) L.length (nI (rn - (fpS rn))))) 40 (upd (f3) L.length (bI true))) B locs := hm
                refine lv_aload_n hx hb d_M_goDown_162 rfl (lv_at hl 2 rfl) ?_
                refine lv_dup hx hb d_M_goDown_163 rfl ?_
                refine m_get hx hb hts hown hK hm 41 (by decide) (hts (.fieldLink "RegistryLogModel" 218 "RegistryLogModel" "steps" "I") (in_5 (List.mem_of_getElem? (i := 10) rfl) rfl)) rfl (v := .int (nI L.length)) rfl d_M_goDown_164 ?_
                refine lv_iconst (v := nI 1) hx hb d_M_goDown_167 (by decide) ?_
                refine n_iadd hx hb d_M_goDown_168 ?_
                refine m_put hx hb hts hown hK hm 41 (by decide) (hts (.fieldLink "RegistryLogModel" 218 "RegistryLogModel" "steps" "I") (in_5 (List.mem_of_getElem? (i := 10) rfl) rfl)) rfl rfl (v := nI (L.length + 1)) rfl rfl rfl rfl d_M_goDown_169 (fun H locs hm => ?_)
                refine lv_aload_n hx hb d_M_goDown_172 rfl (lv_at hl 2 rfl) ?_
                refine lv_dup hx hb d_M_goDown_173 rfl ?_
                refine m_get hx hb hts hown hK hm 44 (by decide) (hts (.fieldLink "RegistryLogModel" 227 "RegistryLogModel" "restIn" "I") (in_5 (List.mem_of_getElem? (i := 13) rfl) rfl)) rfl (v := .int (nI ri)) rfl d_M_goDown_174 ?_
                refine lv_iload hx hb d_M_goDown_177 (lv_at hl 0 rfl) ?_
                refine z_eq (tgt := 186) (v := true) hx hb d_M_goDown_179 (by decide) (fun c179 => ?_) (fun c179 => ?_)
                · skip
                  first | exact absurd c179 (by decide) | exact absurd (by decide) c179
                · skip
                  refine lv_iconst (v := nI 0) hx hb d_M_goDown_182 (by decide) ?_
                  refine lv_goto (tgt := 188) hx hb d_M_goDown_183 (by decide) ?_
                  refine n_isub hx hb (by omega) d_M_goDown_188 ?_
                  refine m_put hx hb hts hown hK hm 44 (by decide) (hts (.fieldLink "RegistryLogModel" 227 "RegistryLogModel" "restIn" "I") (in_5 (List.mem_of_getElem? (i := 13) rfl) rfl)) rfl rfl (v := nI (ri - 0)) rfl rfl rfl rfl d_M_goDown_189 (fun H locs hm => ?_)
                  refine lv_aload_n hx hb d_M_goDown_192 rfl (lv_at hl 2 rfl) ?_
                  refine lv_dup hx hb d_M_goDown_193 rfl ?_
                  refine m_get hx hb hts hown hK hm 42 (by decide) (hts (.fieldLink "RegistryLogModel" 221 "RegistryLogModel" "restFrom" "I") (in_5 (List.mem_of_getElem? (i := 11) rfl) rfl)) rfl (v := .int (nI rf)) rfl d_M_goDown_194 ?_
                  refine lv_iload hx hb d_M_goDown_197 (lv_at hl 0 rfl) ?_
                  refine z_eq (tgt := 206) (v := true) hx hb d_M_goDown_199 (by decide) (fun c199 => ?_) (fun c199 => ?_)
                  · skip
                    first | exact absurd c199 (by decide) | exact absurd (by decide) c199
                  · skip
                    refine lv_iconst (v := nI 0) hx hb d_M_goDown_202 (by decide) ?_
                    refine lv_goto (tgt := 208) hx hb d_M_goDown_203 (by decide) ?_
                    refine n_iadd hx hb d_M_goDown_208 ?_
                    refine m_put hx hb hts hown hK hm 42 (by decide) (hts (.fieldLink "RegistryLogModel" 221 "RegistryLogModel" "restFrom" "I") (in_5 (List.mem_of_getElem? (i := 11) rfl) rfl)) rfl rfl (v := nI (rf + 0)) rfl rfl rfl rfl d_M_goDown_209 (fun H locs hm => ?_)
                    refine lv_aload_n hx hb d_M_goDown_212 rfl (lv_at hl 2 rfl) ?_
                    refine lv_iload hx hb d_M_goDown_213 (lv_at hl 0 rfl) ?_
                    refine z_eq (tgt := 223) (v := true) hx hb d_M_goDown_215 (by decide) (fun c215 => ?_) (fun c215 => ?_)
                    · skip
                      first | exact absurd c215 (by decide) | exact absurd (by decide) c215
                    · skip
                      refine lv_iload hx hb d_M_goDown_218 (lv_at hl 1 rfl) ?_
                      refine lv_goto (tgt := 230) hx hb d_M_goDown_220 (by decide) ?_
                      refine m_put hx hb hts hown hK hm 43 (by decide) (hts (.fieldLink "RegistryLogModel" 224 "RegistryLogModel" "restMany" "I") (in_5 (List.mem_of_getElem? (i := 12) rfl) rfl)) rfl rfl (v := nI (fpS rn)) rfl rfl rfl rfl d_M_goDown_230 (fun H locs hm => ?_)
                      refine lv_aload_n hx hb d_M_goDown_233 rfl (lv_at hl 2 rfl) ?_
                      refine lv_aload_n hx hb d_M_goDown_234 rfl (lv_at hl 2 rfl) ?_
                      refine m_get hx hb hts hown hK hm 45 (by decide) (hts (.fieldLink "RegistryLogModel" 230 "RegistryLogModel" "whole" "Z") (in_5 (List.mem_of_getElem? (i := 14) rfl) rfl)) rfl (v := .int (bI wb)) rfl d_M_goDown_235 ?_
                      refine z_eq (tgt := 250) (v := wb) hx hb d_M_goDown_238 (by decide) (fun c238 => ?_) (fun c238 => ?_)
                      · skip
                        refine lv_iconst (v := nI 0) hx hb d_M_goDown_250 (by decide) ?_
                        refine W.eq (g2 := F0 m 251 ls [.int (bI false), .ref x]) rfl ?_
                        refine m_put hx hb hts hown hK hm 45 (by decide) (hts (.fieldLink "RegistryLogModel" 230 "RegistryLogModel" "whole" "Z") (in_5 (List.mem_of_getElem? (i := 14) rfl) rfl)) rfl rfl (v := bI false) rfl rfl rfl rfl d_M_goDown_251 (fun H locs hm => ?_)
                        refine lv_goto (tgt := 25) hx hb d_M_goDown_254 (by decide) ?_
                        rw [goF_n, goA_n] at hm
                        have hs : gdR false (d + 1) rf rn ri wb = ((rf + fpS rn, rn - fpS rn, true) :: (gdR false d rf (fpS rn) ri (wb && true)).1, (gdR false d rf (fpS rn) ri (wb && true)).2) := by
                          rw [gdR]; simp [c48, c87]
                        rw [hs] at hL1 hL2
                        have hh := fpS_half rn (by omega) (by omega) d (by omega) hrn
                        rw [c238] at hL1 hL2
                        exact ih rf (fpS rn) ri false (L ++ [(rf + fpS rn, rn - fpS rn, true)]) _ _ _ H locs hh.1 (by omega) (by omega) (by rw [List.length_append]; simp only [List.length_cons, List.length_nil]; omega) (by omega) (by rw [List.length_append]; exact hm) (gd_ap hgd) (by rw [List.append_assoc]; exact hL1) hL2 ls (lv_sub hl [2, 3, 4, 5] rfl)
                      · skip
                        refine lv_iload hx hb d_M_goDown_241 (lv_at hl 0 rfl) ?_
                        refine z_eq (tgt := 250) (v := true) hx hb d_M_goDown_243 (by decide) (fun c243 => ?_) (fun c243 => ?_)
                        · skip
                          first | exact absurd c243 (by decide) | exact absurd (by decide) c243
                        · skip
                          refine lv_iconst (v := nI 1) hx hb d_M_goDown_246 (by decide) ?_
                          refine lv_goto (tgt := 251) hx hb d_M_goDown_247 (by decide) ?_
                          refine W.eq (g2 := F0 m 251 ls [.int (bI true), .ref x]) rfl ?_
                          refine m_put hx hb hts hown hK hm 45 (by decide) (hts (.fieldLink "RegistryLogModel" 230 "RegistryLogModel" "whole" "Z") (in_5 (List.mem_of_getElem? (i := 14) rfl) rfl)) rfl rfl (v := bI true) rfl rfl rfl rfl d_M_goDown_251 (fun H locs hm => ?_)
                          refine lv_goto (tgt := 25) hx hb d_M_goDown_254 (by decide) ?_
                          rw [goF_n, goA_n] at hm
                          have hs : gdR false (d + 1) rf rn ri wb = ((rf + fpS rn, rn - fpS rn, true) :: (gdR false d rf (fpS rn) ri (wb && true)).1, (gdR false d rf (fpS rn) ri (wb && true)).2) := by
                            rw [gdR]; simp [c48, c87]
                          rw [hs] at hL1 hL2
                          have hh := fpS_half rn (by omega) (by omega) d (by omega) hrn
                          rw [c238] at hL1 hL2
                          exact ih rf (fpS rn) ri true (L ++ [(rf + fpS rn, rn - fpS rn, true)]) _ _ _ H locs hh.1 (by omega) (by omega) (by rw [List.length_append]; simp only [List.length_cons, List.length_nil]; omega) (by omega) (by rw [List.length_append]; exact hm) (gd_ap hgd) (by rw [List.append_assoc]; exact hL1) hL2 ls (lv_sub hl [2, 3, 4, 5] rfl)
        · skip
          first | exact absurd c61 (by decide) | exact absurd (by decide) c61
    · skip
      first | exact absurd c26 (by decide) | exact absurd (by decide) c26
