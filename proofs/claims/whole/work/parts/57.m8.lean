def ctL (T : List Nat) : Nat → Nat → Nat
  | 0, r => r
  | k + 1, r => ctL T k (if T.getD k 0 = 62 then k else r)
def cutM (T : List Nat) : Nat := ctL T T.length T.length
theorem ctL_le (T : List Nat) (n : Nat) : ∀ k r, k ≤ n → r ≤ n → ctL T k r ≤ n
  | 0, r, _, h => h
  | k + 1, r, h1, h2 => ctL_le T n k _ (by omega) (by split <;> omega)
theorem nI_dn (j : Nat) : nI j + (-1) = nI j - nI 1 := by
  rw [show (-1 : Int32) = -(nI 1) from by decide, ← Int32.sub_eq_add_neg]
set_option maxHeartbeats 4000000 in
set_option maxRecDepth 100000 in
theorem lp_M_takesC {p : Program} {l : Launch} {e : Env} {s : State} {m : MethodId} {args : Array Value} {below : List Frame} {meth : Method} {c : Code} {g : gG} {R : Room} {Q : State → Prop} (C0 : cF g p s m args meth c b_M_takes 5 "RegistryLogModel" (some .boolean)) {x : Nat} {ad : Nat → Nat} {F : Nat → Int32} {A : Nat → Nat → Int32} {B : Nat → Nat → Int64} {H : Heap} {locs : List Loc} (hm : mS g s.heap H x ad F A B locs) (T : List Nat) (hT : ∀ k, k < T.length → A 1 k = nI (T.getD k 0)) (hc : ∀ k, T.getD k 0 < 128) (hT24 : T.length ≤ 24) (res : Nat) (K : ∀ (v4 : Int32) (ls : Array Slot), lv_has ls 5 [(0, .ref x), (1, .int (bI true)), (2, .int (nI T.length)), (3, .int (nI res)), (4, .int v4)] → W p l e R s m args below meth c H locs 0 0 Q (F0 m 51 ls [])) :
    ∀ (i r : Nat), i ≤ T.length → ctL T i r = res → ∀ (ls : Array Slot), lv_has ls 5 [(0, .ref x), (1, .int (bI true)), (2, .int (nI T.length)), (3, .int (nI r)), (4, .int (nI i - nI 1))] → W p l e R s m args below meth c H locs 0 0 Q (F0 m 17 ls []) := by
  obtain ⟨hx, hb, hml, hown, hts, hr, hlk, hK⟩ := id C0
  intro i
  induction i with
  | zero =>
    intro r hi hres ls hl
    refine lv_iload hx hb d_M_takes_17 (lv_at hl 4 rfl) ?_
    refine lv_if_lt (tgt := 51) hx hb d_M_takes_19 (by decide) (fun c19 => ?_) (fun c19 => ?_)
    · skip
      rw [ctL] at hres
      subst hres
      exact K _ ls (lv_sub hl [0, 1, 2, 3, 4] rfl)
    · skip
      exact absurd (show nI 0 - nI 1 < 0 by decide) c19
  | succ i ih =>
    intro r hi hres ls hl
    have hc1 := hc i
    rw [show nI (i + 1) - nI 1 = nI i from nI_pred i] at hl
    refine lv_iload hx hb d_M_takes_17 (lv_at hl 4 rfl) ?_
    refine lv_if_lt (tgt := 51) hx hb d_M_takes_19 (by decide) (fun c19 => ?_) (fun c19 => ?_)
    · skip
      exact absurd c19 (nI_pos (by omega))
    · skip
      refine lv_iload_n hx hb d_M_takes_22 rfl (lv_at hl 1 rfl) ?_
      refine z_eq (tgt := 51) (v := true) hx hb d_M_takes_23 (by decide) (fun c23 => ?_) (fun c23 => ?_)
      · skip
        first | exact absurd c23 (by decide) | exact absurd (by decide) c23
      · skip
        refine lv_aload_n hx hb d_M_takes_26 rfl (lv_at hl 0 rfl) ?_
        refine m_get hx hb hts hown hK hm 1 (by decide) (hts (.fieldLink "RegistryLogModel" 7 "RegistryLogModel" "text" "[I") (in_4 (List.mem_of_getElem? (i := 210) rfl) rfl)) rfl (v := .ref (ad 1)) rfl d_M_takes_27 ?_
        refine lv_iload hx hb d_M_takes_30 (lv_at hl 4 rfl) ?_
        refine m_ld hx hb hK hm 1 rfl i rfl (show i < 24 from by omega) d_M_takes_32 ?_
        refine W.eq (g2 := F0 m 33 ls [.int (nI (T.getD i 0))]) (by rw [hT i (by omega)]) ?_
        refine lv_bipush (v := nI 62) hx hb d_M_takes_33 (by decide) ?_
        refine n_ne (tgt := 43) (a := T.getD i 0) (b := 62) hx hb d_M_takes_35 (by decide) (by omega) (by omega) (fun c35 => ?_) (fun c35 => ?_)
        · skip
          refine lv_iload_n hx hb d_M_takes_43 rfl (lv_at hl 3 rfl) ?_
          refine lv_istore_n (lv' := [(3, .int (nI r)), (0, .ref x), (1, .int (bI true)), (2, .int (nI T.length)), (4, .int (nI i))]) hx hb d_M_takes_44 rfl hl (by decide) rfl (fun ls hl => ?_)
          refine lv_iinc (v := nI i - nI 1) (lv' := [(4, .int (nI i - nI 1)), (3, .int (nI r)), (0, .ref x), (1, .int (bI true)), (2, .int (nI T.length))]) hx hb d_M_takes_45 hl (k := 4) rfl (nI_dn i) (by decide) rfl (fun ls hl => ?_)
          refine lv_goto (tgt := 17) hx hb d_M_takes_48 (by decide) ?_
          rw [ctL, if_neg c35] at hres
          exact ih _ (by omega) hres ls (lv_sub hl [2, 3, 4, 1, 0] rfl)
        · skip
          refine lv_iload hx hb d_M_takes_38 (lv_at hl 4 rfl) ?_
          refine lv_goto (tgt := 44) hx hb d_M_takes_40 (by decide) ?_
          refine lv_istore_n (lv' := [(3, .int (nI i)), (0, .ref x), (1, .int (bI true)), (2, .int (nI T.length)), (4, .int (nI i))]) hx hb d_M_takes_44 rfl hl (by decide) rfl (fun ls hl => ?_)
          refine lv_iinc (v := nI i - nI 1) (lv' := [(4, .int (nI i - nI 1)), (3, .int (nI i)), (0, .ref x), (1, .int (bI true)), (2, .int (nI T.length))]) hx hb d_M_takes_45 hl (k := 4) rfl (nI_dn i) (by decide) rfl (fun ls hl => ?_)
          refine lv_goto (tgt := 17) hx hb d_M_takes_48 (by decide) ?_
          rw [ctL, if_pos c35] at hres
          exact ih _ (by omega) hres ls (lv_sub hl [2, 3, 4, 1, 0] rfl)
set_option maxHeartbeats 4000000 in
set_option maxRecDepth 100000 in
/-- takes(true) -/
theorem c_M_takes1 (l : Launch) (g : gG) (H : Heap) (x : Nat) (ad : Nat → Nat) (F : Nat → Int32) (A : Nat → Nat → Int32) (B : Nat → Nat → Int64) (hm0 : mW g H x ad F A B) (T : List Nat) (hT : ∀ k, k < T.length → A 1 k = nI (T.getD k 0)) (hc : ∀ k, T.getD k 0 < 128) (hT24 : T.length ≤ 24) (hty : F 2 = nI T.length) : Met l y_M_takes (wC y_M_takes b_M_takes 5 (some .boolean)) (rmk 2 0 0 44) (pC g H [.ref x, .int (bI true)]) (qM g H x ad (fun v F1 A1 B1 => if cutM T < T.length ∧ nameM T 0 (cutM T) = true ∧ nameM T (cutM T + 1) T.length = true then (v = some (.int 1) ∧ F1 = upd (upd (upd F 2 (nI 0)) 32 (nI (cutM T))) 33 (nI (T.length - cutM T - 1)) ∧ A1 = updA (updA A 30 (va_cpy (A 1) (A 30) 0 0 (cutM T))) 31 (va_cpy (A 1) (A 31) (cutM T + 1) 0 (T.length - cutM T - 1)) ∧ B1 = B) else (v = some (.int 0) ∧ F1 = upd F 2 (nI 0) ∧ A1 = A ∧ B1 = B))) 0 0 (mN x ad) := by
  refine mB (by decide) (Nat.le_of_ble_eq_true rfl) ?_
  intro p e s m below meth c ls C0 hH hZ hnm hl
  have C0 : cF g p s m _ meth c b_M_takes 5 "RegistryLogModel" (some .boolean) := C0
  obtain ⟨hx, hb, hml, hown, hts, hr, hlk, hK⟩ := id C0
  subst hH
  have hl : lv_has ls 5 [(0, .ref x), (1, .int (bI true))] := hl
  have hm := mS.rf hm0
  have hcl : cutM T ≤ T.length := ctL_le T T.length T.length T.length (Nat.le_refl _) (Nat.le_refl _)
  refine lv_aload_n hx hb d_M_takes_0 rfl (lv_at hl 0 rfl) ?_
  refine m_get hx hb hts hown hK hm 2 (by decide) (hts (.fieldLink "RegistryLogModel" 112 "RegistryLogModel" "typed" "I") (in_4 (List.mem_of_getElem? (i := 211) rfl) rfl)) rfl (v := .int (nI T.length)) (congrArg (fun z => some (Value.int z)) hty) d_M_takes_1 ?_
  refine lv_istore_n (lv' := [(2, .int (nI T.length)), (0, .ref x), (1, .int (bI true))]) hx hb d_M_takes_4 rfl hl (by decide) rfl (fun ls hl => ?_)
  refine lv_aload_n hx hb d_M_takes_5 rfl (lv_at hl 1 rfl) ?_
  refine lv_iconst (v := nI 0) hx hb d_M_takes_6 (by decide) ?_
  refine m_put hx hb hts hown hK hm 2 (by decide) (hts (.fieldLink "RegistryLogModel" 112 "RegistryLogModel" "typed" "I") (in_4 (List.mem_of_getElem? (i := 211) rfl) rfl)) rfl rfl (v := nI 0) rfl rfl rfl rfl d_M_takes_7 (fun H locs hm => ?_)
  refine lv_iload_n hx hb d_M_takes_10 rfl (lv_at hl 0 rfl) ?_
  refine lv_istore_n (lv' := [(3, .int (nI T.length)), (2, .int (nI T.length)), (0, .ref x), (1, .int (bI true))]) hx hb d_M_takes_11 rfl hl (by decide) rfl (fun ls hl => ?_)
  refine lv_iload_n hx hb d_M_takes_12 rfl (lv_at hl 1 rfl) ?_
  refine lv_iconst (v := nI 1) hx hb d_M_takes_13 (by decide) ?_
  refine lv_isub hx hb d_M_takes_14 ?_
  refine lv_istore (lv' := [(4, .int (nI T.length - nI 1)), (3, .int (nI T.length)), (2, .int (nI T.length)), (0, .ref x), (1, .int (bI true))]) hx hb d_M_takes_15 hl (by decide) rfl (fun ls hl => ?_)
  refine lp_M_takesC C0 hm T hT hc hT24 (cutM T) (fun v4 ls hl => ?_) T.length T.length (Nat.le_refl _) rfl ls (lv_sub hl [3, 4, 2, 1, 0] rfl)
  refine lv_iload_n hx hb d_M_takes_51 rfl (lv_at hl 1 rfl) ?_
  refine z_eq (tgt := 60) (v := true) hx hb d_M_takes_52 (by decide) (fun c52 => ?_) (fun c52 => ?_)
  · skip
    first | exact absurd c52 (by decide) | exact absurd (by decide) c52
  · skip
    refine lv_iload_n hx hb d_M_takes_55 rfl (lv_at hl 3 rfl) ?_
    refine lv_iload_n hx hb d_M_takes_56 rfl (lv_at hl 2 rfl) ?_
    refine n_eq (tgt := 84) (a := cutM T) (b := T.length) hx hb d_M_takes_57 (by decide) (by omega) (by omega) (fun c57 => ?_) (fun c57 => ?_)
    · skip
      refine lv_iconst (v := nI 0) hx hb d_M_takes_84 (by decide) ?_
      exact W.zret hx hb hr rfl (fun t9 ht hW => ⟨_, _, _, _, rfl, by rw [ht]; exact ⟨hm.1, hm.2.1, hm.2.2.1, fun _ h => by cases h⟩, by (try dsimp only); rw [if_neg (fun z => absurd z.1 (by omega))]; exact ⟨rfl, rfl, rfl, rfl⟩⟩) hm.2.2.2 d_M_takes_85 hlk
    · skip
      refine lv_aload_n hx hb d_M_takes_60 rfl (lv_at hl 0 rfl) ?_
      refine lv_iconst (v := nI 0) hx hb d_M_takes_61 (by decide) ?_
      refine lv_iload_n hx hb d_M_takes_62 rfl (lv_at hl 3 rfl) ?_
      refine aP (rV (As := [.int (nI 0), .int (nI (cutM T))]) (rest := []) C0 (c_M_isName l g _ x ad _ _ _ hm.1 T hT hc hT24 0 (cutM T) (Nat.zero_le _) hcl) (m_zK hZ hm) k_M_takes_63 rfl rfl ⟨Nat.le_of_ble_eq_true rfl, Nat.le_of_ble_eq_true rfl⟩ (m_recv hK hm) rfl hl.1 rfl (Nat.le_of_ble_eq_true rfl) d_M_takes_63 ⟨Nat.zero_le _, Nat.zero_le _⟩) ?_
      intro v hv; subst hv
      refine W.eq (g2 := F0 m 66 ls [.int (bI (nameM T 0 (cutM T)))]) rfl ?_
      refine z_eq (tgt := 84) (v := nameM T 0 (cutM T)) hx hb d_M_takes_66 (by decide) (fun c66 => ?_) (fun c66 => ?_)
      · skip
        refine lv_iconst (v := nI 0) hx hb d_M_takes_84 (by decide) ?_
        exact W.zret hx hb hr rfl (fun t9 ht hW => ⟨_, _, _, _, rfl, by rw [ht]; exact ⟨hm.1, hm.2.1, hm.2.2.1, fun _ h => by cases h⟩, by (try dsimp only); rw [if_neg (fun z => absurd z.2.1 (by rw [c66]; decide))]; exact ⟨rfl, rfl, rfl, rfl⟩⟩) hm.2.2.2 d_M_takes_85 hlk
      · skip
        refine lv_iload_n hx hb d_M_takes_69 rfl (lv_at hl 1 rfl) ?_
        refine z_eq (tgt := 86) (v := true) hx hb d_M_takes_70 (by decide) (fun c70 => ?_) (fun c70 => ?_)
        · skip
          first | exact absurd c70 (by decide) | exact absurd (by decide) c70
        · skip
          refine lv_aload_n hx hb d_M_takes_73 rfl (lv_at hl 0 rfl) ?_
          refine lv_iload_n hx hb d_M_takes_74 rfl (lv_at hl 3 rfl) ?_
          refine lv_iconst (v := nI 1) hx hb d_M_takes_75 (by decide) ?_
          refine n_iadd hx hb d_M_takes_76 ?_
          refine lv_iload_n hx hb d_M_takes_77 rfl (lv_at hl 2 rfl) ?_
          refine aP (rV (As := [.int (nI ((cutM T) + 1)), .int (nI T.length)]) (rest := []) C0 (c_M_isName l g _ x ad _ _ _ hm.1 T hT hc hT24 (cutM T + 1) T.length (by omega) (Nat.le_refl _)) (m_zK hZ hm) k_M_takes_78 rfl rfl ⟨Nat.le_of_ble_eq_true rfl, Nat.le_of_ble_eq_true rfl⟩ (m_recv hK hm) rfl hl.1 rfl (Nat.le_of_ble_eq_true rfl) d_M_takes_78 ⟨Nat.zero_le _, Nat.zero_le _⟩) ?_
          intro v hv; subst hv
          refine W.eq (g2 := F0 m 81 ls [.int (bI (nameM T (cutM T + 1) T.length))]) rfl ?_
          refine z_ne (tgt := 86) (v := nameM T (cutM T + 1) T.length) hx hb d_M_takes_81 (by decide) (fun c81 => ?_) (fun c81 => ?_)
          · skip
            refine lv_aload_n hx hb d_M_takes_86 rfl (lv_at hl 0 rfl) ?_
            refine lv_iload_n hx hb d_M_takes_87 rfl (lv_at hl 3 rfl) ?_
            refine m_put hx hb hts hown hK hm 32 (by decide) (hts (.fieldLink "RegistryLogModel" 123 "RegistryLogModel" "oneSize" "I") (in_5 (List.mem_of_getElem? (i := 1) rfl) rfl)) rfl rfl (v := nI (cutM T)) rfl rfl rfl rfl d_M_takes_88 (fun H locs hm => ?_)
            refine lv_iconst (v := nI 0) hx hb d_M_takes_91 (by decide) ?_
            refine lv_istore (lv' := [(4, .int (nI 0)), (0, .ref x), (1, .int (bI true)), (2, .int (nI T.length)), (3, .int (nI (cutM T)))]) hx hb d_M_takes_92 hl (by decide) rfl (fun ls hl => ?_)
            have h10 := nameM_le c66
            have h11 := nameM_le c81
            refine lp_M_takes1 C0 (F := (upd (upd F 2 (nI 0)) 32 (nI (cutM T)))) (A := A) true T.length (cutM T) (by omega) (fun H locs hm ls hl => ?_) (cutM T + 1) 0 H locs (Nat.zero_le _) (by omega) (by rw [cpy_0, updA_id]; exact hm) ls (lv_sub hl [1, 2, 3, 4, 0] rfl)
            refine lv_aload_n hx hb d_M_takes_120 rfl (lv_at hl 0 rfl) ?_
            refine lv_iload_n hx hb d_M_takes_121 rfl (lv_at hl 1 rfl) ?_
            refine z_eq (tgt := 133) (v := true) hx hb d_M_takes_122 (by decide) (fun c122 => ?_) (fun c122 => ?_)
            · skip
              first | exact absurd c122 (by decide) | exact absurd (by decide) c122
            · skip
              refine lv_iload_n hx hb d_M_takes_125 rfl (lv_at hl 2 rfl) ?_
              refine lv_iload_n hx hb d_M_takes_126 rfl (lv_at hl 3 rfl) ?_
              refine n_isub hx hb (by omega) d_M_takes_127 ?_
              refine lv_iconst (v := nI 1) hx hb d_M_takes_128 (by decide) ?_
              refine n_isub hx hb (by omega) d_M_takes_129 ?_
              refine lv_goto (tgt := 134) hx hb d_M_takes_130 (by decide) ?_
              refine m_put hx hb hts hown hK hm 33 (by decide) (hts (.fieldLink "RegistryLogModel" 126 "RegistryLogModel" "twoSize" "I") (in_5 (List.mem_of_getElem? (i := 2) rfl) rfl)) rfl rfl (v := nI ((T.length - (cutM T)) - 1)) rfl rfl rfl rfl d_M_takes_134 (fun H locs hm => ?_)
              refine lv_iconst (v := nI 0) hx hb d_M_takes_137 (by decide) ?_
              refine lv_istore (lv' := [(4, .int (nI 0)), (0, .ref x), (1, .int (bI true)), (2, .int (nI T.length)), (3, .int (nI (cutM T)))]) hx hb d_M_takes_138 hl (by decide) rfl (fun ls hl => ?_)
              refine lp_M_takes2 C0 (F := (upd (upd (upd F 2 (nI 0)) 32 (nI (cutM T))) 33 (nI ((T.length - (cutM T)) - 1)))) (A := (updA A 30 (va_cpy (A 1) (A 30) 0 0 (cutM T)))) true T.length (cutM T) (T.length - cutM T - 1) (by omega) (by omega) rfl (fun H locs hm ls hl => ?_) (T.length - cutM T - 1 + 1) 0 H locs (Nat.zero_le _) (by omega) (by rw [cpy_0, updA_id]; exact hm) ls (lv_sub hl [1, 2, 3, 4, 0] rfl)
              refine lv_iconst (v := nI 1) hx hb d_M_takes_173 (by decide) ?_
              exact W.zret hx hb hr rfl (fun t9 ht hW => ⟨_, _, _, _, rfl, by rw [ht]; exact ⟨hm.1, hm.2.1, hm.2.2.1, fun _ h => by cases h⟩, by (try dsimp only); rw [if_pos ⟨by omega, c66, c81⟩]; exact ⟨rfl, rfl, rfl, rfl⟩⟩) hm.2.2.2 d_M_takes_174 hlk
          · skip
            refine lv_iconst (v := nI 0) hx hb d_M_takes_84 (by decide) ?_
            exact W.zret hx hb hr rfl (fun t9 ht hW => ⟨_, _, _, _, rfl, by rw [ht]; exact ⟨hm.1, hm.2.1, hm.2.2.1, fun _ h => by cases h⟩, by (try dsimp only); rw [if_neg (fun z => absurd z.2.2 (by rw [c81]; decide))]; exact ⟨rfl, rfl, rfl, rfl⟩⟩) hm.2.2.2 d_M_takes_85 hlk
theorem k_M_goDown_55 : kS "RegistryLogModel" 234 y_M_half b_M_half 2 (some .int) 1 := ⟨(in_6 (List.mem_of_getElem? (i := 6) rfl) rfl), (in_6 (List.mem_of_getElem? (i := 7) rfl) rfl), (in_1 (List.mem_of_getElem? (i := 22) rfl) rfl), (in_6 (List.mem_of_getElem? (i := 8) rfl) rfl), ⟨by decide, by decide, by decide +kernel⟩⟩
def goF (F : Nat → Int32) (st rf rn ri : Nat) (wb : Bool) : Nat → Int32 := upd (upd (upd (upd (upd F 41 (nI st)) 42 (nI rf)) 43 (nI rn)) 44 (nI ri)) 45 (bI wb)
theorem goF_n (F : Nat → Int32) (st rf rn ri st2 rf2 rn2 ri2 : Nat) (wb wb2 : Bool) : upd (upd (upd (upd (upd (goF F st rf rn ri wb) 41 (nI st2)) 44 (nI ri2)) 42 (nI rf2)) 43 (nI rn2)) 45 (bI wb2) = goF F st2 rf2 rn2 ri2 wb2 := by
  funext k
  unfold goF upd
  by_cases h1 : k = 41 <;> by_cases h2 : k = 42 <;> by_cases h3 : k = 43 <;> by_cases h4 : k = 44 <;> by_cases h5 : k = 45 <;> simp [h1, h2, h3, h4, h5] <;> omega
def goA (A : Nat → Nat → Int32) (f1 f2 f3 : Nat → Int32) : Nat → Nat → Int32 := updA (updA (updA A 38 f1) 39 f2) 40 f3
theorem goA_n (A : Nat → Nat → Int32) (f1 f2 f3 g1 g2 g3 : Nat → Int32) : updA (updA (updA (goA A f1 f2 f3) 38 g1) 39 g2) 40 g3 = goA A g1 g2 g3 := by
  funext k
  unfold goA updA
  by_cases h1 : k = 38 <;> by_cases h2 : k = 39 <;> by_cases h3 : k = 40 <;> simp [h1, h2, h3] <;> omega
/-- the way down: of each step the other part (from, how many) and whether it is the second; then what is left -/
def gdR (gr : Bool) : Nat → Nat → Nat → Nat → Bool → List (Nat × Nat × Bool) × Nat × Nat × Nat × Bool
  | 0, rf, rn, ri, wb => ([], rf, rn, ri, wb)
  | d + 1, rf, rn, ri, wb =>
    if (if gr then ri < rn else 1 < rn) then
      let lf : Bool := if gr then decide (ri ≤ fpS rn) else decide (ri < fpS rn)
      let r := gdR gr d (if lf then rf else rf + fpS rn) (if lf then fpS rn else rn - fpS rn) (if lf then ri else ri - fpS rn) (wb && lf)
      ((if lf then rf + fpS rn else rf, if lf then rn - fpS rn else fpS rn, lf) :: r.1, r.2)
    else ([], rf, rn, ri, wb)
