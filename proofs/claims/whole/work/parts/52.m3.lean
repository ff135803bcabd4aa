def vaL (A : Nat → Nat → Int32) (o v : Int32) : Nat → Nat → Int32 → Int32
  | 0, _, r => r
  | n + 1, i, r => vaL A o v n (i + 1) (if A 23 i = o ∧ A 24 i = v then nI i else r)
set_option maxHeartbeats 4000000 in
set_option maxRecDepth 100000 in
theorem lp_M_versionAt {p : Program} {l : Launch} {e : Env} {s : State} {m : MethodId} {args : Array Value} {below : List Frame} {meth : Method} {c : Code} {g : gG} (C0 : cF g p s m args meth c b_M_versionAt 5 "RegistryLogModel" (some .int)) (hZ : zK g s s.heap) {x : Nat} {ad : Nat → Nat} {F : Nat → Int32} {A : Nat → Nat → Int32} {B : Nat → Nat → Int64} (hm : mS g s.heap s.heap x ad F A B []) (nv : Nat) (hv : F 29 = nI nv) (hv2 : nv ≤ 120) (o v0 res : Int32) :
    ∀ (n i : Nat) (r : Int32), i ≤ nv → nv + 1 ≤ i + n → vaL A o v0 (nv - i) i r = res → ∀ (ls : Array Slot), lv_has ls 5 [(0, .ref x), (1, .int o), (2, .int v0), (3, .int r), (4, .int (nI i))] → W p l e (rmk 0 0 0 0) s m args below meth c s.heap [] 0 0 (MQ below (qP s.heap (fun v => v = some (.int res))) args s 0 0 no_) (F0 m 5 ls []) := by
  obtain ⟨hx, hb, hml, hown, hts, hr, hlk, hK⟩ := id C0
  intro n
  induction n with
  | zero => intro i r h1 h2; exact absurd h2 (by omega)
  | succ n ih =>
    intro i r hi hin hres ls hl
    refine lv_iload hx hb d_M_versionAt_5 (lv_at hl 4 rfl) ?_
    refine lv_aload_n hx hb d_M_versionAt_7 rfl (lv_at hl 0 rfl) ?_
    refine m_get hx hb hts hown hK hm 29 (by decide) (hts (.fieldLink "RegistryLogModel" 136 "RegistryLogModel" "versions" "I") (in_4 (List.mem_of_getElem? (i := 238) rfl) rfl)) rfl (v := .int (nI nv)) (congrArg (fun z => some (Value.int z)) hv) d_M_versionAt_8 ?_
    refine n_ge (tgt := 49) (a := i) (b := nv) hx hb d_M_versionAt_11 (by decide) (by omega) (by omega) (fun c11 => ?_) (fun c11 => ?_)
    · skip
      refine lv_iload_n hx hb d_M_versionAt_49 rfl (lv_at hl 3 rfl) ?_
      rw [show nv - i = 0 by omega] at hres
      exact W.iret hx hb hr (fun t9 ht hW => ⟨_, rfl, by rw [← hres]; rfl, ht⟩) (fun q h => by cases h) d_M_versionAt_50 hlk
    · skip
      refine lv_aload_n hx hb d_M_versionAt_14 rfl (lv_at hl 0 rfl) ?_
      refine m_get hx hb hts hown hK hm 23 (by decide) (hts (.fieldLink "RegistryLogModel" 68 "RegistryLogModel" "versionOf" "[I") (in_4 (List.mem_of_getElem? (i := 232) rfl) rfl)) rfl (v := .ref (ad 23)) rfl d_M_versionAt_15 ?_
      refine lv_iload hx hb d_M_versionAt_18 (lv_at hl 4 rfl) ?_
      refine m_ld hx hb hK hm 23 rfl i rfl (show i < 120 from by omega) d_M_versionAt_20 ?_
      refine lv_iload_n hx hb d_M_versionAt_21 rfl (lv_at hl 1 rfl) ?_
      refine lv_icmp_ne (tgt := 41) hx hb d_M_versionAt_22 (by decide) (fun c22 => ?_) (fun c22 => ?_)
      · skip
        refine lv_iload_n hx hb d_M_versionAt_41 rfl (lv_at hl 3 rfl) ?_
        refine lv_istore_n (lv' := [(3, .int r), (0, .ref x), (1, .int o), (2, .int v0), (4, .int (nI i))]) hx hb d_M_versionAt_42 rfl hl (by decide) rfl (fun ls hl => ?_)
        refine n_inc (a := i) (lv' := [(4, .int (nI (i + 1))), (3, .int r), (0, .ref x), (1, .int o), (2, .int v0)]) hx hb d_M_versionAt_43 hl (k := 4) rfl (by decide) rfl (fun ls hl => ?_)
        refine lv_goto (tgt := 5) hx hb d_M_versionAt_46 (by decide) ?_
        rw [show nv - i = (nv - (i + 1)) + 1 by omega, vaL, if_neg (fun z => c22 z.1)] at hres
        exact ih (i + 1) _ c11 (by omega) hres ls (lv_sub hl [2, 3, 4, 1, 0] rfl)
      · skip
        refine lv_aload_n hx hb d_M_versionAt_25 rfl (lv_at hl 0 rfl) ?_
        refine m_get hx hb hts hown hK hm 24 (by decide) (hts (.fieldLink "RegistryLogModel" 71 "RegistryLogModel" "versionNumber" "[I") (in_4 (List.mem_of_getElem? (i := 233) rfl) rfl)) rfl (v := .ref (ad 24)) rfl d_M_versionAt_26 ?_
        refine lv_iload hx hb d_M_versionAt_29 (lv_at hl 4 rfl) ?_
        refine m_ld hx hb hK hm 24 rfl i rfl (show i < 120 from by omega) d_M_versionAt_31 ?_
        refine lv_iload_n hx hb d_M_versionAt_32 rfl (lv_at hl 2 rfl) ?_
        refine lv_icmp_ne (tgt := 41) hx hb d_M_versionAt_33 (by decide) (fun c33 => ?_) (fun c33 => ?_)
        · skip
          refine lv_iload_n hx hb d_M_versionAt_41 rfl (lv_at hl 3 rfl) ?_
          refine lv_istore_n (lv' := [(3, .int r), (0, .ref x), (1, .int o), (2, .int v0), (4, .int (nI i))]) hx hb d_M_versionAt_42 rfl hl (by decide) rfl (fun ls hl => ?_)
          refine n_inc (a := i) (lv' := [(4, .int (nI (i + 1))), (3, .int r), (0, .ref x), (1, .int o), (2, .int v0)]) hx hb d_M_versionAt_43 hl (k := 4) rfl (by decide) rfl (fun ls hl => ?_)
          refine lv_goto (tgt := 5) hx hb d_M_versionAt_46 (by decide) ?_
          rw [show nv - i = (nv - (i + 1)) + 1 by omega, vaL, if_neg (fun z => c33 z.2)] at hres
          exact ih (i + 1) _ c11 (by omega) hres ls (lv_sub hl [2, 3, 4, 1, 0] rfl)
        · skip
          refine lv_iload hx hb d_M_versionAt_36 (lv_at hl 4 rfl) ?_
          refine lv_goto (tgt := 42) hx hb d_M_versionAt_38 (by decide) ?_
          refine lv_istore_n (lv' := [(3, .int (nI i)), (0, .ref x), (1, .int o), (2, .int v0), (4, .int (nI i))]) hx hb d_M_versionAt_42 rfl hl (by decide) rfl (fun ls hl => ?_)
          refine n_inc (a := i) (lv' := [(4, .int (nI (i + 1))), (3, .int (nI i)), (0, .ref x), (1, .int o), (2, .int v0)]) hx hb d_M_versionAt_43 hl (k := 4) rfl (by decide) rfl (fun ls hl => ?_)
          refine lv_goto (tgt := 5) hx hb d_M_versionAt_46 (by decide) ?_
          rw [show nv - i = (nv - (i + 1)) + 1 by omega, vaL, if_pos ⟨c22, c33⟩] at hres
          exact ih (i + 1) _ c11 (by omega) hres ls (lv_sub hl [2, 3, 4, 1, 0] rfl)
set_option maxHeartbeats 4000000 in
set_option maxRecDepth 100000 in
/-- versionAt(owner, number) -/
theorem c_M_versionAt (l : Launch) (g : gG) (H : Heap) (x : Nat) (ad : Nat → Nat) (F : Nat → Int32) (A : Nat → Nat → Int32) (B : Nat → Nat → Int64) (hm0 : mW g H x ad F A B) (nv : Nat) (hv : F 29 = nI nv) (hv2 : nv ≤ 120) (o v0 : Int32) : Met l y_M_versionAt (wC y_M_versionAt b_M_versionAt 5 (some .int)) (rmk 0 0 0 0) (pC g H [.ref x, .int o, .int v0]) (qP H (fun v => v = some (.int (vaL A o v0 nv 0 (-1))))) 0 0 no_ := by
  refine mB (by decide) (Nat.le_of_ble_eq_true rfl) ?_
  intro p e s m below meth c ls C0 hH hZ hnm hl
  have C0 : cF g p s m _ meth c b_M_versionAt 5 "RegistryLogModel" (some .int) := C0
  obtain ⟨hx, hb, hml, hown, hts, hr, hlk, hK⟩ := id C0
  subst hH
  have hl : lv_has ls 5 [(0, .ref x), (1, .int o), (2, .int v0)] := hl
  have hm := mS.rf hm0
  refine lv_iconst (v := (-1)) hx hb d_M_versionAt_0 (by decide) ?_
  refine lv_istore_n (lv' := [(3, .int ((-1))), (0, .ref x), (1, .int o), (2, .int v0)]) hx hb d_M_versionAt_1 rfl hl (by decide) rfl (fun ls hl => ?_)
  refine lv_iconst (v := nI 0) hx hb d_M_versionAt_2 (by decide) ?_
  refine lv_istore (lv' := [(4, .int (nI 0)), (3, .int ((-1))), (0, .ref x), (1, .int o), (2, .int v0)]) hx hb d_M_versionAt_3 hl (by decide) rfl (fun ls hl => ?_)
  exact lp_M_versionAt C0 hZ hm nv hv hv2 o v0 _ (nv + 1) 0 (-1) (Nat.zero_le _) (by omega) rfl ls (lv_sub hl [2, 3, 4, 1, 0] rfl)
/-- the first i letters of name k and of what lies at fr in the array j agree, and the sizes do -/
def eqP (A : Nat → Nat → Int32) (k j fr n : Nat) : Nat → Bool
  | 0 => decide (A 18 k = nI n)
  | i + 1 => eqP A k j fr n i && decide (A 17 (10 * k + i) = A j (fr + i))
theorem eqP_false {A : Nat → Nat → Int32} {k j fr n i : Nat} (h : eqP A k j fr n i = false) : ∀ d, eqP A k j fr n (i + d) = false
  | 0 => h
  | d + 1 => by rw [← Nat.add_assoc, eqP, eqP_false h d]; rfl
def metA (A : Nat → Nat → Int32) (j fr n : Nat) : Nat → Nat → Int32 → Int32
  | 0, _, r => r
  | c + 1, k, r => metA A j fr n c (k + 1) (if eqP A k j fr n n then nI k else r)
set_option maxHeartbeats 4000000 in
set_option maxRecDepth 100000 in
theorem lp_M_met_in {p : Program} {l : Launch} {e : Env} {s : State} {m : MethodId} {args : Array Value} {below : List Frame} {meth : Method} {c : Code} {g : gG} {R : Room} {Q : State → Prop} (C0 : cF g p s m args meth c b_M_met 8 "RegistryLogModel" (some .int)) (hZ : zK g s s.heap) {x : Nat} {ad : Nat → Nat} {F : Nat → Int32} {A : Nat → Nat → Int32} {B : Nat → Nat → Int64} (j fr n0 k : Nat) (hj : mK j = 1) (hn0 : n0 ≤ 10) (hfr : fr + n0 ≤ mLen j) (hk : k < 240) (r : Int32) (K : ∀ (i7 : Nat) (H : Heap) (locs : List Loc), mS g s.heap H x ad F A B locs → ∀ (ls : Array Slot), lv_has ls 8 [(0, .ref x), (1, .ref (ad j)), (2, .int (nI fr)), (3, .int (nI n0)), (4, .int r), (5, .int (nI k)), (6, .int (bI (eqP A k j fr n0 n0))), (7, .int (nI i7))] → W p l e R s m args below meth c H locs 0 0 Q (F0 m 82 ls [])) :
    ∀ (n i : Nat) (b0 : Bool) (H : Heap) (locs : List Loc), i ≤ n0 → n0 + 1 ≤ i + n → mS g s.heap H x ad F A B locs → b0 = eqP A k j fr n0 i → ∀ (ls : Array Slot), lv_has ls 8 [(0, .ref x), (1, .ref (ad j)), (2, .int (nI fr)), (3, .int (nI n0)), (4, .int r), (5, .int (nI k)), (6, .int (bI b0)), (7, .int (nI i))] → W p l e R s m args below meth c H locs 0 0 Q (F0 m 36 ls []) := by
  obtain ⟨hx, hb, hml, hown, hts, hr, hlk, hK⟩ := id C0
  have hml9 := mLen_lt j
  intro n
  induction n with
  | zero => intro i b0 H locs h1 h2; exact absurd h2 (by omega)
  | succ n ih =>
    intro i b0 H locs hi hin hm hb0 ls hl
    refine lv_iload hx hb d_M_met_36 (lv_at hl 7 rfl) ?_
    refine lv_iload_n hx hb d_M_met_38 rfl (lv_at hl 3 rfl) ?_
    refine n_ge (tgt := 82) (a := i) (b := n0) hx hb d_M_met_39 (by decide) (by omega) (by omega) (fun c39 => ?_) (fun c39 => ?_)
    · skip
      have e9 : i = n0 := by omega
      subst e9
      rw [hb0] at hl
      exact K _ H locs hm ls (lv_sub hl [0, 1, 2, 3, 4, 5, 6, 7] rfl)
    · skip
      refine lv_iload hx hb d_M_met_42 (lv_at hl 6 rfl) ?_
      refine z_eq (tgt := 82) (v := b0) hx hb d_M_met_44 (by decide) (fun c44 => ?_) (fun c44 => ?_)
      · skip
        have q9 := eqP_false (show eqP A k j fr n0 i = false from by rw [← hb0]; exact c44) (n0 - i)
        rw [show i + (n0 - i) = n0 by omega] at q9
        have e9 : b0 = eqP A k j fr n0 n0 := by rw [c44, q9]
        rw [e9] at hl
        exact K _ H locs hm ls (lv_sub hl [0, 1, 2, 3, 4, 5, 6, 7] rfl)
      · skip
        refine lv_aload_n hx hb d_M_met_47 rfl (lv_at hl 0 rfl) ?_
        refine m_get hx hb hts hown hK hm 17 (by decide) (hts (.fieldLink "RegistryLogModel" 50 "RegistryLogModel" "nameLetters" "[I") (in_4 (List.mem_of_getElem? (i := 226) rfl) rfl)) rfl (v := .ref (ad 17)) rfl d_M_met_48 ?_
        refine lv_bipush (v := nI 10) hx hb d_M_met_51 (by decide) ?_
        refine lv_iload hx hb d_M_met_53 (lv_at hl 5 rfl) ?_
        refine n_imul hx hb d_M_met_55 ?_
        refine lv_iload hx hb d_M_met_56 (lv_at hl 7 rfl) ?_
        refine n_iadd hx hb d_M_met_58 ?_
        refine m_ld hx hb hK hm 17 rfl ((10 * k) + i) rfl (show (10 * k) + i < 2400 from by omega) d_M_met_59 ?_
        refine lv_aload_n hx hb d_M_met_60 rfl (lv_at hl 1 rfl) ?_
        refine lv_iload_n hx hb d_M_met_61 rfl (lv_at hl 2 rfl) ?_
        refine lv_iload hx hb d_M_met_62 (lv_at hl 7 rfl) ?_
        refine n_iadd hx hb d_M_met_64 ?_
        refine m_ld hx hb hK hm j hj (fr + i) rfl (by omega) d_M_met_65 ?_
        refine lv_icmp_ne (tgt := 73) hx hb d_M_met_66 (by decide) (fun c66 => ?_) (fun c66 => ?_)
        · skip
          refine lv_iconst (v := nI 0) hx hb d_M_met_73 (by decide) ?_
          refine lv_istore (lv' := [(6, .int (nI 0)), (0, .ref x), (1, .ref (ad j)), (2, .int (nI fr)), (3, .int (nI n0)), (4, .int r), (5, .int (nI k)), (7, .int (nI i))]) hx hb d_M_met_74 hl (by decide) rfl (fun ls hl => ?_)
          refine n_inc (a := i) (lv' := [(7, .int (nI (i + 1))), (6, .int (nI 0)), (0, .ref x), (1, .ref (ad j)), (2, .int (nI fr)), (3, .int (nI n0)), (4, .int r), (5, .int (nI k))]) hx hb d_M_met_76 hl (k := 7) rfl (by decide) rfl (fun ls hl => ?_)
          refine lv_goto (tgt := 36) hx hb d_M_met_79 (by decide) ?_
          exact ih (i + 1) false H locs c39 (by omega) hm (by rw [eqP, ← hb0, c44, decide_eq_false c66]; rfl) ls (lv_sub hl [2, 3, 4, 5, 6, 7, 1, 0] rfl)
        · skip
          refine lv_iconst (v := nI 1) hx hb d_M_met_69 (by decide) ?_
          refine lv_goto (tgt := 74) hx hb d_M_met_70 (by decide) ?_
          refine lv_istore (lv' := [(6, .int (nI 1)), (0, .ref x), (1, .ref (ad j)), (2, .int (nI fr)), (3, .int (nI n0)), (4, .int r), (5, .int (nI k)), (7, .int (nI i))]) hx hb d_M_met_74 hl (by decide) rfl (fun ls hl => ?_)
          refine n_inc (a := i) (lv' := [(7, .int (nI (i + 1))), (6, .int (nI 1)), (0, .ref x), (1, .ref (ad j)), (2, .int (nI fr)), (3, .int (nI n0)), (4, .int r), (5, .int (nI k))]) hx hb d_M_met_76 hl (k := 7) rfl (by decide) rfl (fun ls hl => ?_)
          refine lv_goto (tgt := 36) hx hb d_M_met_79 (by decide) ?_
          exact ih (i + 1) true H locs c39 (by omega) hm (by rw [eqP, ← hb0, c44, decide_eq_true c66]; rfl) ls (lv_sub hl [2, 3, 4, 5, 6, 7, 1, 0] rfl)
set_option maxHeartbeats 4000000 in
set_option maxRecDepth 100000 in
theorem lp_M_met {p : Program} {l : Launch} {e : Env} {s : State} {m : MethodId} {args : Array Value} {below : List Frame} {meth : Method} {c : Code} {g : gG} (C0 : cF g p s m args meth c b_M_met 8 "RegistryLogModel" (some .int)) (hZ : zK g s s.heap) {x : Nat} {ad : Nat → Nat} {F : Nat → Int32} {A : Nat → Nat → Int32} {B : Nat → Nat → Int64} (j fr n0 cn : Nat) (hj : mK j = 1) (hn0 : n0 ≤ 10) (hfr : fr + n0 ≤ mLen j) (hcn : F 27 = nI cn) (hcn2 : cn ≤ 240) (res : Int32) :
    ∀ (n i : Nat) (r : Int32) (H : Heap) (locs : List Loc), i ≤ cn → cn + 1 ≤ i + n → mS g s.heap H x ad F A B locs → metA A j fr n0 (cn - i) i r = res → ∀ (ls : Array Slot), lv_has ls 8 [(0, .ref x), (1, .ref (ad j)), (2, .int (nI fr)), (3, .int (nI n0)), (4, .int r), (5, .int (nI i))] → W p l e (rmk 0 0 0 0) s m args below meth c H locs 0 0 (MQ below (qM g s.heap x ad (fun v F1 A1 B1 => v = some (.int res) ∧ F1 = F ∧ A1 = A ∧ B1 = B)) args s 0 0 (mN x ad)) (F0 m 6 ls []) := by
  obtain ⟨hx, hb, hml, hown, hts, hr, hlk, hK⟩ := id C0
  have hml9 := mLen_lt j
  intro n
  induction n with
  | zero => intro i r H locs h1 h2; exact absurd h2 (by omega)
  | succ n ih =>
    intro i r H locs hi hin hm hres ls hl
    refine lv_iload hx hb d_M_met_6 (lv_at hl 5 rfl) ?_
    refine lv_aload_n hx hb d_M_met_8 rfl (lv_at hl 0 rfl) ?_
    refine m_get hx hb hts hown hK hm 27 (by decide) (hts (.fieldLink "RegistryLogModel" 133 "RegistryLogModel" "names" "I") (in_4 (List.mem_of_getElem? (i := 236) rfl) rfl)) rfl (v := .int (nI cn)) (congrArg (fun z => some (Value.int z)) hcn) d_M_met_9 ?_
    refine n_ge (tgt := 102) (a := i) (b := cn) hx hb d_M_met_12 (by decide) (by omega) (by omega) (fun c12 => ?_) (fun c12 => ?_)
    · skip
      refine lv_iload hx hb d_M_met_102 (lv_at hl 4 rfl) ?_
      rw [show cn - i = 0 by omega] at hres
      exact W.iret hx hb hr (fun t9 ht hW => ⟨_, _, _, _, rfl, by rw [ht]; exact ⟨hm.1, hm.2.1, hm.2.2.1, fun _ h => by cases h⟩, by rw [← hres]; rfl, rfl, rfl, rfl⟩) hm.2.2.2 d_M_met_104 hlk
    · skip
      refine lv_aload_n hx hb d_M_met_15 rfl (lv_at hl 0 rfl) ?_
      refine m_get hx hb hts hown hK hm 18 (by decide) (hts (.fieldLink "RegistryLogModel" 53 "RegistryLogModel" "nameSize" "[I") (in_4 (List.mem_of_getElem? (i := 227) rfl) rfl)) rfl (v := .ref (ad 18)) rfl d_M_met_16 ?_
      refine lv_iload hx hb d_M_met_19 (lv_at hl 5 rfl) ?_
      refine m_ld hx hb hK hm 18 rfl i rfl (show i < 240 from by omega) d_M_met_21 ?_
      refine lv_iload_n hx hb d_M_met_22 rfl (lv_at hl 3 rfl) ?_
      refine lv_icmp_ne (tgt := 30) hx hb d_M_met_23 (by decide) (fun c23 => ?_) (fun c23 => ?_)
      · skip
        refine lv_iconst (v := nI 0) hx hb d_M_met_30 (by decide) ?_
        refine lv_istore (lv' := [(6, .int (nI 0)), (0, .ref x), (1, .ref (ad j)), (2, .int (nI fr)), (3, .int (nI n0)), (4, .int r), (5, .int (nI i))]) hx hb d_M_met_31 hl (by decide) rfl (fun ls hl => ?_)
        refine lv_iconst (v := nI 0) hx hb d_M_met_33 (by decide) ?_
        refine lv_istore (lv' := [(7, .int (nI 0)), (6, .int (nI 0)), (0, .ref x), (1, .ref (ad j)), (2, .int (nI fr)), (3, .int (nI n0)), (4, .int r), (5, .int (nI i))]) hx hb d_M_met_34 hl (by decide) rfl (fun ls hl => ?_)
        refine lp_M_met_in C0 hZ j fr n0 i hj hn0 hfr (by omega) r (fun i7 H locs hm ls hl => ?_) (n0 + 1) 0 false H locs (Nat.zero_le _) (by omega) hm (by rw [eqP, decide_eq_false c23]) ls (lv_sub hl [2, 3, 4, 5, 6, 7, 1, 0] rfl)
        refine lv_iload hx hb d_M_met_82 (lv_at hl 6 rfl) ?_
        refine z_eq (tgt := 92) (v := eqP A i j fr n0 n0) hx hb d_M_met_84 (by decide) (fun c84 => ?_) (fun c84 => ?_)
        · skip
          refine lv_iload hx hb d_M_met_92 (lv_at hl 4 rfl) ?_
          refine lv_istore (lv' := [(4, .int r), (0, .ref x), (1, .ref (ad j)), (2, .int (nI fr)), (3, .int (nI n0)), (5, .int (nI i)), (6, .int (bI (eqP A i j fr n0 n0))), (7, .int (nI i7))]) hx hb d_M_met_94 hl (by decide) rfl (fun ls hl => ?_)
          refine n_inc (a := i) (lv' := [(5, .int (nI (i + 1))), (4, .int r), (0, .ref x), (1, .ref (ad j)), (2, .int (nI fr)), (3, .int (nI n0)), (6, .int (bI (eqP A i j fr n0 n0))), (7, .int (nI i7))]) hx hb d_M_met_96 hl (k := 5) rfl (by decide) rfl (fun ls hl => ?_)
          refine lv_goto (tgt := 6) hx hb d_M_met_99 (by decide) ?_
          rw [show cn - i = (cn - (i + 1)) + 1 by omega, metA, if_neg (by rw [c84]; decide)] at hres
          exact ih (i + 1) _ H locs c12 (by omega) hm hres ls (lv_sub hl [2, 3, 4, 5, 1, 0] rfl)
        · skip
          refine lv_iload hx hb d_M_met_87 (lv_at hl 5 rfl) ?_
          refine lv_goto (tgt := 94) hx hb d_M_met_89 (by decide) ?_
          refine lv_istore (lv' := [(4, .int (nI i)), (0, .ref x), (1, .ref (ad j)), (2, .int (nI fr)), (3, .int (nI n0)), (5, .int (nI i)), (6, .int (bI (eqP A i j fr n0 n0))), (7, .int (nI i7))]) hx hb d_M_met_94 hl (by decide) rfl (fun ls hl => ?_)
          refine n_inc (a := i) (lv' := [(5, .int (nI (i + 1))), (4, .int (nI i)), (0, .ref x), (1, .ref (ad j)), (2, .int (nI fr)), (3, .int (nI n0)), (6, .int (bI (eqP A i j fr n0 n0))), (7, .int (nI i7))]) hx hb d_M_met_96 hl (k := 5) rfl (by decide) rfl (fun ls hl => ?_)
          refine lv_goto (tgt := 6) hx hb d_M_met_99 (by decide) ?_
          rw [show cn - i = (cn - (i + 1)) + 1 by omega, metA, if_pos c84] at hres
          exact ih (i + 1) _ H locs c12 (by omega) hm hres ls (lv_sub hl [2, 3, 4, 5, 1, 0] rfl)
      · skip
        refine lv_iconst (v := nI 1) hx hb d_M_met_26 (by decide) ?_
        refine lv_goto (tgt := 31) hx hb d_M_met_27 (by decide) ?_
        refine lv_istore (lv' := [(6, .int (nI 1)), (0, .ref x), (1, .ref (ad j)), (2, .int (nI fr)), (3, .int (nI n0)), (4, .int r), (5, .int (nI i))]) hx hb d_M_met_31 hl (by decide) rfl (fun ls hl => ?_)
        refine lv_iconst (v := nI 0) hx hb d_M_met_33 (by decide) ?_
        refine lv_istore (lv' := [(7, .int (nI 0)), (6, .int (nI 1)), (0, .ref x), (1, .ref (ad j)), (2, .int (nI fr)), (3, .int (nI n0)), (4, .int r), (5, .int (nI i))]) hx hb d_M_met_34 hl (by decide) rfl (fun ls hl => ?_)
        refine lp_M_met_in C0 hZ j fr n0 i hj hn0 hfr (by omega) r (fun i7 H locs hm ls hl => ?_) (n0 + 1) 0 true H locs (Nat.zero_le _) (by omega) hm (by rw [eqP, decide_eq_true c23]) ls (lv_sub hl [2, 3, 4, 5, 6, 7, 1, 0] rfl)
        refine lv_iload hx hb d_M_met_82 (lv_at hl 6 rfl) ?_
        refine z_eq (tgt := 92) (v := eqP A i j fr n0 n0) hx hb d_M_met_84 (by decide) (fun c84 => ?_) (fun c84 => ?_)
        · skip
          refine lv_iload hx hb d_M_met_92 (lv_at hl 4 rfl) ?_
          refine lv_istore (lv' := [(4, .int r), (0, .ref x), (1, .ref (ad j)), (2, .int (nI fr)), (3, .int (nI n0)), (5, .int (nI i)), (6, .int (bI (eqP A i j fr n0 n0))), (7, .int (nI i7))]) hx hb d_M_met_94 hl (by decide) rfl (fun ls hl => ?_)
          refine n_inc (a := i) (lv' := [(5, .int (nI (i + 1))), (4, .int r), (0, .ref x), (1, .ref (ad j)), (2, .int (nI fr)), (3, .int (nI n0)), (6, .int (bI (eqP A i j fr n0 n0))), (7, .int (nI i7))]) hx hb d_M_met_96 hl (k := 5) rfl (by decide) rfl (fun ls hl => ?_)
          refine lv_goto (tgt := 6) hx hb d_M_met_99 (by decide) ?_
          rw [show cn - i = (cn - (i + 1)) + 1 by omega, metA, if_neg (by rw [c84]; decide)] at hres
          exact ih (i + 1) _ H locs c12 (by omega) hm hres ls (lv_sub hl [2, 3, 4, 5, 1, 0] rfl)
        · skip
          refine lv_iload hx hb d_M_met_87 (lv_at hl 5 rfl) ?_
          refine lv_goto (tgt := 94) hx hb d_M_met_89 (by decide) ?_
          refine lv_istore (lv' := [(4, .int (nI i)), (0, .ref x), (1, .ref (ad j)), (2, .int (nI fr)), (3, .int (nI n0)), (5, .int (nI i)), (6, .int (bI (eqP A i j fr n0 n0))), (7, .int (nI i7))]) hx hb d_M_met_94 hl (by decide) rfl (fun ls hl => ?_)
          refine n_inc (a := i) (lv' := [(5, .int (nI (i + 1))), (4, .int (nI i)), (0, .ref x), (1, .ref (ad j)), (2, .int (nI fr)), (3, .int (nI n0)), (6, .int (bI (eqP A i j fr n0 n0))), (7, .int (nI i7))]) hx hb d_M_met_96 hl (k := 5) rfl (by decide) rfl (fun ls hl => ?_)
          refine lv_goto (tgt := 6) hx hb d_M_met_99 (by decide) ?_
          rw [show cn - i = (cn - (i + 1)) + 1 by omega, metA, if_pos c84] at hres
          exact ih (i + 1) _ H locs c12 (by omega) hm hres ls (lv_sub hl [2, 3, 4, 5, 1, 0] rfl)
set_option maxHeartbeats 4000000 in
set_option maxRecDepth 100000 in
/-- met(row, from, n) -/
theorem c_M_met (l : Launch) (g : gG) (H : Heap) (x : Nat) (ad : Nat → Nat) (F : Nat → Int32) (A : Nat → Nat → Int32) (B : Nat → Nat → Int64) (hm0 : mW g H x ad F A B) (j fr n0 cn : Nat) (hj : mK j = 1) (hn0 : n0 ≤ 10) (hfr : fr + n0 ≤ mLen j) (hcn : F 27 = nI cn) (hcn2 : cn ≤ 240) : Met l y_M_met (wC y_M_met b_M_met 8 (some .int)) (rmk 0 0 0 0) (pC g H [.ref x, .ref (ad j), .int (nI fr), .int (nI n0)]) (qM g H x ad (fun v F1 A1 B1 => v = some (.int (metA A j fr n0 cn 0 (-1))) ∧ F1 = F ∧ A1 = A ∧ B1 = B)) 0 0 (mN x ad) := by
  refine mB (by decide) (Nat.le_of_ble_eq_true rfl) ?_
  intro p e s m below meth c ls C0 hH hZ hnm hl
  have C0 : cF g p s m _ meth c b_M_met 8 "RegistryLogModel" (some .int) := C0
  obtain ⟨hx, hb, hml, hown, hts, hr, hlk, hK⟩ := id C0
  subst hH
  have hl : lv_has ls 8 [(0, .ref x), (1, .ref (ad j)), (2, .int (nI fr)), (3, .int (nI n0))] := hl
  have hm := mS.rf hm0
  refine lv_iconst (v := (-1)) hx hb d_M_met_0 (by decide) ?_
  refine lv_istore (lv' := [(4, .int ((-1))), (0, .ref x), (1, .ref (ad j)), (2, .int (nI fr)), (3, .int (nI n0))]) hx hb d_M_met_1 hl (by decide) rfl (fun ls hl => ?_)
  refine lv_iconst (v := nI 0) hx hb d_M_met_3 (by decide) ?_
  refine lv_istore (lv' := [(5, .int (nI 0)), (4, .int ((-1))), (0, .ref x), (1, .ref (ad j)), (2, .int (nI fr)), (3, .int (nI n0))]) hx hb d_M_met_4 hl (by decide) rfl (fun ls hl => ?_)
  exact lp_M_met C0 hZ j fr n0 cn hj hn0 hfr hcn hcn2 _ (cn + 1) 0 (-1) s.heap [] (Nat.zero_le _) (by omega) hm rfl ls (lv_sub hl [2, 3, 4, 5, 1, 0] rfl)
