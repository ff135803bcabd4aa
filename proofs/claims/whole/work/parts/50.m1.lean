set_option maxHeartbeats 4000000 in
set_option maxRecDepth 100000 in
/-- isPerson -/
theorem c_M_isPerson (l : Launch) (g : gG) (H : Heap) (i : Int32) : Met l y_M_isPerson (wC y_M_isPerson b_M_isPerson 1 (some .boolean)) (rmk 0 0 0 0) (pC g H [.int i]) (qP H (fun v => v = some (.int (bI (decide (0 ≤ i ∧ i < 8)))))) 0 0 no_ := by
  refine mB (by decide) (Nat.le_of_ble_eq_true rfl) ?_
  intro p e s m below meth c ls C0 hH hZ hnm hl
  have C0 : cF g p s m _ meth c b_M_isPerson 1 "RegistryLogModel" (some .boolean) := C0
  obtain ⟨hx, hb, hml, hown, hts, hr, hlk, hK⟩ := id C0
  subst hH
  have hl : lv_has ls 1 [(0, .int i)] := hl
  refine lv_iload_n hx hb d_M_isPerson_0 rfl (lv_at hl 0 rfl) ?_
  refine lv_if_lt (tgt := 14) hx hb d_M_isPerson_1 (by decide) (fun c1 => ?_) (fun c1 => ?_)
  · skip
    refine lv_iconst (v := nI 0) hx hb d_M_isPerson_14 (by decide) ?_
    exact W.zret hx hb hr rfl (fun t9 ht hW => ⟨_, rfl, by rw [decide_eq_false (fun z => absurd z.1 (Int32.not_le.mpr c1))]; rfl, ht⟩) (fun q h => by cases h) d_M_isPerson_15 hlk
  · skip
    refine lv_iload_n hx hb d_M_isPerson_4 rfl (lv_at hl 0 rfl) ?_
    refine lv_bipush (v := nI 8) hx hb d_M_isPerson_5 (by decide) ?_
    refine lv_icmp_ge (tgt := 14) hx hb d_M_isPerson_7 (by decide) (fun c7 => ?_) (fun c7 => ?_)
    · skip
      refine lv_iconst (v := nI 0) hx hb d_M_isPerson_14 (by decide) ?_
      exact W.zret hx hb hr rfl (fun t9 ht hW => ⟨_, rfl, by rw [decide_eq_false (fun z => absurd z.2 (Int32.not_lt.mpr c7))]; rfl, ht⟩) (fun q h => by cases h) d_M_isPerson_15 hlk
    · skip
      refine lv_iconst (v := nI 1) hx hb d_M_isPerson_10 (by decide) ?_
      refine lv_goto (tgt := 15) hx hb d_M_isPerson_11 (by decide) ?_
      exact W.zret hx hb hr rfl (fun t9 ht hW => ⟨_, rfl, by rw [decide_eq_true ⟨Int32.not_lt.mp c1, Int32.not_le.mp c7⟩]; rfl, ht⟩) (fun q h => by cases h) d_M_isPerson_15 hlk
set_option maxHeartbeats 4000000 in
set_option maxRecDepth 100000 in
/-- isVersion -/
theorem c_M_isVersion (l : Launch) (g : gG) (H : Heap) (i : Int32) : Met l y_M_isVersion (wC y_M_isVersion b_M_isVersion 1 (some .boolean)) (rmk 0 0 0 0) (pC g H [.int i]) (qP H (fun v => v = some (.int (bI (decide (0 ≤ i ∧ i < 1000)))))) 0 0 no_ := by
  refine mB (by decide) (Nat.le_of_ble_eq_true rfl) ?_
  intro p e s m below meth c ls C0 hH hZ hnm hl
  have C0 : cF g p s m _ meth c b_M_isVersion 1 "RegistryLogModel" (some .boolean) := C0
  obtain ⟨hx, hb, hml, hown, hts, hr, hlk, hK⟩ := id C0
  subst hH
  have hl : lv_has ls 1 [(0, .int i)] := hl
  refine lv_iload_n hx hb d_M_isVersion_0 rfl (lv_at hl 0 rfl) ?_
  refine lv_if_lt (tgt := 15) hx hb d_M_isVersion_1 (by decide) (fun c1 => ?_) (fun c1 => ?_)
  · skip
    refine lv_iconst (v := nI 0) hx hb d_M_isVersion_15 (by decide) ?_
    exact W.zret hx hb hr rfl (fun t9 ht hW => ⟨_, rfl, by rw [decide_eq_false (fun z => absurd z.1 (Int32.not_le.mpr c1))]; rfl, ht⟩) (fun q h => by cases h) d_M_isVersion_16 hlk
  · skip
    refine lv_iload_n hx hb d_M_isVersion_4 rfl (lv_at hl 0 rfl) ?_
    refine lv_sipush (v := nI 1000) hx hb d_M_isVersion_5 (by decide) ?_
    refine lv_icmp_ge (tgt := 15) hx hb d_M_isVersion_8 (by decide) (fun c8 => ?_) (fun c8 => ?_)
    · skip
      refine lv_iconst (v := nI 0) hx hb d_M_isVersion_15 (by decide) ?_
      exact W.zret hx hb hr rfl (fun t9 ht hW => ⟨_, rfl, by rw [decide_eq_false (fun z => absurd z.2 (Int32.not_lt.mpr c8))]; rfl, ht⟩) (fun q h => by cases h) d_M_isVersion_16 hlk
    · skip
      refine lv_iconst (v := nI 1) hx hb d_M_isVersion_11 (by decide) ?_
      refine lv_goto (tgt := 16) hx hb d_M_isVersion_12 (by decide) ?_
      exact W.zret hx hb hr rfl (fun t9 ht hW => ⟨_, rfl, by rw [decide_eq_true ⟨Int32.not_lt.mp c1, Int32.not_le.mp c8⟩]; rfl, ht⟩) (fun q h => by cases h) d_M_isVersion_16 hlk
set_option maxHeartbeats 4000000 in
set_option maxRecDepth 100000 in
/-- isMirror -/
theorem c_M_isMirror (l : Launch) (g : gG) (H : Heap) (i : Int32) : Met l y_M_isMirror (wC y_M_isMirror b_M_isMirror 1 (some .boolean)) (rmk 0 0 0 0) (pC g H [.int i]) (qP H (fun v => v = some (.int (bI (decide (0 ≤ i ∧ i < 4)))))) 0 0 no_ := by
  refine mB (by decide) (Nat.le_of_ble_eq_true rfl) ?_
  intro p e s m below meth c ls C0 hH hZ hnm hl
  have C0 : cF g p s m _ meth c b_M_isMirror 1 "RegistryLogModel" (some .boolean) := C0
  obtain ⟨hx, hb, hml, hown, hts, hr, hlk, hK⟩ := id C0
  subst hH
  have hl : lv_has ls 1 [(0, .int i)] := hl
  refine lv_iload_n hx hb d_M_isMirror_0 rfl (lv_at hl 0 rfl) ?_
  refine lv_if_lt (tgt := 13) hx hb d_M_isMirror_1 (by decide) (fun c1 => ?_) (fun c1 => ?_)
  · skip
    refine lv_iconst (v := nI 0) hx hb d_M_isMirror_13 (by decide) ?_
    exact W.zret hx hb hr rfl (fun t9 ht hW => ⟨_, rfl, by rw [decide_eq_false (fun z => absurd z.1 (Int32.not_le.mpr c1))]; rfl, ht⟩) (fun q h => by cases h) d_M_isMirror_14 hlk
  · skip
    refine lv_iload_n hx hb d_M_isMirror_4 rfl (lv_at hl 0 rfl) ?_
    refine lv_iconst (v := nI 4) hx hb d_M_isMirror_5 (by decide) ?_
    refine lv_icmp_ge (tgt := 13) hx hb d_M_isMirror_6 (by decide) (fun c6 => ?_) (fun c6 => ?_)
    · skip
      refine lv_iconst (v := nI 0) hx hb d_M_isMirror_13 (by decide) ?_
      exact W.zret hx hb hr rfl (fun t9 ht hW => ⟨_, rfl, by rw [decide_eq_false (fun z => absurd z.2 (Int32.not_lt.mpr c6))]; rfl, ht⟩) (fun q h => by cases h) d_M_isMirror_14 hlk
    · skip
      refine lv_iconst (v := nI 1) hx hb d_M_isMirror_9 (by decide) ?_
      refine lv_goto (tgt := 14) hx hb d_M_isMirror_10 (by decide) ?_
      exact W.zret hx hb hr rfl (fun t9 ht hW => ⟨_, rfl, by rw [decide_eq_true ⟨Int32.not_lt.mp c1, Int32.not_le.mp c6⟩]; rfl, ht⟩) (fun q h => by cases h) d_M_isMirror_14 hlk
set_option maxHeartbeats 4000000 in
set_option maxRecDepth 100000 in
/-- MIX -/
theorem c_M_mix (l : Launch) (g : gG) (H : Heap) (h x : Int64) : Met l y_M_mix (wC y_M_mix b_M_mix 6 (some .long)) (rmk 0 0 0 0) (pC g H [.long h, .long x]) (qP H (fun v => v = some (.long (mixS h x)))) 0 0 no_ := by
  refine mB (by decide) (Nat.le_of_ble_eq_true rfl) ?_
  intro p e s m below meth c ls C0 hH hZ hnm hl
  have C0 : cF g p s m _ meth c b_M_mix 6 "RegistryLogModel" (some .long) := C0
  obtain ⟨hx, hb, hml, hown, hts, hr, hlk, hK⟩ := id C0
  subst hH
  have hl : lv_has ls 6 [(0, .long h), (2, .long x)] := hl
  refine lv_lload_n hx hb d_M_mix_0 rfl (lv_at hl 0 rfl) ?_
  refine lv_lload_n hx hb d_M_mix_1 rfl (lv_at hl 1 rfl) ?_
  refine lv_lxor hx hb d_M_mix_2 ?_
  refine lv_ldc2 (v := (-7046029254386353131)) hx hb hown (hts (.constantLong "RegistryLogModel" 199 (-7046029254386353131)) (in_5 (List.mem_of_getElem? (i := 225) rfl) rfl)) d_M_mix_3 ?_
  refine lv_lmul hx hb d_M_mix_6 ?_
  refine lv_topl (fun x_1 ex_1 => ?_)
  refine lv_lstore (lv' := [(4, .long x_1), (0, .long h), (2, .long x)]) hx hb d_M_mix_7 hl (by decide) rfl (fun ls hl => ?_)
  refine lv_lload hx hb d_M_mix_9 (lv_at hl 0 rfl) ?_
  refine lv_lload hx hb d_M_mix_11 (lv_at hl 0 rfl) ?_
  refine lv_bipush (v := 29) hx hb d_M_mix_13 (by decide) ?_
  refine lv_lushr hx hb d_M_mix_15 rfl ?_
  refine lv_lxor hx hb d_M_mix_16 ?_
  subst ex_1
  exact W.lret hx hb hr (fun t9 ht hW => ⟨_, rfl, rfl, ht⟩) (fun q h => by cases h) d_M_mix_17 hlk
theorem k_M_join_2 : kS "RegistryLogModel" 201 y_M_mix b_M_mix 6 (some .long) 2 := ⟨(in_5 (List.mem_of_getElem? (i := 222) rfl) rfl), (in_5 (List.mem_of_getElem? (i := 223) rfl) rfl), (in_1 (List.mem_of_getElem? (i := 22) rfl) rfl), (in_5 (List.mem_of_getElem? (i := 224) rfl) rfl), ⟨by decide, by decide, by decide +kernel⟩⟩
theorem k_M_join_6 : kS "RegistryLogModel" 201 y_M_mix b_M_mix 6 (some .long) 2 := ⟨(in_5 (List.mem_of_getElem? (i := 222) rfl) rfl), (in_5 (List.mem_of_getElem? (i := 223) rfl) rfl), (in_1 (List.mem_of_getElem? (i := 22) rfl) rfl), (in_5 (List.mem_of_getElem? (i := 224) rfl) rfl), ⟨by decide, by decide, by decide +kernel⟩⟩
set_option maxHeartbeats 4000000 in
set_option maxRecDepth 100000 in
/-- JOIN -/
theorem c_M_join (l : Launch) (g : gG) (H : Heap) (a b : Int64) : Met l y_M_join (wC y_M_join b_M_join 4 (some .long)) (rmk 1 0 0 25) (pC g H [.long a, .long b]) (qP H (fun v => v = some (.long (joinS a b)))) 0 0 no_ := by
  refine mB (by decide) (Nat.le_of_ble_eq_true rfl) ?_
  intro p e s m below meth c ls C0 hH hZ hnm hl
  have C0 : cF g p s m _ meth c b_M_join 4 "RegistryLogModel" (some .long) := C0
  obtain ⟨hx, hb, hml, hown, hts, hr, hlk, hK⟩ := id C0
  subst hH
  have hl : lv_has ls 4 [(0, .long a), (2, .long b)] := hl
  refine lv_lconst (v := 1) hx hb d_M_join_0 (by decide) ?_
  refine lv_lload_n hx hb d_M_join_1 rfl (lv_at hl 0 rfl) ?_
  refine aP (rS (As := [.long 1, .long a]) (rest := []) C0 (c_M_mix l g s.heap 1 a) hZ k_M_join_2 rfl rfl ⟨Nat.le_of_ble_eq_true rfl, Nat.le_of_ble_eq_true rfl⟩ rfl hl.1 rfl (Nat.le_of_ble_eq_true rfl) d_M_join_2 ⟨Nat.zero_le _, Nat.zero_le _⟩) ?_
  intro v hv; subst hv
  refine W.eq (g2 := F0 m 5 ls [.long (mixS 1 a)]) rfl ?_
  refine lv_lload_n hx hb d_M_join_5 rfl (lv_at hl 1 rfl) ?_
  refine aP (rS (As := [.long (mixS 1 a), .long b]) (rest := []) C0 (c_M_mix l g s.heap (mixS 1 a) b) hZ k_M_join_6 rfl rfl ⟨Nat.le_of_ble_eq_true rfl, Nat.le_of_ble_eq_true rfl⟩ rfl hl.1 rfl (Nat.le_of_ble_eq_true rfl) d_M_join_6 ⟨Nat.zero_le _, Nat.zero_le _⟩) ?_
  intro v hv; subst hv
  refine W.eq (g2 := F0 m 9 ls [.long (mixS (mixS 1 a) b)]) rfl ?_
  exact W.lret hx hb hr (fun t9 ht hW => ⟨_, rfl, rfl, ht⟩) (fun q h => by cases h) d_M_join_9 hlk
def letS (c : Nat) : Bool := decide (97 ≤ c ∧ c ≤ 122)
set_option maxHeartbeats 4000000 in
set_option maxRecDepth 100000 in
/-- isLetter -/
theorem c_M_isLetter (l : Launch) (g : gG) (H : Heap) (w0 : Nat) (hw0 : w0 < 65536) : Met l y_M_isLetter (wC y_M_isLetter b_M_isLetter 1 (some .boolean)) (rmk 0 0 0 0) (pC g H [.int (nI w0)]) (qP H (fun v => v = some (.int (bI (letS w0))))) 0 0 no_ := by
  refine mB (by decide) (Nat.le_of_ble_eq_true rfl) ?_
  intro p e s m below meth c ls C0 hH hZ hnm hl
  have C0 : cF g p s m _ meth c b_M_isLetter 1 "RegistryLogModel" (some .boolean) := C0
  obtain ⟨hx, hb, hml, hown, hts, hr, hlk, hK⟩ := id C0
  subst hH
  have hl : lv_has ls 1 [(0, .int (nI w0))] := hl
  refine lv_iload_n hx hb d_M_isLetter_0 rfl (lv_at hl 0 rfl) ?_
  refine lv_bipush (v := nI 97) hx hb d_M_isLetter_1 (by decide) ?_
  refine n_lt (tgt := 16) (a := w0) (b := 97) hx hb d_M_isLetter_3 (by decide) (by omega) (by omega) (fun c3 => ?_) (fun c3 => ?_)
  · skip
    refine lv_iconst (v := nI 0) hx hb d_M_isLetter_16 (by decide) ?_
    exact W.zret hx hb hr rfl (fun t9 ht hW => ⟨_, rfl, by rw [letS, decide_eq_false (by omega)]; rfl, ht⟩) (fun q h => by cases h) d_M_isLetter_17 hlk
  · skip
    refine lv_iload_n hx hb d_M_isLetter_6 rfl (lv_at hl 0 rfl) ?_
    refine lv_bipush (v := nI 122) hx hb d_M_isLetter_7 (by decide) ?_
    refine n_gt (tgt := 16) (a := w0) (b := 122) hx hb d_M_isLetter_9 (by decide) (by omega) (by omega) (fun c9 => ?_) (fun c9 => ?_)
    · skip
      refine lv_iconst (v := nI 0) hx hb d_M_isLetter_16 (by decide) ?_
      exact W.zret hx hb hr rfl (fun t9 ht hW => ⟨_, rfl, by rw [letS, decide_eq_false (by omega)]; rfl, ht⟩) (fun q h => by cases h) d_M_isLetter_17 hlk
    · skip
      refine lv_iconst (v := nI 1) hx hb d_M_isLetter_12 (by decide) ?_
      refine lv_goto (tgt := 17) hx hb d_M_isLetter_13 (by decide) ?_
      exact W.zret hx hb hr rfl (fun t9 ht hW => ⟨_, rfl, by rw [letS, decide_eq_true (by omega)]; rfl, ht⟩) (fun q h => by cases h) d_M_isLetter_17 hlk
set_option maxHeartbeats 4000000 in
set_option maxRecDepth 100000 in
/-- thrown() -/
theorem c_M_thrown (l : Launch) (g : gG) (H : Heap) (x : Nat) (ad : Nat → Nat) (F : Nat → Int32) (A : Nat → Nat → Int32) (B : Nat → Nat → Int64) (hm0 : mW g H x ad F A B)  : Met l y_M_thrown (wC y_M_thrown b_M_thrown 1 (some .int)) (rmk 0 0 0 0) (pC g H [.ref x]) (qP H (fun v => v = some (.int (F 0)))) 0 0 no_ := by
  refine mB (by decide) (Nat.le_of_ble_eq_true rfl) ?_
  intro p e s m below meth c ls C0 hH hZ hnm hl
  have C0 : cF g p s m _ meth c b_M_thrown 1 "RegistryLogModel" (some .int) := C0
  obtain ⟨hx, hb, hml, hown, hts, hr, hlk, hK⟩ := id C0
  subst hH
  have hl : lv_has ls 1 [(0, .ref x)] := hl
  have hm := mS.rf hm0
  refine lv_aload_n hx hb d_M_thrown_0 rfl (lv_at hl 0 rfl) ?_
  refine m_get hx hb hts hown hK hm 0 (by decide) (hts (.fieldLink "RegistryLogModel" 108 "RegistryLogModel" "code" "I") (in_4 (List.mem_of_getElem? (i := 209) rfl) rfl)) rfl (v := .int (F 0)) rfl d_M_thrown_1 ?_
  exact W.iret hx hb hr (fun t9 ht hW => ⟨_, rfl, rfl, ht⟩) (fun q h => by cases h) d_M_thrown_4 hlk
def hfL : Nat → Nat → Nat → Nat
  | 0, _, k => k
  | b + 1, n, k => if 2 * k < n then hfL b n (2 * k) else k
theorem hf_fp : ∀ n, n < 121 → hfL 8 n 1 = fpS n := by decide +kernel
set_option maxHeartbeats 4000000 in
set_option maxRecDepth 100000 in
theorem lp_M_half {p : Program} {l : Launch} {e : Env} {s : State} {m : MethodId} {args : Array Value} {below : List Frame} {meth : Method} {c : Code} {g : gG} (C0 : cF g p s m args meth c b_M_half 2 "RegistryLogModel" (some .int)) (n res : Nat) (hn : n ≤ 120) :
    ∀ (b k : Nat), 120 ≤ k * 2 ^ b → k ≤ 119 → hfL b n k = res → ∀ (ls : Array Slot), lv_has ls 2 [(0, .int (nI n)), (1, .int (nI k))] → W p l e (rmk 0 0 0 0) s m args below meth c s.heap [] 0 0 (MQ below (qP s.heap (fun v => v = some (.int (nI res)))) args s 0 0 no_) (F0 m 2 ls []) := by
  obtain ⟨hx, hb, hml, hown, hts, hr, hlk, hK⟩ := id C0
  intro b
  induction b with
  | zero => intro k h1 h2; exact absurd h1 (by omega)
  | succ b ih =>
    intro k h1 h2 hres ls hl
    refine lv_iconst (v := nI 2) hx hb d_M_half_2 (by decide) ?_
    refine lv_iload_n hx hb d_M_half_3 rfl (lv_at hl 1 rfl) ?_
    refine n_imul hx hb d_M_half_4 ?_
    refine lv_iload_n hx hb d_M_half_5 rfl (lv_at hl 0 rfl) ?_
    refine n_ge (tgt := 16) (a := 2 * k) (b := n) hx hb d_M_half_6 (by decide) (by omega) (by omega) (fun c6 => ?_) (fun c6 => ?_)
    · skip
      refine lv_iload_n hx hb d_M_half_16 rfl (lv_at hl 1 rfl) ?_
      rw [hfL, if_neg (by omega)] at hres
      exact W.iret hx hb hr (fun t9 ht hW => ⟨_, rfl, by rw [← hres], ht⟩) (fun q h => by cases h) d_M_half_17 hlk
    · skip
      refine lv_iload_n hx hb d_M_half_9 rfl (lv_at hl 1 rfl) ?_
      refine lv_iconst (v := nI 2) hx hb d_M_half_10 (by decide) ?_
      refine n_imul hx hb d_M_half_11 ?_
      refine lv_istore_n (lv' := [(1, .int (nI (k * 2))), (0, .int (nI n))]) hx hb d_M_half_12 rfl hl (by decide) rfl (fun ls hl => ?_)
      refine lv_goto (tgt := 2) hx hb d_M_half_13 (by decide) ?_
      rw [hfL, if_pos c6] at hres
      have e9 : k * 2 = 2 * k := Nat.mul_comm k 2
      rw [e9] at hl
      exact ih (2 * k) (by rw [Nat.pow_succ] at h1; have := h1; rw [show 2 * k * 2 ^ b = k * (2 ^ b * 2) by rw [Nat.mul_comm (2 ^ b) 2, ← Nat.mul_assoc, Nat.mul_comm k 2]]; exact this) (by omega) hres ls (lv_sub hl [1, 0] rfl)
set_option maxHeartbeats 4000000 in
set_option maxRecDepth 100000 in
/-- half -/
theorem c_M_half (l : Launch) (g : gG) (H : Heap) (n : Nat) (hn : n ≤ 120) : Met l y_M_half (wC y_M_half b_M_half 2 (some .int)) (rmk 0 0 0 0) (pC g H [.int (nI n)]) (qP H (fun v => v = some (.int (nI (fpS n))))) 0 0 no_ := by
  refine mB (by decide) (Nat.le_of_ble_eq_true rfl) ?_
  intro p e s m below meth c ls C0 hH hZ hnm hl
  have C0 : cF g p s m _ meth c b_M_half 2 "RegistryLogModel" (some .int) := C0
  obtain ⟨hx, hb, hml, hown, hts, hr, hlk, hK⟩ := id C0
  subst hH
  have hl : lv_has ls 2 [(0, .int (nI n))] := hl
  refine lv_iconst (v := nI 1) hx hb d_M_half_0 (by decide) ?_
  refine lv_istore_n (lv' := [(1, .int (nI 1)), (0, .int (nI n))]) hx hb d_M_half_1 rfl hl (by decide) rfl (fun ls hl => ?_)
  rw [← hf_fp n (by omega)]
  exact lp_M_half C0 n _ hn 8 1 (by decide) (by decide) rfl ls (lv_sub hl [1, 0] rfl)
set_option maxHeartbeats 4000000 in
set_option maxRecDepth 100000 in
/-- type(c) -/
theorem c_M_type (l : Launch) (g : gG) (H : Heap) (x : Nat) (ad : Nat → Nat) (F : Nat → Int32) (A : Nat → Nat → Int32) (B : Nat → Nat → Int64) (hm0 : mW g H x ad F A B) (w0 n : Nat) (hw0 : w0 < 65536) (hn : F 2 = nI n) (hn24 : n ≤ 24) : Met l y_M_type (wC y_M_type b_M_type 2 (some .boolean)) (rmk 0 0 0 0) (pC g H [.ref x, .int (nI w0)]) (qM g H x ad (fun v F1 A1 B1 => if 32 ≤ w0 ∧ w0 ≤ 126 ∧ n < 24 then (v = some (.int 1) ∧ F1 = upd (upd F 0 (nI 0)) 2 (nI (n + 1)) ∧ A1 = updA A 1 (upd (A 1) n (nI w0)) ∧ B1 = B) else (v = some (.int 0) ∧ F1 = upd F 0 (nI 0) ∧ A1 = A ∧ B1 = B))) 0 0 (mN x ad) := by
  refine mB (by decide) (Nat.le_of_ble_eq_true rfl) ?_
  intro p e s m below meth c ls C0 hH hZ hnm hl
  have C0 : cF g p s m _ meth c b_M_type 2 "RegistryLogModel" (some .boolean) := C0
  obtain ⟨hx, hb, hml, hown, hts, hr, hlk, hK⟩ := id C0
  subst hH
  have hl : lv_has ls 2 [(0, .ref x), (1, .int (nI w0))] := hl
  have hm := mS.rf hm0
  refine lv_aload_n hx hb d_M_type_0 rfl (lv_at hl 0 rfl) ?_
  refine lv_iconst (v := nI 0) hx hb d_M_type_1 (by decide) ?_
  refine m_put hx hb hts hown hK hm 0 (by decide) (hts (.fieldLink "RegistryLogModel" 108 "RegistryLogModel" "code" "I") (in_4 (List.mem_of_getElem? (i := 209) rfl) rfl)) rfl rfl (v := nI 0) rfl rfl rfl rfl d_M_type_2 (fun H locs hm => ?_)
  refine lv_iload_n hx hb d_M_type_5 rfl (lv_at hl 1 rfl) ?_
  refine lv_bipush (v := nI 32) hx hb d_M_type_6 (by decide) ?_
  refine n_lt (tgt := 26) (a := w0) (b := 32) hx hb d_M_type_8 (by decide) (by omega) (by omega) (fun c8 => ?_) (fun c8 => ?_)
  · skip
    refine lv_iconst (v := nI 0) hx hb d_M_type_26 (by decide) ?_
    exact W.zret hx hb hr rfl (fun t9 ht hW => ⟨_, _, _, _, rfl, by rw [ht]; exact ⟨hm.1, hm.2.1, hm.2.2.1, fun _ h => by cases h⟩, by (try dsimp only); rw [if_neg (by omega)]; exact ⟨rfl, rfl, rfl, rfl⟩⟩) hm.2.2.2 d_M_type_27 hlk
  · skip
    refine lv_iload_n hx hb d_M_type_11 rfl (lv_at hl 1 rfl) ?_
    refine lv_bipush (v := nI 126) hx hb d_M_type_12 (by decide) ?_
    refine n_gt (tgt := 26) (a := w0) (b := 126) hx hb d_M_type_14 (by decide) (by omega) (by omega) (fun c14 => ?_) (fun c14 => ?_)
    · skip
      refine lv_iconst (v := nI 0) hx hb d_M_type_26 (by decide) ?_
      exact W.zret hx hb hr rfl (fun t9 ht hW => ⟨_, _, _, _, rfl, by rw [ht]; exact ⟨hm.1, hm.2.1, hm.2.2.1, fun _ h => by cases h⟩, by (try dsimp only); rw [if_neg (by omega)]; exact ⟨rfl, rfl, rfl, rfl⟩⟩) hm.2.2.2 d_M_type_27 hlk
    · skip
      refine lv_aload_n hx hb d_M_type_17 rfl (lv_at hl 0 rfl) ?_
      refine m_get hx hb hts hown hK hm 2 (by decide) (hts (.fieldLink "RegistryLogModel" 112 "RegistryLogModel" "typed" "I") (in_4 (List.mem_of_getElem? (i := 211) rfl) rfl)) rfl (v := .int (nI n)) (congrArg (fun z => some (Value.int z)) hn) d_M_type_18 ?_
      refine lv_bipush (v := nI 24) hx hb d_M_type_21 (by decide) ?_
      refine n_ne (tgt := 28) (a := n) (b := 24) hx hb d_M_type_23 (by decide) (by omega) (by omega) (fun c23 => ?_) (fun c23 => ?_)
      · skip
        refine lv_aload_n hx hb d_M_type_28 rfl (lv_at hl 0 rfl) ?_
        refine m_get hx hb hts hown hK hm 1 (by decide) (hts (.fieldLink "RegistryLogModel" 7 "RegistryLogModel" "text" "[I") (in_4 (List.mem_of_getElem? (i := 210) rfl) rfl)) rfl (v := .ref (ad 1)) rfl d_M_type_29 ?_
        refine lv_aload_n hx hb d_M_type_32 rfl (lv_at hl 0 rfl) ?_
        refine m_get hx hb hts hown hK hm 2 (by decide) (hts (.fieldLink "RegistryLogModel" 112 "RegistryLogModel" "typed" "I") (in_4 (List.mem_of_getElem? (i := 211) rfl) rfl)) rfl (v := .int (nI n)) (congrArg (fun z => some (Value.int z)) hn) d_M_type_33 ?_
        refine lv_iload_n hx hb d_M_type_36 rfl (lv_at hl 1 rfl) ?_
        refine m_st hx hb hK hm 1 rfl n rfl (show n < 24 from by omega) d_M_type_37 (fun H locs hm => ?_)
        have hm : mS g s.heap H x ad (upd F 0 (nI 0)) (updA A 1 (upd (A 1) n (nI w0))) B locs := hm
        refine lv_aload_n hx hb d_M_type_38 rfl (lv_at hl 0 rfl) ?_
        refine lv_dup hx hb d_M_type_39 rfl ?_
        refine m_get hx hb hts hown hK hm 2 (by decide) (hts (.fieldLink "RegistryLogModel" 112 "RegistryLogModel" "typed" "I") (in_4 (List.mem_of_getElem? (i := 211) rfl) rfl)) rfl (v := .int (nI n)) (congrArg (fun z => some (Value.int z)) hn) d_M_type_40 ?_
        refine lv_iconst (v := nI 1) hx hb d_M_type_43 (by decide) ?_
        refine n_iadd hx hb d_M_type_44 ?_
        refine m_put hx hb hts hown hK hm 2 (by decide) (hts (.fieldLink "RegistryLogModel" 112 "RegistryLogModel" "typed" "I") (in_4 (List.mem_of_getElem? (i := 211) rfl) rfl)) rfl rfl (v := nI (n + 1)) rfl rfl rfl rfl d_M_type_45 (fun H locs hm => ?_)
        refine lv_iconst (v := nI 1) hx hb d_M_type_48 (by decide) ?_
        exact W.zret hx hb hr rfl (fun t9 ht hW => ⟨_, _, _, _, rfl, by rw [ht]; exact ⟨hm.1, hm.2.1, hm.2.2.1, fun _ h => by cases h⟩, by (try dsimp only); rw [if_pos (by omega)]; exact ⟨rfl, rfl, rfl, rfl⟩⟩) hm.2.2.2 d_M_type_49 hlk
      · skip
        refine lv_iconst (v := nI 0) hx hb d_M_type_26 (by decide) ?_
        exact W.zret hx hb hr rfl (fun t9 ht hW => ⟨_, _, _, _, rfl, by rw [ht]; exact ⟨hm.1, hm.2.1, hm.2.2.1, fun _ h => by cases h⟩, by (try dsimp only); rw [if_neg (by omega)]; exact ⟨rfl, rfl, rfl, rfl⟩⟩) hm.2.2.2 d_M_type_27 hlk
set_option maxHeartbeats 4000000 in
set_option maxRecDepth 100000 in
/-- refuses -/
theorem c_M_refuses (l : Launch) (g : gG) (H : Heap) (x : Nat) (ad : Nat → Nat) (F : Nat → Int32) (A : Nat → Nat → Int32) (B : Nat → Nat → Int64) (hm0 : mW g H x ad F A B) (b0 b1 : Bool) : Met l y_M_refuses (wC y_M_refuses b_M_refuses 3 (some .boolean)) (rmk 0 0 0 0) (pC g H [.ref x, .int (bI b0), .int (bI b1)]) (qM g H x ad (fun v F1 A1 B1 => v = some (.int (bI (b0 || b1))) ∧ F1 = upd F 0 (if b0 then nI 1 else if b1 then nI 2 else nI 0) ∧ A1 = A ∧ B1 = B)) 0 0 (mN x ad) := by
  refine mB (by decide) (Nat.le_of_ble_eq_true rfl) ?_
  intro p e s m below meth c ls C0 hH hZ hnm hl
  have C0 : cF g p s m _ meth c b_M_refuses 3 "RegistryLogModel" (some .boolean) := C0
  obtain ⟨hx, hb, hml, hown, hts, hr, hlk, hK⟩ := id C0
  subst hH
  have hl : lv_has ls 3 [(0, .ref x), (1, .int (bI b0)), (2, .int (bI b1))] := hl
  have hm := mS.rf hm0
  refine lv_aload_n hx hb d_M_refuses_0 rfl (lv_at hl 0 rfl) ?_
  refine lv_iload_n hx hb d_M_refuses_1 rfl (lv_at hl 1 rfl) ?_
  refine z_eq (tgt := 9) (v := b0) hx hb d_M_refuses_2 (by decide) (fun c2 => ?_) (fun c2 => ?_)
  · skip
    refine lv_iload_n hx hb d_M_refuses_9 rfl (lv_at hl 2 rfl) ?_
    refine z_eq (tgt := 17) (v := b1) hx hb d_M_refuses_10 (by decide) (fun c10 => ?_) (fun c10 => ?_)
    · skip
      refine lv_iconst (v := nI 0) hx hb d_M_refuses_17 (by decide) ?_
      refine m_put hx hb hts hown hK hm 0 (by decide) (hts (.fieldLink "RegistryLogModel" 108 "RegistryLogModel" "code" "I") (in_4 (List.mem_of_getElem? (i := 209) rfl) rfl)) rfl rfl (v := nI 0) rfl rfl rfl rfl d_M_refuses_18 (fun H locs hm => ?_)
      refine lv_aload_n hx hb d_M_refuses_21 rfl (lv_at hl 0 rfl) ?_
      refine m_get hx hb hts hown hK hm 0 (by decide) (hts (.fieldLink "RegistryLogModel" 108 "RegistryLogModel" "code" "I") (in_4 (List.mem_of_getElem? (i := 209) rfl) rfl)) rfl (v := .int (nI 0)) rfl d_M_refuses_22 ?_
      refine lv_if_le (tgt := 32) hx hb d_M_refuses_25 (by decide) (fun c25 => ?_) (fun c25 => ?_)
      · skip
        refine lv_iconst (v := nI 0) hx hb d_M_refuses_32 (by decide) ?_
        exact W.zret hx hb hr rfl (fun t9 ht hW => ⟨_, _, _, _, rfl, by rw [ht]; exact ⟨hm.1, hm.2.1, hm.2.2.1, fun _ h => by cases h⟩, ⟨by first | rfl | (rw [c2]; rfl) | (rw [c2, c10]; rfl), by first | (rw [c2]; rfl) | (rw [c2, c10]; rfl), rfl, rfl⟩⟩) hm.2.2.2 d_M_refuses_33 hlk
      · skip
        first | exact absurd c25 (by decide) | exact absurd (by decide) c25
    · skip
      refine lv_iconst (v := nI 2) hx hb d_M_refuses_13 (by decide) ?_
      refine lv_goto (tgt := 18) hx hb d_M_refuses_14 (by decide) ?_
      refine m_put hx hb hts hown hK hm 0 (by decide) (hts (.fieldLink "RegistryLogModel" 108 "RegistryLogModel" "code" "I") (in_4 (List.mem_of_getElem? (i := 209) rfl) rfl)) rfl rfl (v := nI 2) rfl rfl rfl rfl d_M_refuses_18 (fun H locs hm => ?_)
      refine lv_aload_n hx hb d_M_refuses_21 rfl (lv_at hl 0 rfl) ?_
      refine m_get hx hb hts hown hK hm 0 (by decide) (hts (.fieldLink "RegistryLogModel" 108 "RegistryLogModel" "code" "I") (in_4 (List.mem_of_getElem? (i := 209) rfl) rfl)) rfl (v := .int (nI 2)) rfl d_M_refuses_22 ?_
      refine lv_if_le (tgt := 32) hx hb d_M_refuses_25 (by decide) (fun c25 => ?_) (fun c25 => ?_)
      · skip
        first | exact absurd c25 (by decide) | exact absurd (by decide) c25
      · skip
        refine lv_iconst (v := nI 1) hx hb d_M_refuses_28 (by decide) ?_
        refine lv_goto (tgt := 33) hx hb d_M_refuses_29 (by decide) ?_
        exact W.zret hx hb hr rfl (fun t9 ht hW => ⟨_, _, _, _, rfl, by rw [ht]; exact ⟨hm.1, hm.2.1, hm.2.2.1, fun _ h => by cases h⟩, ⟨by first | rfl | (rw [c2]; rfl) | (rw [c2, c10]; rfl), by first | (rw [c2]; rfl) | (rw [c2, c10]; rfl), rfl, rfl⟩⟩) hm.2.2.2 d_M_refuses_33 hlk
  · skip
    refine lv_iconst (v := nI 1) hx hb d_M_refuses_5 (by decide) ?_
    refine lv_goto (tgt := 18) hx hb d_M_refuses_6 (by decide) ?_
    refine m_put hx hb hts hown hK hm 0 (by decide) (hts (.fieldLink "RegistryLogModel" 108 "RegistryLogModel" "code" "I") (in_4 (List.mem_of_getElem? (i := 209) rfl) rfl)) rfl rfl (v := nI 1) rfl rfl rfl rfl d_M_refuses_18 (fun H locs hm => ?_)
    refine lv_aload_n hx hb d_M_refuses_21 rfl (lv_at hl 0 rfl) ?_
    refine m_get hx hb hts hown hK hm 0 (by decide) (hts (.fieldLink "RegistryLogModel" 108 "RegistryLogModel" "code" "I") (in_4 (List.mem_of_getElem? (i := 209) rfl) rfl)) rfl (v := .int (nI 1)) rfl d_M_refuses_22 ?_
    refine lv_if_le (tgt := 32) hx hb d_M_refuses_25 (by decide) (fun c25 => ?_) (fun c25 => ?_)
    · skip
      first | exact absurd c25 (by decide) | exact absurd (by decide) c25
    · skip
      refine lv_iconst (v := nI 1) hx hb d_M_refuses_28 (by decide) ?_
      refine lv_goto (tgt := 33) hx hb d_M_refuses_29 (by decide) ?_
      exact W.zret hx hb hr rfl (fun t9 ht hW => ⟨_, _, _, _, rfl, by rw [ht]; exact ⟨hm.1, hm.2.1, hm.2.2.1, fun _ h => by cases h⟩, ⟨by first | rfl | (rw [c2]; rfl) | (rw [c2, c10]; rfl), by first | (rw [c2]; rfl) | (rw [c2, c10]; rfl), rfl, rfl⟩⟩) hm.2.2.2 d_M_refuses_33 hlk
set_option maxHeartbeats 4000000 in
set_option maxRecDepth 100000 in
/-- rows() -/
theorem c_M_rows (l : Launch) (g : gG) (H : Heap) (x : Nat) (ad : Nat → Nat) (F : Nat → Int32) (A : Nat → Nat → Int32) (B : Nat → Nat → Int64) (hm0 : mW g H x ad F A B) (n : Nat) (hc : A 12 4 = nI n) : Met l y_M_rows (wC y_M_rows b_M_rows 1 (some .int)) (rmk 0 0 0 0) (pC g H [.ref x]) (qM g H x ad (fun v F1 A1 B1 => v = some (.int (nI n)) ∧ F1 = upd F 0 (nI 0) ∧ A1 = A ∧ B1 = B)) 0 0 (mN x ad) := by
  refine mB (by decide) (Nat.le_of_ble_eq_true rfl) ?_
  intro p e s m below meth c ls C0 hH hZ hnm hl
  have C0 : cF g p s m _ meth c b_M_rows 1 "RegistryLogModel" (some .int) := C0
  obtain ⟨hx, hb, hml, hown, hts, hr, hlk, hK⟩ := id C0
  subst hH
  have hl : lv_has ls 1 [(0, .ref x)] := hl
  have hm := mS.rf hm0
  refine lv_aload_n hx hb d_M_rows_0 rfl (lv_at hl 0 rfl) ?_
  refine lv_iconst (v := nI 0) hx hb d_M_rows_1 (by decide) ?_
  refine m_put hx hb hts hown hK hm 0 (by decide) (hts (.fieldLink "RegistryLogModel" 108 "RegistryLogModel" "code" "I") (in_4 (List.mem_of_getElem? (i := 209) rfl) rfl)) rfl rfl (v := nI 0) rfl rfl rfl rfl d_M_rows_2 (fun H locs hm => ?_)
  refine lv_aload_n hx hb d_M_rows_5 rfl (lv_at hl 0 rfl) ?_
  refine m_get hx hb hts hown hK hm 12 (by decide) (hts (.fieldLink "RegistryLogModel" 40 "RegistryLogModel" "copied" "[I") (in_4 (List.mem_of_getElem? (i := 221) rfl) rfl)) rfl (v := .ref (ad 12)) rfl d_M_rows_6 ?_
  refine lv_iconst (v := nI 4) hx hb d_M_rows_9 (by decide) ?_
  refine m_ld hx hb hK hm 12 rfl 4 rfl (show 4 < 5 from by omega) d_M_rows_10 ?_
  refine W.eq (g2 := F0 m 11 ls [.int (nI n)]) (by rw [hc]) ?_
  exact W.iret hx hb hr (fun t9 ht hW => ⟨_, _, _, _, rfl, by rw [ht]; exact ⟨hm.1, hm.2.1, hm.2.2.1, fun _ h => by cases h⟩, ⟨rfl, rfl, rfl, rfl⟩⟩) hm.2.2.2 d_M_rows_11 hlk
set_option maxHeartbeats 4000000 in
set_option maxRecDepth 100000 in
/-- isRow(i) -/
theorem c_M_isRow (l : Launch) (g : gG) (H : Heap) (x : Nat) (ad : Nat → Nat) (F : Nat → Int32) (A : Nat → Nat → Int32) (B : Nat → Nat → Int64) (hm0 : mW g H x ad F A B) (n : Nat) (hc : A 12 4 = nI n) (i : Int32) : Met l y_M_isRow (wC y_M_isRow b_M_isRow 2 (some .boolean)) (rmk 0 0 0 0) (pC g H [.ref x, .int i]) (qP H (fun v => v = some (.int (bI (decide (0 ≤ i ∧ i < nI n)))))) 0 0 no_ := by
  refine mB (by decide) (Nat.le_of_ble_eq_true rfl) ?_
  intro p e s m below meth c ls C0 hH hZ hnm hl
  have C0 : cF g p s m _ meth c b_M_isRow 2 "RegistryLogModel" (some .boolean) := C0
  obtain ⟨hx, hb, hml, hown, hts, hr, hlk, hK⟩ := id C0
  subst hH
  have hl : lv_has ls 2 [(0, .ref x), (1, .int i)] := hl
  have hm := mS.rf hm0
  refine lv_iload_n hx hb d_M_isRow_0 rfl (lv_at hl 1 rfl) ?_
  refine lv_if_lt (tgt := 18) hx hb d_M_isRow_1 (by decide) (fun c1 => ?_) (fun c1 => ?_)
  · skip
    refine lv_iconst (v := nI 0) hx hb d_M_isRow_18 (by decide) ?_
    exact W.zret hx hb hr rfl (fun t9 ht hW => ⟨_, rfl, by rw [decide_eq_false (fun z => absurd z.1 (Int32.not_le.mpr c1))]; rfl, ht⟩) (fun q h => by cases h) d_M_isRow_19 hlk
  · skip
    refine lv_iload_n hx hb d_M_isRow_4 rfl (lv_at hl 1 rfl) ?_
    refine lv_aload_n hx hb d_M_isRow_5 rfl (lv_at hl 0 rfl) ?_
    refine m_get hx hb hts hown hK hm 12 (by decide) (hts (.fieldLink "RegistryLogModel" 40 "RegistryLogModel" "copied" "[I") (in_4 (List.mem_of_getElem? (i := 221) rfl) rfl)) rfl (v := .ref (ad 12)) rfl d_M_isRow_6 ?_
    refine lv_iconst (v := nI 4) hx hb d_M_isRow_9 (by decide) ?_
    refine m_ld hx hb hK hm 12 rfl 4 rfl (show 4 < 5 from by omega) d_M_isRow_10 ?_
    refine W.eq (g2 := F0 m 11 ls [.int (nI n), .int i]) (by rw [hc]) ?_
    refine lv_icmp_ge (tgt := 18) hx hb d_M_isRow_11 (by decide) (fun c11 => ?_) (fun c11 => ?_)
    · skip
      refine lv_iconst (v := nI 0) hx hb d_M_isRow_18 (by decide) ?_
      exact W.zret hx hb hr rfl (fun t9 ht hW => ⟨_, rfl, by rw [decide_eq_false (fun z => absurd z.2 (Int32.not_lt.mpr c11))]; rfl, ht⟩) (fun q h => by cases h) d_M_isRow_19 hlk
    · skip
      refine lv_iconst (v := nI 1) hx hb d_M_isRow_14 (by decide) ?_
      refine lv_goto (tgt := 19) hx hb d_M_isRow_15 (by decide) ?_
      exact W.zret hx hb hr rfl (fun t9 ht hW => ⟨_, rfl, by rw [decide_eq_true ⟨Int32.not_lt.mp c1, Int32.not_le.mp c11⟩]; rfl, ht⟩) (fun q h => by cases h) d_M_isRow_19 hlk
set_option maxHeartbeats 4000000 in
set_option maxRecDepth 100000 in
/-- isFull() -/
theorem c_M_isFull (l : Launch) (g : gG) (H : Heap) (x : Nat) (ad : Nat → Nat) (F : Nat → Int32) (A : Nat → Nat → Int32) (B : Nat → Nat → Int64) (hm0 : mW g H x ad F A B) (n : Nat) (hc : A 12 4 = nI n) (hn : n ≤ 120) : Met l y_M_isFull (wC y_M_isFull b_M_isFull 1 (some .boolean)) (rmk 0 0 0 0) (pC g H [.ref x]) (qP H (fun v => v = some (.int (bI (decide (n = 120)))))) 0 0 no_ := by
  refine mB (by decide) (Nat.le_of_ble_eq_true rfl) ?_
  intro p e s m below meth c ls C0 hH hZ hnm hl
  have C0 : cF g p s m _ meth c b_M_isFull 1 "RegistryLogModel" (some .boolean) := C0
  obtain ⟨hx, hb, hml, hown, hts, hr, hlk, hK⟩ := id C0
  subst hH
  have hl : lv_has ls 1 [(0, .ref x)] := hl
  have hm := mS.rf hm0
  refine lv_aload_n hx hb d_M_isFull_0 rfl (lv_at hl 0 rfl) ?_
  refine m_get hx hb hts hown hK hm 12 (by decide) (hts (.fieldLink "RegistryLogModel" 40 "RegistryLogModel" "copied" "[I") (in_4 (List.mem_of_getElem? (i := 221) rfl) rfl)) rfl (v := .ref (ad 12)) rfl d_M_isFull_1 ?_
  refine lv_iconst (v := nI 4) hx hb d_M_isFull_4 (by decide) ?_
  refine m_ld hx hb hK hm 12 rfl 4 rfl (show 4 < 5 from by omega) d_M_isFull_5 ?_
  refine W.eq (g2 := F0 m 6 ls [.int (nI n)]) (by rw [hc]) ?_
  refine lv_bipush (v := nI 120) hx hb d_M_isFull_6 (by decide) ?_
  refine n_ne (tgt := 15) (a := n) (b := 120) hx hb d_M_isFull_8 (by decide) (by omega) (by omega) (fun c8 => ?_) (fun c8 => ?_)
  · skip
    refine lv_iconst (v := nI 0) hx hb d_M_isFull_15 (by decide) ?_
    exact W.zret hx hb hr rfl (fun t9 ht hW => ⟨_, rfl, by rw [decide_eq_false c8]; rfl, ht⟩) (fun q h => by cases h) d_M_isFull_16 hlk
  · skip
    refine lv_iconst (v := nI 1) hx hb d_M_isFull_11 (by decide) ?_
    refine lv_goto (tgt := 16) hx hb d_M_isFull_12 (by decide) ?_
    exact W.zret hx hb hr rfl (fun t9 ht hW => ⟨_, rfl, by rw [decide_eq_true c8]; rfl, ht⟩) (fun q h => by cases h) d_M_isFull_16 hlk
