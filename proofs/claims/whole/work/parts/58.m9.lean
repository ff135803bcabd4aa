set_option maxHeartbeats 4000000 in
set_option maxRecDepth 100000 in
/-- goDown(i, n, true) -/
theorem c_M_goDownG (l : Launch) (g : gG) (H : Heap) (x : Nat) (ad : Nat → Nat) (F : Nat → Int32) (A : Nat → Nat → Int32) (B : Nat → Nat → Int64) (hm0 : mW g H x ad F A B) (i n : Nat) (hn : n ≤ 120) (hi : 1 ≤ i ∧ i ≤ n) : Met l y_M_goDown (wC y_M_goDown b_M_goDown 6 none) (rmk 1 0 0 21) (pC g H [.ref x, .int (nI i), .int (nI n), .int (bI true)]) (qM g H x ad (fun v F1 A1 B1 => v = none ∧ F1 = goF F (gdR true 7 0 n i true).1.length (gdR true 7 0 n i true).2.1 (gdR true 7 0 n i true).2.2.1 (gdR true 7 0 n i true).2.2.2.1 (gdR true 7 0 n i true).2.2.2.2 ∧ (∃ f1 f2 f3, A1 = goA A f1 f2 f3 ∧ gdOk (gdR true 7 0 n i true).1 f1 f2 f3) ∧ B1 = B)) 0 0 (mN x ad) := by
  refine mB (by decide) (Nat.le_of_ble_eq_true rfl) ?_
  intro p e s m below meth c ls C0 hH hZ hnm hl
  have C0 : cF g p s m _ meth c b_M_goDown 6 "RegistryLogModel" none := C0
  obtain ⟨hx, hb, hml, hown, hts, hr, hlk, hK⟩ := id C0
  subst hH
  have hl : lv_has ls 6 [(0, .ref x), (1, .int (nI i)), (2, .int (nI n)), (3, .int (bI true))] := hl
  have hm := mS.rf hm0
  refine lv_aload_n hx hb d_M_goDown_0 rfl (lv_at hl 0 rfl) ?_
  refine lv_iconst (v := nI 0) hx hb d_M_goDown_1 (by decide) ?_
  refine m_put hx hb hts hown hK hm 41 (by decide) (hts (.fieldLink "RegistryLogModel" 218 "RegistryLogModel" "steps" "I") (in_5 (List.mem_of_getElem? (i := 10) rfl) rfl)) rfl rfl (v := nI 0) rfl rfl rfl rfl d_M_goDown_2 (fun H locs hm => ?_)
  refine lv_aload_n hx hb d_M_goDown_5 rfl (lv_at hl 0 rfl) ?_
  refine lv_iconst (v := nI 0) hx hb d_M_goDown_6 (by decide) ?_
  refine m_put hx hb hts hown hK hm 42 (by decide) (hts (.fieldLink "RegistryLogModel" 221 "RegistryLogModel" "restFrom" "I") (in_5 (List.mem_of_getElem? (i := 11) rfl) rfl)) rfl rfl (v := nI 0) rfl rfl rfl rfl d_M_goDown_7 (fun H locs hm => ?_)
  refine lv_aload_n hx hb d_M_goDown_10 rfl (lv_at hl 0 rfl) ?_
  refine lv_iload_n hx hb d_M_goDown_11 rfl (lv_at hl 2 rfl) ?_
  refine m_put hx hb hts hown hK hm 43 (by decide) (hts (.fieldLink "RegistryLogModel" 224 "RegistryLogModel" "restMany" "I") (in_5 (List.mem_of_getElem? (i := 12) rfl) rfl)) rfl rfl (v := nI n) rfl rfl rfl rfl d_M_goDown_12 (fun H locs hm => ?_)
  refine lv_aload_n hx hb d_M_goDown_15 rfl (lv_at hl 0 rfl) ?_
  refine lv_iload_n hx hb d_M_goDown_16 rfl (lv_at hl 1 rfl) ?_
  refine m_put hx hb hts hown hK hm 44 (by decide) (hts (.fieldLink "RegistryLogModel" 227 "RegistryLogModel" "restIn" "I") (in_5 (List.mem_of_getElem? (i := 13) rfl) rfl)) rfl rfl (v := nI i) rfl rfl rfl rfl d_M_goDown_17 (fun H locs hm => ?_)
  refine lv_aload_n hx hb d_M_goDown_20 rfl (lv_at hl 0 rfl) ?_
  refine lv_iconst (v := nI 1) hx hb d_M_goDown_21 (by decide) ?_
  refine W.eq (g2 := F0 m 22 ls [.int (bI true), .ref x]) rfl ?_
  refine m_put hx hb hts hown hK hm 45 (by decide) (hts (.fieldLink "RegistryLogModel" 230 "RegistryLogModel" "whole" "Z") (in_5 (List.mem_of_getElem? (i := 14) rfl) rfl)) rfl rfl (v := bI true) rfl rfl rfl rfl d_M_goDown_22 (fun H locs hm => ?_)
  exact lp_M_goDownG C0 hZ (nI i) (nI n) _ _ _ _ _ 7 0 n i true [] (A 38) (A 39) (A 40) H locs (by omega) hn (by omega) (by simp) hi (by rw [goA, updA_id, updA_id, updA_id]; exact hm) (fun q hq => absurd hq (by simp)) (List.nil_append _) rfl ls (lv_sub hl [0, 1, 2, 3] rfl)
set_option maxHeartbeats 4000000 in
set_option maxRecDepth 100000 in
/-- goDown(i, n, false) -/
theorem c_M_goDownI (l : Launch) (g : gG) (H : Heap) (x : Nat) (ad : Nat → Nat) (F : Nat → Int32) (A : Nat → Nat → Int32) (B : Nat → Nat → Int64) (hm0 : mW g H x ad F A B) (i n : Nat) (hn : n ≤ 120) (hi : i < n) : Met l y_M_goDown (wC y_M_goDown b_M_goDown 6 none) (rmk 1 0 0 21) (pC g H [.ref x, .int (nI i), .int (nI n), .int (bI false)]) (qM g H x ad (fun v F1 A1 B1 => v = none ∧ F1 = goF F (gdR false 7 0 n i true).1.length (gdR false 7 0 n i true).2.1 (gdR false 7 0 n i true).2.2.1 (gdR false 7 0 n i true).2.2.2.1 (gdR false 7 0 n i true).2.2.2.2 ∧ (∃ f1 f2 f3, A1 = goA A f1 f2 f3 ∧ gdOk (gdR false 7 0 n i true).1 f1 f2 f3) ∧ B1 = B)) 0 0 (mN x ad) := by
  refine mB (by decide) (Nat.le_of_ble_eq_true rfl) ?_
  intro p e s m below meth c ls C0 hH hZ hnm hl
  have C0 : cF g p s m _ meth c b_M_goDown 6 "RegistryLogModel" none := C0
  obtain ⟨hx, hb, hml, hown, hts, hr, hlk, hK⟩ := id C0
  subst hH
  have hl : lv_has ls 6 [(0, .ref x), (1, .int (nI i)), (2, .int (nI n)), (3, .int (bI false))] := hl
  have hm := mS.rf hm0
  refine lv_aload_n hx hb d_M_goDown_0 rfl (lv_at hl 0 rfl) ?_
  refine lv_iconst (v := nI 0) hx hb d_M_goDown_1 (by decide) ?_
  refine m_put hx hb hts hown hK hm 41 (by decide) (hts (.fieldLink "RegistryLogModel" 218 "RegistryLogModel" "steps" "I") (in_5 (List.mem_of_getElem? (i := 10) rfl) rfl)) rfl rfl (v := nI 0) rfl rfl rfl rfl d_M_goDown_2 (fun H locs hm => ?_)
  refine lv_aload_n hx hb d_M_goDown_5 rfl (lv_at hl 0 rfl) ?_
  refine lv_iconst (v := nI 0) hx hb d_M_goDown_6 (by decide) ?_
  refine m_put hx hb hts hown hK hm 42 (by decide) (hts (.fieldLink "RegistryLogModel" 221 "RegistryLogModel" "restFrom" "I") (in_5 (List.mem_of_getElem? (i := 11) rfl) rfl)) rfl rfl (v := nI 0) rfl rfl rfl rfl d_M_goDown_7 (fun H locs hm => ?_)
  refine lv_aload_n hx hb d_M_goDown_10 rfl (lv_at hl 0 rfl) ?_
  refine lv_iload_n hx hb d_M_goDown_11 rfl (lv_at hl 2 rfl) ?_
  refine m_put hx hb hts hown hK hm 43 (by decide) (hts (.fieldLink "RegistryLogModel" 224 "RegistryLogModel" "restMany" "I") (in_5 (List.mem_of_getElem? (i := 12) rfl) rfl)) rfl rfl (v := nI n) rfl rfl rfl rfl d_M_goDown_12 (fun H locs hm => ?_)
  refine lv_aload_n hx hb d_M_goDown_15 rfl (lv_at hl 0 rfl) ?_
  refine lv_iload_n hx hb d_M_goDown_16 rfl (lv_at hl 1 rfl) ?_
  refine m_put hx hb hts hown hK hm 44 (by decide) (hts (.fieldLink "RegistryLogModel" 227 "RegistryLogModel" "restIn" "I") (in_5 (List.mem_of_getElem? (i := 13) rfl) rfl)) rfl rfl (v := nI i) rfl rfl rfl rfl d_M_goDown_17 (fun H locs hm => ?_)
  refine lv_aload_n hx hb d_M_goDown_20 rfl (lv_at hl 0 rfl) ?_
  refine lv_iconst (v := nI 1) hx hb d_M_goDown_21 (by decide) ?_
  refine W.eq (g2 := F0 m 22 ls [.int (bI true), .ref x]) rfl ?_
  refine m_put hx hb hts hown hK hm 45 (by decide) (hts (.fieldLink "RegistryLogModel" 230 "RegistryLogModel" "whole" "Z") (in_5 (List.mem_of_getElem? (i := 14) rfl) rfl)) rfl rfl (v := bI true) rfl rfl rfl rfl d_M_goDown_22 (fun H locs hm => ?_)
  exact lp_M_goDownI C0 hZ (nI i) (nI n) _ _ _ _ _ 7 0 n i true [] (A 38) (A 39) (A 40) H locs (by omega) hn (by omega) (by simp) hi (by rw [goA, updA_id, updA_id, updA_id]; exact hm) (fun q hq => absurd hq (by simp)) (List.nil_append _) rfl ls (lv_sub hl [0, 1, 2, 3] rfl)
theorem k_M_headOf_48 : kV "RegistryLogModel" 207 "RegistryLogModel" y_M_digestOf b_M_digestOf 6 (some .long) 2 := ⟨(in_5 (List.mem_of_getElem? (i := 218) rfl) rfl), (in_5 (List.mem_of_getElem? (i := 220) rfl) rfl), (in_0 (List.mem_of_getElem? (i := 21) rfl) rfl), (in_1 (List.mem_of_getElem? (i := 22) rfl) rfl), (in_5 (List.mem_of_getElem? (i := 221) rfl) rfl), ⟨by decide, by decide, by decide +kernel⟩⟩
theorem k_M_headOf_106 : kS "RegistryLogModel" 211 y_M_join b_M_join 4 (some .long) 2 := ⟨(in_5 (List.mem_of_getElem? (i := 235) rfl) rfl), (in_5 (List.mem_of_getElem? (i := 236) rfl) rfl), (in_1 (List.mem_of_getElem? (i := 22) rfl) rfl), (in_5 (List.mem_of_getElem? (i := 237) rfl) rfl), ⟨by decide, by decide, by decide +kernel⟩⟩
theorem k_M_headOf_195 : kS "RegistryLogModel" 211 y_M_join b_M_join 4 (some .long) 2 := ⟨(in_5 (List.mem_of_getElem? (i := 235) rfl) rfl), (in_5 (List.mem_of_getElem? (i := 236) rfl) rfl), (in_1 (List.mem_of_getElem? (i := 22) rfl) rfl), (in_5 (List.mem_of_getElem? (i := 237) rfl) rfl), ⟨by decide, by decide, by decide +kernel⟩⟩
/-- the log's rows as the reference holds them: texts of names and of other names -/
def repR (A : Nat → Nat → Int32) (cnt : Nat) (TT UU : Nat → List Nat) : Prop := cnt ≤ 120 ∧ ∀ j, j < cnt → (TT j).length ≤ 10 ∧ (UU j).length ≤ 10 ∧ A 7 j = nI (TT j).length ∧ A 8 j = nI (UU j).length ∧ txt A 9 (10 * j) (TT j) ∧ txt A 10 (10 * j) (UU j) ∧ (A 3 j = 0 ∨ A 3 j = 1 ∨ A 3 j = 2 ∨ A 3 j = 3)
def dgA (A : Nat → Nat → Int32) (w0 : Nat) (TT UU : Nat → List Nat) (j : Nat) : Int64 := dgM (A 3 j) (A 4 j) (TT j) (UU j) (A 5 j) (A 6 j) (A 11 (120 * w0 + j))
def hdB (B : Nat → Nat → Int64) (b1 b2 : Nat → Int64) : Nat → Nat → Int64 := updB (updB B 36 b1) 37 b2
theorem hdB_36 (B : Nat → Nat → Int64) (b1 b2 b3 : Nat → Int64) : updB (hdB B b1 b2) 36 b3 = hdB B b3 b2 := by
  funext k
  unfold hdB updB
  by_cases h1 : k = 36 <;> by_cases h2 : k = 37 <;> simp [h1, h2] <;> omega
theorem hdB_37 (B : Nat → Nat → Int64) (b1 b2 b3 : Nat → Int64) : updB (hdB B b1 b2) 37 b3 = hdB B b1 b3 := by
  funext k
  unfold hdB updB
  by_cases h1 : k = 36 <;> by_cases h2 : k = 37 <;> simp [h1, h2]
theorem hdB_id (B : Nat → Nat → Int64) : hdB B (B 36) (B 37) = B := by
  funext k
  unfold hdB updB
  by_cases h1 : k = 36 <;> by_cases h2 : k = 37 <;> simp [h1, h2]
theorem uL_s {f : Nat → Int64} {k : Nat} {v : Int64} : vp_updL f k v k = v := by unfold vp_updL; rw [if_pos rfl]
theorem uL_n {f : Nat → Int64} {k j : Nat} {v : Int64} (h : j ≠ k) : vp_updL f k v j = f j := by unfold vp_updL; rw [if_neg h]
theorem fp_dbl : ∀ j, j < 6 → fpS (2 * 2 ^ j) = 2 ^ j := by decide +kernel
theorem hdS_dbl (d : Nat → Int64) (a : Nat) {j : Nat} (hj : j < 6) : hdS d a (2 * 2 ^ j) = joinS (hdS d a (2 ^ j)) (hdS d (a + 2 ^ j) (2 ^ j)) := by
  have h1 : 1 ≤ 2 ^ j := Nat.one_le_two_pow
  rw [hdS_n d a (by omega), fp_dbl j hj, show 2 * 2 ^ j - 2 ^ j = 2 ^ j by omega]
set_option maxHeartbeats 4000000 in
set_option maxRecDepth 100000 in
theorem lp_M_head1 {p : Program} {l : Launch} {e : Env} {s : State} {m : MethodId} {args : Array Value} {below : List Frame} {meth : Method} {c : Code} {g : gG} {Q : State → Prop} (C0 : cF g p s m args meth c b_M_headOf 9 "RegistryLogModel" (some .long)) (hZ : zK g s s.heap) {x : Nat} {ad : Nat → Nat} {F : Nat → Int32} {A : Nat → Nat → Int32} {B : Nat → Nat → Int64} (w0 cnt : Nat) (TT UU : Nat → List Nat) (hw : w0 < 5) (hrep : repR A cnt TT UU) (fr n0 : Nat) (c0 at0 k0 : Nat) (b9 : Nat → Int64) (hk : k0 ≤ 64) (hat : at0 + k0 ≤ cnt) (K : ∀ (b1 b2 : Nat → Int64) (H : Heap) (locs : List Loc), (∀ q, q < k0 → b1 q = dgA A w0 TT UU (at0 + q)) → mS g s.heap H x ad F A (hdB B b1 b2) locs → b2 = b9 → ∀ (ls : Array Slot), lv_has ls 9 [(0, .ref x), (1, .int (nI w0)), (2, .int (nI fr)), (3, .int (nI n0)), (4, .int (nI c0)), (5, .int (nI at0)), (6, .int (nI k0)), (7, .int (nI k0))] → W p l e (rmk 2 0 0 50) s m args below meth c H locs 0 0 Q (F0 m 58 ls [])) :
    ∀ (n i : Nat) (b1 b2 : Nat → Int64) (H : Heap) (locs : List Loc), i ≤ k0 → k0 + 1 ≤ i + n → (∀ q, q < i → b1 q = dgA A w0 TT UU (at0 + q)) → b2 = b9 → mS g s.heap H x ad F A (hdB B b1 b2) locs → ∀ (ls : Array Slot), lv_has ls 9 [(0, .ref x), (1, .int (nI w0)), (2, .int (nI fr)), (3, .int (nI n0)), (4, .int (nI c0)), (5, .int (nI at0)), (6, .int (nI k0)), (7, .int (nI i))] → W p l e (rmk 2 0 0 50) s m args below meth c H locs 0 0 Q (F0 m 28 ls []) := by
  obtain ⟨hx, hb, hml, hown, hts, hr, hlk, hK⟩ := id C0
  obtain ⟨hc120, hrow⟩ := id hrep
  intro n
  induction n with
  | zero => intro i b1 b2 H locs h1 h2; exact absurd h2 (by omega)
  | succ n ih =>
    intro i b1 b2 H locs hi hin hq he hm ls hl
    refine lv_iload hx hb d_M_headOf_28 (lv_at hl 7 rfl) ?_
    refine lv_iload hx hb d_M_headOf_30 (lv_at hl 6 rfl) ?_
    refine n_ge (tgt := 58) (a := i) (b := k0) hx hb d_M_headOf_32 (by decide) (by omega) (by omega) (fun c32 => ?_) (fun c32 => ?_)
    · skip
      have e9 : i = k0 := by omega
      rw [e9] at hl hq
      exact K b1 b2 H locs hq hm he ls (lv_sub hl [0, 1, 2, 3, 4, 5, 6, 7] rfl)
    · skip
      refine lv_aload_n hx hb d_M_headOf_35 rfl (lv_at hl 0 rfl) ?_
      refine m_get hx hb hts hown hK hm 36 (by decide) (hts (.fieldLink "RegistryLogModel" 92 "RegistryLogModel" "tree" "[J") (in_5 (List.mem_of_getElem? (i := 5) rfl) rfl)) rfl (v := .ref (ad 36)) rfl d_M_headOf_36 ?_
      refine lv_iload hx hb d_M_headOf_39 (lv_at hl 7 rfl) ?_
      refine lv_aload_n hx hb d_M_headOf_41 rfl (lv_at hl 0 rfl) ?_
      refine lv_iload_n hx hb d_M_headOf_42 rfl (lv_at hl 1 rfl) ?_
      refine lv_iload hx hb d_M_headOf_43 (lv_at hl 5 rfl) ?_
      refine lv_iload hx hb d_M_headOf_45 (lv_at hl 7 rfl) ?_
      refine n_iadd hx hb d_M_headOf_47 ?_
      obtain ⟨r1, r2, r3, r4, r5, r6, r7⟩ := hrow (at0 + i) (by omega)
      refine aP (rV (As := [.int (nI w0), .int (nI (at0 + i))]) (rest := [.int (nI i), .ref (ad 36)]) C0 (c_M_digestOf l g _ x ad _ _ _ hm.1 w0 (at0 + i) hw (by omega) (TT (at0 + i)) (UU (at0 + i)) r1 r2 r3 r4 r5 r6 r7) (m_zK hZ hm) k_M_headOf_48 rfl rfl ⟨Nat.le_of_ble_eq_true rfl, Nat.le_of_ble_eq_true rfl⟩ (m_recv hK hm) rfl hl.1 rfl (Nat.le_of_ble_eq_true rfl) d_M_headOf_48 ⟨Nat.zero_le _, Nat.zero_le _⟩) ?_
      intro v hv; subst hv
      refine W.eq (g2 := F0 m 51 ls [.long (dgM (A 3 (at0 + i)) (A 4 (at0 + i)) (TT (at0 + i)) (UU (at0 + i)) (A 5 (at0 + i)) (A 6 (at0 + i)) (A 11 (120 * w0 + (at0 + i)))), .int (nI i), .ref (ad 36)]) rfl ?_
      refine m_stl hx hb hK hm 36 rfl i rfl (show i < 128 from by omega) d_M_headOf_51 (fun H locs hm => ?_)
      have hm : mS g s.heap H x ad F A (updB (hdB B b1 b2) 36 (vp_updL (b1) i (dgM (A 3 (at0 + i)) (A 4 (at0 + i)) (TT (at0 + i)) (UU (at0 + i)) (A 5 (at0 + i)) (A 6 (at0 + i)) (A 11 (120 * w0 + (at0 + i)))))) locs := hm
      refine n_inc (a := i) (lv' := [(7, .int (nI (i + 1))), (0, .ref x), (1, .int (nI w0)), (2, .int (nI fr)), (3, .int (nI n0)), (4, .int (nI c0)), (5, .int (nI at0)), (6, .int (nI k0))]) hx hb d_M_headOf_52 hl (k := 7) rfl (by decide) rfl (fun ls hl => ?_)
      refine lv_goto (tgt := 28) hx hb d_M_headOf_55 (by decide) ?_
      rw [hdB_36] at hm
      exact ih (i + 1) _ _ H locs (by omega) (by omega) (fun q h => by by_cases z : q = i; (subst z; rw [uL_s]; rfl); (rw [uL_n z]; exact hq q (by omega))) he hm ls (lv_sub hl [1, 2, 3, 4, 5, 6, 7, 0] rfl)
set_option maxHeartbeats 4000000 in
set_option maxRecDepth 100000 in
theorem lp_M_head2 {p : Program} {l : Launch} {e : Env} {s : State} {m : MethodId} {args : Array Value} {below : List Frame} {meth : Method} {c : Code} {g : gG} {Q : State → Prop} (C0 : cF g p s m args meth c b_M_headOf 9 "RegistryLogModel" (some .long)) (hZ : zK g s s.heap) {x : Nat} {ad : Nat → Nat} {F : Nat → Int32} {A : Nat → Nat → Int32} {B : Nat → Nat → Int64} (w0 cnt : Nat) (TT UU : Nat → List Nat) (hw : w0 < 5) (hrep : repR A cnt TT UU) (fr n0 : Nat) (c0 at0 k0 h : Nat) (b9 g0 : Nat → Int64) (hh : h ≤ 32) (K : ∀ (b1 b2 : Nat → Int64) (H : Heap) (locs : List Loc), (∀ q, q < h → b1 q = joinS (g0 (2 * q)) (g0 (2 * q + 1))) → mS g s.heap H x ad F A (hdB B b1 b2) locs → b2 = b9 → ∀ (ls : Array Slot), lv_has ls 9 [(0, .ref x), (1, .int (nI w0)), (2, .int (nI fr)), (3, .int (nI n0)), (4, .int (nI c0)), (5, .int (nI at0)), (6, .int (nI k0)), (7, .int (nI (2 * h)))] → W p l e (rmk 2 0 0 50) s m args below meth c H locs 0 0 Q (F0 m 116 ls [])) :
    ∀ (n i : Nat) (b1 b2 : Nat → Int64) (H : Heap) (locs : List Loc), i ≤ h → h + 1 ≤ i + n → (∀ q, q < i → b1 q = joinS (g0 (2 * q)) (g0 (2 * q + 1))) → (∀ q, i ≤ q → q < 2 * h → b1 q = g0 q) → b2 = b9 → mS g s.heap H x ad F A (hdB B b1 b2) locs → ∀ (ls : Array Slot), lv_has ls 9 [(0, .ref x), (1, .int (nI w0)), (2, .int (nI fr)), (3, .int (nI n0)), (4, .int (nI c0)), (5, .int (nI at0)), (6, .int (nI k0)), (7, .int (nI (2 * h))), (8, .int (nI i))] → W p l e (rmk 2 0 0 50) s m args below meth c H locs 0 0 Q (F0 m 71 ls []) := by
  obtain ⟨hx, hb, hml, hown, hts, hr, hlk, hK⟩ := id C0
  obtain ⟨hc120, hrow⟩ := id hrep
  intro n
  induction n with
  | zero => intro i b1 b2 H locs h1 h2; exact absurd h2 (by omega)
  | succ n ih =>
    intro i b1 b2 H locs hi hin hq hq2 he hm ls hl
    refine lv_iload hx hb d_M_headOf_71 (lv_at hl 8 rfl) ?_
    refine lv_iload hx hb d_M_headOf_73 (lv_at hl 7 rfl) ?_
    refine lv_iconst (v := nI 2) hx hb d_M_headOf_75 (by decide) ?_
    refine lv_idiv hx hb d_M_headOf_76 (by decide) ?_
    refine W.eq (g2 := F0 m 77 ls [.int (nI h), .int (nI i)]) (by rw [show nI ((2 * h)) / nI 2 = nI h from by rw [pk_div (by omega) (by decide) (by decide), Nat.mul_div_cancel_left h (by decide)]]) ?_
    refine n_ge (tgt := 116) (a := i) (b := h) hx hb d_M_headOf_77 (by decide) (by omega) (by omega) (fun c77 => ?_) (fun c77 => ?_)
    · skip
      have e9 : i = h := by omega
      rw [e9] at hq
      exact K b1 b2 H locs hq hm he ls (lv_sub hl [0, 1, 2, 3, 4, 5, 6, 7] rfl)
    · skip
      refine lv_aload_n hx hb d_M_headOf_80 rfl (lv_at hl 0 rfl) ?_
      refine m_get hx hb hts hown hK hm 36 (by decide) (hts (.fieldLink "RegistryLogModel" 92 "RegistryLogModel" "tree" "[J") (in_5 (List.mem_of_getElem? (i := 5) rfl) rfl)) rfl (v := .ref (ad 36)) rfl d_M_headOf_81 ?_
      refine lv_iload hx hb d_M_headOf_84 (lv_at hl 8 rfl) ?_
      refine lv_aload_n hx hb d_M_headOf_86 rfl (lv_at hl 0 rfl) ?_
      refine m_get hx hb hts hown hK hm 36 (by decide) (hts (.fieldLink "RegistryLogModel" 92 "RegistryLogModel" "tree" "[J") (in_5 (List.mem_of_getElem? (i := 5) rfl) rfl)) rfl (v := .ref (ad 36)) rfl d_M_headOf_87 ?_
      refine lv_iconst (v := nI 2) hx hb d_M_headOf_90 (by decide) ?_
      refine lv_iload hx hb d_M_headOf_91 (lv_at hl 8 rfl) ?_
      refine n_imul hx hb d_M_headOf_93 ?_
      refine m_ldl hx hb hK hm 36 rfl (2 * i) rfl (show 2 * i < 128 from by omega) d_M_headOf_94 ?_
      refine W.eq (g2 := F0 m 95 ls [.long (b1 (2 * i)), .int (nI i), .ref (ad 36)]) rfl ?_
      refine lv_aload_n hx hb d_M_headOf_95 rfl (lv_at hl 0 rfl) ?_
      refine m_get hx hb hts hown hK hm 36 (by decide) (hts (.fieldLink "RegistryLogModel" 92 "RegistryLogModel" "tree" "[J") (in_5 (List.mem_of_getElem? (i := 5) rfl) rfl)) rfl (v := .ref (ad 36)) rfl d_M_headOf_96 ?_
      refine lv_iconst (v := nI 2) hx hb d_M_headOf_99 (by decide) ?_
      refine lv_iload hx hb d_M_headOf_100 (lv_at hl 8 rfl) ?_
      refine n_imul hx hb d_M_headOf_102 ?_
      refine lv_iconst (v := nI 1) hx hb d_M_headOf_103 (by decide) ?_
      refine n_iadd hx hb d_M_headOf_104 ?_
      refine m_ldl hx hb hK hm 36 rfl ((2 * i) + 1) rfl (show (2 * i) + 1 < 128 from by omega) d_M_headOf_105 ?_
      refine W.eq (g2 := F0 m 106 ls [.long (b1 ((2 * i) + 1)), .long (b1 (2 * i)), .int (nI i), .ref (ad 36)]) rfl ?_
      refine aP (rS (As := [.long (b1 (2 * i)), .long (b1 ((2 * i) + 1))]) (rest := [.int (nI i), .ref (ad 36)]) C0 (c_M_join l g _ (b1 (2 * i)) (b1 ((2 * i) + 1))) (m_zK hZ hm) k_M_headOf_106 rfl rfl ⟨Nat.le_of_ble_eq_true rfl, Nat.le_of_ble_eq_true rfl⟩ rfl hl.1 rfl (Nat.le_of_ble_eq_true rfl) d_M_headOf_106 ⟨Nat.zero_le _, Nat.zero_le _⟩) ?_
      intro v hv; subst hv
      refine W.eq (g2 := F0 m 109 ls [.long (joinS (b1 (2 * i)) (b1 ((2 * i) + 1))), .int (nI i), .ref (ad 36)]) rfl ?_
      refine m_stl hx hb hK hm 36 rfl i rfl (show i < 128 from by omega) d_M_headOf_109 (fun H locs hm => ?_)
      have hm : mS g s.heap H x ad F A (updB (hdB B b1 b2) 36 (vp_updL (b1) i (joinS (b1 (2 * i)) (b1 ((2 * i) + 1))))) locs := hm
      refine n_inc (a := i) (lv' := [(8, .int (nI (i + 1))), (0, .ref x), (1, .int (nI w0)), (2, .int (nI fr)), (3, .int (nI n0)), (4, .int (nI c0)), (5, .int (nI at0)), (6, .int (nI k0)), (7, .int (nI (2 * h)))]) hx hb d_M_headOf_110 hl (k := 8) rfl (by decide) rfl (fun ls hl => ?_)
      refine lv_goto (tgt := 71) hx hb d_M_headOf_113 (by decide) ?_
      rw [hdB_36] at hm
      exact ih (i + 1) _ _ H locs (by omega) (by omega) (fun q h9 => by by_cases z : q = i; (subst z; rw [uL_s, hq2 (2 * q) (by omega) (by omega), hq2 (2 * q + 1) (by omega) (by omega)]); (rw [uL_n z]; exact hq q (by omega))) (fun q h8 h9 => by rw [uL_n (by omega)]; exact hq2 q (by omega) h9) he hm ls (lv_sub hl [1, 2, 3, 4, 5, 6, 7, 8, 0] rfl)
set_option maxHeartbeats 4000000 in
set_option maxRecDepth 100000 in
theorem lp_M_head3 {p : Program} {l : Launch} {e : Env} {s : State} {m : MethodId} {args : Array Value} {below : List Frame} {meth : Method} {c : Code} {g : gG} {Q : State → Prop} (C0 : cF g p s m args meth c b_M_headOf 9 "RegistryLogModel" (some .long)) (hZ : zK g s s.heap) {x : Nat} {ad : Nat → Nat} {F : Nat → Int32} {A : Nat → Nat → Int32} {B : Nat → Nat → Int64} (w0 cnt : Nat) (TT UU : Nat → List Nat) (hw : w0 < 5) (hrep : repR A cnt TT UU) (fr n0 : Nat) (c0 at0 k0 EE : Nat) (b9 : Nat → Int64) (hE : EE ≤ 6) (K : ∀ (b1 b2 : Nat → Int64) (H : Heap) (locs : List Loc), b1 0 = hdS (dgA A w0 TT UU) at0 (2 ^ EE) → mS g s.heap H x ad F A (hdB B b1 b2) locs → b2 = b9 → ∀ (ls : Array Slot), lv_has ls 9 [(0, .ref x), (1, .int (nI w0)), (2, .int (nI fr)), (3, .int (nI n0)), (4, .int (nI c0)), (5, .int (nI at0)), (6, .int (nI k0))] → W p l e (rmk 2 0 0 50) s m args below meth c H locs 0 0 Q (F0 m 125 ls [])) :
    ∀ (e0 j0 : Nat) (b1 b2 : Nat → Int64) (H : Heap) (locs : List Loc), e0 + j0 = EE → (∀ q, q < 2 ^ e0 → b1 q = hdS (dgA A w0 TT UU) (at0 + q * 2 ^ j0) (2 ^ j0)) → b2 = b9 → mS g s.heap H x ad F A (hdB B b1 b2) locs → ∀ (ls : Array Slot), lv_has ls 9 [(0, .ref x), (1, .int (nI w0)), (2, .int (nI fr)), (3, .int (nI n0)), (4, .int (nI c0)), (5, .int (nI at0)), (6, .int (nI k0)), (7, .int (nI (2 ^ e0)))] → W p l e (rmk 2 0 0 50) s m args below meth c H locs 0 0 Q (F0 m 62 ls []) := by
  obtain ⟨hx, hb, hml, hown, hts, hr, hlk, hK⟩ := id C0
  obtain ⟨hc120, hrow⟩ := id hrep
  intro e0
  induction e0 with
  | zero =>
    intro j0 b1 b2 H locs hej hq he hm ls hl
    refine lv_iload hx hb d_M_headOf_62 (lv_at hl 7 rfl) ?_
    refine lv_iconst (v := nI 1) hx hb d_M_headOf_64 (by decide) ?_
    refine n_le (tgt := 125) (a := 2 ^ 0) (b := 1) hx hb d_M_headOf_65 (by decide) (by omega) (by omega) (fun c65 => ?_) (fun c65 => ?_)
    · skip
      have q0 := hq 0 (by decide)
      rw [Nat.zero_mul, Nat.add_zero, show j0 = EE by omega] at q0
      exact K b1 b2 H locs q0 hm he ls (lv_sub hl [0, 1, 2, 3, 4, 5, 6] rfl)
    · skip
      exact absurd c65 (by decide)
  | succ e0 ih =>
    intro j0 b1 b2 H locs hej hq he hm ls hl
    have hp : 2 ^ (e0 + 1) = 2 * 2 ^ e0 := by rw [Nat.pow_succ, Nat.mul_comm]
    have hp1 : 1 ≤ 2 ^ e0 := Nat.one_le_two_pow
    have hp2 : 2 ^ e0 ≤ 2 ^ 5 := Nat.pow_le_pow_right (by decide) (by omega)
    rw [hp] at hl hq
    have hq0 := hq
    refine lv_iload hx hb d_M_headOf_62 (lv_at hl 7 rfl) ?_
    refine lv_iconst (v := nI 1) hx hb d_M_headOf_64 (by decide) ?_
    refine n_le (tgt := 125) (a := 2 * 2 ^ e0) (b := 1) hx hb d_M_headOf_65 (by decide) (by omega) (by omega) (fun c65 => ?_) (fun c65 => ?_)
    · skip
      exact absurd c65 (by omega)
    · skip
      refine lv_iconst (v := nI 0) hx hb d_M_headOf_68 (by decide) ?_
      refine lv_istore (lv' := [(8, .int (nI 0)), (0, .ref x), (1, .int (nI w0)), (2, .int (nI fr)), (3, .int (nI n0)), (4, .int (nI c0)), (5, .int (nI at0)), (6, .int (nI k0)), (7, .int (nI (2 * 2 ^ e0)))]) hx hb d_M_headOf_69 hl (by decide) rfl (fun ls hl => ?_)
      refine lp_M_head2 C0 hZ w0 cnt TT UU hw hrep fr n0 c0 at0 k0 (2 ^ e0) b9 b1 (by omega) (fun b1 b2 H locs hj hm he ls hl => ?_) (2 ^ e0 + 1) 0 b1 b2 H locs (Nat.zero_le _) (by omega) (fun q h => absurd h (by omega)) (fun q _ _ => rfl) he hm ls (lv_sub hl [1, 2, 3, 4, 5, 6, 7, 8, 0] rfl)
      refine lv_iload hx hb d_M_headOf_116 (lv_at hl 7 rfl) ?_
      refine lv_iconst (v := nI 2) hx hb d_M_headOf_118 (by decide) ?_
      refine lv_idiv hx hb d_M_headOf_119 (by decide) ?_
      refine W.eq (g2 := F0 m 120 ls [.int (nI (2 ^ e0))]) (by rw [show nI ((2 * 2 ^ e0)) / nI 2 = nI (2 ^ e0) from by rw [pk_div (by omega) (by decide) (by decide), Nat.mul_div_cancel_left (2 ^ e0) (by decide)]]) ?_
      refine lv_istore (lv' := [(7, .int (nI (2 ^ e0))), (0, .ref x), (1, .int (nI w0)), (2, .int (nI fr)), (3, .int (nI n0)), (4, .int (nI c0)), (5, .int (nI at0)), (6, .int (nI k0))]) hx hb d_M_headOf_120 hl (by decide) rfl (fun ls hl => ?_)
      refine lv_goto (tgt := 62) hx hb d_M_headOf_122 (by decide) ?_
      refine ih (j0 + 1) b1 b2 H locs (by omega) (fun q h9 => ?_) he hm ls (lv_sub hl [1, 2, 3, 4, 5, 6, 7, 0] rfl)
      have ej : 2 ^ (j0 + 1) = 2 * 2 ^ j0 := by rw [Nat.pow_succ, Nat.mul_comm]
      rw [hj q h9, hq0 (2 * q) (by omega), hq0 (2 * q + 1) (by omega), ej, hdS_dbl _ _ (by omega), show at0 + 2 * q * 2 ^ j0 = at0 + q * (2 * 2 ^ j0) by rw [Nat.mul_comm 2 q, Nat.mul_assoc], show at0 + (2 * q + 1) * 2 ^ j0 = at0 + q * (2 * 2 ^ j0) + 2 ^ j0 by rw [Nat.add_mul, Nat.one_mul, Nat.mul_comm 2 q, Nat.mul_assoc, Nat.add_assoc]]
