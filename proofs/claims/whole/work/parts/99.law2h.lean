theorem and31 (x : Int32) : ∃ n, n < 32 ∧ x &&& 31 = nI n := by
  refine ⟨(x &&& 31).toBitVec.toNat, ?_, ?_⟩
  · rw [Int32.toBitVec_and, BitVec.toNat_and]
    exact Nat.lt_succ_of_le (show _ ≤ 31 from Nat.and_le_right)
  · apply Int32.toBitVec_inj.mp
    unfold nI
    rw [Int32.toBitVec_ofNat', BitVec.ofNat_toNat, BitVec.setWidth_eq]
theorem lw_gt7 : ∀ j, j < 7 → Int32.ofNat j - 7 < 0 := by decide
theorem lw_gt {i L : Nat} (hL : L ≤ 3584) (hi : i ≤ L) : Int32.ofNat L - 7 < nI i ↔ ¬ i + 7 ≤ L := by
  by_cases h : 7 ≤ L
  · have e : Int32.ofNat L - 7 = nI (L - 7) := by
      have e2 : nI (L - 7) + nI 7 = nI L := by rw [nI_add, Nat.sub_add_cancel h]
      show nI L - nI 7 = nI (L - 7)
      rw [← e2, Int32.add_sub_cancel]
    rw [e, nI_ltI (by omega) (by omega)]; omega
  · have h1 := lw_gt7 L (by omega)
    exact ⟨fun _ => by omega, fun _ => Int32.lt_of_lt_of_le h1 (nI_pos' (by omega))⟩
set_option maxHeartbeats 4000000 in
set_option maxRecDepth 100000 in
theorem lw_loop {p : Program} {l : Launch} {e : Env} {s : State} {m : MethodId} {args : Array Value} {below : List Frame} {meth : Method} {c : Code} {g : gG} (C0 : cF g p s m args meth c b_W_law 7 "RegistryLogLaw" (some .boolean)) (htr : ∀ e, l.admits e → e.platform.stackTraces = false) (hZ : zK g s s.heap) (hg9 : g.2.2.1 = s.heap.size) (hE0 : pS (fun a => a < s.heap.size) g s.heap (g.2.2.2 1) []) {b L : Nat} {xs : Nat → Int32} (hXs : va_X b L xs s s.heap) (hbl : b < s.heap.size) (hL : L ≤ 3584) {x xr o9 : Nat} {adr : Nat → Nat} {k0 n0 : Nat} (hk0 : k0 + 35840 ≤ 632517) (hn0 : n0 + 1024000 ≤ 7198554) {Q : State → Prop} (kk : ∀ (H : Heap) (locs : List Loc), va_S (fW s.heap no_) s.heap H locs → ∀ (ls : Array Slot), W p l e room_1 s m args below meth c H locs 632517 7198554 Q (F0 m 1295 ls [])) : ∀ (n t : Nat), 7 * t ≤ L → L < 7 * t + 7 * n → ∀ (H : Heap) (locs : List Loc), RL g H x xr adr o9 → va_S (fW s.heap no_) s.heap H locs → ∀ (ls : Array Slot), lv_has ls 7 [(0, .ref b), (1, .ref x), (2, .ref xr), (3, .ref o9), (4, .int (nI (7 * t)))] → W p l e room_1 s m args below meth c H locs (k0 + 70 * t) (n0 + 2000 * t) Q (F0 m 23 ls []) := by
  obtain ⟨hx, hb, hml, hown, hts, hr, hlk, hK⟩ := id C0
  intro n
  induction n with
  | zero => intro t h1 h2; omega
  | succ n ih =>
    intro t h1 h2 H locs hRL hS ls hl
    have hbA : ¬ fW s.heap no_ b := fun z => z.elim id (fun z => absurd hbl (Nat.not_lt.mpr z))
    refine lv_iload hx hb d_W_law_23 (lv_at hl 4 rfl) ?_
    refine lv_aload_n hx hb d_W_law_25 rfl (lv_at hl 0 rfl) ?_
    refine va_slen hx hb hXs hbl hbA hS d_W_law_26 ?_
    refine lv_bipush (v := 7) hx hb d_W_law_27 (by decide) ?_
    refine lv_isub hx hb d_W_law_29 ?_
    refine lv_icmp_gt (tgt := 1295) hx hb d_W_law_30 (by decide) (fun c9 => ?_) (fun c9 => ?_)
    · refine W.widen (k := 632517) (n := 7198554) (by omega) (by omega) ?_
      exact kk H locs hS ls
    · have hi : 7 * t + 7 ≤ L := Decidable.of_not_not (fun z => c9 ((lw_gt hL h1).mpr z))
      have hcl : (k0 + 70 * t) + 70 ≤ 632517 := by omega
      have hsl : (n0 + 2000 * t) + 2000 ≤ 7198554 := by omega
      have k9 : ∀ (H : Heap) (locs : List Loc), RL g H x xr adr o9 → va_S (fW s.heap no_) s.heap H locs → ∀ (ls : Array Slot), lv_has ls 7 [(0, .ref b), (1, .ref x), (2, .ref xr), (3, .ref o9), (4, .int (nI (7 * t)))] → W p l e room_1 s m args below meth c H locs (k0 + 70 * t + 70) (n0 + 2000 * t + 2000) Q (F0 m 1289 ls []) := by
        intro H locs hRL hS ls hl
        refine lv_iinc (v := nI (7 * (t + 1))) (lv' := [(4, .int (nI (7 * (t + 1)))), (0, .ref b), (1, .ref x), (2, .ref xr), (3, .ref o9)]) hx hb d_W_law_1289 hl (k := 4) rfl (by rw [Nat.mul_succ, ← nI_add]; rfl) (by decide) rfl (fun ls hl => ?_)
        refine lv_goto (tgt := 23) hx hb d_W_law_1292 (by decide) ?_
        refine W.widen (k := k0 + 70 * (t + 1)) (n := n0 + 2000 * (t + 1)) (by omega) (by omega) ?_
        exact ih (t + 1) (by omega) (by omega) H locs hRL hS ls (lv_sub hl [1, 2, 3, 4, 0] rfl)
      refine lv_aload_n hx hb d_W_law_33 rfl (lv_at hl 0 rfl) ?_
      refine lv_iload hx hb d_W_law_34 (lv_at hl 4 rfl) ?_
      refine va_sld hx hb hXs hbl hbA hS (vp_in_nI (by omega) (by omega)) d_W_law_36 ?_
      refine W.eq (g2 := F0 m 37 ls [.int (xs (7 * t))]) (by rw [nI_clamp (by omega)]) ?_
      refine lv_bipush (v := 31) hx hb d_W_law_37 (by decide) ?_
      refine lv_iand hx hb d_W_law_39 ?_
      obtain ⟨n9, hn9, e9⟩ := and31 (xs (7 * t))
      refine W.eq (g2 := F0 m 40 ls [.int (nI n9)]) (by rw [e9]) ?_
      obtain rfl | rfl | rfl | rfl | rfl | rfl | rfl | rfl | rfl | rfl | rfl | rfl | rfl | rfl | rfl | rfl | rfl | rfl | rfl | rfl | rfl | rfl | rfl | hn9 : n9 = 0 ∨ n9 = 1 ∨ n9 = 2 ∨ n9 = 3 ∨ n9 = 4 ∨ n9 = 5 ∨ n9 = 6 ∨ n9 = 7 ∨ n9 = 8 ∨ n9 = 9 ∨ n9 = 10 ∨ n9 = 11 ∨ n9 = 12 ∨ n9 = 13 ∨ n9 = 14 ∨ n9 = 15 ∨ n9 = 16 ∨ n9 = 17 ∨ n9 = 18 ∨ n9 = 19 ∨ n9 = 20 ∨ n9 = 21 ∨ n9 = 22 ∨ 23 ≤ n9 := by omega
      · refine lv_tableIn (tgt := 148) hx hb d_W_law_40 (off := 108) (by decide) (by decide) rfl (by decide) ?_
        exact ca_0 C0 htr hZ hg9 hE0 hXs hbl hL hi hcl hsl k9 H locs hRL hS ls hl
      · refine lv_tableIn (tgt := 175) hx hb d_W_law_40 (off := 135) (by decide) (by decide) rfl (by decide) ?_
        exact ca_1 C0 htr hZ hg9 hE0 hXs hbl hL hi hcl hsl k9 H locs hRL hS ls hl
      · refine lv_tableIn (tgt := 255) hx hb d_W_law_40 (off := 215) (by decide) (by decide) rfl (by decide) ?_
        exact ca_2 C0 htr hZ hg9 hE0 hXs hbl hL hi hcl hsl k9 H locs hRL hS ls hl
      · refine lv_tableIn (tgt := 351) hx hb d_W_law_40 (off := 311) (by decide) (by decide) rfl (by decide) ?_
        exact ca_3 C0 htr hZ hg9 hE0 hXs hbl hL hi hcl hsl k9 H locs hRL hS ls hl
      · refine lv_tableIn (tgt := 447) hx hb d_W_law_40 (off := 407) (by decide) (by decide) rfl (by decide) ?_
        exact ca_4 C0 htr hZ hg9 hE0 hXs hbl hL hi hcl hsl k9 H locs hRL hS ls hl
      · refine lv_tableIn (tgt := 503) hx hb d_W_law_40 (off := 463) (by decide) (by decide) rfl (by decide) ?_
        exact ca_5 C0 htr hZ hg9 hE0 hXs hbl hL hi hcl hsl k9 H locs hRL hS ls hl
      · refine lv_tableIn (tgt := 516) hx hb d_W_law_40 (off := 476) (by decide) (by decide) rfl (by decide) ?_
        exact ca_6 C0 htr hZ hg9 hE0 hXs hbl hL hi hcl hsl k9 H locs hRL hS ls hl
      · refine lv_tableIn (tgt := 553) hx hb d_W_law_40 (off := 513) (by decide) (by decide) rfl (by decide) ?_
        exact ca_7 C0 htr hZ hg9 hE0 hXs hbl hL hi hcl hsl k9 H locs hRL hS ls hl
      · refine lv_tableIn (tgt := 579) hx hb d_W_law_40 (off := 539) (by decide) (by decide) rfl (by decide) ?_
        exact ca_8 C0 htr hZ hg9 hE0 hXs hbl hL hi hcl hsl k9 H locs hRL hS ls hl
      · refine lv_tableIn (tgt := 605) hx hb d_W_law_40 (off := 565) (by decide) (by decide) rfl (by decide) ?_
        exact ca_9 C0 htr hZ hg9 hE0 hXs hbl hL hi hcl hsl k9 H locs hRL hS ls hl
      · refine lv_tableIn (tgt := 642) hx hb d_W_law_40 (off := 602) (by decide) (by decide) rfl (by decide) ?_
        exact ca_10 C0 htr hZ hg9 hE0 hXs hbl hL hi hcl hsl k9 H locs hRL hS ls hl
      · refine lv_tableIn (tgt := 679) hx hb d_W_law_40 (off := 639) (by decide) (by decide) rfl (by decide) ?_
        exact ca_11 C0 htr hZ hg9 hE0 hXs hbl hL hi hcl hsl k9 H locs hRL hS ls hl
      · refine lv_tableIn (tgt := 705) hx hb d_W_law_40 (off := 665) (by decide) (by decide) rfl (by decide) ?_
        exact ca_12 C0 htr hZ hg9 hE0 hXs hbl hL hi hcl hsl k9 H locs hRL hS ls hl
      · refine lv_tableIn (tgt := 762) hx hb d_W_law_40 (off := 722) (by decide) (by decide) rfl (by decide) ?_
        exact ca_13 C0 htr hZ hg9 hE0 hXs hbl hL hi hcl hsl k9 H locs hRL hS ls hl
      · refine lv_tableIn (tgt := 889) hx hb d_W_law_40 (off := 849) (by decide) (by decide) rfl (by decide) ?_
        exact ca_14 C0 htr hZ hg9 hE0 hXs hbl hL hi hcl hsl k9 H locs hRL hS ls hl
      · refine lv_tableIn (tgt := 1016) hx hb d_W_law_40 (off := 976) (by decide) (by decide) rfl (by decide) ?_
        exact ca_15 C0 htr hZ hg9 hE0 hXs hbl hL hi hcl hsl k9 H locs hRL hS ls hl
      · refine lv_tableIn (tgt := 1053) hx hb d_W_law_40 (off := 1013) (by decide) (by decide) rfl (by decide) ?_
        exact ca_16 C0 htr hZ hg9 hE0 hXs hbl hL hi hcl hsl k9 H locs hRL hS ls hl
      · refine lv_tableIn (tgt := 1102) hx hb d_W_law_40 (off := 1062) (by decide) (by decide) rfl (by decide) ?_
        exact ca_17 C0 htr hZ hg9 hE0 hXs hbl hL hi hcl hsl k9 H locs hRL hS ls hl
      · refine lv_tableIn (tgt := 1128) hx hb d_W_law_40 (off := 1088) (by decide) (by decide) rfl (by decide) ?_
        exact ca_18 C0 htr hZ hg9 hE0 hXs hbl hL hi hcl hsl k9 H locs hRL hS ls hl
      · refine lv_tableIn (tgt := 1153) hx hb d_W_law_40 (off := 1113) (by decide) (by decide) rfl (by decide) ?_
        exact ca_19 C0 htr hZ hg9 hE0 hXs hbl hL hi hcl hsl k9 H locs hRL hS ls hl
      · refine lv_tableIn (tgt := 1178) hx hb d_W_law_40 (off := 1138) (by decide) (by decide) rfl (by decide) ?_
        exact ca_20 C0 htr hZ hg9 hE0 hXs hbl hL hi hcl hsl k9 H locs hRL hS ls hl
      · refine lv_tableIn (tgt := 1215) hx hb d_W_law_40 (off := 1175) (by decide) (by decide) rfl (by decide) ?_
        exact ca_21 C0 htr hZ hg9 hE0 hXs hbl hL hi hcl hsl k9 H locs hRL hS ls hl
      · refine lv_tableIn (tgt := 1252) hx hb d_W_law_40 (off := 1212) (by decide) (by decide) rfl (by decide) ?_
        exact ca_22 C0 htr hZ hg9 hE0 hXs hbl hL hi hcl hsl k9 H locs hRL hS ls hl
      · refine lv_tableOut (tgt := 1289) hx hb d_W_law_40 (Or.inr (by rw [nI_toInt (by omega)]; omega)) (by decide) ?_
        refine W.widen (k := k0 + 70 * t + 70) (n := n0 + 2000 * t + 2000) (by omega) (by omega) ?_
        exact k9 H locs hRL hS ls hl
