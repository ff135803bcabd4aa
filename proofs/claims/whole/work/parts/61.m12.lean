theorem k_M_follow_6 : kS "RegistryLogModel" 252 y_M_isMirror b_M_isMirror 1 (some .boolean) 1 := ⟨(in_6 (List.mem_of_getElem? (i := 37) rfl) rfl), (in_6 (List.mem_of_getElem? (i := 38) rfl) rfl), (in_1 (List.mem_of_getElem? (i := 22) rfl) rfl), (in_6 (List.mem_of_getElem? (i := 39) rfl) rfl), ⟨by decide, by decide, by decide +kernel⟩⟩
def foA (A : Nat → Nat → Int32) (q1 c0 k : Nat) : Nat → Nat → Int32 := updA (updA A 11 (va_cpy (A 11) (A 11) (480 + c0) (120 * q1 + c0) k)) 12 (upd (A 12) q1 (nI (c0 + k)))
theorem foA_n (A : Nat → Nat → Int32) (f h f2 h2 : Nat → Int32) : updA (updA (updA (updA A 11 f) 12 h) 11 f2) 12 h2 = updA (updA A 11 f2) 12 h2 := by
  funext k
  unfold updA
  by_cases h1 : k = 11 <;> by_cases h3 : k = 12 <;> simp [h1, h3] <;> omega
theorem upd_upd (f : Nat → Int32) (k : Nat) (a b : Int32) : upd (upd f k a) k b = upd f k b := by
  funext q
  unfold upd
  split <;> rfl
theorem upd_id (f : Nat → Int32) (k : Nat) : upd f k (f k) = f := by
  funext q
  unfold upd
  split
  · rename_i h; rw [h]
  · rfl
theorem foA_0 (A : Nat → Nat → Int32) (q1 c0 : Nat) (h : A 12 q1 = nI c0) : foA A q1 c0 0 = A := by
  unfold foA
  rw [cpy_0, updA_id, Nat.add_zero, ← h, upd_id, updA_id]
theorem cpy_src {f : Nat → Int32} {c0 q1 k : Nat} (hq : q1 < 4) (hk : c0 + k < 120) : va_cpy f f (480 + c0) (120 * q1 + c0) k (480 + (c0 + k)) = f (480 + c0 + k) := by
  unfold va_cpy
  rw [if_neg (by omega), Nat.add_assoc]
set_option maxHeartbeats 4000000 in
set_option maxRecDepth 100000 in
theorem lp_M_follow {p : Program} {l : Launch} {e : Env} {s : State} {m : MethodId} {args : Array Value} {below : List Frame} {meth : Method} {c : Code} {g : gG} (C0 : cF g p s m args meth c b_M_follow 4 "RegistryLogModel" (some .int)) {x : Nat} {ad : Nat → Nat} {F : Nat → Int32} {A : Nat → Nat → Int32} {B : Nat → Nat → Int64} (cnt q1 c0 n0 : Nat) (hq1 : q1 < 4) (hn0 : n0 < 2 ^ 31) (hc : A 12 4 = nI cnt) (hc120 : cnt ≤ 120) (hcl : c0 ≤ cnt) :
    ∀ (n i : Nat) (H : Heap) (locs : List Loc), i ≤ min n0 (cnt - c0) → min n0 (cnt - c0) + 1 ≤ i + n → mS g s.heap H x ad F (foA A q1 c0 i) B locs → ∀ (ls : Array Slot), lv_has ls 4 [(0, .ref x), (1, .int (nI q1)), (2, .int (nI n0)), (3, .int (nI i))] → W p l e (rmk 1 0 0 20) s m args below meth c H locs 0 0 (MQ below (qM g s.heap x ad (fun v F1 A1 B1 => v = some (.int (nI (min n0 (cnt - c0)))) ∧ F1 = F ∧ A1 = foA A q1 c0 (min n0 (cnt - c0)) ∧ B1 = B)) args s 0 0 (mN x ad)) (F0 m 20 ls []) := by
  obtain ⟨hx, hb, hml, hown, hts, hr, hlk, hK⟩ := id C0
  intro n
  induction n with
  | zero => intro i H locs h1 h2; exact absurd h2 (by omega)
  | succ n ih =>
    intro i H locs hi hin hm ls hl
    have e12 : upd (A 12) q1 (nI (c0 + i)) q1 = nI (c0 + i) := by rw [upd, if_pos rfl]
    have e4 : upd (A 12) q1 (nI (c0 + i)) 4 = nI cnt := by rw [upd, if_neg (by omega)]; exact hc
    refine lv_iload_n hx hb d_M_follow_20 rfl (lv_at hl 3 rfl) ?_
    refine lv_iload_n hx hb d_M_follow_21 rfl (lv_at hl 2 rfl) ?_
    refine n_ge (tgt := 87) (a := i) (b := n0) hx hb d_M_follow_22 (by decide) (by omega) (by omega) (fun c22 => ?_) (fun c22 => ?_)
    · skip
      refine lv_iload_n hx hb d_M_follow_87 rfl (lv_at hl 3 rfl) ?_
      have e9 : i = min n0 (cnt - c0) := by omega
      rw [e9] at hm
      exact W.iret hx hb hr (fun t9 ht hW => ⟨_, _, _, _, rfl, by rw [ht]; exact ⟨hm.1, hm.2.1, hm.2.2.1, fun _ h => by cases h⟩, ⟨by rw [e9], rfl, rfl, rfl⟩⟩) hm.2.2.2 d_M_follow_88 hlk
    · skip
      refine lv_aload_n hx hb d_M_follow_25 rfl (lv_at hl 0 rfl) ?_
      refine m_get hx hb hts hown hK hm 12 (by decide) (hts (.fieldLink "RegistryLogModel" 40 "RegistryLogModel" "copied" "[I") (in_4 (List.mem_of_getElem? (i := 221) rfl) rfl)) rfl (v := .ref (ad 12)) rfl d_M_follow_26 ?_
      refine lv_iload_n hx hb d_M_follow_29 rfl (lv_at hl 1 rfl) ?_
      refine m_ld hx hb hK hm 12 rfl q1 rfl (show q1 < 5 from by omega) d_M_follow_30 ?_
      refine W.eq (g2 := F0 m 31 ls [.int ((upd (A 12) q1 (nI (c0 + i))) q1)]) rfl ?_
      refine W.eq (g2 := F0 m 31 ls [.int (nI (c0 + i))]) (by rw [e12]) ?_
      refine lv_aload_n hx hb d_M_follow_31 rfl (lv_at hl 0 rfl) ?_
      refine m_get hx hb hts hown hK hm 12 (by decide) (hts (.fieldLink "RegistryLogModel" 40 "RegistryLogModel" "copied" "[I") (in_4 (List.mem_of_getElem? (i := 221) rfl) rfl)) rfl (v := .ref (ad 12)) rfl d_M_follow_32 ?_
      refine lv_iconst (v := nI 4) hx hb d_M_follow_35 (by decide) ?_
      refine m_ld hx hb hK hm 12 rfl 4 rfl (show 4 < 5 from by omega) d_M_follow_36 ?_
      refine W.eq (g2 := F0 m 37 ls [.int ((upd (A 12) q1 (nI (c0 + i))) 4), .int (nI (c0 + i))]) rfl ?_
      refine W.eq (g2 := F0 m 37 ls [.int (nI cnt), .int (nI (c0 + i))]) (by rw [e4]) ?_
      refine n_ge (tgt := 87) (a := c0 + i) (b := cnt) hx hb d_M_follow_37 (by decide) (by omega) (by omega) (fun c37 => ?_) (fun c37 => ?_)
      · skip
        refine lv_iload_n hx hb d_M_follow_87 rfl (lv_at hl 3 rfl) ?_
        have e9 : i = min n0 (cnt - c0) := by omega
        rw [e9] at hm
        exact W.iret hx hb hr (fun t9 ht hW => ⟨_, _, _, _, rfl, by rw [ht]; exact ⟨hm.1, hm.2.1, hm.2.2.1, fun _ h => by cases h⟩, ⟨by rw [e9], rfl, rfl, rfl⟩⟩) hm.2.2.2 d_M_follow_88 hlk
      · skip
        refine lv_aload_n hx hb d_M_follow_40 rfl (lv_at hl 0 rfl) ?_
        refine m_get hx hb hts hown hK hm 11 (by decide) (hts (.fieldLink "RegistryLogModel" 37 "RegistryLogModel" "sums" "[I") (in_4 (List.mem_of_getElem? (i := 220) rfl) rfl)) rfl (v := .ref (ad 11)) rfl d_M_follow_41 ?_
        refine lv_bipush (v := nI 120) hx hb d_M_follow_44 (by decide) ?_
        refine lv_iload_n hx hb d_M_follow_46 rfl (lv_at hl 1 rfl) ?_
        refine n_imul hx hb d_M_follow_47 ?_
        refine lv_aload_n hx hb d_M_follow_48 rfl (lv_at hl 0 rfl) ?_
        refine m_get hx hb hts hown hK hm 12 (by decide) (hts (.fieldLink "RegistryLogModel" 40 "RegistryLogModel" "copied" "[I") (in_4 (List.mem_of_getElem? (i := 221) rfl) rfl)) rfl (v := .ref (ad 12)) rfl d_M_follow_49 ?_
        refine lv_iload_n hx hb d_M_follow_52 rfl (lv_at hl 1 rfl) ?_
        refine m_ld hx hb hK hm 12 rfl q1 rfl (show q1 < 5 from by omega) d_M_follow_53 ?_
        refine W.eq (g2 := F0 m 54 ls [.int ((upd (A 12) q1 (nI (c0 + i))) q1), .int (nI (120 * q1)), .ref (ad 11)]) rfl ?_
        refine W.eq (g2 := F0 m 54 ls [.int (nI (c0 + i)), .int (nI (120 * q1)), .ref (ad 11)]) (by rw [e12]) ?_
        refine n_iadd hx hb d_M_follow_54 ?_
        refine lv_aload_n hx hb d_M_follow_55 rfl (lv_at hl 0 rfl) ?_
        refine m_get hx hb hts hown hK hm 11 (by decide) (hts (.fieldLink "RegistryLogModel" 37 "RegistryLogModel" "sums" "[I") (in_4 (List.mem_of_getElem? (i := 220) rfl) rfl)) rfl (v := .ref (ad 11)) rfl d_M_follow_56 ?_
        refine lv_sipush (v := nI 480) hx hb d_M_follow_59 (by decide) ?_
        refine lv_aload_n hx hb d_M_follow_62 rfl (lv_at hl 0 rfl) ?_
        refine m_get hx hb hts hown hK hm 12 (by decide) (hts (.fieldLink "RegistryLogModel" 40 "RegistryLogModel" "copied" "[I") (in_4 (List.mem_of_getElem? (i := 221) rfl) rfl)) rfl (v := .ref (ad 12)) rfl d_M_follow_63 ?_
        refine lv_iload_n hx hb d_M_follow_66 rfl (lv_at hl 1 rfl) ?_
        refine m_ld hx hb hK hm 12 rfl q1 rfl (show q1 < 5 from by omega) d_M_follow_67 ?_
        refine W.eq (g2 := F0 m 68 ls [.int ((upd (A 12) q1 (nI (c0 + i))) q1), .int (nI 480), .ref (ad 11), .int (nI ((120 * q1) + (c0 + i))), .ref (ad 11)]) rfl ?_
        refine W.eq (g2 := F0 m 68 ls [.int (nI (c0 + i)), .int (nI 480), .ref (ad 11), .int (nI ((120 * q1) + (c0 + i))), .ref (ad 11)]) (by rw [e12]) ?_
        refine n_iadd hx hb d_M_follow_68 ?_
        refine m_ld hx hb hK hm 11 rfl (480 + (c0 + i)) rfl (show 480 + (c0 + i) < 600 from by omega) d_M_follow_69 ?_
        refine W.eq (g2 := F0 m 70 ls [.int ((va_cpy (A 11) (A 11) (480 + c0) (120 * q1 + c0) i) (480 + (c0 + i))), .int (nI ((120 * q1) + (c0 + i))), .ref (ad 11)]) rfl ?_
        refine W.eq (g2 := F0 m 70 ls [.int (A 11 (480 + c0 + i)), .int (nI ((120 * q1) + (c0 + i))), .ref (ad 11)]) (by rw [cpy_src hq1 (by omega)]) ?_
        refine m_st hx hb hK hm 11 rfl (120 * q1 + c0 + i) (by rw [Nat.add_assoc]) (show 120 * q1 + c0 + i < 600 from by omega) d_M_follow_70 (fun H locs hm => ?_)
        have hm : mS g s.heap H x ad F (updA (foA A q1 c0 i) 11 (upd (va_cpy (A 11) (A 11) (480 + c0) (120 * q1 + c0) i) (120 * q1 + c0 + i) (A 11 (480 + c0 + i)))) B locs := hm
        refine lv_aload_n hx hb d_M_follow_71 rfl (lv_at hl 0 rfl) ?_
        refine m_get hx hb hts hown hK hm 12 (by decide) (hts (.fieldLink "RegistryLogModel" 40 "RegistryLogModel" "copied" "[I") (in_4 (List.mem_of_getElem? (i := 221) rfl) rfl)) rfl (v := .ref (ad 12)) rfl d_M_follow_72 ?_
        refine lv_iload_n hx hb d_M_follow_75 rfl (lv_at hl 1 rfl) ?_
        refine lv_dup2_11 hx hb d_M_follow_76 rfl rfl ?_
        refine m_ld hx hb hK hm 12 rfl q1 rfl (show q1 < 5 from by omega) d_M_follow_77 ?_
        refine W.eq (g2 := F0 m 78 ls [.int ((upd (A 12) q1 (nI (c0 + i))) q1), .int (nI q1), .ref (ad 12)]) rfl ?_
        refine W.eq (g2 := F0 m 78 ls [.int (nI (c0 + i)), .int (nI q1), .ref (ad 12)]) (by rw [e12]) ?_
        refine lv_iconst (v := nI 1) hx hb d_M_follow_78 (by decide) ?_
        refine n_iadd hx hb d_M_follow_79 ?_
        refine m_st hx hb hK hm 12 rfl q1 rfl (show q1 < 5 from by omega) d_M_follow_80 (fun H locs hm => ?_)
        have hm : mS g s.heap H x ad F (updA (updA (foA A q1 c0 i) 11 (upd (va_cpy (A 11) (A 11) (480 + c0) (120 * q1 + c0) i) (120 * q1 + c0 + i) (A 11 (480 + c0 + i)))) 12 (upd (upd (A 12) q1 (nI (c0 + i))) q1 (nI ((c0 + i) + 1)))) B locs := hm
        refine n_inc (a := i) (lv' := [(3, .int (nI (i + 1))), (0, .ref x), (1, .int (nI q1)), (2, .int (nI n0))]) hx hb d_M_follow_81 hl (k := 3) rfl (by decide) rfl (fun ls hl => ?_)
        refine lv_goto (tgt := 20) hx hb d_M_follow_84 (by decide) ?_
        have hm : mS g s.heap H x ad F (foA A q1 c0 (i + 1)) B locs := by
          have e9 : (updA (updA (foA A q1 c0 i) 11 (upd (va_cpy (A 11) (A 11) (480 + c0) (120 * q1 + c0) i) (120 * q1 + c0 + i) (A 11 (480 + c0 + i)))) 12 (upd (upd (A 12) q1 (nI (c0 + i))) q1 (nI ((c0 + i) + 1)))) = foA A q1 c0 (i + 1) := by
            show updA (updA (updA (updA A 11 _) 12 _) 11 _) 12 _ = _
            rw [foA_n, cpy_s, upd_upd, Nat.add_assoc c0 i 1]; rfl
          rw [← e9]; exact hm
        exact ih (i + 1) H locs (by omega) (by omega) hm ls (lv_sub hl [1, 2, 3, 0] rfl)
set_option maxHeartbeats 4000000 in
set_option maxRecDepth 100000 in
/-- follow(q, n) -/
theorem c_M_follow (l : Launch) (g : gG) (H : Heap) (x : Nat) (ad : Nat → Nat) (F : Nat → Int32) (A : Nat → Nat → Int32) (B : Nat → Nat → Int64) (hm0 : mW g H x ad F A B) (cnt : Nat) (hc : A 12 4 = nI cnt) (hc120 : cnt ≤ 120) (cm : Nat → Nat) (hcm : ∀ j, j < 4 → A 12 j = nI (cm j) ∧ cm j ≤ cnt) (q n : Int32) : Met l y_M_follow (wC y_M_follow b_M_follow 4 (some .int)) (rmk 1 0 0 20) (pC g H [.ref x, .int q, .int n]) (qM g H x ad (fun v F1 A1 B1 => if 0 ≤ q ∧ q < 4 ∧ 0 ≤ n then (v = some (.int (nI (min n.toNatClampNeg (cnt - cm q.toNatClampNeg)))) ∧ F1 = upd F 0 (nI 0) ∧ A1 = foA A q.toNatClampNeg (cm q.toNatClampNeg) (min n.toNatClampNeg (cnt - cm q.toNatClampNeg)) ∧ B1 = B) else (v = some (.int (-1)) ∧ F1 = upd F 0 (nI 0) ∧ A1 = A ∧ B1 = B))) 0 0 (mN x ad) := by
  refine mB (by decide) (Nat.le_of_ble_eq_true rfl) ?_
  intro p e s m below meth c ls C0 hH hZ hnm hl
  have C0 : cF g p s m _ meth c b_M_follow 4 "RegistryLogModel" (some .int) := C0
  obtain ⟨hx, hb, hml, hown, hts, hr, hlk, hK⟩ := id C0
  subst hH
  have hl : lv_has ls 4 [(0, .ref x), (1, .int q), (2, .int n)] := hl
  have hm := mS.rf hm0
  refine lv_aload_n hx hb d_M_follow_0 rfl (lv_at hl 0 rfl) ?_
  refine lv_iconst (v := nI 0) hx hb d_M_follow_1 (by decide) ?_
  refine m_put hx hb hts hown hK hm 0 (by decide) (hts (.fieldLink "RegistryLogModel" 108 "RegistryLogModel" "code" "I") (in_4 (List.mem_of_getElem? (i := 209) rfl) rfl)) rfl rfl (v := nI 0) rfl rfl rfl rfl d_M_follow_2 (fun H locs hm => ?_)
  refine lv_iload_n hx hb d_M_follow_5 rfl (lv_at hl 1 rfl) ?_
  refine aP (rS (As := [.int q]) (rest := []) C0 (c_M_isMirror l g _ q) (m_zK hZ hm) k_M_follow_6 rfl rfl ⟨Nat.le_of_ble_eq_true rfl, Nat.le_of_ble_eq_true rfl⟩ rfl hl.1 rfl (Nat.le_of_ble_eq_true rfl) d_M_follow_6 ⟨Nat.zero_le _, Nat.zero_le _⟩) ?_
  intro v hv; subst hv
  refine W.eq (g2 := F0 m 9 ls [.int (bI (decide (0 ≤ q ∧ q < 4)))]) rfl ?_
  refine z_eq (tgt := 16) (v := decide (0 ≤ q ∧ q < 4)) hx hb d_M_follow_9 (by decide) (fun c9 => ?_) (fun c9 => ?_)
  · skip
    refine lv_iconst (v := (-1)) hx hb d_M_follow_16 (by decide) ?_
    exact W.iret hx hb hr (fun t9 ht hW => ⟨_, _, _, _, rfl, by rw [ht]; exact ⟨hm.1, hm.2.1, hm.2.2.1, fun _ h => by cases h⟩, by (try dsimp only); rw [if_neg (fun z => absurd (⟨z.1, z.2.1⟩ : 0 ≤ q ∧ q < 4) (of_decide_eq_false c9))]; exact ⟨rfl, rfl, rfl, rfl⟩⟩) hm.2.2.2 d_M_follow_17 hlk
  · skip
    refine lv_iload_n hx hb d_M_follow_12 rfl (lv_at hl 2 rfl) ?_
    refine lv_if_ge (tgt := 18) hx hb d_M_follow_13 (by decide) (fun c13 => ?_) (fun c13 => ?_)
    · skip
      have hqq := of_decide_eq_true c9
      obtain ⟨q1, hq1, eq1⟩ : ∃ k : Nat, k < 4 ∧ q = nI k := ix_ (n := 4) (by decide) (decide_eq_true ⟨hqq.1, hqq.2⟩)
      subst eq1
      have hqc : (nI q1).toNatClampNeg = q1 := nI_clamp (by omega)
      obtain ⟨hcq, hcl⟩ := hcm q1 hq1
      obtain ⟨k, hk1, ek⟩ := nI_of (Int32.not_lt.mpr c13)
      subst ek
      refine lv_iconst (v := nI 0) hx hb d_M_follow_18 (by decide) ?_
      refine lv_istore_n (lv' := [(3, .int (nI 0)), (0, .ref x), (1, .int (nI q1)), (2, .int (nI k))]) hx hb d_M_follow_19 rfl hl (by decide) rfl (fun ls hl => ?_)
      simp only [if_pos (show 0 ≤ nI q1 ∧ nI q1 < 4 ∧ 0 ≤ nI k from ⟨hqq.1, hqq.2, c13⟩), hqc, nI_clamp hk1]
      exact lp_M_follow C0 (F := upd F 0 (nI 0)) cnt q1 (cm q1) k hq1 hk1 hc hc120 hcl (min k (cnt - cm q1) + 1) 0 H locs (by omega) (by omega) (by rw [foA_0 A q1 (cm q1) hcq]; exact hm) ls (lv_sub hl [1, 2, 3, 0] rfl)
    · skip
      refine lv_iconst (v := (-1)) hx hb d_M_follow_16 (by decide) ?_
      exact W.iret hx hb hr (fun t9 ht hW => ⟨_, _, _, _, rfl, by rw [ht]; exact ⟨hm.1, hm.2.1, hm.2.2.1, fun _ h => by cases h⟩, by (try dsimp only); rw [if_neg (fun z => c13 z.2.2)]; exact ⟨rfl, rfl, rfl, rfl⟩⟩) hm.2.2.2 d_M_follow_17 hlk
theorem k_M_isInside_42 : kV "RegistryLogModel" 241 "RegistryLogModel" y_M_goDown b_M_goDown 6 none 3 := ⟨(in_6 (List.mem_of_getElem? (i := 2) rfl) rfl), (in_6 (List.mem_of_getElem? (i := 4) rfl) rfl), (in_0 (List.mem_of_getElem? (i := 23) rfl) rfl), (in_1 (List.mem_of_getElem? (i := 22) rfl) rfl), (in_6 (List.mem_of_getElem? (i := 5) rfl) rfl), ⟨by decide, by decide, by decide +kernel⟩⟩
theorem k_M_isInside_95 : kS "RegistryLogModel" 211 y_M_join b_M_join 4 (some .long) 2 := ⟨(in_5 (List.mem_of_getElem? (i := 235) rfl) rfl), (in_5 (List.mem_of_getElem? (i := 236) rfl) rfl), (in_1 (List.mem_of_getElem? (i := 22) rfl) rfl), (in_5 (List.mem_of_getElem? (i := 237) rfl) rfl), ⟨by decide, by decide, by decide +kernel⟩⟩
theorem k_M_isInside_110 : kS "RegistryLogModel" 211 y_M_join b_M_join 4 (some .long) 2 := ⟨(in_5 (List.mem_of_getElem? (i := 235) rfl) rfl), (in_5 (List.mem_of_getElem? (i := 236) rfl) rfl), (in_1 (List.mem_of_getElem? (i := 22) rfl) rfl), (in_5 (List.mem_of_getElem? (i := 237) rfl) rfl), ⟨by decide, by decide, by decide +kernel⟩⟩
abbrev St3 : Type := Nat × Nat × Bool
def iiL (hd : Nat → Int64) : List St3 → Nat → Int64 → Int64
  | [], _, h => h
  | e :: l, k, h => iiL hd l (k + 1) (if e.2.2 then joinS h (hd k) else joinS (hd k) h)
theorem rv_at {L : List St3} {i : Nat} (h : i < L.length) : L.reverse.drop i = L.getD (L.length - 1 - i) (0, 0, false) :: L.reverse.drop (i + 1) := by
  rw [List.drop_eq_getElem_cons (by rw [List.length_reverse]; exact h), List.getElem_reverse, List.getD_eq_getElem?_getD, List.getElem?_eq_getElem (by omega), Option.getD_some]
theorem gdR_len (gr : Bool) : ∀ d rf rn ri wb, (gdR gr d rf rn ri wb).1.length ≤ d
  | 0, _, _, _, _ => Nat.le_refl 0
  | d + 1, rf, rn, ri, wb => by
    rw [gdR]
    by_cases h : (if gr = true then ri < rn else 1 < rn)
    · rw [if_pos h]; exact Nat.succ_le_succ (gdR_len gr d _ _ _ _)
    · rw [if_neg h]; exact Nat.zero_le _
theorem not_lt1 {x : Int32} (h : ¬ x < nI 1) : ¬ x < 0 := fun z => h (Int32.lt_trans z (by decide))
def lo {α : Type} (f1 f : Nat → α) : Prop := ∀ k, k < 17 → f1 k = f k
theorem lo_rf {α : Type} (f : Nat → α) : lo f f := fun _ _ => rfl
theorem goF_lo (F : Nat → Int32) (a b c d : Nat) (e : Bool) : lo (goF F a b c d e) F := fun k hk => by
  unfold goF upd
  rw [if_neg (by omega), if_neg (by omega), if_neg (by omega), if_neg (by omega), if_neg (by omega)]
theorem goA_lo (A : Nat → Nat → Int32) (f1 f2 f3 : Nat → Int32) : lo (goA A f1 f2 f3) A := fun k hk => by
  unfold goA updA
  rw [if_neg (by omega), if_neg (by omega), if_neg (by omega)]
theorem hdB_lo (B : Nat → Nat → Int64) (f1 f2 : Nat → Int64) : lo (hdB B f1 f2) B := fun k hk => by
  unfold hdB updB
  rw [if_neg (by omega), if_neg (by omega)]
/-- isInside, by the hand hd of hn numbers -/
def iiS (hd : Nat → Int64) (hn : Nat) (i n : Int32) (dg hd0 : Int64) : Bool :=
  if (1 ≤ n ∧ n ≤ 120) ∧ 0 ≤ i ∧ i < n then decide ((gdR false 7 0 n.toNatClampNeg i.toNatClampNeg true).1.length = hn) && decide (iiL hd (gdR false 7 0 n.toNatClampNeg i.toNatClampNeg true).1.reverse 0 dg = hd0) else false
set_option maxHeartbeats 4000000 in
set_option maxRecDepth 100000 in
theorem lp_M_isInside {p : Program} {l : Launch} {e : Env} {s : State} {m : MethodId} {args : Array Value} {below : List Frame} {meth : Method} {c : Code} {g : gG} (C0 : cF g p s m args meth c b_M_isInside 11 "RegistryLogModel" (some .boolean)) (hZ : zK g s s.heap) {x : Nat} {ad : Nat → Nat} {F : Nat → Int32} {A : Nat → Nat → Int32} {B : Nat → Nat → Int64} {H : Heap} {locs : List Loc} (hm : mS g s.heap H x ad F A B locs) (FF : Nat → Int32) (AA : Nat → Nat → Int32) (hFF : lo F FF) (hAA : lo A AA) (dg hd0 res : Int64) (LL : List St3) (h7 : LL.length ≤ 7) (hst : F 41 = nI LL.length) (hgd : gdOk LL (A 38) (A 39) (A 40)) :
    ∀ (n i : Nat) (h : Int64), i ≤ LL.length → LL.length + 1 ≤ i + n → iiL (B 14) (LL.reverse.drop i) i h = res → ∀ (ls : Array Slot), lv_has ls 11 [(0, .ref x), (3, .long dg), (5, .long hd0), (7, .int (nI LL.length)), (8, .long h), (10, .int (nI i))] → W p l e (rmk 2 0 0 48) s m args below meth c H locs 0 0 (MQ below (qM g s.heap x ad (fun v F1 A1 B1 => v = some (.int (bI (decide (res = hd0)))) ∧ lo F1 FF ∧ lo A1 AA ∧ B1 = B)) args s 0 0 (mN x ad)) (F0 m 62 ls []) := by
  obtain ⟨hx, hb, hml, hown, hts, hr, hlk, hK⟩ := id C0
  intro n
  induction n with
  | zero => intro i h h1 h2; exact absurd h2 (by omega)
  | succ n ih =>
    intro i h hi hin hres ls hl
    refine lv_iload hx hb d_M_isInside_62 (lv_at hl 5 rfl) ?_
    refine lv_iload hx hb d_M_isInside_64 (lv_at hl 3 rfl) ?_
    refine n_ge (tgt := 121) (a := i) (b := LL.length) hx hb d_M_isInside_66 (by decide) (by omega) (by omega) (fun c66 => ?_) (fun c66 => ?_)
    · skip
      refine lv_lload hx hb d_M_isInside_121 (lv_at hl 4 rfl) ?_
      refine lv_lload hx hb d_M_isInside_123 (lv_at hl 2 rfl) ?_
      refine W.lcmp hx hb d_M_isInside_125 ?_
      refine lv_if_ne (tgt := 133) hx hb d_M_isInside_126 (by decide) (fun c126 => ?_) (fun c126 => ?_)
      · skip
        refine lv_iconst (v := nI 0) hx hb d_M_isInside_133 (by decide) ?_
        rw [show LL.reverse.drop i = [] from List.drop_eq_nil_of_le (by rw [List.length_reverse]; omega), iiL] at hres
        exact W.zret hx hb hr rfl (fun t9 ht hW => ⟨_, _, _, _, rfl, by rw [ht]; exact ⟨hm.1, hm.2.1, hm.2.2.1, fun _ h => by cases h⟩, ⟨by rw [← hres, decide_eq_false (fun z => c126 (lg_z.mpr z))]; rfl, hFF, hAA, rfl⟩⟩) hm.2.2.2 d_M_isInside_134 hlk
      · skip
        refine lv_iconst (v := nI 1) hx hb d_M_isInside_129 (by decide) ?_
        refine lv_goto (tgt := 134) hx hb d_M_isInside_130 (by decide) ?_
        rw [show LL.reverse.drop i = [] from List.drop_eq_nil_of_le (by rw [List.length_reverse]; omega), iiL] at hres
        exact W.zret hx hb hr rfl (fun t9 ht hW => ⟨_, _, _, _, rfl, by rw [ht]; exact ⟨hm.1, hm.2.1, hm.2.2.1, fun _ h => by cases h⟩, ⟨by rw [← hres, decide_eq_true (lg_z.mp c126)]; rfl, hFF, hAA, rfl⟩⟩) hm.2.2.2 d_M_isInside_134 hlk
    · skip
      refine lv_aload_n hx hb d_M_isInside_69 rfl (lv_at hl 0 rfl) ?_
      refine m_get hx hb hts hown hK hm 40 (by decide) (hts (.fieldLink "RegistryLogModel" 104 "RegistryLogModel" "isSecond" "[Z") (in_5 (List.mem_of_getElem? (i := 9) rfl) rfl)) rfl (v := .ref (ad 40)) rfl d_M_isInside_70 ?_
      refine lv_aload_n hx hb d_M_isInside_73 rfl (lv_at hl 0 rfl) ?_
      refine m_get hx hb hts hown hK hm 41 (by decide) (hts (.fieldLink "RegistryLogModel" 218 "RegistryLogModel" "steps" "I") (in_5 (List.mem_of_getElem? (i := 10) rfl) rfl)) rfl (v := .int (nI LL.length)) (congrArg (fun z => some (Value.int z)) hst) d_M_isInside_74 ?_
      refine lv_iconst (v := nI 1) hx hb d_M_isInside_77 (by decide) ?_
      refine n_isub hx hb (by omega) d_M_isInside_78 ?_
      refine lv_iload hx hb d_M_isInside_79 (lv_at hl 5 rfl) ?_
      refine n_isub hx hb (by omega) d_M_isInside_81 ?_
      refine m_ldz hx hb hK hm 40 rfl ((LL.length - 1) - i) rfl (show (LL.length - 1) - i < 16 from by omega) d_M_isInside_82 ?_
      refine W.eq (g2 := F0 m 83 ls [.int (bI ((LL.getD (LL.length - 1 - i) (0, 0, false)).2.2))]) (by rw [(hgd (LL.length - 1 - i) (by omega)).2.2]) ?_
      refine z_eq (tgt := 101) (v := (LL.getD (LL.length - 1 - i) (0, 0, false)).2.2) hx hb d_M_isInside_83 (by decide) (fun c83 => ?_) (fun c83 => ?_)
      · skip
        refine lv_aload_n hx hb d_M_isInside_101 rfl (lv_at hl 0 rfl) ?_
        refine m_get hx hb hts hown hK hm 14 (by decide) (hts (.fieldLink "RegistryLogModel" 47 "RegistryLogModel" "hand" "[J") (in_4 (List.mem_of_getElem? (i := 223) rfl) rfl)) rfl (v := .ref (ad 14)) rfl d_M_isInside_102 ?_
        refine lv_iload hx hb d_M_isInside_105 (lv_at hl 5 rfl) ?_
        refine m_ldl hx hb hK hm 14 rfl i rfl (show i < 16 from by omega) d_M_isInside_107 ?_
        refine lv_lload hx hb d_M_isInside_108 (lv_at hl 4 rfl) ?_
        refine aP (rS (As := [.long (B 14 i), .long h]) (rest := []) C0 (c_M_join l g _ (B 14 i) h) (m_zK hZ hm) k_M_isInside_110 rfl rfl ⟨Nat.le_of_ble_eq_true rfl, Nat.le_of_ble_eq_true rfl⟩ rfl hl.1 rfl (Nat.le_of_ble_eq_true rfl) d_M_isInside_110 ⟨Nat.zero_le _, Nat.zero_le _⟩) ?_
        intro v hv; subst hv
        refine W.eq (g2 := F0 m 113 ls [.long (joinS (B 14 i) h)]) rfl ?_
        refine lv_lstore (lv' := [(8, .long (joinS (B 14 i) h)), (0, .ref x), (3, .long dg), (5, .long hd0), (7, .int (nI LL.length)), (10, .int (nI i))]) hx hb d_M_isInside_113 hl (by decide) rfl (fun ls hl => ?_)
        refine n_inc (a := i) (lv' := [(10, .int (nI (i + 1))), (8, .long (joinS (B 14 i) h)), (0, .ref x), (3, .long dg), (5, .long hd0), (7, .int (nI LL.length))]) hx hb d_M_isInside_115 hl (k := 5) rfl (by decide) rfl (fun ls hl => ?_)
        refine lv_goto (tgt := 62) hx hb d_M_isInside_118 (by decide) ?_
        rw [rv_at c66, iiL, c83, if_neg (by decide)] at hres
        exact ih (i + 1) _ c66 (by omega) hres ls (lv_sub hl [2, 3, 4, 5, 1, 0] rfl)
      · skip
        refine lv_lload hx hb d_M_isInside_86 (lv_at hl 4 rfl) ?_
        refine lv_aload_n hx hb d_M_isInside_88 rfl (lv_at hl 0 rfl) ?_
        refine m_get hx hb hts hown hK hm 14 (by decide) (hts (.fieldLink "RegistryLogModel" 47 "RegistryLogModel" "hand" "[J") (in_4 (List.mem_of_getElem? (i := 223) rfl) rfl)) rfl (v := .ref (ad 14)) rfl d_M_isInside_89 ?_
        refine lv_iload hx hb d_M_isInside_92 (lv_at hl 5 rfl) ?_
        refine m_ldl hx hb hK hm 14 rfl i rfl (show i < 16 from by omega) d_M_isInside_94 ?_
        refine aP (rS (As := [.long h, .long (B 14 i)]) (rest := []) C0 (c_M_join l g _ h (B 14 i)) (m_zK hZ hm) k_M_isInside_95 rfl rfl ⟨Nat.le_of_ble_eq_true rfl, Nat.le_of_ble_eq_true rfl⟩ rfl hl.1 rfl (Nat.le_of_ble_eq_true rfl) d_M_isInside_95 ⟨Nat.zero_le _, Nat.zero_le _⟩) ?_
        intro v hv; subst hv
        refine W.eq (g2 := F0 m 98 ls [.long (joinS h (B 14 i))]) rfl ?_
        refine lv_goto (tgt := 113) hx hb d_M_isInside_98 (by decide) ?_
        refine lv_lstore (lv' := [(8, .long (joinS h (B 14 i))), (0, .ref x), (3, .long dg), (5, .long hd0), (7, .int (nI LL.length)), (10, .int (nI i))]) hx hb d_M_isInside_113 hl (by decide) rfl (fun ls hl => ?_)
        refine n_inc (a := i) (lv' := [(10, .int (nI (i + 1))), (8, .long (joinS h (B 14 i))), (0, .ref x), (3, .long dg), (5, .long hd0), (7, .int (nI LL.length))]) hx hb d_M_isInside_115 hl (k := 5) rfl (by decide) rfl (fun ls hl => ?_)
        refine lv_goto (tgt := 62) hx hb d_M_isInside_118 (by decide) ?_
        rw [rv_at c66, iiL, c83, if_pos rfl] at hres
        exact ih (i + 1) _ c66 (by omega) hres ls (lv_sub hl [2, 3, 4, 5, 1, 0] rfl)
set_option maxHeartbeats 4000000 in
set_option maxRecDepth 100000 in
/-- isInside(i, n, digest, head) -/
theorem c_M_isInside (l : Launch) (g : gG) (H : Heap) (x : Nat) (ad : Nat → Nat) (F : Nat → Int32) (A : Nat → Nat → Int32) (B : Nat → Nat → Int64) (hm0 : mW g H x ad F A B) (hn : Nat) (hh : F 16 = nI hn) (hn16 : hn ≤ 16) (i n : Int32) (dg hd0 : Int64) : Met l y_M_isInside (wC y_M_isInside b_M_isInside 11 (some .boolean)) (rmk 2 0 0 48) (pC g H [.ref x, .int i, .int n, .long dg, .long hd0]) (qM g H x ad (fun v F1 A1 B1 => v = some (.int (bI (iiS (B 14) hn i n dg hd0))) ∧ lo F1 (upd (upd F 0 (nI 0)) 16 (nI 0)) ∧ lo A1 A ∧ B1 = B)) 0 0 (mN x ad) := by
  refine mB (by decide) (Nat.le_of_ble_eq_true rfl) ?_
  intro p e s m below meth c ls C0 hH hZ hnm hl
  have C0 : cF g p s m _ meth c b_M_isInside 11 "RegistryLogModel" (some .boolean) := C0
  obtain ⟨hx, hb, hml, hown, hts, hr, hlk, hK⟩ := id C0
  subst hH
  have hl : lv_has ls 11 [(0, .ref x), (1, .int i), (2, .int n), (3, .long dg), (5, .long hd0)] := hl
  have hm := mS.rf hm0
  refine lv_aload_n hx hb d_M_isInside_0 rfl (lv_at hl 0 rfl) ?_
  refine lv_iconst (v := nI 0) hx hb d_M_isInside_1 (by decide) ?_
  refine m_put hx hb hts hown hK hm 0 (by decide) (hts (.fieldLink "RegistryLogModel" 108 "RegistryLogModel" "code" "I") (in_4 (List.mem_of_getElem? (i := 209) rfl) rfl)) rfl rfl (v := nI 0) rfl rfl rfl rfl d_M_isInside_2 (fun H locs hm => ?_)
  refine lv_aload_n hx hb d_M_isInside_5 rfl (lv_at hl 0 rfl) ?_
  refine m_get hx hb hts hown hK hm 16 (by decide) (hts (.fieldLink "RegistryLogModel" 249 "RegistryLogModel" "handSize" "I") (in_4 (List.mem_of_getElem? (i := 225) rfl) rfl)) rfl (v := .int (nI hn)) (congrArg (fun z => some (Value.int z)) hh) d_M_isInside_6 ?_
  refine lv_istore (lv' := [(7, .int (nI hn)), (0, .ref x), (1, .int i), (2, .int n), (3, .long dg), (5, .long hd0)]) hx hb d_M_isInside_9 hl (by decide) rfl (fun ls hl => ?_)
  refine lv_aload_n hx hb d_M_isInside_11 rfl (lv_at hl 1 rfl) ?_
  refine lv_iconst (v := nI 0) hx hb d_M_isInside_12 (by decide) ?_
  refine m_put hx hb hts hown hK hm 16 (by decide) (hts (.fieldLink "RegistryLogModel" 249 "RegistryLogModel" "handSize" "I") (in_4 (List.mem_of_getElem? (i := 225) rfl) rfl)) rfl rfl (v := nI 0) rfl rfl rfl rfl d_M_isInside_13 (fun H locs hm => ?_)
  refine lv_iload_n hx hb d_M_isInside_16 rfl (lv_at hl 3 rfl) ?_
  refine lv_iconst (v := nI 1) hx hb d_M_isInside_17 (by decide) ?_
  refine lv_icmp_lt (tgt := 36) hx hb d_M_isInside_18 (by decide) (fun c18 => ?_) (fun c18 => ?_)
  · skip
    refine lv_iconst (v := nI 0) hx hb d_M_isInside_36 (by decide) ?_
    exact W.zret hx hb hr rfl (fun t9 ht hW => ⟨_, _, _, _, rfl, by rw [ht]; exact ⟨hm.1, hm.2.1, hm.2.2.1, fun _ h => by cases h⟩, ⟨by rw [iiS, if_neg (fun z => absurd z.1.1 (Int32.not_le.mpr c18))]; rfl, lo_rf _, lo_rf _, rfl⟩⟩) hm.2.2.2 d_M_isInside_37 hlk
  · skip
    refine lv_iload_n hx hb d_M_isInside_21 rfl (lv_at hl 3 rfl) ?_
    refine lv_bipush (v := nI 120) hx hb d_M_isInside_22 (by decide) ?_
    refine lv_icmp_gt (tgt := 36) hx hb d_M_isInside_24 (by decide) (fun c24 => ?_) (fun c24 => ?_)
    · skip
      refine lv_iconst (v := nI 0) hx hb d_M_isInside_36 (by decide) ?_
      exact W.zret hx hb hr rfl (fun t9 ht hW => ⟨_, _, _, _, rfl, by rw [ht]; exact ⟨hm.1, hm.2.1, hm.2.2.1, fun _ h => by cases h⟩, ⟨by rw [iiS, if_neg (fun z => absurd z.1.2 (Int32.not_le.mpr c24))]; rfl, lo_rf _, lo_rf _, rfl⟩⟩) hm.2.2.2 d_M_isInside_37 hlk
    · skip
      refine lv_iload_n hx hb d_M_isInside_27 rfl (lv_at hl 2 rfl) ?_
      refine lv_if_lt (tgt := 36) hx hb d_M_isInside_28 (by decide) (fun c28 => ?_) (fun c28 => ?_)
      · skip
        refine lv_iconst (v := nI 0) hx hb d_M_isInside_36 (by decide) ?_
        exact W.zret hx hb hr rfl (fun t9 ht hW => ⟨_, _, _, _, rfl, by rw [ht]; exact ⟨hm.1, hm.2.1, hm.2.2.1, fun _ h => by cases h⟩, ⟨by rw [iiS, if_neg (fun z => absurd z.2.1 (Int32.not_le.mpr c28))]; rfl, lo_rf _, lo_rf _, rfl⟩⟩) hm.2.2.2 d_M_isInside_37 hlk
      · skip
        refine lv_iload_n hx hb d_M_isInside_31 rfl (lv_at hl 2 rfl) ?_
        refine lv_iload_n hx hb d_M_isInside_32 rfl (lv_at hl 3 rfl) ?_
        refine lv_icmp_lt (tgt := 38) hx hb d_M_isInside_33 (by decide) (fun c33 => ?_) (fun c33 => ?_)
        · skip
          obtain ⟨n1, hn1, en⟩ := nI_of (not_lt1 c18)
          subst en
          have hn2 : n1 ≤ 120 := (nI_leI hn1 (by decide)).mp (Int32.not_lt.mp c24)
          obtain ⟨i1, hi1, ei⟩ := nI_of c28
          subst ei
          have hi2 : i1 < n1 := (nI_ltI hi1 hn1).mp c33
          have eR : iiS (B 14) hn (nI i1) (nI n1) dg hd0 = (decide ((gdR false 7 0 n1 i1 true).1.length = hn) && decide (iiL (B 14) (gdR false 7 0 n1 i1 true).1.reverse 0 dg = hd0)) := by rw [iiS, if_pos ⟨⟨Int32.not_lt.mp c18, Int32.not_lt.mp c24⟩, Int32.not_lt.mp c28, c33⟩, nI_clamp hn1, nI_clamp hi1]
          rw [eR]
          clear eR
          refine lv_aload_n hx hb d_M_isInside_38 rfl (lv_at hl 1 rfl) ?_
          refine lv_iload_n hx hb d_M_isInside_39 rfl (lv_at hl 2 rfl) ?_
          refine lv_iload_n hx hb d_M_isInside_40 rfl (lv_at hl 3 rfl) ?_
          refine lv_iconst (v := nI 0) hx hb d_M_isInside_41 (by decide) ?_
          refine aM (rV (As := [.int (nI i1), .int (nI n1), .int (nI 0)]) (rest := []) C0 (c_M_goDownI l g _ x ad _ _ _ hm.1 i1 n1 hn2 hi2) (m_zK hZ hm) k_M_isInside_42 rfl rfl ⟨Nat.le_of_ble_eq_true rfl, Nat.le_of_ble_eq_true rfl⟩ (m_recv hK hm) rfl hl.1 rfl (Nat.le_of_ble_eq_true rfl) d_M_isInside_42 ⟨Nat.zero_le _, Nat.zero_le _⟩) hm (fun v F1 A1 B1 H locs hp hm => ?_)
          obtain ⟨rfl, eF, ⟨f1, f2, f3, eA, hgd⟩, eB⟩ := hp
          rw [eF, eA, eB] at hm
          clear eF eA eB
          have h7 := gdR_len false 7 0 n1 i1 true
          generalize (gdR false 7 0 n1 i1 true).1 = LL at *
          refine W.eq (g2 := F0 m 45 ls []) rfl ?_
          refine lv_aload_n hx hb d_M_isInside_45 rfl (lv_at hl 1 rfl) ?_
          refine m_get hx hb hts hown hK hm 41 (by decide) (hts (.fieldLink "RegistryLogModel" 218 "RegistryLogModel" "steps" "I") (in_5 (List.mem_of_getElem? (i := 10) rfl) rfl)) rfl (v := .int (nI LL.length)) rfl d_M_isInside_46 ?_
          refine lv_iload hx hb d_M_isInside_49 (lv_at hl 0 rfl) ?_
          refine n_eq (tgt := 56) (a := LL.length) (b := hn) hx hb d_M_isInside_51 (by decide) (by omega) (by omega) (fun c51 => ?_) (fun c51 => ?_)
          · skip
            refine lv_lload_n hx hb d_M_isInside_56 rfl (lv_at hl 4 rfl) ?_
            refine lv_lstore (lv' := [(8, .long dg), (7, .int (nI hn)), (0, .ref x), (1, .int (nI i1)), (2, .int (nI n1)), (3, .long dg), (5, .long hd0)]) hx hb d_M_isInside_57 hl (by decide) rfl (fun ls hl => ?_)
            refine lv_iconst (v := nI 0) hx hb d_M_isInside_59 (by decide) ?_
            refine lv_istore (lv' := [(10, .int (nI 0)), (8, .long dg), (7, .int (nI hn)), (0, .ref x), (1, .int (nI i1)), (2, .int (nI n1)), (3, .long dg), (5, .long hd0)]) hx hb d_M_isInside_60 hl (by decide) rfl (fun ls hl => ?_)
            subst c51
            rw [decide_eq_true rfl, Bool.true_and]
            exact lp_M_isInside C0 hZ hm _ _ (goF_lo _ _ _ _ _ _) (goA_lo _ _ _ _) dg hd0 _ LL h7 rfl hgd (LL.length + 1) 0 dg (Nat.zero_le _) (by omega) rfl ls (lv_sub hl [3, 6, 7, 2, 1, 0] rfl)
          · skip
            refine lv_iconst (v := nI 0) hx hb d_M_isInside_54 (by decide) ?_
            exact W.zret hx hb hr rfl (fun t9 ht hW => ⟨_, _, _, _, rfl, by rw [ht]; exact ⟨hm.1, hm.2.1, hm.2.2.1, fun _ h => by cases h⟩, ⟨by rw [decide_eq_false c51]; rfl, goF_lo _ _ _ _ _ _, goA_lo _ _ _ _, rfl⟩⟩) hm.2.2.2 d_M_isInside_55 hlk
        · skip
          refine lv_iconst (v := nI 0) hx hb d_M_isInside_36 (by decide) ?_
          exact W.zret hx hb hr rfl (fun t9 ht hW => ⟨_, _, _, _, rfl, by rw [ht]; exact ⟨hm.1, hm.2.1, hm.2.2.1, fun _ h => by cases h⟩, ⟨by rw [iiS, if_neg (fun z => absurd z.2.2 c33)]; rfl, lo_rf _, lo_rf _, rfl⟩⟩) hm.2.2.2 d_M_isInside_37 hlk
