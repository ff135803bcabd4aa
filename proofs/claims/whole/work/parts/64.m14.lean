theorem k_M_goThrough_42 : kV "RegistryLogModel" 142 "RegistryLogModel" y_M_met b_M_met 8 (some .int) 3 := ⟨(in_5 (List.mem_of_getElem? (i := 143) rfl) rfl), (in_5 (List.mem_of_getElem? (i := 145) rfl) rfl), (in_0 (List.mem_of_getElem? (i := 9) rfl) rfl), (in_1 (List.mem_of_getElem? (i := 22) rfl) rfl), (in_5 (List.mem_of_getElem? (i := 146) rfl) rfl), ⟨by decide, by decide, by decide +kernel⟩⟩
theorem k_M_goThrough_79 : kV "RegistryLogModel" 146 "RegistryLogModel" y_M_meet b_M_meet 6 (some .int) 4 := ⟨(in_5 (List.mem_of_getElem? (i := 147) rfl) rfl), (in_5 (List.mem_of_getElem? (i := 149) rfl) rfl), (in_0 (List.mem_of_getElem? (i := 10) rfl) rfl), (in_1 (List.mem_of_getElem? (i := 22) rfl) rfl), (in_5 (List.mem_of_getElem? (i := 150) rfl) rfl), ⟨by decide, by decide, by decide +kernel⟩⟩
theorem k_M_goThrough_218 : kV "RegistryLogModel" 150 "RegistryLogModel" y_M_versionAt b_M_versionAt 5 (some .int) 2 := ⟨(in_5 (List.mem_of_getElem? (i := 151) rfl) rfl), (in_5 (List.mem_of_getElem? (i := 153) rfl) rfl), (in_0 (List.mem_of_getElem? (i := 11) rfl) rfl), (in_1 (List.mem_of_getElem? (i := 22) rfl) rfl), (in_5 (List.mem_of_getElem? (i := 154) rfl) rfl), ⟨by decide, by decide, by decide +kernel⟩⟩
theorem k_M_goThrough_336 : kV "RegistryLogModel" 146 "RegistryLogModel" y_M_meet b_M_meet 6 (some .int) 4 := ⟨(in_5 (List.mem_of_getElem? (i := 147) rfl) rfl), (in_5 (List.mem_of_getElem? (i := 149) rfl) rfl), (in_0 (List.mem_of_getElem? (i := 10) rfl) rfl), (in_1 (List.mem_of_getElem? (i := 22) rfl) rfl), (in_5 (List.mem_of_getElem? (i := 150) rfl) rfl), ⟨by decide, by decide, by decide +kernel⟩⟩
def uu (r : Rw) : List Nat := if rk r = 3 then ra r else []
/-- the rows of the log (w = 4) or of a mirror as the reference holds them -/
def refR (A : Nat → Nat → Int32) (w : Nat) (rows : List Rw) : Prop := rows.length ≤ 120 ∧ A 12 w = nI rows.length ∧ ∀ j, j < rows.length →
  A 3 j = rk (rows.getD j noRw) ∧ A 4 j = rp (rows.getD j noRw) ∧ (rn (rows.getD j noRw)).length ≤ 10 ∧ A 7 j = nI (rn (rows.getD j noRw)).length ∧ txt A 9 (10 * j) (rn (rows.getD j noRw)) ∧ (uu (rows.getD j noRw)).length ≤ 10 ∧ A 8 j = nI (uu (rows.getD j noRw)).length ∧ txt A 10 (10 * j) (uu (rows.getD j noRw)) ∧
  A 5 j = r2 (rows.getD j noRw) ∧ (rk (rows.getD j noRw) ≠ 0 → A 6 j = r3 (rows.getD j noRw)) ∧ A 11 (120 * w + j) = r3 (rows.getD j noRw) ∧ (rk (rows.getD j noRw) = 0 ∨ rk (rows.getD j noRw) = 1 ∨ rk (rows.getD j noRw) = 2 ∨ rk (rows.getD j noRw) = 3) ∧ (∀ c, (rn (rows.getD j noRw)).getD c 0 < 128) ∧ ∀ c, (uu (rows.getD j noRw)).getD c 0 < 128
/-- the same but for the tables -/
def bt {α : Type} (f1 f : Nat → α) : Prop := ∀ k, k < 17 ∨ 30 ≤ k → f1 k = f k
theorem bt_rf {α : Type} (f : Nat → α) : bt f f := fun _ _ => rfl
theorem bt_u {F F0 : Nat → Int32} {k : Nat} {v : Int32} (h : bt F F0) (h1 : 17 ≤ k ∧ k < 30) : bt (upd F k v) F0 := fun q hq => by rw [upd_ne (by omega)]; exact h q hq
theorem bt_a {A A0 : Nat → Nat → Int32} {k : Nat} {f : Nat → Int32} (h : bt A A0) (h1 : 17 ≤ k ∧ k < 30) : bt (updA A k f) A0 := fun q hq => by rw [updA, if_neg (by omega)]; exact h q hq
theorem refR_bt {A1 A : Nat → Nat → Int32} {w : Nat} {rows : List Rw} (h : bt A1 A) (hr : refR A w rows) : refR A1 w rows := by
  refine ⟨hr.1, by rw [h 12 (by omega)]; exact hr.2.1, fun j hj => ?_⟩
  have := hr.2.2 j hj
  unfold txt at *
  rw [h 3 (by omega), h 4 (by omega), h 7 (by omega), h 9 (by omega), h 8 (by omega), h 10 (by omega), h 5 (by omega), h 6 (by omega), h 11 (by omega)]
  exact this
theorem oI_c {k : Nat} (h : k < 2 ^ 31) : ¬ oI (some k) = -1 := nI_m1 h
set_option maxHeartbeats 4000000 in
set_option maxRecDepth 100000 in
theorem lp_M_goThrough {p : Program} {l : Launch} {e : Env} {s : State} {m : MethodId} {args : Array Value} {below : List Frame} {meth : Method} {c : Code} {g : gG} (C0 : cF g p s m args meth c b_M_goThrough 5 "RegistryLogModel" none) (hZ : zK g s s.heap) {x : Nat} {ad : Nat → Nat} {F : Nat → Int32} {A : Nat → Nat → Int32} {B : Nat → Nat → Int64} (w0 : Nat) (hw : w0 < 5) (rows : List Rw) (hr0 : refR A w0 rows) (res : Tb) :
    ∀ (n i : Nat) (tb : Tb) (Fz : Nat → Int32) (Az : Nat → Nat → Int32) (H : Heap) (locs : List Loc), i ≤ rows.length → rows.length + 1 ≤ i + n → bt Fz F → bt Az A → repT Fz Az tb → okT tb i → thT tb (rows.drop i) = some res → mS g s.heap H x ad Fz Az B locs → ∀ (ls : Array Slot), lv_has ls 5 [(0, .ref x), (1, .int (nI w0)), (2, .int (nI i))] → W p l e (rmk 1 0 0 27) s m args below meth c H locs 0 0 (MQ below (qM g s.heap x ad (fun v F1 A1 B1 => v = none ∧ bt F1 F ∧ bt A1 A ∧ B1 = B ∧ repT F1 A1 res)) args s 0 0 (mN x ad)) (F0 m 17 ls []) := by
  obtain ⟨hx, hb, hml, hown, hts, hr, hlk, hK⟩ := id C0
  intro n
  induction n with
  | zero => intro i tb Fz Az H locs h1 h2; exact absurd h2 (by omega)
  | succ n ih =>
    intro i tb Fz Az H locs hi hin hbF hbA hT ho hth hm ls hl
    obtain ⟨N, O, V⟩ := tb
    have hr1 := refR_bt hbA hr0
    have hcp := hr1.2.1
    have h120 := hr1.1
    refine lv_iload_n hx hb d_M_goThrough_17 rfl (lv_at hl 2 rfl) ?_
    refine lv_aload_n hx hb d_M_goThrough_18 rfl (lv_at hl 0 rfl) ?_
    refine m_get hx hb hts hown hK hm 12 (by decide) (hts (.fieldLink "RegistryLogModel" 40 "RegistryLogModel" "copied" "[I") (in_4 (List.mem_of_getElem? (i := 221) rfl) rfl)) rfl (v := .ref (ad 12)) rfl d_M_goThrough_19 ?_
    refine lv_iload_n hx hb d_M_goThrough_22 rfl (lv_at hl 1 rfl) ?_
    refine m_ld hx hb hK hm 12 rfl w0 rfl (show w0 < 5 from by omega) d_M_goThrough_23 ?_
    refine W.eq (g2 := F0 m 24 ls [.int (nI rows.length), .int (nI i)]) (by rw [hcp]) ?_
    refine n_ge (tgt := 346) (a := i) (b := rows.length) hx hb d_M_goThrough_24 (by decide) (by omega) (by omega) (fun c24 => ?_) (fun c24 => ?_)
    · skip
      exact W.vret hx hb hr (fun t9 ht hW => ⟨_, _, _, _, rfl, by rw [ht]; exact ⟨hm.1, hm.2.1, hm.2.2.1, fun _ h => by cases h⟩, ⟨rfl, hbF, hbA, rfl, by have e9 : rows.drop i = [] := List.drop_eq_nil_of_le (by omega); rw [e9, thT] at hth; rw [← Option.some.inj hth]; exact hT⟩⟩) hm.2.2.2 d_M_goThrough_346 hlk
    · skip
      obtain ⟨q3, q4, ql, q7, q9o, ql2, q8, q10o, q5, q6, q11, qk, qc, qc2⟩ := hr0.2.2 i c24
      rw [List.drop_eq_getElem_cons c24, show rows[i] = rows.getD i noRw from by rw [List.getD_eq_getElem?_getD, List.getElem?_eq_getElem c24]; rfl, thT] at hth
      generalize rows.getD i noRw = rr at *
      have q9 : txt Az 9 (10 * i) (rn rr) := by unfold txt; rw [hbA 9 (by omega)]; exact q9o
      obtain ⟨tb2, hst, hth⟩ := Option.bind_eq_some_iff.mp hth
      obtain ⟨o1, o2, o3, o4, o5⟩ := id ho
      have o1 : N.length ≤ 2 * i := o1
      have o2 : O.length ≤ i := o2
      have o3 : V.length ≤ i := o3
      obtain ⟨t1, t2, t3, t4, t5, t6⟩ := id hT
      have t1 : Fz 27 = nI N.length := t1
      have t2 : Fz 28 = nI O.length := t2
      have t3 : Fz 29 = nI V.length := t3
      have ho2 := okT_st ho hst ql qc (fun z => by have e9 : uu rr = ra rr := if_pos z; rw [← e9]; exact ⟨ql2, qc2⟩) qk
      refine lv_aload_n hx hb d_M_goThrough_27 rfl (lv_at hl 0 rfl) ?_
      refine lv_aload_n hx hb d_M_goThrough_28 rfl (lv_at hl 0 rfl) ?_
      refine m_get hx hb hts hown hK hm 9 (by decide) (hts (.fieldLink "RegistryLogModel" 31 "RegistryLogModel" "letters" "[I") (in_4 (List.mem_of_getElem? (i := 218) rfl) rfl)) rfl (v := .ref (ad 9)) rfl d_M_goThrough_29 ?_
      refine lv_bipush (v := nI 10) hx hb d_M_goThrough_32 (by decide) ?_
      refine lv_iload_n hx hb d_M_goThrough_34 rfl (lv_at hl 2 rfl) ?_
      refine n_imul hx hb d_M_goThrough_35 ?_
      refine lv_aload_n hx hb d_M_goThrough_36 rfl (lv_at hl 0 rfl) ?_
      refine m_get hx hb hts hown hK hm 7 (by decide) (hts (.fieldLink "RegistryLogModel" 25 "RegistryLogModel" "size" "[I") (in_4 (List.mem_of_getElem? (i := 216) rfl) rfl)) rfl (v := .ref (ad 7)) rfl d_M_goThrough_37 ?_
      refine lv_iload_n hx hb d_M_goThrough_40 rfl (lv_at hl 2 rfl) ?_
      refine m_ld hx hb hK hm 7 rfl i rfl (show i < 120 from by omega) d_M_goThrough_41 ?_
      refine W.eq (g2 := F0 m 42 ls [.int (nI ((rn rr).length)), .int (nI (10 * i)), .ref (ad 9), .ref x]) (by rw [show Az 7 i = nI (rn rr).length from by rw [hbA 7 (by omega)]; exact q7]) ?_
      refine aM (rV (As := [.ref (ad 9), .int (nI (10 * i)), .int (nI ((rn rr).length))]) (rest := []) C0 (c_M_met l g _ x ad _ _ _ hm.1 9 (10 * i) (rn rr).length N.length rfl ql (by show 10 * i + (rn rr).length ≤ 1200; omega) t1 (by omega)) (m_zK hZ hm) k_M_goThrough_42 rfl rfl ⟨Nat.le_of_ble_eq_true rfl, Nat.le_of_ble_eq_true rfl⟩ (m_recv hK hm) rfl hl.1 rfl (Nat.le_of_ble_eq_true rfl) d_M_goThrough_42 ⟨Nat.zero_le _, Nat.zero_le _⟩) hm (fun v F1 A1 B1 H locs hp hm => ?_)
      obtain ⟨rfl, eF, eA, eB⟩ := hp
      rw [eF, eA, eB] at hm
      clear eF eA eB
      rw [show metA Az 9 (10 * i) (rn rr).length N.length 0 (-1) = oI (mtT (N, O, V) (rn rr)) from metA_T hT ho q9 ql qc]
      refine W.eq (g2 := F0 m 45 ls [.int (oI (mtT (N, O, V) (rn rr)))]) rfl ?_
      rw [stT] at hst
      rcases hmm : mtT (N, O, V) (rn rr) with _ | kk
      · skip
        rw [hmm] at hst
        have hk0 : rk rr = 0 := by by_cases z : rk rr = 0; exact z; (simp only [if_neg z] at hst; cases hst)
        simp only [if_pos hk0, Option.some.injEq] at hst
        subst hst
        refine W.eq (g2 := F0 m 45 ls [.int ((-1))]) rfl ?_
        refine lv_istore_n (lv' := [(3, .int ((-1))), (0, .ref x), (1, .int (nI w0)), (2, .int (nI i))]) hx hb d_M_goThrough_45 rfl hl (by decide) rfl (fun ls hl => ?_)
        refine lv_aload_n hx hb d_M_goThrough_46 rfl (lv_at hl 1 rfl) ?_
        refine m_get hx hb hts hown hK hm 3 (by decide) (hts (.fieldLink "RegistryLogModel" 13 "RegistryLogModel" "kind" "[I") (in_4 (List.mem_of_getElem? (i := 212) rfl) rfl)) rfl (v := .ref (ad 3)) rfl d_M_goThrough_47 ?_
        refine lv_iload_n hx hb d_M_goThrough_50 rfl (lv_at hl 3 rfl) ?_
        refine m_ld hx hb hK hm 3 rfl i rfl (show i < 120 from by omega) d_M_goThrough_51 ?_
        refine W.eq (g2 := F0 m 52 ls [.int (rk rr)]) (by rw [show Az 3 i = rk rr from by rw [hbA 3 (by omega)]; exact q3]) ?_
        refine lv_if_ne (tgt := 191) hx hb d_M_goThrough_52 (by decide) (fun c52 => ?_) (fun c52 => ?_)
        · skip
          exact absurd hk0 c52
        · skip
          refine lv_iload_n hx hb d_M_goThrough_55 rfl (lv_at hl 0 rfl) ?_
          refine lv_iconst (v := (-1)) hx hb d_M_goThrough_56 (by decide) ?_
          refine lv_icmp_ne (tgt := 118) hx hb d_M_goThrough_57 (by decide) (fun c57 => ?_) (fun c57 => ?_)
          · skip
            first | exact absurd c57 (by decide) | exact absurd (by decide) c57
          · skip
            refine lv_aload_n hx hb d_M_goThrough_60 rfl (lv_at hl 1 rfl) ?_
            refine lv_aload_n hx hb d_M_goThrough_61 rfl (lv_at hl 1 rfl) ?_
            refine m_get hx hb hts hown hK hm 9 (by decide) (hts (.fieldLink "RegistryLogModel" 31 "RegistryLogModel" "letters" "[I") (in_4 (List.mem_of_getElem? (i := 218) rfl) rfl)) rfl (v := .ref (ad 9)) rfl d_M_goThrough_62 ?_
            refine lv_bipush (v := nI 10) hx hb d_M_goThrough_65 (by decide) ?_
            refine lv_iload_n hx hb d_M_goThrough_67 rfl (lv_at hl 3 rfl) ?_
            refine n_imul hx hb d_M_goThrough_68 ?_
            refine lv_aload_n hx hb d_M_goThrough_69 rfl (lv_at hl 1 rfl) ?_
            refine m_get hx hb hts hown hK hm 7 (by decide) (hts (.fieldLink "RegistryLogModel" 25 "RegistryLogModel" "size" "[I") (in_4 (List.mem_of_getElem? (i := 216) rfl) rfl)) rfl (v := .ref (ad 7)) rfl d_M_goThrough_70 ?_
            refine lv_iload_n hx hb d_M_goThrough_73 rfl (lv_at hl 3 rfl) ?_
            refine m_ld hx hb hK hm 7 rfl i rfl (show i < 120 from by omega) d_M_goThrough_74 ?_
            refine W.eq (g2 := F0 m 75 ls [.int (nI ((rn rr).length)), .int (nI (10 * i)), .ref (ad 9), .ref x]) (by rw [show Az 7 i = nI (rn rr).length from by rw [hbA 7 (by omega)]; exact q7]) ?_
            refine lv_aload_n hx hb d_M_goThrough_75 rfl (lv_at hl 1 rfl) ?_
            refine m_get hx hb hts hown hK hm 28 (by decide) (hts (.fieldLink "RegistryLogModel" 139 "RegistryLogModel" "owners" "I") (in_4 (List.mem_of_getElem? (i := 237) rfl) rfl)) rfl (v := .int (nI O.length)) (congrArg (fun z => some (Value.int z)) t2) d_M_goThrough_76 ?_
            refine aM (rV (As := [.ref (ad 9), .int (nI (10 * i)), .int (nI ((rn rr).length)), .int (nI O.length)]) (rest := []) C0 (c_M_meet9 l g _ x ad _ _ _ hm.1 (10 * i) (rn rr).length O.length N.length ql (by omega) t1 (by omega)) (m_zK hZ hm) k_M_goThrough_79 rfl rfl ⟨Nat.le_of_ble_eq_true rfl, Nat.le_of_ble_eq_true rfl⟩ (m_recv hK hm) rfl hl.1 rfl (Nat.le_of_ble_eq_true rfl) d_M_goThrough_79 ⟨Nat.zero_le _, Nat.zero_le _⟩) hm (fun v F1 A1 B1 H locs hp hm => ?_)
            obtain ⟨rfl, eF, eA, eB⟩ := hp
            rw [eF, eA, eB] at hm
            clear eF eA eB
            refine W.eq (g2 := F0 m 82 ls [.int (nI N.length)]) rfl ?_
            have hT2 : repT (upd Fz 27 (nI (N.length + 1))) (meA9 Az (10 * i) (rn rr).length O.length N.length) (N ++ [(rn rr, 1, O.length)], O, V) := repT_me (j := 9) hT q9 ql (fun k hk => (o4 k hk).1)
            have hbF2 : bt (upd Fz 27 (nI (N.length + 1))) F := by repeat (first | exact hbF | refine bt_u ?_ (by omega))
            have hbA2 : bt (meA9 Az (10 * i) (rn rr).length O.length N.length) A := by (try unfold meA9); (try unfold meA10); repeat (first | exact hbA | refine bt_a ?_ (by omega))
            clear hT hbF hbA
            generalize (meA9 Az (10 * i) (rn rr).length O.length N.length) = A2 at *
            generalize (upd Fz 27 (nI (N.length + 1))) = F2 at *
            have hT := hT2
            have hbF := hbF2
            have hbA := hbA2
            clear hT2 hbF2 hbA2
            have t2 : F2 28 = nI O.length := hT.2.1
            have t3 : F2 29 = nI V.length := hT.2.2.1
            refine lv_istore_n (lv' := [(3, .int (nI N.length)), (0, .ref x), (1, .int (nI w0)), (2, .int (nI i))]) hx hb d_M_goThrough_82 rfl hl (by decide) rfl (fun ls hl => ?_)
            refine lv_aload_n hx hb d_M_goThrough_83 rfl (lv_at hl 1 rfl) ?_
            refine m_get hx hb hts hown hK hm 21 (by decide) (hts (.fieldLink "RegistryLogModel" 62 "RegistryLogModel" "founders" "[I") (in_4 (List.mem_of_getElem? (i := 230) rfl) rfl)) rfl (v := .ref (ad 21)) rfl d_M_goThrough_84 ?_
            refine lv_aload_n hx hb d_M_goThrough_87 rfl (lv_at hl 1 rfl) ?_
            refine m_get hx hb hts hown hK hm 28 (by decide) (hts (.fieldLink "RegistryLogModel" 139 "RegistryLogModel" "owners" "I") (in_4 (List.mem_of_getElem? (i := 237) rfl) rfl)) rfl (v := .int (nI O.length)) (congrArg (fun z => some (Value.int z)) t2) d_M_goThrough_88 ?_
            refine lv_aload_n hx hb d_M_goThrough_91 rfl (lv_at hl 1 rfl) ?_
            refine m_get hx hb hts hown hK hm 4 (by decide) (hts (.fieldLink "RegistryLogModel" 16 "RegistryLogModel" "person" "[I") (in_4 (List.mem_of_getElem? (i := 213) rfl) rfl)) rfl (v := .ref (ad 4)) rfl d_M_goThrough_92 ?_
            refine lv_iload_n hx hb d_M_goThrough_95 rfl (lv_at hl 3 rfl) ?_
            refine m_ld hx hb hK hm 4 rfl i rfl (show i < 120 from by omega) d_M_goThrough_96 ?_
            refine W.eq (g2 := F0 m 97 ls [.int (rp rr), .int (nI O.length), .ref (ad 21)]) (by rw [show A2 4 i = rp rr from by rw [hbA 4 (by omega)]; exact q4]) ?_
            refine m_st hx hb hK hm 21 rfl O.length rfl (show O.length < 120 from by omega) d_M_goThrough_97 (fun H locs hm => ?_)
            have hm : mS g s.heap H x ad F2 (updA A2 21 (upd (A2 21) O.length (rp rr))) B locs := hm
            refine lv_aload_n hx hb d_M_goThrough_98 rfl (lv_at hl 1 rfl) ?_
            refine m_get hx hb hts hown hK hm 22 (by decide) (hts (.fieldLink "RegistryLogModel" 65 "RegistryLogModel" "rights" "[I") (in_4 (List.mem_of_getElem? (i := 231) rfl) rfl)) rfl (v := .ref (ad 22)) rfl d_M_goThrough_99 ?_
            refine lv_aload_n hx hb d_M_goThrough_102 rfl (lv_at hl 1 rfl) ?_
            refine m_get hx hb hts hown hK hm 28 (by decide) (hts (.fieldLink "RegistryLogModel" 139 "RegistryLogModel" "owners" "I") (in_4 (List.mem_of_getElem? (i := 237) rfl) rfl)) rfl (v := .int (nI O.length)) (congrArg (fun z => some (Value.int z)) t2) d_M_goThrough_103 ?_
            refine lv_iconst (v := nI 0) hx hb d_M_goThrough_106 (by decide) ?_
            refine m_st hx hb hK hm 22 rfl O.length rfl (show O.length < 120 from by omega) d_M_goThrough_107 (fun H locs hm => ?_)
            have hm : mS g s.heap H x ad F2 (updA (updA A2 21 (upd (A2 21) O.length (rp rr))) 22 (upd (A2 22) O.length (nI 0))) B locs := hm
            refine lv_aload_n hx hb d_M_goThrough_108 rfl (lv_at hl 1 rfl) ?_
            refine lv_dup hx hb d_M_goThrough_109 rfl ?_
            refine m_get hx hb hts hown hK hm 28 (by decide) (hts (.fieldLink "RegistryLogModel" 139 "RegistryLogModel" "owners" "I") (in_4 (List.mem_of_getElem? (i := 237) rfl) rfl)) rfl (v := .int (nI O.length)) (congrArg (fun z => some (Value.int z)) t2) d_M_goThrough_110 ?_
            refine lv_iconst (v := nI 1) hx hb d_M_goThrough_113 (by decide) ?_
            refine n_iadd hx hb d_M_goThrough_114 ?_
            refine m_put hx hb hts hown hK hm 28 (by decide) (hts (.fieldLink "RegistryLogModel" 139 "RegistryLogModel" "owners" "I") (in_4 (List.mem_of_getElem? (i := 237) rfl) rfl)) rfl rfl (v := nI (O.length + 1)) rfl rfl rfl rfl d_M_goThrough_115 (fun H locs hm => ?_)
            have hT2 : repT (upd F2 28 (nI (O.length + 1))) (updA (updA A2 21 (upd (A2 21) O.length (rp rr))) 22 (upd (A2 22) O.length (nI 0))) (N ++ [(rn rr, 1, O.length)], O ++ [(rp rr, 0)], V) := repT_ow (a := rp rr) (b := 0) hT
            have hbF2 : bt (upd F2 28 (nI (O.length + 1))) F := by repeat (first | exact hbF | refine bt_u ?_ (by omega))
            have hbA2 : bt (updA (updA A2 21 (upd (A2 21) O.length (rp rr))) 22 (upd (A2 22) O.length (nI 0))) A := by (try unfold meA9); (try unfold meA10); repeat (first | exact hbA | refine bt_a ?_ (by omega))
            clear hT hbF hbA
            generalize (updA (updA A2 21 (upd (A2 21) O.length (rp rr))) 22 (upd (A2 22) O.length (nI 0))) = A3 at *
            generalize (upd F2 28 (nI (O.length + 1))) = F3 at *
            have hT := hT2
            have hbF := hbF2
            have hbA := hbA2
            clear hT2 hbF2 hbA2
            have t3 : F3 29 = nI V.length := hT.2.2.1
            have n4 : A3 20 N.length = nI O.length := by have := (hT.2.2.2.1 N.length (by simp)).2.2.2; rw [nmT, getD_ap2] at this; exact this
            refine lv_aload_n hx hb d_M_goThrough_118 rfl (lv_at hl 1 rfl) ?_
            refine m_get hx hb hts hown hK hm 23 (by decide) (hts (.fieldLink "RegistryLogModel" 68 "RegistryLogModel" "versionOf" "[I") (in_4 (List.mem_of_getElem? (i := 232) rfl) rfl)) rfl (v := .ref (ad 23)) rfl d_M_goThrough_119 ?_
            refine lv_aload_n hx hb d_M_goThrough_122 rfl (lv_at hl 1 rfl) ?_
            refine m_get hx hb hts hown hK hm 29 (by decide) (hts (.fieldLink "RegistryLogModel" 136 "RegistryLogModel" "versions" "I") (in_4 (List.mem_of_getElem? (i := 238) rfl) rfl)) rfl (v := .int (nI V.length)) (congrArg (fun z => some (Value.int z)) t3) d_M_goThrough_123 ?_
            refine lv_aload_n hx hb d_M_goThrough_126 rfl (lv_at hl 1 rfl) ?_
            refine m_get hx hb hts hown hK hm 20 (by decide) (hts (.fieldLink "RegistryLogModel" 59 "RegistryLogModel" "nameOf" "[I") (in_4 (List.mem_of_getElem? (i := 229) rfl) rfl)) rfl (v := .ref (ad 20)) rfl d_M_goThrough_127 ?_
            refine lv_iload_n hx hb d_M_goThrough_130 rfl (lv_at hl 0 rfl) ?_
            refine m_ld hx hb hK hm 20 rfl N.length rfl (show N.length < 240 from by omega) d_M_goThrough_131 ?_
            refine W.eq (g2 := F0 m 132 ls [.int (nI O.length), .int (nI V.length), .ref (ad 23)]) (by rw [n4]) ?_
            refine m_st hx hb hK hm 23 rfl V.length rfl (show V.length < 120 from by omega) d_M_goThrough_132 (fun H locs hm => ?_)
            have hm : mS g s.heap H x ad F3 (updA A3 23 (upd (A3 23) V.length (nI O.length))) B locs := hm
            refine lv_aload_n hx hb d_M_goThrough_133 rfl (lv_at hl 1 rfl) ?_
            refine m_get hx hb hts hown hK hm 24 (by decide) (hts (.fieldLink "RegistryLogModel" 71 "RegistryLogModel" "versionNumber" "[I") (in_4 (List.mem_of_getElem? (i := 233) rfl) rfl)) rfl (v := .ref (ad 24)) rfl d_M_goThrough_134 ?_
            refine lv_aload_n hx hb d_M_goThrough_137 rfl (lv_at hl 1 rfl) ?_
            refine m_get hx hb hts hown hK hm 29 (by decide) (hts (.fieldLink "RegistryLogModel" 136 "RegistryLogModel" "versions" "I") (in_4 (List.mem_of_getElem? (i := 238) rfl) rfl)) rfl (v := .int (nI V.length)) (congrArg (fun z => some (Value.int z)) t3) d_M_goThrough_138 ?_
            refine lv_aload_n hx hb d_M_goThrough_141 rfl (lv_at hl 1 rfl) ?_
            refine m_get hx hb hts hown hK hm 5 (by decide) (hts (.fieldLink "RegistryLogModel" 19 "RegistryLogModel" "first" "[I") (in_4 (List.mem_of_getElem? (i := 214) rfl) rfl)) rfl (v := .ref (ad 5)) rfl d_M_goThrough_142 ?_
            refine lv_iload_n hx hb d_M_goThrough_145 rfl (lv_at hl 3 rfl) ?_
            refine m_ld hx hb hK hm 5 rfl i rfl (show i < 120 from by omega) d_M_goThrough_146 ?_
            refine W.eq (g2 := F0 m 147 ls [.int (A3 5 i), .int (nI V.length), .ref (ad 24)]) rfl ?_
            refine W.eq (g2 := F0 m 147 ls [.int (r2 rr), .int (nI V.length), .ref (ad 24)]) (by rw [show A3 5 i = r2 rr from by rw [hbA 5 (by omega)]; exact q5]) ?_
            refine m_st hx hb hK hm 24 rfl V.length rfl (show V.length < 120 from by omega) d_M_goThrough_147 (fun H locs hm => ?_)
            have hm : mS g s.heap H x ad F3 (updA (updA A3 23 (upd (A3 23) V.length (nI O.length))) 24 (upd (A3 24) V.length (r2 rr))) B locs := hm
            refine lv_aload_n hx hb d_M_goThrough_148 rfl (lv_at hl 1 rfl) ?_
            refine m_get hx hb hts hown hK hm 25 (by decide) (hts (.fieldLink "RegistryLogModel" 74 "RegistryLogModel" "versionSum" "[I") (in_4 (List.mem_of_getElem? (i := 234) rfl) rfl)) rfl (v := .ref (ad 25)) rfl d_M_goThrough_149 ?_
            refine lv_aload_n hx hb d_M_goThrough_152 rfl (lv_at hl 1 rfl) ?_
            refine m_get hx hb hts hown hK hm 29 (by decide) (hts (.fieldLink "RegistryLogModel" 136 "RegistryLogModel" "versions" "I") (in_4 (List.mem_of_getElem? (i := 238) rfl) rfl)) rfl (v := .int (nI V.length)) (congrArg (fun z => some (Value.int z)) t3) d_M_goThrough_153 ?_
            refine lv_aload_n hx hb d_M_goThrough_156 rfl (lv_at hl 1 rfl) ?_
            refine m_get hx hb hts hown hK hm 11 (by decide) (hts (.fieldLink "RegistryLogModel" 37 "RegistryLogModel" "sums" "[I") (in_4 (List.mem_of_getElem? (i := 220) rfl) rfl)) rfl (v := .ref (ad 11)) rfl d_M_goThrough_157 ?_
            refine lv_bipush (v := nI 120) hx hb d_M_goThrough_160 (by decide) ?_
            refine lv_iload_n hx hb d_M_goThrough_162 rfl (lv_at hl 2 rfl) ?_
            refine n_imul hx hb d_M_goThrough_163 ?_
            refine lv_iload_n hx hb d_M_goThrough_164 rfl (lv_at hl 3 rfl) ?_
            refine n_iadd hx hb d_M_goThrough_165 ?_
            refine m_ld hx hb hK hm 11 rfl ((120 * w0) + i) rfl (show (120 * w0) + i < 600 from by omega) d_M_goThrough_166 ?_
            refine W.eq (g2 := F0 m 167 ls [.int (A3 11 ((120 * w0) + i)), .int (nI V.length), .ref (ad 25)]) rfl ?_
            refine W.eq (g2 := F0 m 167 ls [.int (r3 rr), .int (nI V.length), .ref (ad 25)]) (by rw [show A3 11 (120 * w0 + i) = r3 rr from by rw [hbA 11 (by omega)]; exact q11]) ?_
            refine m_st hx hb hK hm 25 rfl V.length rfl (show V.length < 120 from by omega) d_M_goThrough_167 (fun H locs hm => ?_)
            have hm : mS g s.heap H x ad F3 (updA (updA (updA A3 23 (upd (A3 23) V.length (nI O.length))) 24 (upd (A3 24) V.length (r2 rr))) 25 (upd (A3 25) V.length (r3 rr))) B locs := hm
            refine lv_aload_n hx hb d_M_goThrough_168 rfl (lv_at hl 1 rfl) ?_
            refine m_get hx hb hts hown hK hm 26 (by decide) (hts (.fieldLink "RegistryLogModel" 77 "RegistryLogModel" "versionYanked" "[I") (in_4 (List.mem_of_getElem? (i := 235) rfl) rfl)) rfl (v := .ref (ad 26)) rfl d_M_goThrough_169 ?_
            refine lv_aload_n hx hb d_M_goThrough_172 rfl (lv_at hl 1 rfl) ?_
            refine m_get hx hb hts hown hK hm 29 (by decide) (hts (.fieldLink "RegistryLogModel" 136 "RegistryLogModel" "versions" "I") (in_4 (List.mem_of_getElem? (i := 238) rfl) rfl)) rfl (v := .int (nI V.length)) (congrArg (fun z => some (Value.int z)) t3) d_M_goThrough_173 ?_
            refine lv_iconst (v := nI 0) hx hb d_M_goThrough_176 (by decide) ?_
            refine m_st hx hb hK hm 26 rfl V.length rfl (show V.length < 120 from by omega) d_M_goThrough_177 (fun H locs hm => ?_)
            have hm : mS g s.heap H x ad F3 (updA (updA (updA (updA A3 23 (upd (A3 23) V.length (nI O.length))) 24 (upd (A3 24) V.length (r2 rr))) 25 (upd (A3 25) V.length (r3 rr))) 26 (upd (A3 26) V.length (nI 0))) B locs := hm
            refine lv_aload_n hx hb d_M_goThrough_178 rfl (lv_at hl 1 rfl) ?_
            refine lv_dup hx hb d_M_goThrough_179 rfl ?_
            refine m_get hx hb hts hown hK hm 29 (by decide) (hts (.fieldLink "RegistryLogModel" 136 "RegistryLogModel" "versions" "I") (in_4 (List.mem_of_getElem? (i := 238) rfl) rfl)) rfl (v := .int (nI V.length)) (congrArg (fun z => some (Value.int z)) t3) d_M_goThrough_180 ?_
            refine lv_iconst (v := nI 1) hx hb d_M_goThrough_183 (by decide) ?_
            refine n_iadd hx hb d_M_goThrough_184 ?_
            refine m_put hx hb hts hown hK hm 29 (by decide) (hts (.fieldLink "RegistryLogModel" 136 "RegistryLogModel" "versions" "I") (in_4 (List.mem_of_getElem? (i := 238) rfl) rfl)) rfl rfl (v := nI (V.length + 1)) rfl rfl rfl rfl d_M_goThrough_185 (fun H locs hm => ?_)
            refine lv_goto (tgt := 340) hx hb d_M_goThrough_188 (by decide) ?_
            have hT2 : repT (upd F3 29 (nI (V.length + 1))) (updA (updA (updA (updA A3 23 (upd (A3 23) V.length (nI O.length))) 24 (upd (A3 24) V.length (r2 rr))) 25 (upd (A3 25) V.length (r3 rr))) 26 (upd (A3 26) V.length (nI 0))) (N ++ [(rn rr, 1, O.length)], O ++ [(rp rr, 0)], V ++ [(O.length, r2 rr, r3 rr, 0)]) := repT_ve hT
            have hbF2 : bt (upd F3 29 (nI (V.length + 1))) F := by repeat (first | exact hbF | refine bt_u ?_ (by omega))
            have hbA2 : bt (updA (updA (updA (updA A3 23 (upd (A3 23) V.length (nI O.length))) 24 (upd (A3 24) V.length (r2 rr))) 25 (upd (A3 25) V.length (r3 rr))) 26 (upd (A3 26) V.length (nI 0))) A := by (try unfold meA9); (try unfold meA10); repeat (first | exact hbA | refine bt_a ?_ (by omega))
            clear hT hbF hbA
            generalize (updA (updA (updA (updA A3 23 (upd (A3 23) V.length (nI O.length))) 24 (upd (A3 24) V.length (r2 rr))) 25 (upd (A3 25) V.length (r3 rr))) 26 (upd (A3 26) V.length (nI 0))) = A9 at *
            generalize (upd F3 29 (nI (V.length + 1))) = F9 at *
            have hT := hT2
            have hbF := hbF2
            have hbA := hbA2
            clear hT2 hbF2 hbA2
            refine n_inc (a := i) (lv' := [(2, .int (nI (i + 1))), (3, .int (nI N.length)), (0, .ref x), (1, .int (nI w0))]) hx hb d_M_goThrough_340 hl (k := 3) rfl (by decide) rfl (fun ls hl => ?_)
            refine lv_goto (tgt := 17) hx hb d_M_goThrough_343 (by decide) ?_
            exact ih (i + 1) _ _ _ H locs (by omega) (by omega) hbF hbA hT ho2 hth hm ls (lv_sub hl [2, 3, 0] rfl)
      · skip
        rw [hmm] at hst
        have hkk : kk < N.length := mtT_lt hmm
        obtain ⟨n1, n2, n3, n4⟩ := t4 kk hkk
        obtain ⟨p1, p2, p3⟩ := o4 kk hkk
        have p3 : (nmT (N, O, V) kk).2.2 < O.length := p3
        dsimp only at hst
        refine W.eq (g2 := F0 m 45 ls [.int (nI kk)]) rfl ?_
        refine lv_istore_n (lv' := [(3, .int (nI kk)), (0, .ref x), (1, .int (nI w0)), (2, .int (nI i))]) hx hb d_M_goThrough_45 rfl hl (by decide) rfl (fun ls hl => ?_)
        refine lv_aload_n hx hb d_M_goThrough_46 rfl (lv_at hl 1 rfl) ?_
        refine m_get hx hb hts hown hK hm 3 (by decide) (hts (.fieldLink "RegistryLogModel" 13 "RegistryLogModel" "kind" "[I") (in_4 (List.mem_of_getElem? (i := 212) rfl) rfl)) rfl (v := .ref (ad 3)) rfl d_M_goThrough_47 ?_
        refine lv_iload_n hx hb d_M_goThrough_50 rfl (lv_at hl 3 rfl) ?_
        refine m_ld hx hb hK hm 3 rfl i rfl (show i < 120 from by omega) d_M_goThrough_51 ?_
        refine W.eq (g2 := F0 m 52 ls [.int (rk rr)]) (by rw [show Az 3 i = rk rr from by rw [hbA 3 (by omega)]; exact q3]) ?_
        refine lv_if_ne (tgt := 191) hx hb d_M_goThrough_52 (by decide) (fun c52 => ?_) (fun c52 => ?_)
        · skip
          have hkn0 : ¬ rk rr = 0 := c52
          refine lv_aload_n hx hb d_M_goThrough_191 rfl (lv_at hl 1 rfl) ?_
          refine m_get hx hb hts hown hK hm 3 (by decide) (hts (.fieldLink "RegistryLogModel" 13 "RegistryLogModel" "kind" "[I") (in_4 (List.mem_of_getElem? (i := 212) rfl) rfl)) rfl (v := .ref (ad 3)) rfl d_M_goThrough_192 ?_
          refine lv_iload_n hx hb d_M_goThrough_195 rfl (lv_at hl 3 rfl) ?_
          refine m_ld hx hb hK hm 3 rfl i rfl (show i < 120 from by omega) d_M_goThrough_196 ?_
          refine W.eq (g2 := F0 m 197 ls [.int (rk rr)]) (by rw [show Az 3 i = rk rr from by rw [hbA 3 (by omega)]; exact q3]) ?_
          refine lv_iconst (v := nI 1) hx hb d_M_goThrough_197 (by decide) ?_
          refine lv_icmp_ne (tgt := 231) hx hb d_M_goThrough_198 (by decide) (fun c198 => ?_) (fun c198 => ?_)
          · skip
            have hkn1 : ¬ rk rr = 1 := c198
            refine lv_aload_n hx hb d_M_goThrough_231 rfl (lv_at hl 1 rfl) ?_
            refine m_get hx hb hts hown hK hm 3 (by decide) (hts (.fieldLink "RegistryLogModel" 13 "RegistryLogModel" "kind" "[I") (in_4 (List.mem_of_getElem? (i := 212) rfl) rfl)) rfl (v := .ref (ad 3)) rfl d_M_goThrough_232 ?_
            refine lv_iload_n hx hb d_M_goThrough_235 rfl (lv_at hl 3 rfl) ?_
            refine m_ld hx hb hK hm 3 rfl i rfl (show i < 120 from by omega) d_M_goThrough_236 ?_
            refine W.eq (g2 := F0 m 237 ls [.int (rk rr)]) (by rw [show Az 3 i = rk rr from by rw [hbA 3 (by omega)]; exact q3]) ?_
            refine lv_iconst (v := nI 2) hx hb d_M_goThrough_237 (by decide) ?_
            refine lv_icmp_ne (tgt := 308) hx hb d_M_goThrough_238 (by decide) (fun c238 => ?_) (fun c238 => ?_)
            · skip
              have hkn2 : ¬ rk rr = 2 := c238
              have hbAo := hbA
              refine lv_aload_n hx hb d_M_goThrough_308 rfl (lv_at hl 1 rfl) ?_
              refine m_get hx hb hts hown hK hm 19 (by decide) (hts (.fieldLink "RegistryLogModel" 56 "RegistryLogModel" "nameState" "[I") (in_4 (List.mem_of_getElem? (i := 228) rfl) rfl)) rfl (v := .ref (ad 19)) rfl d_M_goThrough_309 ?_
              refine lv_iload_n hx hb d_M_goThrough_312 rfl (lv_at hl 0 rfl) ?_
              refine lv_iconst (v := nI 2) hx hb d_M_goThrough_313 (by decide) ?_
              refine m_st hx hb hK hm 19 rfl kk rfl (show kk < 240 from by omega) d_M_goThrough_314 (fun H locs hm => ?_)
              have hm : mS g s.heap H x ad Fz (updA Az 19 (upd (Az 19) kk (nI 2))) B locs := hm
              refine lv_aload_n hx hb d_M_goThrough_315 rfl (lv_at hl 1 rfl) ?_
              refine lv_aload_n hx hb d_M_goThrough_316 rfl (lv_at hl 1 rfl) ?_
              refine m_get hx hb hts hown hK hm 10 (by decide) (hts (.fieldLink "RegistryLogModel" 34 "RegistryLogModel" "otherLetters" "[I") (in_4 (List.mem_of_getElem? (i := 219) rfl) rfl)) rfl (v := .ref (ad 10)) rfl d_M_goThrough_317 ?_
              refine lv_bipush (v := nI 10) hx hb d_M_goThrough_320 (by decide) ?_
              refine lv_iload_n hx hb d_M_goThrough_322 rfl (lv_at hl 3 rfl) ?_
              refine n_imul hx hb d_M_goThrough_323 ?_
              refine lv_aload_n hx hb d_M_goThrough_324 rfl (lv_at hl 1 rfl) ?_
              refine m_get hx hb hts hown hK hm 8 (by decide) (hts (.fieldLink "RegistryLogModel" 28 "RegistryLogModel" "otherSize" "[I") (in_4 (List.mem_of_getElem? (i := 217) rfl) rfl)) rfl (v := .ref (ad 8)) rfl d_M_goThrough_325 ?_
              refine lv_iload_n hx hb d_M_goThrough_328 rfl (lv_at hl 3 rfl) ?_
              refine m_ld hx hb hK hm 8 rfl i rfl (show i < 120 from by omega) d_M_goThrough_329 ?_
              refine W.eq (g2 := F0 m 330 ls [.int (Az 8 i), .int (nI (10 * i)), .ref (ad 10), .ref x]) rfl ?_
              refine W.eq (g2 := F0 m 330 ls [.int (nI ((uu rr).length)), .int (nI (10 * i)), .ref (ad 10), .ref x]) (by rw [show Az 8 i = nI (uu rr).length from by rw [hbA 8 (by omega)]; exact q8]) ?_
              refine lv_aload_n hx hb d_M_goThrough_330 rfl (lv_at hl 1 rfl) ?_
              refine m_get hx hb hts hown hK hm 20 (by decide) (hts (.fieldLink "RegistryLogModel" 59 "RegistryLogModel" "nameOf" "[I") (in_4 (List.mem_of_getElem? (i := 229) rfl) rfl)) rfl (v := .ref (ad 20)) rfl d_M_goThrough_331 ?_
              refine lv_iload_n hx hb d_M_goThrough_334 rfl (lv_at hl 0 rfl) ?_
              refine m_ld hx hb hK hm 20 rfl kk rfl (show kk < 240 from by omega) d_M_goThrough_335 ?_
              refine W.eq (g2 := F0 m 336 ls [.int (Az 20 kk), .int (nI ((uu rr).length)), .int (nI (10 * i)), .ref (ad 10), .ref x]) rfl ?_
              refine W.eq (g2 := F0 m 336 ls [.int (nI ((nmT (N, O, V) kk).2.2)), .int (nI ((uu rr).length)), .int (nI (10 * i)), .ref (ad 10), .ref x]) (by rw [n4]) ?_
              simp only [if_neg hkn0, if_neg hkn1, if_neg hkn2, Option.some.injEq] at hst
              subst hst
              have hk3 : rk rr = 3 := by rcases qk with z | z | z | z; exact absurd z hkn0; exact absurd z hkn1; exact absurd z hkn2; exact z
              have euu : uu rr = ra rr := if_pos hk3
              have hT2 : repT Fz (updA Az 19 (upd (Az 19) kk (nI 2))) (N.set kk ((nmT (N, O, V) kk).1, 2, (nmT (N, O, V) kk).2.2), O, V) := repT_gn hT
              have hbF2 : bt Fz F := by repeat (first | exact hbF | refine bt_u ?_ (by omega))
              have hbA2 : bt (updA Az 19 (upd (Az 19) kk (nI 2))) A := by (try unfold meA9); (try unfold meA10); repeat (first | exact hbA | refine bt_a ?_ (by omega))
              clear hT hbF hbA
              generalize (updA Az 19 (upd (Az 19) kk (nI 2))) = A2 at *
              have hT := hT2
              have hbF := hbF2
              have hbA := hbA2
              clear hT2 hbF2 hbA2
              have hln : (N.set kk ((nmT (N, O, V) kk).1, 2, (nmT (N, O, V) kk).2.2)).length = N.length := List.length_set ..
              have t1b : Fz 27 = nI (N.set kk ((nmT (N, O, V) kk).1, 2, (nmT (N, O, V) kk).2.2)).length := hT.1
              have q10b : txt A2 10 (10 * i) (uu rr) := by unfold txt; rw [hbA 10 (by omega)]; exact q10o
              have hN2 : ∀ k, k < (N.set kk ((nmT (N, O, V) kk).1, 2, (nmT (N, O, V) kk).2.2)).length → (nmT (N.set kk ((nmT (N, O, V) kk).1, 2, (nmT (N, O, V) kk).2.2), O, V) k).1.length ≤ 10 := by
                intro k hk; rw [hln] at hk; unfold nmT; rw [getD_set hk]; by_cases z : k = kk
                · rw [if_pos z]; exact p1
                · rw [if_neg z]; exact (o4 k hk).1
              refine aM (rV (As := [.ref (ad 10), .int (nI (10 * i)), .int (nI ((uu rr).length)), .int (nI ((nmT (N, O, V) kk).2.2))]) (rest := []) C0 (c_M_meet10 l g _ x ad _ _ _ hm.1 (10 * i) (uu rr).length (nmT (N, O, V) kk).2.2 (N.set kk ((nmT (N, O, V) kk).1, 2, (nmT (N, O, V) kk).2.2)).length ql2 (by omega) t1b (by omega)) (m_zK hZ hm) k_M_goThrough_336 rfl rfl ⟨Nat.le_of_ble_eq_true rfl, Nat.le_of_ble_eq_true rfl⟩ (m_recv hK hm) rfl hl.1 rfl (Nat.le_of_ble_eq_true rfl) d_M_goThrough_336 ⟨Nat.zero_le _, Nat.zero_le _⟩) hm (fun v F1 A1 B1 H locs hp hm => ?_)
              obtain ⟨rfl, eF, eA, eB⟩ := hp
              rw [eF, eA, eB] at hm
              clear eF eA eB
              refine W.eq (g2 := F0 m 339 ls [.int (nI ((N.set kk ((nmT (N, O, V) kk).1, 2, (nmT (N, O, V) kk).2.2)).length))]) rfl ?_
              rw [← euu] at ho2 hth
              have hT2 : repT (upd Fz 27 (nI ((N.set kk ((nmT (N, O, V) kk).1, 2, (nmT (N, O, V) kk).2.2)).length + 1))) (meA10 A2 (10 * i) (uu rr).length (nmT (N, O, V) kk).2.2 (N.set kk ((nmT (N, O, V) kk).1, 2, (nmT (N, O, V) kk).2.2)).length) ((N.set kk ((nmT (N, O, V) kk).1, 2, (nmT (N, O, V) kk).2.2)) ++ [(uu rr, 1, (nmT (N, O, V) kk).2.2)], O, V) := repT_me (j := 10) hT q10b ql2 hN2
              have hbF2 : bt (upd Fz 27 (nI ((N.set kk ((nmT (N, O, V) kk).1, 2, (nmT (N, O, V) kk).2.2)).length + 1))) F := by repeat (first | exact hbF | refine bt_u ?_ (by omega))
              have hbA2 : bt (meA10 A2 (10 * i) (uu rr).length (nmT (N, O, V) kk).2.2 (N.set kk ((nmT (N, O, V) kk).1, 2, (nmT (N, O, V) kk).2.2)).length) A := by (try unfold meA9); (try unfold meA10); repeat (first | exact hbA | refine bt_a ?_ (by omega))
              clear hT hbF hbA
              generalize (meA10 A2 (10 * i) (uu rr).length (nmT (N, O, V) kk).2.2 (N.set kk ((nmT (N, O, V) kk).1, 2, (nmT (N, O, V) kk).2.2)).length) = A3 at *
              generalize (upd Fz 27 (nI ((N.set kk ((nmT (N, O, V) kk).1, 2, (nmT (N, O, V) kk).2.2)).length + 1))) = F3 at *
              have hT := hT2
              have hbF := hbF2
              have hbA := hbA2
              clear hT2 hbF2 hbA2
              refine lv_pop hx hb d_M_goThrough_339 rfl ?_
              refine n_inc (a := i) (lv' := [(2, .int (nI (i + 1))), (3, .int (nI kk)), (0, .ref x), (1, .int (nI w0))]) hx hb d_M_goThrough_340 hl (k := 3) rfl (by decide) rfl (fun ls hl => ?_)
              refine lv_goto (tgt := 17) hx hb d_M_goThrough_343 (by decide) ?_
              exact ih (i + 1) _ _ _ H locs (by omega) (by omega) hbF hbA hT ho2 hth hm ls (lv_sub hl [2, 3, 0] rfl)
            · skip
              have hk2 : rk rr = 2 := c238
              refine lv_iconst (v := nI 1) hx hb d_M_goThrough_241 (by decide) ?_
              refine lv_aload_n hx hb d_M_goThrough_242 rfl (lv_at hl 1 rfl) ?_
              refine m_get hx hb hts hown hK hm 5 (by decide) (hts (.fieldLink "RegistryLogModel" 19 "RegistryLogModel" "first" "[I") (in_4 (List.mem_of_getElem? (i := 214) rfl) rfl)) rfl (v := .ref (ad 5)) rfl d_M_goThrough_243 ?_
              refine lv_iload_n hx hb d_M_goThrough_246 rfl (lv_at hl 3 rfl) ?_
              refine m_ld hx hb hK hm 5 rfl i rfl (show i < 120 from by omega) d_M_goThrough_247 ?_
              refine W.eq (g2 := F0 m 248 ls [.int (r2 rr), .int (nI 1)]) (by rw [show Az 5 i = r2 rr from by rw [hbA 5 (by omega)]; exact q5]) ?_
              refine lv_ishl hx hb d_M_goThrough_248 ?_
              refine lv_topi (fun x_1 ex_1 => ?_)
              refine lv_istore (lv' := [(4, .int x_1), (3, .int (nI kk)), (0, .ref x), (1, .int (nI w0)), (2, .int (nI i))]) hx hb d_M_goThrough_249 hl (by decide) rfl (fun ls hl => ?_)
              refine lv_aload_n hx hb d_M_goThrough_251 rfl (lv_at hl 2 rfl) ?_
              refine m_get hx hb hts hown hK hm 22 (by decide) (hts (.fieldLink "RegistryLogModel" 65 "RegistryLogModel" "rights" "[I") (in_4 (List.mem_of_getElem? (i := 231) rfl) rfl)) rfl (v := .ref (ad 22)) rfl d_M_goThrough_252 ?_
              refine lv_aload_n hx hb d_M_goThrough_255 rfl (lv_at hl 2 rfl) ?_
              refine m_get hx hb hts hown hK hm 20 (by decide) (hts (.fieldLink "RegistryLogModel" 59 "RegistryLogModel" "nameOf" "[I") (in_4 (List.mem_of_getElem? (i := 229) rfl) rfl)) rfl (v := .ref (ad 20)) rfl d_M_goThrough_256 ?_
              refine lv_iload_n hx hb d_M_goThrough_259 rfl (lv_at hl 1 rfl) ?_
              refine m_ld hx hb hK hm 20 rfl kk rfl (show kk < 240 from by omega) d_M_goThrough_260 ?_
              refine W.eq (g2 := F0 m 261 ls [.int (nI ((nmT (N, O, V) kk).2.2)), .ref (ad 22)]) (by rw [n4]) ?_
              refine lv_aload_n hx hb d_M_goThrough_261 rfl (lv_at hl 2 rfl) ?_
              refine m_get hx hb hts hown hK hm 6 (by decide) (hts (.fieldLink "RegistryLogModel" 22 "RegistryLogModel" "flag" "[I") (in_4 (List.mem_of_getElem? (i := 215) rfl) rfl)) rfl (v := .ref (ad 6)) rfl d_M_goThrough_262 ?_
              refine lv_iload_n hx hb d_M_goThrough_265 rfl (lv_at hl 4 rfl) ?_
              refine m_ld hx hb hK hm 6 rfl i rfl (show i < 120 from by omega) d_M_goThrough_266 ?_
              refine W.eq (g2 := F0 m 267 ls [.int (r3 rr), .int (nI ((nmT (N, O, V) kk).2.2)), .ref (ad 22)]) (by rw [show Az 6 i = r3 rr from by rw [hbA 6 (by omega)]; exact (q6 hkn0)]) ?_
              refine lv_iconst (v := nI 1) hx hb d_M_goThrough_267 (by decide) ?_
              refine lv_icmp_ne (tgt := 288) hx hb d_M_goThrough_268 (by decide) (fun c268 => ?_) (fun c268 => ?_)
              · skip
                refine lv_aload_n hx hb d_M_goThrough_288 rfl (lv_at hl 2 rfl) ?_
                refine m_get hx hb hts hown hK hm 22 (by decide) (hts (.fieldLink "RegistryLogModel" 65 "RegistryLogModel" "rights" "[I") (in_4 (List.mem_of_getElem? (i := 231) rfl) rfl)) rfl (v := .ref (ad 22)) rfl d_M_goThrough_289 ?_
                refine lv_aload_n hx hb d_M_goThrough_292 rfl (lv_at hl 2 rfl) ?_
                refine m_get hx hb hts hown hK hm 20 (by decide) (hts (.fieldLink "RegistryLogModel" 59 "RegistryLogModel" "nameOf" "[I") (in_4 (List.mem_of_getElem? (i := 229) rfl) rfl)) rfl (v := .ref (ad 20)) rfl d_M_goThrough_293 ?_
                refine lv_iload_n hx hb d_M_goThrough_296 rfl (lv_at hl 1 rfl) ?_
                refine m_ld hx hb hK hm 20 rfl kk rfl (show kk < 240 from by omega) d_M_goThrough_297 ?_
                refine W.eq (g2 := F0 m 298 ls [.int (nI ((nmT (N, O, V) kk).2.2)), .ref (ad 22), .int (nI ((nmT (N, O, V) kk).2.2)), .ref (ad 22)]) (by rw [n4]) ?_
                refine m_ld hx hb hK hm 22 rfl ((nmT (N, O, V) kk).2.2) rfl (show (nmT (N, O, V) kk).2.2 < 120 from by omega) d_M_goThrough_298 ?_
                refine W.eq (g2 := F0 m 299 ls [.int ((owT (N, O, V) (nmT (N, O, V) kk).2.2).2), .int (nI ((nmT (N, O, V) kk).2.2)), .ref (ad 22)]) (by rw [(t5 _ p3).2]) ?_
                refine lv_iload hx hb d_M_goThrough_299 (lv_at hl 0 rfl) ?_
                refine lv_iconst (v := (-1)) hx hb d_M_goThrough_301 (by decide) ?_
                refine lv_ixor hx hb d_M_goThrough_302 ?_
                refine lv_iand hx hb d_M_goThrough_303 ?_
                refine m_st hx hb hK hm 22 rfl ((nmT (N, O, V) kk).2.2) rfl (show (nmT (N, O, V) kk).2.2 < 120 from by omega) d_M_goThrough_304 (fun H locs hm => ?_)
                have hm : mS g s.heap H x ad Fz (updA Az 22 (upd (Az 22) ((nmT (N, O, V) kk).2.2) (((owT (N, O, V) (nmT (N, O, V) kk).2.2).2) &&& (x_1 ^^^ ((-1)))))) B locs := hm
                simp only [if_neg hkn0, if_neg hkn1, if_pos hk2, Option.some.injEq] at hst
                subst hst
                refine lv_goto (tgt := 340) hx hb d_M_goThrough_305 (by decide) ?_
                have eR : ((owT (N, O, V) (nmT (N, O, V) kk).2.2).2) &&& (x_1 ^^^ ((-1))) = rgS (owT (N, O, V) (nmT (N, O, V) kk).2.2).2 (r2 rr) (r3 rr) := by rw [rgS, if_neg (show ¬ r3 rr = 1 from c268), ex_1]; rfl
                rw [eR] at hm
                have hT2 : repT Fz (updA Az 22 (upd (Az 22) ((nmT (N, O, V) kk).2.2) (rgS (owT (N, O, V) (nmT (N, O, V) kk).2.2).2 (r2 rr) (r3 rr)))) (N, O.set (nmT (N, O, V) kk).2.2 ((owT (N, O, V) (nmT (N, O, V) kk).2.2).1, rgS (owT (N, O, V) (nmT (N, O, V) kk).2.2).2 (r2 rr) (r3 rr)), V) := repT_rg hT
                have hbF2 : bt Fz F := by repeat (first | exact hbF | refine bt_u ?_ (by omega))
                have hbA2 : bt (updA Az 22 (upd (Az 22) ((nmT (N, O, V) kk).2.2) (rgS (owT (N, O, V) (nmT (N, O, V) kk).2.2).2 (r2 rr) (r3 rr)))) A := by (try unfold meA9); (try unfold meA10); repeat (first | exact hbA | refine bt_a ?_ (by omega))
                clear hT hbF hbA
                generalize (updA Az 22 (upd (Az 22) ((nmT (N, O, V) kk).2.2) (rgS (owT (N, O, V) (nmT (N, O, V) kk).2.2).2 (r2 rr) (r3 rr)))) = A9 at *
                have hT := hT2
                have hbF := hbF2
                have hbA := hbA2
                clear hT2 hbF2 hbA2
                refine n_inc (a := i) (lv' := [(2, .int (nI (i + 1))), (4, .int x_1), (3, .int (nI kk)), (0, .ref x), (1, .int (nI w0))]) hx hb d_M_goThrough_340 hl (k := 4) rfl (by decide) rfl (fun ls hl => ?_)
                refine lv_goto (tgt := 17) hx hb d_M_goThrough_343 (by decide) ?_
                exact ih (i + 1) _ _ _ H locs (by omega) (by omega) hbF hbA hT ho2 hth hm ls (lv_sub hl [3, 4, 0] rfl)
              · skip
                refine lv_aload_n hx hb d_M_goThrough_271 rfl (lv_at hl 2 rfl) ?_
                refine m_get hx hb hts hown hK hm 22 (by decide) (hts (.fieldLink "RegistryLogModel" 65 "RegistryLogModel" "rights" "[I") (in_4 (List.mem_of_getElem? (i := 231) rfl) rfl)) rfl (v := .ref (ad 22)) rfl d_M_goThrough_272 ?_
                refine lv_aload_n hx hb d_M_goThrough_275 rfl (lv_at hl 2 rfl) ?_
                refine m_get hx hb hts hown hK hm 20 (by decide) (hts (.fieldLink "RegistryLogModel" 59 "RegistryLogModel" "nameOf" "[I") (in_4 (List.mem_of_getElem? (i := 229) rfl) rfl)) rfl (v := .ref (ad 20)) rfl d_M_goThrough_276 ?_
                refine lv_iload_n hx hb d_M_goThrough_279 rfl (lv_at hl 1 rfl) ?_
                refine m_ld hx hb hK hm 20 rfl kk rfl (show kk < 240 from by omega) d_M_goThrough_280 ?_
                refine W.eq (g2 := F0 m 281 ls [.int (nI ((nmT (N, O, V) kk).2.2)), .ref (ad 22), .int (nI ((nmT (N, O, V) kk).2.2)), .ref (ad 22)]) (by rw [n4]) ?_
                refine m_ld hx hb hK hm 22 rfl ((nmT (N, O, V) kk).2.2) rfl (show (nmT (N, O, V) kk).2.2 < 120 from by omega) d_M_goThrough_281 ?_
                refine W.eq (g2 := F0 m 282 ls [.int ((owT (N, O, V) (nmT (N, O, V) kk).2.2).2), .int (nI ((nmT (N, O, V) kk).2.2)), .ref (ad 22)]) (by rw [(t5 _ p3).2]) ?_
                refine lv_iload hx hb d_M_goThrough_282 (lv_at hl 0 rfl) ?_
                refine lv_ior hx hb d_M_goThrough_284 ?_
                refine lv_goto (tgt := 304) hx hb d_M_goThrough_285 (by decide) ?_
                refine m_st hx hb hK hm 22 rfl ((nmT (N, O, V) kk).2.2) rfl (show (nmT (N, O, V) kk).2.2 < 120 from by omega) d_M_goThrough_304 (fun H locs hm => ?_)
                have hm : mS g s.heap H x ad Fz (updA Az 22 (upd (Az 22) ((nmT (N, O, V) kk).2.2) (((owT (N, O, V) (nmT (N, O, V) kk).2.2).2) ||| x_1))) B locs := hm
                simp only [if_neg hkn0, if_neg hkn1, if_pos hk2, Option.some.injEq] at hst
                subst hst
                refine lv_goto (tgt := 340) hx hb d_M_goThrough_305 (by decide) ?_
                have eR : ((owT (N, O, V) (nmT (N, O, V) kk).2.2).2) ||| x_1 = rgS (owT (N, O, V) (nmT (N, O, V) kk).2.2).2 (r2 rr) (r3 rr) := by rw [rgS, if_pos (show r3 rr = 1 from c268), ex_1]; rfl
                rw [eR] at hm
                have hT2 : repT Fz (updA Az 22 (upd (Az 22) ((nmT (N, O, V) kk).2.2) (rgS (owT (N, O, V) (nmT (N, O, V) kk).2.2).2 (r2 rr) (r3 rr)))) (N, O.set (nmT (N, O, V) kk).2.2 ((owT (N, O, V) (nmT (N, O, V) kk).2.2).1, rgS (owT (N, O, V) (nmT (N, O, V) kk).2.2).2 (r2 rr) (r3 rr)), V) := repT_rg hT
                have hbF2 : bt Fz F := by repeat (first | exact hbF | refine bt_u ?_ (by omega))
                have hbA2 : bt (updA Az 22 (upd (Az 22) ((nmT (N, O, V) kk).2.2) (rgS (owT (N, O, V) (nmT (N, O, V) kk).2.2).2 (r2 rr) (r3 rr)))) A := by (try unfold meA9); (try unfold meA10); repeat (first | exact hbA | refine bt_a ?_ (by omega))
                clear hT hbF hbA
                generalize (updA Az 22 (upd (Az 22) ((nmT (N, O, V) kk).2.2) (rgS (owT (N, O, V) (nmT (N, O, V) kk).2.2).2 (r2 rr) (r3 rr)))) = A9 at *
                have hT := hT2
                have hbF := hbF2
                have hbA := hbA2
                clear hT2 hbF2 hbA2
                refine n_inc (a := i) (lv' := [(2, .int (nI (i + 1))), (4, .int x_1), (3, .int (nI kk)), (0, .ref x), (1, .int (nI w0))]) hx hb d_M_goThrough_340 hl (k := 4) rfl (by decide) rfl (fun ls hl => ?_)
                refine lv_goto (tgt := 17) hx hb d_M_goThrough_343 (by decide) ?_
                exact ih (i + 1) _ _ _ H locs (by omega) (by omega) hbF hbA hT ho2 hth hm ls (lv_sub hl [3, 4, 0] rfl)
          · skip
            have hk1 : rk rr = 1 := c198
            refine lv_aload_n hx hb d_M_goThrough_201 rfl (lv_at hl 1 rfl) ?_
            refine m_get hx hb hts hown hK hm 26 (by decide) (hts (.fieldLink "RegistryLogModel" 77 "RegistryLogModel" "versionYanked" "[I") (in_4 (List.mem_of_getElem? (i := 235) rfl) rfl)) rfl (v := .ref (ad 26)) rfl d_M_goThrough_202 ?_
            refine lv_aload_n hx hb d_M_goThrough_205 rfl (lv_at hl 1 rfl) ?_
            refine lv_aload_n hx hb d_M_goThrough_206 rfl (lv_at hl 1 rfl) ?_
            refine m_get hx hb hts hown hK hm 20 (by decide) (hts (.fieldLink "RegistryLogModel" 59 "RegistryLogModel" "nameOf" "[I") (in_4 (List.mem_of_getElem? (i := 229) rfl) rfl)) rfl (v := .ref (ad 20)) rfl d_M_goThrough_207 ?_
            refine lv_iload_n hx hb d_M_goThrough_210 rfl (lv_at hl 0 rfl) ?_
            refine m_ld hx hb hK hm 20 rfl kk rfl (show kk < 240 from by omega) d_M_goThrough_211 ?_
            refine W.eq (g2 := F0 m 212 ls [.int (nI ((nmT (N, O, V) kk).2.2)), .ref x, .ref (ad 26)]) (by rw [n4]) ?_
            refine lv_aload_n hx hb d_M_goThrough_212 rfl (lv_at hl 1 rfl) ?_
            refine m_get hx hb hts hown hK hm 5 (by decide) (hts (.fieldLink "RegistryLogModel" 19 "RegistryLogModel" "first" "[I") (in_4 (List.mem_of_getElem? (i := 214) rfl) rfl)) rfl (v := .ref (ad 5)) rfl d_M_goThrough_213 ?_
            refine lv_iload_n hx hb d_M_goThrough_216 rfl (lv_at hl 3 rfl) ?_
            refine m_ld hx hb hK hm 5 rfl i rfl (show i < 120 from by omega) d_M_goThrough_217 ?_
            refine W.eq (g2 := F0 m 218 ls [.int (r2 rr), .int (nI ((nmT (N, O, V) kk).2.2)), .ref x, .ref (ad 26)]) (by rw [show Az 5 i = r2 rr from by rw [hbA 5 (by omega)]; exact q5]) ?_
            simp only [if_neg hkn0, if_pos hk1] at hst
            refine aP (rV (As := [.int (nI (nmT (N, O, V) kk).2.2), .int (r2 rr)]) (rest := [.ref (ad 26)]) C0 (c_M_versionAt l g _ x ad _ _ _ hm.1 V.length t3 (by omega) (nI (nmT (N, O, V) kk).2.2) (r2 rr)) (m_zK hZ hm) k_M_goThrough_218 rfl rfl ⟨Nat.le_of_ble_eq_true rfl, Nat.le_of_ble_eq_true rfl⟩ (m_recv hK hm) rfl hl.1 rfl (Nat.le_of_ble_eq_true rfl) d_M_goThrough_218 ⟨Nat.zero_le _, Nat.zero_le _⟩) ?_
            intro v hv; subst hv
            rw [show vaL Az (nI (nmT (N, O, V) kk).2.2) (r2 rr) V.length 0 (-1) = oI (vtT (N, O, V) (nmT (N, O, V) kk).2.2 (r2 rr)) from vaL_T hT ho (by omega) (by omega)]
            rcases hvv : vtT (N, O, V) (nmT (N, O, V) kk).2.2 (r2 rr) with _ | vk
            · rw [hvv] at hst; cases hst
            rw [hvv] at hst
            simp only [Option.some.injEq] at hst
            subst hst
            have hvk : vk < V.length := vtT_lt hvv
            refine W.eq (g2 := F0 m 221 ls [.int (nI vk), .ref (ad 26)]) rfl ?_
            refine lv_aload_n hx hb d_M_goThrough_221 rfl (lv_at hl 1 rfl) ?_
            refine m_get hx hb hts hown hK hm 6 (by decide) (hts (.fieldLink "RegistryLogModel" 22 "RegistryLogModel" "flag" "[I") (in_4 (List.mem_of_getElem? (i := 215) rfl) rfl)) rfl (v := .ref (ad 6)) rfl d_M_goThrough_222 ?_
            refine lv_iload_n hx hb d_M_goThrough_225 rfl (lv_at hl 3 rfl) ?_
            refine m_ld hx hb hK hm 6 rfl i rfl (show i < 120 from by omega) d_M_goThrough_226 ?_
            refine W.eq (g2 := F0 m 227 ls [.int (r3 rr), .int (nI vk), .ref (ad 26)]) (by rw [show Az 6 i = r3 rr from by rw [hbA 6 (by omega)]; exact (q6 hkn0)]) ?_
            refine m_st hx hb hK hm 26 rfl vk rfl (show vk < 120 from by omega) d_M_goThrough_227 (fun H locs hm => ?_)
            have hm : mS g s.heap H x ad Fz (updA Az 26 (upd (Az 26) vk (r3 rr))) B locs := hm
            refine lv_goto (tgt := 340) hx hb d_M_goThrough_228 (by decide) ?_
            have hT2 : repT Fz (updA Az 26 (upd (Az 26) vk (r3 rr))) (N, O, V.set vk ((veT (N, O, V) vk).1, (veT (N, O, V) vk).2.1, (veT (N, O, V) vk).2.2.1, r3 rr)) := repT_yk hT
            have hbF2 : bt Fz F := by repeat (first | exact hbF | refine bt_u ?_ (by omega))
            have hbA2 : bt (updA Az 26 (upd (Az 26) vk (r3 rr))) A := by (try unfold meA9); (try unfold meA10); repeat (first | exact hbA | refine bt_a ?_ (by omega))
            clear hT hbF hbA
            generalize (updA Az 26 (upd (Az 26) vk (r3 rr))) = A9 at *
            have hT := hT2
            have hbF := hbF2
            have hbA := hbA2
            clear hT2 hbF2 hbA2
            refine n_inc (a := i) (lv' := [(2, .int (nI (i + 1))), (3, .int (nI kk)), (0, .ref x), (1, .int (nI w0))]) hx hb d_M_goThrough_340 hl (k := 3) rfl (by decide) rfl (fun ls hl => ?_)
            refine lv_goto (tgt := 17) hx hb d_M_goThrough_343 (by decide) ?_
            exact ih (i + 1) _ _ _ H locs (by omega) (by omega) hbF hbA hT ho2 hth hm ls (lv_sub hl [2, 3, 0] rfl)
        · skip
          refine lv_iload_n hx hb d_M_goThrough_55 rfl (lv_at hl 0 rfl) ?_
          refine lv_iconst (v := (-1)) hx hb d_M_goThrough_56 (by decide) ?_
          refine lv_icmp_ne (tgt := 118) hx hb d_M_goThrough_57 (by decide) (fun c57 => ?_) (fun c57 => ?_)
          · skip
            have hk0 : rk rr = 0 := c52
            refine lv_aload_n hx hb d_M_goThrough_118 rfl (lv_at hl 1 rfl) ?_
            refine m_get hx hb hts hown hK hm 23 (by decide) (hts (.fieldLink "RegistryLogModel" 68 "RegistryLogModel" "versionOf" "[I") (in_4 (List.mem_of_getElem? (i := 232) rfl) rfl)) rfl (v := .ref (ad 23)) rfl d_M_goThrough_119 ?_
            refine lv_aload_n hx hb d_M_goThrough_122 rfl (lv_at hl 1 rfl) ?_
            refine m_get hx hb hts hown hK hm 29 (by decide) (hts (.fieldLink "RegistryLogModel" 136 "RegistryLogModel" "versions" "I") (in_4 (List.mem_of_getElem? (i := 238) rfl) rfl)) rfl (v := .int (nI V.length)) (congrArg (fun z => some (Value.int z)) t3) d_M_goThrough_123 ?_
            refine lv_aload_n hx hb d_M_goThrough_126 rfl (lv_at hl 1 rfl) ?_
            refine m_get hx hb hts hown hK hm 20 (by decide) (hts (.fieldLink "RegistryLogModel" 59 "RegistryLogModel" "nameOf" "[I") (in_4 (List.mem_of_getElem? (i := 229) rfl) rfl)) rfl (v := .ref (ad 20)) rfl d_M_goThrough_127 ?_
            refine lv_iload_n hx hb d_M_goThrough_130 rfl (lv_at hl 0 rfl) ?_
            refine m_ld hx hb hK hm 20 rfl kk rfl (show kk < 240 from by omega) d_M_goThrough_131 ?_
            refine W.eq (g2 := F0 m 132 ls [.int (nI ((nmT (N, O, V) kk).2.2)), .int (nI V.length), .ref (ad 23)]) (by rw [n4]) ?_
            refine m_st hx hb hK hm 23 rfl V.length rfl (show V.length < 120 from by omega) d_M_goThrough_132 (fun H locs hm => ?_)
            have hm : mS g s.heap H x ad Fz (updA Az 23 (upd (Az 23) V.length (nI ((nmT (N, O, V) kk).2.2)))) B locs := hm
            refine lv_aload_n hx hb d_M_goThrough_133 rfl (lv_at hl 1 rfl) ?_
            refine m_get hx hb hts hown hK hm 24 (by decide) (hts (.fieldLink "RegistryLogModel" 71 "RegistryLogModel" "versionNumber" "[I") (in_4 (List.mem_of_getElem? (i := 233) rfl) rfl)) rfl (v := .ref (ad 24)) rfl d_M_goThrough_134 ?_
            refine lv_aload_n hx hb d_M_goThrough_137 rfl (lv_at hl 1 rfl) ?_
            refine m_get hx hb hts hown hK hm 29 (by decide) (hts (.fieldLink "RegistryLogModel" 136 "RegistryLogModel" "versions" "I") (in_4 (List.mem_of_getElem? (i := 238) rfl) rfl)) rfl (v := .int (nI V.length)) (congrArg (fun z => some (Value.int z)) t3) d_M_goThrough_138 ?_
            refine lv_aload_n hx hb d_M_goThrough_141 rfl (lv_at hl 1 rfl) ?_
            refine m_get hx hb hts hown hK hm 5 (by decide) (hts (.fieldLink "RegistryLogModel" 19 "RegistryLogModel" "first" "[I") (in_4 (List.mem_of_getElem? (i := 214) rfl) rfl)) rfl (v := .ref (ad 5)) rfl d_M_goThrough_142 ?_
            refine lv_iload_n hx hb d_M_goThrough_145 rfl (lv_at hl 3 rfl) ?_
            refine m_ld hx hb hK hm 5 rfl i rfl (show i < 120 from by omega) d_M_goThrough_146 ?_
            refine W.eq (g2 := F0 m 147 ls [.int (Az 5 i), .int (nI V.length), .ref (ad 24)]) rfl ?_
            refine W.eq (g2 := F0 m 147 ls [.int (r2 rr), .int (nI V.length), .ref (ad 24)]) (by rw [show Az 5 i = r2 rr from by rw [hbA 5 (by omega)]; exact q5]) ?_
            refine m_st hx hb hK hm 24 rfl V.length rfl (show V.length < 120 from by omega) d_M_goThrough_147 (fun H locs hm => ?_)
            have hm : mS g s.heap H x ad Fz (updA (updA Az 23 (upd (Az 23) V.length (nI ((nmT (N, O, V) kk).2.2)))) 24 (upd (Az 24) V.length (r2 rr))) B locs := hm
            refine lv_aload_n hx hb d_M_goThrough_148 rfl (lv_at hl 1 rfl) ?_
            refine m_get hx hb hts hown hK hm 25 (by decide) (hts (.fieldLink "RegistryLogModel" 74 "RegistryLogModel" "versionSum" "[I") (in_4 (List.mem_of_getElem? (i := 234) rfl) rfl)) rfl (v := .ref (ad 25)) rfl d_M_goThrough_149 ?_
            refine lv_aload_n hx hb d_M_goThrough_152 rfl (lv_at hl 1 rfl) ?_
            refine m_get hx hb hts hown hK hm 29 (by decide) (hts (.fieldLink "RegistryLogModel" 136 "RegistryLogModel" "versions" "I") (in_4 (List.mem_of_getElem? (i := 238) rfl) rfl)) rfl (v := .int (nI V.length)) (congrArg (fun z => some (Value.int z)) t3) d_M_goThrough_153 ?_
            refine lv_aload_n hx hb d_M_goThrough_156 rfl (lv_at hl 1 rfl) ?_
            refine m_get hx hb hts hown hK hm 11 (by decide) (hts (.fieldLink "RegistryLogModel" 37 "RegistryLogModel" "sums" "[I") (in_4 (List.mem_of_getElem? (i := 220) rfl) rfl)) rfl (v := .ref (ad 11)) rfl d_M_goThrough_157 ?_
            refine lv_bipush (v := nI 120) hx hb d_M_goThrough_160 (by decide) ?_
            refine lv_iload_n hx hb d_M_goThrough_162 rfl (lv_at hl 2 rfl) ?_
            refine n_imul hx hb d_M_goThrough_163 ?_
            refine lv_iload_n hx hb d_M_goThrough_164 rfl (lv_at hl 3 rfl) ?_
            refine n_iadd hx hb d_M_goThrough_165 ?_
            refine m_ld hx hb hK hm 11 rfl ((120 * w0) + i) rfl (show (120 * w0) + i < 600 from by omega) d_M_goThrough_166 ?_
            refine W.eq (g2 := F0 m 167 ls [.int (Az 11 ((120 * w0) + i)), .int (nI V.length), .ref (ad 25)]) rfl ?_
            refine W.eq (g2 := F0 m 167 ls [.int (r3 rr), .int (nI V.length), .ref (ad 25)]) (by rw [show Az 11 (120 * w0 + i) = r3 rr from by rw [hbA 11 (by omega)]; exact q11]) ?_
            refine m_st hx hb hK hm 25 rfl V.length rfl (show V.length < 120 from by omega) d_M_goThrough_167 (fun H locs hm => ?_)
            have hm : mS g s.heap H x ad Fz (updA (updA (updA Az 23 (upd (Az 23) V.length (nI ((nmT (N, O, V) kk).2.2)))) 24 (upd (Az 24) V.length (r2 rr))) 25 (upd (Az 25) V.length (r3 rr))) B locs := hm
            refine lv_aload_n hx hb d_M_goThrough_168 rfl (lv_at hl 1 rfl) ?_
            refine m_get hx hb hts hown hK hm 26 (by decide) (hts (.fieldLink "RegistryLogModel" 77 "RegistryLogModel" "versionYanked" "[I") (in_4 (List.mem_of_getElem? (i := 235) rfl) rfl)) rfl (v := .ref (ad 26)) rfl d_M_goThrough_169 ?_
            refine lv_aload_n hx hb d_M_goThrough_172 rfl (lv_at hl 1 rfl) ?_
            refine m_get hx hb hts hown hK hm 29 (by decide) (hts (.fieldLink "RegistryLogModel" 136 "RegistryLogModel" "versions" "I") (in_4 (List.mem_of_getElem? (i := 238) rfl) rfl)) rfl (v := .int (nI V.length)) (congrArg (fun z => some (Value.int z)) t3) d_M_goThrough_173 ?_
            refine lv_iconst (v := nI 0) hx hb d_M_goThrough_176 (by decide) ?_
            refine m_st hx hb hK hm 26 rfl V.length rfl (show V.length < 120 from by omega) d_M_goThrough_177 (fun H locs hm => ?_)
            have hm : mS g s.heap H x ad Fz (updA (updA (updA (updA Az 23 (upd (Az 23) V.length (nI ((nmT (N, O, V) kk).2.2)))) 24 (upd (Az 24) V.length (r2 rr))) 25 (upd (Az 25) V.length (r3 rr))) 26 (upd (Az 26) V.length (nI 0))) B locs := hm
            refine lv_aload_n hx hb d_M_goThrough_178 rfl (lv_at hl 1 rfl) ?_
            refine lv_dup hx hb d_M_goThrough_179 rfl ?_
            refine m_get hx hb hts hown hK hm 29 (by decide) (hts (.fieldLink "RegistryLogModel" 136 "RegistryLogModel" "versions" "I") (in_4 (List.mem_of_getElem? (i := 238) rfl) rfl)) rfl (v := .int (nI V.length)) (congrArg (fun z => some (Value.int z)) t3) d_M_goThrough_180 ?_
            refine lv_iconst (v := nI 1) hx hb d_M_goThrough_183 (by decide) ?_
            refine n_iadd hx hb d_M_goThrough_184 ?_
            refine m_put hx hb hts hown hK hm 29 (by decide) (hts (.fieldLink "RegistryLogModel" 136 "RegistryLogModel" "versions" "I") (in_4 (List.mem_of_getElem? (i := 238) rfl) rfl)) rfl rfl (v := nI (V.length + 1)) rfl rfl rfl rfl d_M_goThrough_185 (fun H locs hm => ?_)
            simp only [if_pos hk0, Option.some.injEq] at hst
            subst hst
            refine lv_goto (tgt := 340) hx hb d_M_goThrough_188 (by decide) ?_
            have hT2 : repT (upd Fz 29 (nI (V.length + 1))) (updA (updA (updA (updA Az 23 (upd (Az 23) V.length (nI ((nmT (N, O, V) kk).2.2)))) 24 (upd (Az 24) V.length (r2 rr))) 25 (upd (Az 25) V.length (r3 rr))) 26 (upd (Az 26) V.length (nI 0))) (N, O, V ++ [((nmT (N, O, V) kk).2.2, r2 rr, r3 rr, 0)]) := repT_ve hT
            have hbF2 : bt (upd Fz 29 (nI (V.length + 1))) F := by repeat (first | exact hbF | refine bt_u ?_ (by omega))
            have hbA2 : bt (updA (updA (updA (updA Az 23 (upd (Az 23) V.length (nI ((nmT (N, O, V) kk).2.2)))) 24 (upd (Az 24) V.length (r2 rr))) 25 (upd (Az 25) V.length (r3 rr))) 26 (upd (Az 26) V.length (nI 0))) A := by (try unfold meA9); (try unfold meA10); repeat (first | exact hbA | refine bt_a ?_ (by omega))
            clear hT hbF hbA
            generalize (updA (updA (updA (updA Az 23 (upd (Az 23) V.length (nI ((nmT (N, O, V) kk).2.2)))) 24 (upd (Az 24) V.length (r2 rr))) 25 (upd (Az 25) V.length (r3 rr))) 26 (upd (Az 26) V.length (nI 0))) = A9 at *
            generalize (upd Fz 29 (nI (V.length + 1))) = F9 at *
            have hT := hT2
            have hbF := hbF2
            have hbA := hbA2
            clear hT2 hbF2 hbA2
            refine n_inc (a := i) (lv' := [(2, .int (nI (i + 1))), (3, .int (nI kk)), (0, .ref x), (1, .int (nI w0))]) hx hb d_M_goThrough_340 hl (k := 3) rfl (by decide) rfl (fun ls hl => ?_)
            refine lv_goto (tgt := 17) hx hb d_M_goThrough_343 (by decide) ?_
            exact ih (i + 1) _ _ _ H locs (by omega) (by omega) hbF hbA hT ho2 hth hm ls (lv_sub hl [2, 3, 0] rfl)
          · skip
            exact absurd c57 (nI_m1 (by omega))
set_option maxHeartbeats 4000000 in
set_option maxRecDepth 100000 in
/-- goThrough(who) -/
theorem c_M_goThrough (l : Launch) (g : gG) (H : Heap) (x : Nat) (ad : Nat → Nat) (F : Nat → Int32) (A : Nat → Nat → Int32) (B : Nat → Nat → Int64) (hm0 : mW g H x ad F A B) (w0 : Nat) (hw : w0 < 5) (rows : List Rw) (hr0 : refR A w0 rows) (res : Tb) (hres : foT rows = some res) : Met l y_M_goThrough (wC y_M_goThrough b_M_goThrough 5 none) (rmk 1 0 0 27) (pC g H [.ref x, .int (nI w0)]) (qM g H x ad (fun v F1 A1 B1 => v = none ∧ bt F1 F ∧ bt A1 A ∧ B1 = B ∧ repT F1 A1 res)) 0 0 (mN x ad) := by
  refine mB (by decide) (Nat.le_of_ble_eq_true rfl) ?_
  intro p e s m below meth c ls C0 hH hZ hnm hl
  have C0 : cF g p s m _ meth c b_M_goThrough 5 "RegistryLogModel" none := C0
  obtain ⟨hx, hb, hml, hown, hts, hr, hlk, hK⟩ := id C0
  subst hH
  have hl : lv_has ls 5 [(0, .ref x), (1, .int (nI w0))] := hl
  have hm := mS.rf hm0
  refine lv_aload_n hx hb d_M_goThrough_0 rfl (lv_at hl 0 rfl) ?_
  refine lv_iconst (v := nI 0) hx hb d_M_goThrough_1 (by decide) ?_
  refine m_put hx hb hts hown hK hm 27 (by decide) (hts (.fieldLink "RegistryLogModel" 133 "RegistryLogModel" "names" "I") (in_4 (List.mem_of_getElem? (i := 236) rfl) rfl)) rfl rfl (v := nI 0) rfl rfl rfl rfl d_M_goThrough_2 (fun H locs hm => ?_)
  refine lv_aload_n hx hb d_M_goThrough_5 rfl (lv_at hl 0 rfl) ?_
  refine lv_iconst (v := nI 0) hx hb d_M_goThrough_6 (by decide) ?_
  refine m_put hx hb hts hown hK hm 28 (by decide) (hts (.fieldLink "RegistryLogModel" 139 "RegistryLogModel" "owners" "I") (in_4 (List.mem_of_getElem? (i := 237) rfl) rfl)) rfl rfl (v := nI 0) rfl rfl rfl rfl d_M_goThrough_7 (fun H locs hm => ?_)
  refine lv_aload_n hx hb d_M_goThrough_10 rfl (lv_at hl 0 rfl) ?_
  refine lv_iconst (v := nI 0) hx hb d_M_goThrough_11 (by decide) ?_
  refine m_put hx hb hts hown hK hm 29 (by decide) (hts (.fieldLink "RegistryLogModel" 136 "RegistryLogModel" "versions" "I") (in_4 (List.mem_of_getElem? (i := 238) rfl) rfl)) rfl rfl (v := nI 0) rfl rfl rfl rfl d_M_goThrough_12 (fun H locs hm => ?_)
  refine lv_iconst (v := nI 0) hx hb d_M_goThrough_15 (by decide) ?_
  refine lv_istore_n (lv' := [(2, .int (nI 0)), (0, .ref x), (1, .int (nI w0))]) hx hb d_M_goThrough_16 rfl hl (by decide) rfl (fun ls hl => ?_)
  exact lp_M_goThrough C0 hZ (F := F) (A := A) w0 hw rows hr0 res (rows.length + 1) 0 ([], [], []) (upd (upd (upd F 27 (nI 0)) 28 (nI 0)) 29 (nI 0)) A H locs (Nat.zero_le _) (by omega) (by repeat (first | exact bt_rf _ | refine bt_u ?_ (by omega))) (bt_rf _) ⟨rfl, rfl, rfl, fun k hk => absurd hk (by simp), fun k hk => absurd hk (by simp), fun k hk => absurd hk (by simp)⟩ ⟨by simp, by simp, by simp, fun k hk => absurd hk (by simp), fun k hk => absurd hk (by simp)⟩ hres hm ls (lv_sub hl [1, 2, 0] rfl)
