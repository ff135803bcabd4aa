theorem k_M_isGrowth_43 : kV "RegistryLogModel" 241 "RegistryLogModel" y_M_goDown b_M_goDown 6 none 3 := ⟨(in_6 (List.mem_of_getElem? (i := 2) rfl) rfl), (in_6 (List.mem_of_getElem? (i := 4) rfl) rfl), (in_0 (List.mem_of_getElem? (i := 23) rfl) rfl), (in_1 (List.mem_of_getElem? (i := 22) rfl) rfl), (in_6 (List.mem_of_getElem? (i := 5) rfl) rfl), ⟨by decide, by decide, by decide +kernel⟩⟩
theorem k_M_isGrowth_141 : kS "RegistryLogModel" 211 y_M_join b_M_join 4 (some .long) 2 := ⟨(in_5 (List.mem_of_getElem? (i := 235) rfl) rfl), (in_5 (List.mem_of_getElem? (i := 236) rfl) rfl), (in_1 (List.mem_of_getElem? (i := 22) rfl) rfl), (in_5 (List.mem_of_getElem? (i := 237) rfl) rfl), ⟨by decide, by decide, by decide +kernel⟩⟩
theorem k_M_isGrowth_156 : kS "RegistryLogModel" 211 y_M_join b_M_join 4 (some .long) 2 := ⟨(in_5 (List.mem_of_getElem? (i := 235) rfl) rfl), (in_5 (List.mem_of_getElem? (i := 236) rfl) rfl), (in_1 (List.mem_of_getElem? (i := 22) rfl) rfl), (in_5 (List.mem_of_getElem? (i := 237) rfl) rfl), ⟨by decide, by decide, by decide +kernel⟩⟩
theorem k_M_isGrowth_180 : kS "RegistryLogModel" 211 y_M_join b_M_join 4 (some .long) 2 := ⟨(in_5 (List.mem_of_getElem? (i := 235) rfl) rfl), (in_5 (List.mem_of_getElem? (i := 236) rfl) rfl), (in_1 (List.mem_of_getElem? (i := 22) rfl) rfl), (in_5 (List.mem_of_getElem? (i := 237) rfl) rfl), ⟨by decide, by decide, by decide +kernel⟩⟩
def igL (hd : Nat → Int64) : List St3 → Nat → Int64 → Int64 → Int64 × Int64
  | [], _, a, b => (a, b)
  | e :: l, k, a, b => igL hd l (k + 1) (if e.2.2 then a else joinS (hd k) a) (if e.2.2 then joinS b (hd k) else joinS (hd k) b)
/-- isGrowth, by the hand hd of hn numbers -/
def igS (hd : Nat → Int64) (hn : Nat) (i n : Int32) (h1 h2 : Int64) : Bool :=
  if (1 ≤ n ∧ n ≤ 120) ∧ 1 ≤ i ∧ i ≤ n then
    (let R := gdR true 7 0 n.toNatClampNeg i.toNatClampNeg true
     if R.2.2.2.2 then decide (R.1.length + 0 = hn) && (let r := igL hd R.1.reverse 0 h1 h1; decide (r.1 = h1) && decide (r.2 = h2))
     else decide (R.1.length + 1 = hn) && (let r := igL hd R.1.reverse 1 (hd 0) (hd 0); decide (r.1 = h1) && decide (r.2 = h2)))
  else false
set_option maxHeartbeats 4000000 in
set_option maxRecDepth 100000 in
theorem lp_M_isGrowth {p : Program} {l : Launch} {e : Env} {s : State} {m : MethodId} {args : Array Value} {below : List Frame} {meth : Method} {c : Code} {g : gG} (C0 : cF g p s m args meth c b_M_isGrowth 15 "RegistryLogModel" (some .boolean)) (hZ : zK g s s.heap) {x : Nat} {ad : Nat → Nat} {F : Nat → Int32} {A : Nat → Nat → Int32} {B : Nat → Nat → Int64} {H : Heap} {locs : List Loc} (hm : mS g s.heap H x ad F A B locs) (FF : Nat → Int32) (AA : Nat → Nat → Int32) (hFF : lo F FF) (hAA : lo A AA) (dg hd0 : Int64) (res : Int64 × Int64) (LL : List St3) (o8 : Nat) (ho8 : o8 < 2) (h7 : LL.length ≤ 7) (hst : F 41 = nI LL.length) (hgd : gdOk LL (A 38) (A 39) (A 40)) :
    ∀ (n i : Nat) (a b : Int64), i ≤ LL.length → LL.length + 1 ≤ i + n → igL (B 14) (LL.reverse.drop i) (o8 + i) a b = res → ∀ (ls : Array Slot), lv_has ls 15 [(0, .ref x), (3, .long dg), (5, .long hd0), (7, .int (nI (LL.length + o8))), (8, .int (nI o8)), (9, .long a), (11, .long b), (13, .int (nI (o8 + i)))] → W p l e (rmk 2 0 0 48) s m args below meth c H locs 0 0 (MQ below (qM g s.heap x ad (fun v F1 A1 B1 => v = some (.int (bI (decide (res.1 = dg) && decide (res.2 = hd0)))) ∧ lo F1 FF ∧ lo A1 AA ∧ B1 = B)) args s 0 0 (mN x ad)) (F0 m 101 ls []) := by
  obtain ⟨hx, hb, hml, hown, hts, hr, hlk, hK⟩ := id C0
  intro n
  induction n with
  | zero => intro i a b h1 h2; exact absurd h2 (by omega)
  | succ n ih =>
    intro i a b hi hin hres ls hl
    refine lv_iload hx hb d_M_isGrowth_101 (lv_at hl 7 rfl) ?_
    refine lv_iload hx hb d_M_isGrowth_103 (lv_at hl 3 rfl) ?_
    refine n_ge (tgt := 191) (a := o8 + i) (b := LL.length + o8) hx hb d_M_isGrowth_105 (by decide) (by omega) (by omega) (fun c105 => ?_) (fun c105 => ?_)
    · skip
      refine lv_lload hx hb d_M_isGrowth_191 (lv_at hl 5 rfl) ?_
      refine lv_lload_n hx hb d_M_isGrowth_193 rfl (lv_at hl 1 rfl) ?_
      refine W.lcmp hx hb d_M_isGrowth_194 ?_
      refine lv_if_ne (tgt := 210) hx hb d_M_isGrowth_195 (by decide) (fun c195 => ?_) (fun c195 => ?_)
      · skip
        refine lv_iconst (v := nI 0) hx hb d_M_isGrowth_210 (by decide) ?_
        rw [show LL.reverse.drop i = [] from List.drop_eq_nil_of_le (by rw [List.length_reverse]; omega), igL] at hres
        subst hres
        exact W.zret hx hb hr rfl (fun t9 ht hW => ⟨_, _, _, _, rfl, by rw [ht]; exact ⟨hm.1, hm.2.1, hm.2.2.1, fun _ h => by cases h⟩, ⟨by rw [decide_eq_false (fun z => c195 (lg_z.mpr z)), Bool.false_and]; rfl, hFF, hAA, rfl⟩⟩) hm.2.2.2 d_M_isGrowth_211 hlk
      · skip
        refine lv_lload hx hb d_M_isGrowth_198 (lv_at hl 6 rfl) ?_
        refine lv_lload hx hb d_M_isGrowth_200 (lv_at hl 2 rfl) ?_
        refine W.lcmp hx hb d_M_isGrowth_202 ?_
        refine lv_if_ne (tgt := 210) hx hb d_M_isGrowth_203 (by decide) (fun c203 => ?_) (fun c203 => ?_)
        · skip
          refine lv_iconst (v := nI 0) hx hb d_M_isGrowth_210 (by decide) ?_
          rw [show LL.reverse.drop i = [] from List.drop_eq_nil_of_le (by rw [List.length_reverse]; omega), igL] at hres
          subst hres
          exact W.zret hx hb hr rfl (fun t9 ht hW => ⟨_, _, _, _, rfl, by rw [ht]; exact ⟨hm.1, hm.2.1, hm.2.2.1, fun _ h => by cases h⟩, ⟨by rw [decide_eq_false (p := b = hd0) (fun z => c203 (lg_z.mpr z)), Bool.and_false]; rfl, hFF, hAA, rfl⟩⟩) hm.2.2.2 d_M_isGrowth_211 hlk
        · skip
          refine lv_iconst (v := nI 1) hx hb d_M_isGrowth_206 (by decide) ?_
          refine lv_goto (tgt := 211) hx hb d_M_isGrowth_207 (by decide) ?_
          rw [show LL.reverse.drop i = [] from List.drop_eq_nil_of_le (by rw [List.length_reverse]; omega), igL] at hres
          subst hres
          exact W.zret hx hb hr rfl (fun t9 ht hW => ⟨_, _, _, _, rfl, by rw [ht]; exact ⟨hm.1, hm.2.1, hm.2.2.1, fun _ h => by cases h⟩, ⟨by rw [decide_eq_true (lg_z.mp c195), decide_eq_true (lg_z.mp c203)]; rfl, hFF, hAA, rfl⟩⟩) hm.2.2.2 d_M_isGrowth_211 hlk
    · skip
      refine lv_aload_n hx hb d_M_isGrowth_108 rfl (lv_at hl 0 rfl) ?_
      refine m_get hx hb hts hown hK hm 40 (by decide) (hts (.fieldLink "RegistryLogModel" 104 "RegistryLogModel" "isSecond" "[Z") (in_5 (List.mem_of_getElem? (i := 9) rfl) rfl)) rfl (v := .ref (ad 40)) rfl d_M_isGrowth_109 ?_
      refine lv_aload_n hx hb d_M_isGrowth_112 rfl (lv_at hl 0 rfl) ?_
      refine m_get hx hb hts hown hK hm 41 (by decide) (hts (.fieldLink "RegistryLogModel" 218 "RegistryLogModel" "steps" "I") (in_5 (List.mem_of_getElem? (i := 10) rfl) rfl)) rfl (v := .int (nI LL.length)) (congrArg (fun z => some (Value.int z)) hst) d_M_isGrowth_113 ?_
      refine lv_iconst (v := nI 1) hx hb d_M_isGrowth_116 (by decide) ?_
      refine n_isub hx hb (by omega) d_M_isGrowth_117 ?_
      refine lv_iload hx hb d_M_isGrowth_118 (lv_at hl 7 rfl) ?_
      refine lv_iload hx hb d_M_isGrowth_120 (lv_at hl 4 rfl) ?_
      refine n_isub hx hb (by omega) d_M_isGrowth_122 ?_
      refine n_isub hx hb (by omega) d_M_isGrowth_123 ?_
      refine m_ldz hx hb hK hm 40 rfl ((LL.length - 1) - ((o8 + i) - o8)) rfl (show (LL.length - 1) - ((o8 + i) - o8) < 16 from by omega) d_M_isGrowth_124 ?_
      refine W.eq (g2 := F0 m 125 ls [.int (bI ((LL.getD (LL.length - 1 - i) (0, 0, false)).2.2))]) (by rw [show A 40 (LL.length - 1 - (o8 + i - o8)) = bI (LL.getD (LL.length - 1 - i) (0, 0, false)).2.2 from by rw [show o8 + i - o8 = i by omega]; exact (hgd (LL.length - 1 - i) (by omega)).2.2]) ?_
      refine lv_istore (lv' := [(14, .int (bI ((LL.getD (LL.length - 1 - i) (0, 0, false)).2.2))), (0, .ref x), (3, .long dg), (5, .long hd0), (7, .int (nI (LL.length + o8))), (8, .int (nI o8)), (9, .long a), (11, .long b), (13, .int (nI (o8 + i)))]) hx hb d_M_isGrowth_125 hl (by decide) rfl (fun ls hl => ?_)
      refine lv_iload hx hb d_M_isGrowth_127 (lv_at hl 0 rfl) ?_
      refine z_eq (tgt := 147) (v := (LL.getD (LL.length - 1 - i) (0, 0, false)).2.2) hx hb d_M_isGrowth_129 (by decide) (fun c129 => ?_) (fun c129 => ?_)
      · skip
        refine lv_aload_n hx hb d_M_isGrowth_147 rfl (lv_at hl 1 rfl) ?_
        refine m_get hx hb hts hown hK hm 14 (by decide) (hts (.fieldLink "RegistryLogModel" 47 "RegistryLogModel" "hand" "[J") (in_4 (List.mem_of_getElem? (i := 223) rfl) rfl)) rfl (v := .ref (ad 14)) rfl d_M_isGrowth_148 ?_
        refine lv_iload hx hb d_M_isGrowth_151 (lv_at hl 8 rfl) ?_
        refine m_ldl hx hb hK hm 14 rfl (o8 + i) rfl (show o8 + i < 16 from by omega) d_M_isGrowth_153 ?_
        refine lv_lload hx hb d_M_isGrowth_154 (lv_at hl 7 rfl) ?_
        refine aP (rS (As := [.long (B 14 (o8 + i)), .long b]) (rest := []) C0 (c_M_join l g _ (B 14 (o8 + i)) b) (m_zK hZ hm) k_M_isGrowth_156 rfl rfl ⟨Nat.le_of_ble_eq_true rfl, Nat.le_of_ble_eq_true rfl⟩ rfl hl.1 rfl (Nat.le_of_ble_eq_true rfl) d_M_isGrowth_156 ⟨Nat.zero_le _, Nat.zero_le _⟩) ?_
        intro v hv; subst hv
        refine W.eq (g2 := F0 m 159 ls [.long (joinS (B 14 (o8 + i)) b)]) rfl ?_
        refine lv_topl (fun x_1 ex_1 => ?_)
        refine lv_lstore (lv' := [(11, .long x_1), (14, .int (bI ((LL.getD (LL.length - 1 - i) (0, 0, false)).2.2))), (0, .ref x), (3, .long dg), (5, .long hd0), (7, .int (nI (LL.length + o8))), (8, .int (nI o8)), (9, .long a), (13, .int (nI (o8 + i)))]) hx hb d_M_isGrowth_159 hl (by decide) rfl (fun ls hl => ?_)
        refine lv_iload hx hb d_M_isGrowth_161 (lv_at hl 1 rfl) ?_
        refine W.eq (g2 := F0 m 163 ls [.int (bI false)]) (by rw [c129]) ?_
        refine z_eq (tgt := 171) (v := false) hx hb d_M_isGrowth_163 (by decide) (fun c163 => ?_) (fun c163 => ?_)
        · skip
          refine lv_aload_n hx hb d_M_isGrowth_171 rfl (lv_at hl 2 rfl) ?_
          refine m_get hx hb hts hown hK hm 14 (by decide) (hts (.fieldLink "RegistryLogModel" 47 "RegistryLogModel" "hand" "[J") (in_4 (List.mem_of_getElem? (i := 223) rfl) rfl)) rfl (v := .ref (ad 14)) rfl d_M_isGrowth_172 ?_
          refine lv_iload hx hb d_M_isGrowth_175 (lv_at hl 8 rfl) ?_
          refine m_ldl hx hb hK hm 14 rfl (o8 + i) rfl (show o8 + i < 16 from by omega) d_M_isGrowth_177 ?_
          refine lv_lload hx hb d_M_isGrowth_178 (lv_at hl 7 rfl) ?_
          refine aP (rS (As := [.long (B 14 (o8 + i)), .long a]) (rest := []) C0 (c_M_join l g _ (B 14 (o8 + i)) a) (m_zK hZ hm) k_M_isGrowth_180 rfl rfl ⟨Nat.le_of_ble_eq_true rfl, Nat.le_of_ble_eq_true rfl⟩ rfl hl.1 rfl (Nat.le_of_ble_eq_true rfl) d_M_isGrowth_180 ⟨Nat.zero_le _, Nat.zero_le _⟩) ?_
          intro v hv; subst hv
          refine W.eq (g2 := F0 m 183 ls [.long (joinS (B 14 (o8 + i)) a)]) rfl ?_
          refine lv_topl (fun x_2 ex_2 => ?_)
          refine lv_lstore (lv' := [(9, .long x_2), (11, .long x_1), (14, .int (bI ((LL.getD (LL.length - 1 - i) (0, 0, false)).2.2))), (0, .ref x), (3, .long dg), (5, .long hd0), (7, .int (nI (LL.length + o8))), (8, .int (nI o8)), (13, .int (nI (o8 + i)))]) hx hb d_M_isGrowth_183 hl (by decide) rfl (fun ls hl => ?_)
          refine n_inc (a := o8 + i) (lv' := [(13, .int (nI ((o8 + i) + 1))), (9, .long x_2), (11, .long x_1), (14, .int (bI ((LL.getD (LL.length - 1 - i) (0, 0, false)).2.2))), (0, .ref x), (3, .long dg), (5, .long hd0), (7, .int (nI (LL.length + o8))), (8, .int (nI o8))]) hx hb d_M_isGrowth_185 hl (k := 8) rfl (by decide) rfl (fun ls hl => ?_)
          subst ex_2
          subst ex_1
          refine lv_goto (tgt := 101) hx hb d_M_isGrowth_188 (by decide) ?_
          rw [rv_at (by omega), igL, c129, if_neg (by decide), if_neg (by decide)] at hres
          exact ih (i + 1) _ _ (by omega) (by omega) hres ls (lv_sub hl [4, 5, 6, 7, 8, 1, 2, 0] rfl)
        · skip
          first | exact absurd c163 (by decide) | exact absurd (by decide) c163
      · skip
        refine lv_lload hx hb d_M_isGrowth_132 (lv_at hl 7 rfl) ?_
        refine lv_aload_n hx hb d_M_isGrowth_134 rfl (lv_at hl 1 rfl) ?_
        refine m_get hx hb hts hown hK hm 14 (by decide) (hts (.fieldLink "RegistryLogModel" 47 "RegistryLogModel" "hand" "[J") (in_4 (List.mem_of_getElem? (i := 223) rfl) rfl)) rfl (v := .ref (ad 14)) rfl d_M_isGrowth_135 ?_
        refine lv_iload hx hb d_M_isGrowth_138 (lv_at hl 8 rfl) ?_
        refine m_ldl hx hb hK hm 14 rfl (o8 + i) rfl (show o8 + i < 16 from by omega) d_M_isGrowth_140 ?_
        refine aP (rS (As := [.long b, .long (B 14 (o8 + i))]) (rest := []) C0 (c_M_join l g _ b (B 14 (o8 + i))) (m_zK hZ hm) k_M_isGrowth_141 rfl rfl ⟨Nat.le_of_ble_eq_true rfl, Nat.le_of_ble_eq_true rfl⟩ rfl hl.1 rfl (Nat.le_of_ble_eq_true rfl) d_M_isGrowth_141 ⟨Nat.zero_le _, Nat.zero_le _⟩) ?_
        intro v hv; subst hv
        refine W.eq (g2 := F0 m 144 ls [.long (joinS b (B 14 (o8 + i)))]) rfl ?_
        refine lv_goto (tgt := 159) hx hb d_M_isGrowth_144 (by decide) ?_
        refine lv_topl (fun x_3 ex_3 => ?_)
        refine lv_lstore (lv' := [(11, .long x_3), (14, .int (bI ((LL.getD (LL.length - 1 - i) (0, 0, false)).2.2))), (0, .ref x), (3, .long dg), (5, .long hd0), (7, .int (nI (LL.length + o8))), (8, .int (nI o8)), (9, .long a), (13, .int (nI (o8 + i)))]) hx hb d_M_isGrowth_159 hl (by decide) rfl (fun ls hl => ?_)
        refine lv_iload hx hb d_M_isGrowth_161 (lv_at hl 1 rfl) ?_
        refine W.eq (g2 := F0 m 163 ls [.int (bI true)]) (by rw [c129]) ?_
        refine z_eq (tgt := 171) (v := true) hx hb d_M_isGrowth_163 (by decide) (fun c163 => ?_) (fun c163 => ?_)
        · skip
          first | exact absurd c163 (by decide) | exact absurd (by decide) c163
        · skip
          refine lv_lload hx hb d_M_isGrowth_166 (lv_at hl 7 rfl) ?_
          refine lv_goto (tgt := 183) hx hb d_M_isGrowth_168 (by decide) ?_
          refine lv_lstore (lv' := [(9, .long a), (11, .long x_3), (14, .int (bI ((LL.getD (LL.length - 1 - i) (0, 0, false)).2.2))), (0, .ref x), (3, .long dg), (5, .long hd0), (7, .int (nI (LL.length + o8))), (8, .int (nI o8)), (13, .int (nI (o8 + i)))]) hx hb d_M_isGrowth_183 hl (by decide) rfl (fun ls hl => ?_)
          refine n_inc (a := o8 + i) (lv' := [(13, .int (nI ((o8 + i) + 1))), (9, .long a), (11, .long x_3), (14, .int (bI ((LL.getD (LL.length - 1 - i) (0, 0, false)).2.2))), (0, .ref x), (3, .long dg), (5, .long hd0), (7, .int (nI (LL.length + o8))), (8, .int (nI o8))]) hx hb d_M_isGrowth_185 hl (k := 8) rfl (by decide) rfl (fun ls hl => ?_)
          subst ex_3
          refine lv_goto (tgt := 101) hx hb d_M_isGrowth_188 (by decide) ?_
          rw [rv_at (by omega), igL, c129, if_pos rfl, if_pos rfl] at hres
          exact ih (i + 1) _ _ (by omega) (by omega) hres ls (lv_sub hl [4, 5, 6, 7, 8, 1, 2, 0] rfl)
set_option maxHeartbeats 4000000 in
set_option maxRecDepth 100000 in
/-- isGrowth(m, n, head, head) -/
theorem c_M_isGrowth (l : Launch) (g : gG) (H : Heap) (x : Nat) (ad : Nat → Nat) (F : Nat → Int32) (A : Nat → Nat → Int32) (B : Nat → Nat → Int64) (hm0 : mW g H x ad F A B) (hn : Nat) (hh : F 16 = nI hn) (hn16 : hn ≤ 16) (i n : Int32) (dg hd0 : Int64) : Met l y_M_isGrowth (wC y_M_isGrowth b_M_isGrowth 15 (some .boolean)) (rmk 2 0 0 48) (pC g H [.ref x, .int i, .int n, .long dg, .long hd0]) (qM g H x ad (fun v F1 A1 B1 => v = some (.int (bI (igS (B 14) hn i n dg hd0))) ∧ lo F1 (upd (upd F 0 (nI 0)) 16 (nI 0)) ∧ lo A1 A ∧ B1 = B)) 0 0 (mN x ad) := by
  refine mB (by decide) (Nat.le_of_ble_eq_true rfl) ?_
  intro p e s m below meth c ls C0 hH hZ hnm hl
  have C0 : cF g p s m _ meth c b_M_isGrowth 15 "RegistryLogModel" (some .boolean) := C0
  obtain ⟨hx, hb, hml, hown, hts, hr, hlk, hK⟩ := id C0
  subst hH
  have hl : lv_has ls 15 [(0, .ref x), (1, .int i), (2, .int n), (3, .long dg), (5, .long hd0)] := hl
  have hm := mS.rf hm0
  refine lv_aload_n hx hb d_M_isGrowth_0 rfl (lv_at hl 0 rfl) ?_
  refine lv_iconst (v := nI 0) hx hb d_M_isGrowth_1 (by decide) ?_
  refine m_put hx hb hts hown hK hm 0 (by decide) (hts (.fieldLink "RegistryLogModel" 108 "RegistryLogModel" "code" "I") (in_4 (List.mem_of_getElem? (i := 209) rfl) rfl)) rfl rfl (v := nI 0) rfl rfl rfl rfl d_M_isGrowth_2 (fun H locs hm => ?_)
  refine lv_aload_n hx hb d_M_isGrowth_5 rfl (lv_at hl 0 rfl) ?_
  refine m_get hx hb hts hown hK hm 16 (by decide) (hts (.fieldLink "RegistryLogModel" 249 "RegistryLogModel" "handSize" "I") (in_4 (List.mem_of_getElem? (i := 225) rfl) rfl)) rfl (v := .int (nI hn)) (congrArg (fun z => some (Value.int z)) hh) d_M_isGrowth_6 ?_
  refine lv_istore (lv' := [(7, .int (nI hn)), (0, .ref x), (1, .int i), (2, .int n), (3, .long dg), (5, .long hd0)]) hx hb d_M_isGrowth_9 hl (by decide) rfl (fun ls hl => ?_)
  refine lv_aload_n hx hb d_M_isGrowth_11 rfl (lv_at hl 1 rfl) ?_
  refine lv_iconst (v := nI 0) hx hb d_M_isGrowth_12 (by decide) ?_
  refine m_put hx hb hts hown hK hm 16 (by decide) (hts (.fieldLink "RegistryLogModel" 249 "RegistryLogModel" "handSize" "I") (in_4 (List.mem_of_getElem? (i := 225) rfl) rfl)) rfl rfl (v := nI 0) rfl rfl rfl rfl d_M_isGrowth_13 (fun H locs hm => ?_)
  refine lv_iload_n hx hb d_M_isGrowth_16 rfl (lv_at hl 3 rfl) ?_
  refine lv_iconst (v := nI 1) hx hb d_M_isGrowth_17 (by decide) ?_
  refine lv_icmp_lt (tgt := 37) hx hb d_M_isGrowth_18 (by decide) (fun c18 => ?_) (fun c18 => ?_)
  · skip
    refine lv_iconst (v := nI 0) hx hb d_M_isGrowth_37 (by decide) ?_
    exact W.zret hx hb hr rfl (fun t9 ht hW => ⟨_, _, _, _, rfl, by rw [ht]; exact ⟨hm.1, hm.2.1, hm.2.2.1, fun _ h => by cases h⟩, ⟨by rw [igS, if_neg (fun z => absurd z.1.1 (Int32.not_le.mpr c18))]; rfl, lo_rf _, lo_rf _, rfl⟩⟩) hm.2.2.2 d_M_isGrowth_38 hlk
  · skip
    refine lv_iload_n hx hb d_M_isGrowth_21 rfl (lv_at hl 3 rfl) ?_
    refine lv_bipush (v := nI 120) hx hb d_M_isGrowth_22 (by decide) ?_
    refine lv_icmp_gt (tgt := 37) hx hb d_M_isGrowth_24 (by decide) (fun c24 => ?_) (fun c24 => ?_)
    · skip
      refine lv_iconst (v := nI 0) hx hb d_M_isGrowth_37 (by decide) ?_
      exact W.zret hx hb hr rfl (fun t9 ht hW => ⟨_, _, _, _, rfl, by rw [ht]; exact ⟨hm.1, hm.2.1, hm.2.2.1, fun _ h => by cases h⟩, ⟨by rw [igS, if_neg (fun z => absurd z.1.2 (Int32.not_le.mpr c24))]; rfl, lo_rf _, lo_rf _, rfl⟩⟩) hm.2.2.2 d_M_isGrowth_38 hlk
    · skip
      refine lv_iload_n hx hb d_M_isGrowth_27 rfl (lv_at hl 2 rfl) ?_
      refine lv_iconst (v := nI 1) hx hb d_M_isGrowth_28 (by decide) ?_
      refine lv_icmp_lt (tgt := 37) hx hb d_M_isGrowth_29 (by decide) (fun c29 => ?_) (fun c29 => ?_)
      · skip
        refine lv_iconst (v := nI 0) hx hb d_M_isGrowth_37 (by decide) ?_
        exact W.zret hx hb hr rfl (fun t9 ht hW => ⟨_, _, _, _, rfl, by rw [ht]; exact ⟨hm.1, hm.2.1, hm.2.2.1, fun _ h => by cases h⟩, ⟨by rw [igS, if_neg (fun z => absurd z.2.1 (Int32.not_le.mpr c29))]; rfl, lo_rf _, lo_rf _, rfl⟩⟩) hm.2.2.2 d_M_isGrowth_38 hlk
      · skip
        refine lv_iload_n hx hb d_M_isGrowth_32 rfl (lv_at hl 2 rfl) ?_
        refine lv_iload_n hx hb d_M_isGrowth_33 rfl (lv_at hl 3 rfl) ?_
        refine lv_icmp_le (tgt := 39) hx hb d_M_isGrowth_34 (by decide) (fun c34 => ?_) (fun c34 => ?_)
        · skip
          obtain ⟨n1, hn1, en⟩ := nI_of (not_lt1 c18)
          subst en
          have hn2 : n1 ≤ 120 := (nI_leI hn1 (by decide)).mp (Int32.not_lt.mp c24)
          obtain ⟨i1, hi1, ei⟩ := nI_of (not_lt1 c29)
          subst ei
          have hi2 : i1 ≤ n1 := (nI_leI hi1 hn1).mp c34
          have hi3 : 1 ≤ i1 := (nI_leI (by decide) hi1).mp (Int32.not_lt.mp c29)
          have eR : igS (B 14) hn (nI i1) (nI n1) dg hd0 = (if (gdR true 7 0 n1 i1 true).2.2.2.2 then decide ((gdR true 7 0 n1 i1 true).1.length + 0 = hn) && (let r := igL (B 14) (gdR true 7 0 n1 i1 true).1.reverse 0 dg dg; decide (r.1 = dg) && decide (r.2 = hd0)) else decide ((gdR true 7 0 n1 i1 true).1.length + 1 = hn) && (let r := igL (B 14) (gdR true 7 0 n1 i1 true).1.reverse 1 (B 14 0) (B 14 0); decide (r.1 = dg) && decide (r.2 = hd0))) := by rw [igS, if_pos ⟨⟨Int32.not_lt.mp c18, Int32.not_lt.mp c24⟩, Int32.not_lt.mp c29, c34⟩, nI_clamp hn1, nI_clamp hi1]
          rw [eR]
          clear eR
          refine lv_aload_n hx hb d_M_isGrowth_39 rfl (lv_at hl 1 rfl) ?_
          refine lv_iload_n hx hb d_M_isGrowth_40 rfl (lv_at hl 2 rfl) ?_
          refine lv_iload_n hx hb d_M_isGrowth_41 rfl (lv_at hl 3 rfl) ?_
          refine lv_iconst (v := nI 1) hx hb d_M_isGrowth_42 (by decide) ?_
          refine aM (rV (As := [.int (nI i1), .int (nI n1), .int (nI 1)]) (rest := []) C0 (c_M_goDownG l g _ x ad _ _ _ hm.1 i1 n1 hn2 ⟨hi3, hi2⟩) (m_zK hZ hm) k_M_isGrowth_43 rfl rfl ⟨Nat.le_of_ble_eq_true rfl, Nat.le_of_ble_eq_true rfl⟩ (m_recv hK hm) rfl hl.1 rfl (Nat.le_of_ble_eq_true rfl) d_M_isGrowth_43 ⟨Nat.zero_le _, Nat.zero_le _⟩) hm (fun v F1 A1 B1 H locs hp hm => ?_)
          obtain ⟨rfl, eF, ⟨f1, f2, f3, eA, hgd⟩, eB⟩ := hp
          rw [eF, eA, eB] at hm
          clear eF eA eB
          have h7 := gdR_len true 7 0 n1 i1 true
          generalize (gdR true 7 0 n1 i1 true).1 = LL at *
          refine W.eq (g2 := F0 m 46 ls []) rfl ?_
          refine lv_aload_n hx hb d_M_isGrowth_46 rfl (lv_at hl 1 rfl) ?_
          refine m_get hx hb hts hown hK hm 45 (by decide) (hts (.fieldLink "RegistryLogModel" 230 "RegistryLogModel" "whole" "Z") (in_5 (List.mem_of_getElem? (i := 14) rfl) rfl)) rfl (v := .int (bI ((gdR true 7 0 n1 i1 true).2.2.2.2))) rfl d_M_isGrowth_47 ?_
          refine z_eq (tgt := 57) (v := (gdR true 7 0 n1 i1 true).2.2.2.2) hx hb d_M_isGrowth_50 (by decide) (fun c50 => ?_) (fun c50 => ?_)
          · skip
            refine lv_iconst (v := nI 1) hx hb d_M_isGrowth_57 (by decide) ?_
            refine lv_istore (lv' := [(8, .int (nI 1)), (7, .int (nI hn)), (0, .ref x), (1, .int (nI i1)), (2, .int (nI n1)), (3, .long dg), (5, .long hd0)]) hx hb d_M_isGrowth_58 hl (by decide) rfl (fun ls hl => ?_)
            refine lv_aload_n hx hb d_M_isGrowth_60 rfl (lv_at hl 2 rfl) ?_
            refine m_get hx hb hts hown hK hm 41 (by decide) (hts (.fieldLink "RegistryLogModel" 218 "RegistryLogModel" "steps" "I") (in_5 (List.mem_of_getElem? (i := 10) rfl) rfl)) rfl (v := .int (nI LL.length)) rfl d_M_isGrowth_61 ?_
            refine lv_iload hx hb d_M_isGrowth_64 (lv_at hl 0 rfl) ?_
            refine n_iadd hx hb d_M_isGrowth_66 ?_
            refine lv_iload hx hb d_M_isGrowth_67 (lv_at hl 1 rfl) ?_
            refine n_eq (tgt := 74) (a := LL.length + 1) (b := hn) hx hb d_M_isGrowth_69 (by decide) (by omega) (by omega) (fun c69 => ?_) (fun c69 => ?_)
            · skip
              refine lv_aload_n hx hb d_M_isGrowth_74 rfl (lv_at hl 2 rfl) ?_
              refine m_get hx hb hts hown hK hm 45 (by decide) (hts (.fieldLink "RegistryLogModel" 230 "RegistryLogModel" "whole" "Z") (in_5 (List.mem_of_getElem? (i := 14) rfl) rfl)) rfl (v := .int (bI ((gdR true 7 0 n1 i1 true).2.2.2.2))) rfl d_M_isGrowth_75 ?_
              refine W.eq (g2 := F0 m 78 ls [.int (bI false)]) (by rw [c50]) ?_
              refine z_eq (tgt := 85) (v := false) hx hb d_M_isGrowth_78 (by decide) (fun c78 => ?_) (fun c78 => ?_)
              · skip
                refine lv_aload_n hx hb d_M_isGrowth_85 rfl (lv_at hl 2 rfl) ?_
                refine m_get hx hb hts hown hK hm 14 (by decide) (hts (.fieldLink "RegistryLogModel" 47 "RegistryLogModel" "hand" "[J") (in_4 (List.mem_of_getElem? (i := 223) rfl) rfl)) rfl (v := .ref (ad 14)) rfl d_M_isGrowth_86 ?_
                refine lv_iconst (v := nI 0) hx hb d_M_isGrowth_89 (by decide) ?_
                refine m_ldl hx hb hK hm 14 rfl 0 rfl (show 0 < 16 from by omega) d_M_isGrowth_90 ?_
                refine W.eq (g2 := F0 m 91 ls [.long (B 14 0)]) rfl ?_
                refine lv_lstore (lv' := [(9, .long (B 14 0)), (8, .int (nI 1)), (7, .int (nI hn)), (0, .ref x), (1, .int (nI i1)), (2, .int (nI n1)), (3, .long dg), (5, .long hd0)]) hx hb d_M_isGrowth_91 hl (by decide) rfl (fun ls hl => ?_)
                refine lv_lload hx hb d_M_isGrowth_93 (lv_at hl 0 rfl) ?_
                refine lv_lstore (lv' := [(11, .long (B 14 0)), (9, .long (B 14 0)), (8, .int (nI 1)), (7, .int (nI hn)), (0, .ref x), (1, .int (nI i1)), (2, .int (nI n1)), (3, .long dg), (5, .long hd0)]) hx hb d_M_isGrowth_95 hl (by decide) rfl (fun ls hl => ?_)
                refine lv_iload hx hb d_M_isGrowth_97 (lv_at hl 2 rfl) ?_
                refine lv_istore (lv' := [(13, .int (nI 1)), (11, .long (B 14 0)), (9, .long (B 14 0)), (8, .int (nI 1)), (7, .int (nI hn)), (0, .ref x), (1, .int (nI i1)), (2, .int (nI n1)), (3, .long dg), (5, .long hd0)]) hx hb d_M_isGrowth_99 hl (by decide) rfl (fun ls hl => ?_)
                subst c69
                rw [c50, if_neg (by decide), decide_eq_true rfl, Bool.true_and]
                exact lp_M_isGrowth C0 hZ hm _ _ (goF_lo _ _ _ _ _ _) (goA_lo _ _ _ _) dg hd0 _ LL 1 (by decide) h7 rfl hgd (LL.length + 1) 0 (B 14 0) (B 14 0) (Nat.zero_le _) (by omega) rfl ls (lv_sub hl [5, 8, 9, 4, 3, 2, 1, 0] rfl)
              · skip
                first | exact absurd c78 (by decide) | exact absurd (by decide) c78
            · skip
              refine lv_iconst (v := nI 0) hx hb d_M_isGrowth_72 (by decide) ?_
              exact W.zret hx hb hr rfl (fun t9 ht hW => ⟨_, _, _, _, rfl, by rw [ht]; exact ⟨hm.1, hm.2.1, hm.2.2.1, fun _ h => by cases h⟩, ⟨by rw [c50, if_neg (by decide), decide_eq_false c69]; rfl, goF_lo _ _ _ _ _ _, goA_lo _ _ _ _, rfl⟩⟩) hm.2.2.2 d_M_isGrowth_73 hlk
          · skip
            refine lv_iconst (v := nI 0) hx hb d_M_isGrowth_53 (by decide) ?_
            refine lv_goto (tgt := 58) hx hb d_M_isGrowth_54 (by decide) ?_
            refine lv_istore (lv' := [(8, .int (nI 0)), (7, .int (nI hn)), (0, .ref x), (1, .int (nI i1)), (2, .int (nI n1)), (3, .long dg), (5, .long hd0)]) hx hb d_M_isGrowth_58 hl (by decide) rfl (fun ls hl => ?_)
            refine lv_aload_n hx hb d_M_isGrowth_60 rfl (lv_at hl 2 rfl) ?_
            refine m_get hx hb hts hown hK hm 41 (by decide) (hts (.fieldLink "RegistryLogModel" 218 "RegistryLogModel" "steps" "I") (in_5 (List.mem_of_getElem? (i := 10) rfl) rfl)) rfl (v := .int (nI LL.length)) rfl d_M_isGrowth_61 ?_
            refine lv_iload hx hb d_M_isGrowth_64 (lv_at hl 0 rfl) ?_
            refine n_iadd hx hb d_M_isGrowth_66 ?_
            refine lv_iload hx hb d_M_isGrowth_67 (lv_at hl 1 rfl) ?_
            refine n_eq (tgt := 74) (a := LL.length + 0) (b := hn) hx hb d_M_isGrowth_69 (by decide) (by omega) (by omega) (fun c69 => ?_) (fun c69 => ?_)
            · skip
              refine lv_aload_n hx hb d_M_isGrowth_74 rfl (lv_at hl 2 rfl) ?_
              refine m_get hx hb hts hown hK hm 45 (by decide) (hts (.fieldLink "RegistryLogModel" 230 "RegistryLogModel" "whole" "Z") (in_5 (List.mem_of_getElem? (i := 14) rfl) rfl)) rfl (v := .int (bI ((gdR true 7 0 n1 i1 true).2.2.2.2))) rfl d_M_isGrowth_75 ?_
              refine W.eq (g2 := F0 m 78 ls [.int (bI true)]) (by rw [c50]) ?_
              refine z_eq (tgt := 85) (v := true) hx hb d_M_isGrowth_78 (by decide) (fun c78 => ?_) (fun c78 => ?_)
              · skip
                first | exact absurd c78 (by decide) | exact absurd (by decide) c78
              · skip
                refine lv_lload_n hx hb d_M_isGrowth_81 rfl (lv_at hl 5 rfl) ?_
                refine lv_goto (tgt := 91) hx hb d_M_isGrowth_82 (by decide) ?_
                refine lv_lstore (lv' := [(9, .long dg), (8, .int (nI 0)), (7, .int (nI hn)), (0, .ref x), (1, .int (nI i1)), (2, .int (nI n1)), (3, .long dg), (5, .long hd0)]) hx hb d_M_isGrowth_91 hl (by decide) rfl (fun ls hl => ?_)
                refine lv_lload hx hb d_M_isGrowth_93 (lv_at hl 0 rfl) ?_
                refine lv_lstore (lv' := [(11, .long dg), (9, .long dg), (8, .int (nI 0)), (7, .int (nI hn)), (0, .ref x), (1, .int (nI i1)), (2, .int (nI n1)), (3, .long dg), (5, .long hd0)]) hx hb d_M_isGrowth_95 hl (by decide) rfl (fun ls hl => ?_)
                refine lv_iload hx hb d_M_isGrowth_97 (lv_at hl 2 rfl) ?_
                refine lv_istore (lv' := [(13, .int (nI 0)), (11, .long dg), (9, .long dg), (8, .int (nI 0)), (7, .int (nI hn)), (0, .ref x), (1, .int (nI i1)), (2, .int (nI n1)), (3, .long dg), (5, .long hd0)]) hx hb d_M_isGrowth_99 hl (by decide) rfl (fun ls hl => ?_)
                subst c69
                rw [c50, if_pos rfl, decide_eq_true rfl, Bool.true_and]
                exact lp_M_isGrowth C0 hZ hm _ _ (goF_lo _ _ _ _ _ _) (goA_lo _ _ _ _) dg hd0 _ LL 0 (by decide) h7 rfl hgd (LL.length + 1) 0 dg dg (Nat.zero_le _) (by omega) rfl ls (lv_sub hl [5, 8, 9, 4, 3, 2, 1, 0] rfl)
            · skip
              refine lv_iconst (v := nI 0) hx hb d_M_isGrowth_72 (by decide) ?_
              exact W.zret hx hb hr rfl (fun t9 ht hW => ⟨_, _, _, _, rfl, by rw [ht]; exact ⟨hm.1, hm.2.1, hm.2.2.1, fun _ h => by cases h⟩, ⟨by rw [c50, if_pos rfl, decide_eq_false c69]; rfl, goF_lo _ _ _ _ _ _, goA_lo _ _ _ _, rfl⟩⟩) hm.2.2.2 d_M_isGrowth_73 hlk
        · skip
          refine lv_iconst (v := nI 0) hx hb d_M_isGrowth_37 (by decide) ?_
          exact W.zret hx hb hr rfl (fun t9 ht hW => ⟨_, _, _, _, rfl, by rw [ht]; exact ⟨hm.1, hm.2.1, hm.2.2.1, fun _ h => by cases h⟩, ⟨by rw [igS, if_neg (fun z => absurd z.2.2 c34)]; rfl, lo_rf _, lo_rf _, rfl⟩⟩) hm.2.2.2 d_M_isGrowth_38 hlk
theorem gdR_in (gr : Bool) : ∀ d rf rn ri wb, 1 ≤ rn → (gr = true → 1 ≤ ri) → ∀ e ∈ (gdR gr d rf rn ri wb).1, e.1 + e.2.1 ≤ rf + rn
  | 0, _, _, _, _, _, _, e, he => by cases he
  | d + 1, rf, rn, ri, wb, h1, h2, e, he => by
    rw [gdR] at he
    by_cases h : (if gr = true then ri < rn else 1 < rn)
    · rw [if_pos h] at he
      have hr2 : 2 ≤ rn := by
        cases gr
        · exact h
        · have := h2 rfl; have h9 : ri < rn := h; omega
      have hlt := fpS_lt hr2
      have hps := fpS_pos rn
      have hri : ∀ (b : Bool), b = false → gr = true → (if gr = true then decide (ri ≤ fpS rn) else decide (ri < fpS rn)) = b → 1 ≤ ri - fpS rn := by
        intro b hb hg hc
        subst hb
        rw [if_pos hg] at hc
        have := of_decide_eq_false hc
        omega
      generalize hlf : (if gr = true then decide (ri ≤ fpS rn) else decide (ri < fpS rn)) = lf at he hri
      rcases List.mem_cons.mp he with q | q
      · subst q
        cases lf <;> simp <;> omega
      · cases lf
        · have := gdR_in gr d (rf + fpS rn) (rn - fpS rn) (ri - fpS rn) (wb && false) (by omega) (fun z => hri _ rfl z rfl) e q
          omega
        · have := gdR_in gr d rf (fpS rn) ri (wb && true) (by omega) h2 e q
          omega
    · rw [if_neg h] at he; cases he
theorem gdR_rest (gr : Bool) : ∀ d rf rn ri wb, 1 ≤ rn → (gr = true → 1 ≤ ri) → (gdR gr d rf rn ri wb).2.1 + (gdR gr d rf rn ri wb).2.2.1 ≤ rf + rn
  | 0, _, _, _, _, _, _ => Nat.le_refl _
  | d + 1, rf, rn, ri, wb, h1, h2 => by
    rw [gdR]
    by_cases h : (if gr = true then ri < rn else 1 < rn)
    · rw [if_pos h]
      have hr2 : 2 ≤ rn := by
        cases gr
        · exact h
        · have := h2 rfl; have h9 : ri < rn := h; omega
      have hlt := fpS_lt hr2
      have hps := fpS_pos rn
      have hri : ∀ (b : Bool), b = false → gr = true → (if gr = true then decide (ri ≤ fpS rn) else decide (ri < fpS rn)) = b → 1 ≤ ri - fpS rn := by
        intro b hb hg hc
        subst hb
        rw [if_pos hg] at hc
        have := of_decide_eq_false hc
        omega
      generalize hlf : (if gr = true then decide (ri ≤ fpS rn) else decide (ri < fpS rn)) = lf at hri ⊢
      cases lf
      · have := gdR_rest gr d (rf + fpS rn) (rn - fpS rn) (ri - fpS rn) (wb && false) (by omega) (fun z => hri _ rfl z rfl)
        exact Nat.le_trans this (by omega)
      · have := gdR_rest gr d rf (fpS rn) ri (wb && true) (by omega) h2
        exact Nat.le_trans this (by omega)
    · rw [if_neg h]; exact Nat.le_refl _
theorem lo_u {F G : Nat → Int32} {k : Nat} {v : Int32} (h : lo F G) : lo (upd F k v) (upd G k v) := fun q hq => by
  unfold upd
  by_cases z : q = k
  · rw [if_pos z, if_pos z]
  · rw [if_neg z, if_neg z]; exact h q hq
/-- what a proof holds: the heads of the steps' other parts, the last step's first -/
def prS (dg : Nat → Int64) (L : List St3) : List Int64 := L.reverse.map (fun e => hdS dg e.1 e.2.1)
theorem prS_s (dg : Nat → Int64) {L : List St3} {k : Nat} (h : k < L.length) : prS dg (L.take (k + 1)) = hdS dg (L.getD k (0, 0, false)).1 (L.getD k (0, 0, false)).2.1 :: prS dg (L.take k) := by
  unfold prS
  rw [List.take_add_one, List.reverse_append, List.map_append, List.getD_eq_getElem?_getD, List.getElem?_eq_getElem h]
  rfl
/-- the numbers of a proof: since B0 only those places changed -/
def prB (B1 B0 : Nat → Nat → Int64) (P : List Int64) : Prop := (∀ k, k < 17 → k ≠ 13 → B1 k = B0 k) ∧ ∀ q, q < P.length → B1 13 q = P.getD q 0
theorem prB_hd {B1 B0 : Nat → Nat → Int64} {P : List Int64} {b1 b2 : Nat → Int64} (h : prB B1 B0 P) : prB (hdB B1 b1 b2) B0 P := ⟨fun k hk h13 => (hdB_lo B1 b1 b2 k hk).trans (h.1 k hk h13), h.2⟩
theorem prB_ap {B1 B0 : Nat → Nat → Int64} {P : List Int64} {y : Int64} (h : prB B1 B0 P) : prB (updB B1 13 (vp_updL (B1 13) P.length y)) B0 (P ++ [y]) := by
  refine ⟨fun k hk h13 => by rw [updB, if_neg h13]; exact h.1 k hk h13, fun q hq => ?_⟩
  rw [updB, if_pos rfl]
  rw [List.length_append] at hq
  by_cases z : q = P.length
  · subst z; rw [uL_s]; simp [List.getD_eq_getElem?_getD]
  · rw [uL_n z, h.2 q (by simp at hq; omega)]
    simp only [List.getD_eq_getElem?_getD]
    rw [List.getElem?_append_left (by simp at hq; omega)]
theorem prB_0 (B : Nat → Nat → Int64) : prB B B [] := ⟨fun _ _ _ => rfl, fun q h => by cases h⟩
theorem k_M_inside_35 : kV "RegistryLogModel" 241 "RegistryLogModel" y_M_goDown b_M_goDown 6 none 3 := ⟨(in_6 (List.mem_of_getElem? (i := 2) rfl) rfl), (in_6 (List.mem_of_getElem? (i := 4) rfl) rfl), (in_0 (List.mem_of_getElem? (i := 23) rfl) rfl), (in_1 (List.mem_of_getElem? (i := 22) rfl) rfl), (in_6 (List.mem_of_getElem? (i := 5) rfl) rfl), ⟨by decide, by decide, by decide +kernel⟩⟩
theorem k_M_inside_64 : kV "RegistryLogModel" 214 "RegistryLogModel" y_M_headOf b_M_headOf 9 (some .long) 3 := ⟨(in_5 (List.mem_of_getElem? (i := 231) rfl) rfl), (in_5 (List.mem_of_getElem? (i := 233) rfl) rfl), (in_0 (List.mem_of_getElem? (i := 22) rfl) rfl), (in_1 (List.mem_of_getElem? (i := 22) rfl) rfl), (in_5 (List.mem_of_getElem? (i := 234) rfl) rfl), ⟨by decide, by decide, by decide +kernel⟩⟩
theorem k_M_inside_67 : kV "RegistryLogModel" 245 "RegistryLogModel" y_M_prove b_M_prove 3 none 1 := ⟨(in_6 (List.mem_of_getElem? (i := 9) rfl) rfl), (in_6 (List.mem_of_getElem? (i := 11) rfl) rfl), (in_0 (List.mem_of_getElem? (i := 24) rfl) rfl), (in_1 (List.mem_of_getElem? (i := 22) rfl) rfl), (in_6 (List.mem_of_getElem? (i := 12) rfl) rfl), ⟨by decide, by decide, by decide +kernel⟩⟩
set_option maxHeartbeats 4000000 in
set_option maxRecDepth 100000 in
theorem lp_M_inside {p : Program} {l : Launch} {e : Env} {s : State} {m : MethodId} {args : Array Value} {below : List Frame} {meth : Method} {c : Code} {g : gG} (C0 : cF g p s m args meth c b_M_inside 4 "RegistryLogModel" (some .int)) (hZ : zK g s s.heap) {x : Nat} {ad : Nat → Nat} {G : Nat → Int32} {A : Nat → Nat → Int32} {B : Nat → Nat → Int64} (FF : Nat → Int32) (AA : Nat → Nat → Int32) (hFF : lo G FF) (hAA : lo A AA) (cnt : Nat) (TT UU : Nat → List Nat) (hrep : repR A cnt TT UU) (LL : List St3) (hL : ∀ e ∈ LL, e.1 + e.2.1 ≤ cnt) (hgd : gdOk LL (A 38) (A 39) (A 40)) (res : List Int64) :
    ∀ (k : Nat) (acc : List Int64) (B1 : Nat → Nat → Int64) (H : Heap) (locs : List Loc), k ≤ LL.length → acc.length + k ≤ 8 → acc ++ prS (dgA A 4 TT UU) (LL.take k) = res → prB B1 B acc → mS g s.heap H x ad (upd G 15 (nI acc.length)) A B1 locs → ∀ (ls : Array Slot), lv_has ls 4 [(0, .ref x), (3, .int (nI k - nI 1))] → W p l e (rmk 3 0 0 78) s m args below meth c H locs 0 0 (MQ below (qM g s.heap x ad (fun v F1 A1 B1 => v = some (.int (nI res.length)) ∧ lo F1 (upd FF 15 (nI res.length)) ∧ lo A1 AA ∧ prB B1 B res)) args s 0 0 (mN x ad)) (F0 m 45 ls []) := by
  obtain ⟨hx, hb, hml, hown, hts, hr, hlk, hK⟩ := id C0
  have hc120 : cnt ≤ 120 := hrep.1
  intro k
  induction k with
  | zero =>
    intro acc B1 H locs hk h8 hres hpr hm ls hl
    refine lv_iload_n hx hb d_M_inside_45 rfl (lv_at hl 1 rfl) ?_
    refine lv_if_lt (tgt := 76) hx hb d_M_inside_46 (by decide) (fun c46 => ?_) (fun c46 => ?_)
    · skip
      refine lv_aload_n hx hb d_M_inside_76 rfl (lv_at hl 0 rfl) ?_
      refine m_get hx hb hts hown hK hm 15 (by decide) (hts (.fieldLink "RegistryLogModel" 238 "RegistryLogModel" "proofSize" "I") (in_4 (List.mem_of_getElem? (i := 224) rfl) rfl)) rfl (v := .int (nI acc.length)) rfl d_M_inside_77 ?_
      rw [List.take_zero, show prS (dgA A 4 TT UU) [] = [] from rfl, List.append_nil] at hres
      exact W.iret hx hb hr (fun t9 ht hW => ⟨_, _, _, _, rfl, by rw [ht]; exact ⟨hm.1, hm.2.1, hm.2.2.1, fun _ h => by cases h⟩, ⟨by rw [← hres], by rw [← hres]; exact (lo_u hFF), hAA, by rw [← hres]; exact hpr⟩⟩) hm.2.2.2 d_M_inside_80 hlk
    · skip
      exact absurd (show nI 0 - nI 1 < 0 by decide) c46
  | succ k ih =>
    intro acc B1 H locs hk h8 hres hpr hm ls hl
    rw [show nI (k + 1) - nI 1 = nI k from nI_pred k] at hl
    obtain ⟨q1, q2, q3⟩ := hgd k (by omega)
    have hin := hL (LL.getD k (0, 0, false)) (by rw [List.getD_eq_getElem?_getD, List.getElem?_eq_getElem (by omega)]; exact List.getElem_mem _)
    obtain ⟨e0, hE⟩ : ∃ e0, e0 = LL.getD k (0, 0, false) := ⟨_, rfl⟩
    rw [← hE] at q1 q2 hin
    refine lv_iload_n hx hb d_M_inside_45 rfl (lv_at hl 1 rfl) ?_
    refine lv_if_lt (tgt := 76) hx hb d_M_inside_46 (by decide) (fun c46 => ?_) (fun c46 => ?_)
    · skip
      exact absurd c46 (nI_pos (by omega))
    · skip
      refine lv_aload_n hx hb d_M_inside_49 rfl (lv_at hl 0 rfl) ?_
      refine lv_aload_n hx hb d_M_inside_50 rfl (lv_at hl 0 rfl) ?_
      refine lv_iconst (v := nI 4) hx hb d_M_inside_51 (by decide) ?_
      refine lv_aload_n hx hb d_M_inside_52 rfl (lv_at hl 0 rfl) ?_
      refine m_get hx hb hts hown hK hm 38 (by decide) (hts (.fieldLink "RegistryLogModel" 98 "RegistryLogModel" "otherFrom" "[I") (in_5 (List.mem_of_getElem? (i := 7) rfl) rfl)) rfl (v := .ref (ad 38)) rfl d_M_inside_53 ?_
      refine lv_iload_n hx hb d_M_inside_56 rfl (lv_at hl 1 rfl) ?_
      refine m_ld hx hb hK hm 38 rfl k rfl (show k < 16 from by omega) d_M_inside_57 ?_
      refine W.eq (g2 := F0 m 58 ls [.int (nI e0.1), .int (nI 4), .ref x, .ref x]) (by rw [q1]) ?_
      refine lv_aload_n hx hb d_M_inside_58 rfl (lv_at hl 0 rfl) ?_
      refine m_get hx hb hts hown hK hm 39 (by decide) (hts (.fieldLink "RegistryLogModel" 101 "RegistryLogModel" "otherMany" "[I") (in_5 (List.mem_of_getElem? (i := 8) rfl) rfl)) rfl (v := .ref (ad 39)) rfl d_M_inside_59 ?_
      refine lv_iload_n hx hb d_M_inside_62 rfl (lv_at hl 1 rfl) ?_
      refine m_ld hx hb hK hm 39 rfl k rfl (show k < 16 from by omega) d_M_inside_63 ?_
      refine W.eq (g2 := F0 m 64 ls [.int (nI e0.2.1), .int (nI e0.1), .int (nI 4), .ref x, .ref x]) (by rw [q2]) ?_
      refine aM (rV (As := [.int (nI 4), .int (nI e0.1), .int (nI e0.2.1)]) (rest := [.ref x]) C0 (c_M_headOf l g _ x ad _ _ _ hm.1 4 cnt TT UU (by decide) hrep e0.1 e0.2.1 hin) (m_zK hZ hm) k_M_inside_64 rfl rfl ⟨Nat.le_of_ble_eq_true rfl, Nat.le_of_ble_eq_true rfl⟩ (m_recv hK hm) rfl hl.1 rfl (Nat.le_of_ble_eq_true rfl) d_M_inside_64 ⟨Nat.zero_le _, Nat.zero_le _⟩) hm (fun v F1 A1 B1 H locs hp hm => ?_)
      obtain ⟨rfl, eF, eA, b1, b2, eB⟩ := hp
      rw [eF, eA, eB] at hm
      clear eF eA eB
      refine W.eq (g2 := F0 m 67 ls [.long (hdS (dgA A 4 TT UU) e0.1 e0.2.1), .ref x]) rfl ?_
      have hpr := prB_hd (b1 := b1) (b2 := b2) hpr
      refine aM (rV (As := [.long (hdS (dgA A 4 TT UU) e0.1 e0.2.1)]) (rest := []) C0 (c_M_prove l g _ x ad _ _ _ hm.1 acc.length rfl (by omega) (hdS (dgA A 4 TT UU) e0.1 e0.2.1)) (m_zK hZ hm) k_M_inside_67 rfl rfl ⟨Nat.le_of_ble_eq_true rfl, Nat.le_of_ble_eq_true rfl⟩ (m_recv hK hm) rfl hl.1 rfl (Nat.le_of_ble_eq_true rfl) d_M_inside_67 ⟨Nat.zero_le _, Nat.zero_le _⟩) hm (fun v F1 A1 B1 H locs hp hm => ?_)
      obtain ⟨rfl, eF, eA, eB⟩ := hp
      rw [eF, eA, eB, upd_upd] at hm
      clear eF eA eB
      have hpr := prB_ap (y := hdS (dgA A 4 TT UU) e0.1 e0.2.1) hpr
      refine W.eq (g2 := F0 m 70 ls []) rfl ?_
      refine lv_iinc (v := nI k - nI 1) (lv' := [(3, .int (nI k - nI 1)), (0, .ref x)]) hx hb d_M_inside_70 hl (k := 1) rfl (nI_dn k) (by decide) rfl (fun ls hl => ?_)
      refine lv_goto (tgt := 45) hx hb d_M_inside_73 (by decide) ?_
      refine ih (acc ++ [hdS (dgA A 4 TT UU) e0.1 e0.2.1]) _ H locs (by omega) (by simp; omega) ?_ hpr (by rw [List.length_append]; exact hm) ls (lv_sub hl [1, 0] rfl)
      rw [← hres, prS_s _ (by omega), hE, List.append_assoc]; rfl
set_option maxHeartbeats 4000000 in
set_option maxRecDepth 100000 in
/-- inside(i, n) -/
theorem c_M_inside (l : Launch) (g : gG) (H : Heap) (x : Nat) (ad : Nat → Nat) (F : Nat → Int32) (A : Nat → Nat → Int32) (B : Nat → Nat → Int64) (hm0 : mW g H x ad F A B) (cnt : Nat) (TT UU : Nat → List Nat) (hrep : repR A cnt TT UU) (hc : A 12 4 = nI cnt) (i n : Int32) : Met l y_M_inside (wC y_M_inside b_M_inside 4 (some .int)) (rmk 3 0 0 78) (pC g H [.ref x, .int i, .int n]) (qM g H x ad (fun v F1 A1 B1 => if n ≤ nI cnt ∧ 0 ≤ i ∧ i < n then (v = some (.int (nI (prS (dgA A 4 TT UU) (gdR false 7 0 n.toNatClampNeg i.toNatClampNeg true).1).length)) ∧ lo F1 (upd (upd (upd F 0 (nI 0)) 15 (nI 0)) 15 (nI (prS (dgA A 4 TT UU) (gdR false 7 0 n.toNatClampNeg i.toNatClampNeg true).1).length)) ∧ lo A1 A ∧ prB B1 B (prS (dgA A 4 TT UU) (gdR false 7 0 n.toNatClampNeg i.toNatClampNeg true).1)) else (v = some (.int (-1)) ∧ F1 = upd (upd F 0 (nI 0)) 15 (nI 0) ∧ A1 = A ∧ B1 = B))) 0 0 (mN x ad) := by
  refine mB (by decide) (Nat.le_of_ble_eq_true rfl) ?_
  intro p e s m below meth c ls C0 hH hZ hnm hl
  have C0 : cF g p s m _ meth c b_M_inside 4 "RegistryLogModel" (some .int) := C0
  obtain ⟨hx, hb, hml, hown, hts, hr, hlk, hK⟩ := id C0
  subst hH
  have hl : lv_has ls 4 [(0, .ref x), (1, .int i), (2, .int n)] := hl
  have hm := mS.rf hm0
  have hc120 : cnt ≤ 120 := hrep.1
  refine lv_aload_n hx hb d_M_inside_0 rfl (lv_at hl 0 rfl) ?_
  refine lv_iconst (v := nI 0) hx hb d_M_inside_1 (by decide) ?_
  refine m_put hx hb hts hown hK hm 0 (by decide) (hts (.fieldLink "RegistryLogModel" 108 "RegistryLogModel" "code" "I") (in_4 (List.mem_of_getElem? (i := 209) rfl) rfl)) rfl rfl (v := nI 0) rfl rfl rfl rfl d_M_inside_2 (fun H locs hm => ?_)
  refine lv_aload_n hx hb d_M_inside_5 rfl (lv_at hl 0 rfl) ?_
  refine lv_iconst (v := nI 0) hx hb d_M_inside_6 (by decide) ?_
  refine m_put hx hb hts hown hK hm 15 (by decide) (hts (.fieldLink "RegistryLogModel" 238 "RegistryLogModel" "proofSize" "I") (in_4 (List.mem_of_getElem? (i := 224) rfl) rfl)) rfl rfl (v := nI 0) rfl rfl rfl rfl d_M_inside_7 (fun H locs hm => ?_)
  refine lv_iload_n hx hb d_M_inside_10 rfl (lv_at hl 2 rfl) ?_
  refine lv_aload_n hx hb d_M_inside_11 rfl (lv_at hl 0 rfl) ?_
  refine m_get hx hb hts hown hK hm 12 (by decide) (hts (.fieldLink "RegistryLogModel" 40 "RegistryLogModel" "copied" "[I") (in_4 (List.mem_of_getElem? (i := 221) rfl) rfl)) rfl (v := .ref (ad 12)) rfl d_M_inside_12 ?_
  refine lv_iconst (v := nI 4) hx hb d_M_inside_15 (by decide) ?_
  refine m_ld hx hb hK hm 12 rfl 4 rfl (show 4 < 5 from by omega) d_M_inside_16 ?_
  refine W.eq (g2 := F0 m 17 ls [.int (nI cnt), .int n]) (by rw [hc]) ?_
  refine lv_icmp_gt (tgt := 29) hx hb d_M_inside_17 (by decide) (fun c17 => ?_) (fun c17 => ?_)
  · skip
    refine lv_iconst (v := (-1)) hx hb d_M_inside_29 (by decide) ?_
    exact W.iret hx hb hr (fun t9 ht hW => ⟨_, _, _, _, rfl, by rw [ht]; exact ⟨hm.1, hm.2.1, hm.2.2.1, fun _ h => by cases h⟩, by (try dsimp only); rw [if_neg (fun z => absurd z.1 (Int32.not_le.mpr c17))]; exact ⟨rfl, rfl, rfl, rfl⟩⟩) hm.2.2.2 d_M_inside_30 hlk
  · skip
    refine lv_iload_n hx hb d_M_inside_20 rfl (lv_at hl 1 rfl) ?_
    refine lv_if_lt (tgt := 29) hx hb d_M_inside_21 (by decide) (fun c21 => ?_) (fun c21 => ?_)
    · skip
      refine lv_iconst (v := (-1)) hx hb d_M_inside_29 (by decide) ?_
      exact W.iret hx hb hr (fun t9 ht hW => ⟨_, _, _, _, rfl, by rw [ht]; exact ⟨hm.1, hm.2.1, hm.2.2.1, fun _ h => by cases h⟩, by (try dsimp only); rw [if_neg (fun z => absurd z.2.1 (Int32.not_le.mpr c21))]; exact ⟨rfl, rfl, rfl, rfl⟩⟩) hm.2.2.2 d_M_inside_30 hlk
    · skip
      refine lv_iload_n hx hb d_M_inside_24 rfl (lv_at hl 1 rfl) ?_
      refine lv_iload_n hx hb d_M_inside_25 rfl (lv_at hl 2 rfl) ?_
      refine lv_icmp_lt (tgt := 31) hx hb d_M_inside_26 (by decide) (fun c26 => ?_) (fun c26 => ?_)
      · skip
        obtain ⟨i1, hi1, ei⟩ := nI_of c21
        subst ei
        obtain ⟨n1, hn1, en⟩ := nI_of (x := n) (fun z => absurd (Int32.lt_trans c26 z) (nI_pos hi1))
        subst en
        have hnc : n1 ≤ cnt := (nI_leI hn1 (by omega)).mp (Int32.not_lt.mp c17)
        have hn2 : n1 ≤ 120 := by omega
        have hi2 : i1 < n1 := (nI_ltI hi1 hn1).mp c26
        simp only [if_pos (show nI n1 ≤ nI cnt ∧ 0 ≤ nI i1 ∧ nI i1 < nI n1 from ⟨Int32.not_lt.mp c17, Int32.not_lt.mp c21, c26⟩), nI_clamp hn1, nI_clamp hi1]
        have hLc : ∀ e ∈ (gdR false 7 0 n1 i1 true).1, e.1 + e.2.1 ≤ cnt := fun e he => Nat.le_trans (gdR_in false 7 0 n1 i1 true (by omega) (fun z => by cases z) e he) (by omega)
        refine lv_aload_n hx hb d_M_inside_31 rfl (lv_at hl 0 rfl) ?_
        refine lv_iload_n hx hb d_M_inside_32 rfl (lv_at hl 1 rfl) ?_
        refine lv_iload_n hx hb d_M_inside_33 rfl (lv_at hl 2 rfl) ?_
        refine lv_iconst (v := nI 0) hx hb d_M_inside_34 (by decide) ?_
        refine aM (rV (As := [.int (nI i1), .int (nI n1), .int (nI 0)]) (rest := []) C0 (c_M_goDownI l g _ x ad _ _ _ hm.1 i1 n1 hn2 hi2) (m_zK hZ hm) k_M_inside_35 rfl rfl ⟨Nat.le_of_ble_eq_true rfl, Nat.le_of_ble_eq_true rfl⟩ (m_recv hK hm) rfl hl.1 rfl (Nat.le_of_ble_eq_true rfl) d_M_inside_35 ⟨Nat.zero_le _, Nat.zero_le _⟩) hm (fun v F1 A1 B1 H locs hp hm => ?_)
        obtain ⟨rfl, eF, ⟨f1, f2, f3, eA, hgd⟩, eB⟩ := hp
        rw [eF, eA, eB] at hm
        clear eF eA eB
        have h7 := gdR_len false 7 0 n1 i1 true
        generalize (gdR false 7 0 n1 i1 true).1 = LL at *
        refine W.eq (g2 := F0 m 38 ls []) rfl ?_
        have hm : mS g s.heap H x ad (upd (goF (upd (upd F 0 (nI 0)) 15 (nI 0)) LL.length (gdR false 7 0 n1 i1 true).2.1 (gdR false 7 0 n1 i1 true).2.2.1 (gdR false 7 0 n1 i1 true).2.2.2.1 (gdR false 7 0 n1 i1 true).2.2.2.2) 15 (nI ([] : List Int64).length)) (goA A f1 f2 f3) B locs := by
          have e9 : ∀ z9, upd z9 15 (z9 15) = z9 := fun z9 => upd_id z9 15
          have := e9 (goF (upd (upd F 0 (nI 0)) 15 (nI 0)) LL.length (gdR false 7 0 n1 i1 true).2.1 (gdR false 7 0 n1 i1 true).2.2.1 (gdR false 7 0 n1 i1 true).2.2.2.1 (gdR false 7 0 n1 i1 true).2.2.2.2)
          rw [show (upd (goF (upd (upd F 0 (nI 0)) 15 (nI 0)) LL.length (gdR false 7 0 n1 i1 true).2.1 (gdR false 7 0 n1 i1 true).2.2.1 (gdR false 7 0 n1 i1 true).2.2.2.1 (gdR false 7 0 n1 i1 true).2.2.2.2) 15 (nI ([] : List Int64).length)) = (goF (upd (upd F 0 (nI 0)) 15 (nI 0)) LL.length (gdR false 7 0 n1 i1 true).2.1 (gdR false 7 0 n1 i1 true).2.2.1 (gdR false 7 0 n1 i1 true).2.2.2.1 (gdR false 7 0 n1 i1 true).2.2.2.2) from this]; exact hm
        refine lv_aload_n hx hb d_M_inside_38 rfl (lv_at hl 0 rfl) ?_
        refine m_get hx hb hts hown hK hm 41 (by decide) (hts (.fieldLink "RegistryLogModel" 218 "RegistryLogModel" "steps" "I") (in_5 (List.mem_of_getElem? (i := 10) rfl) rfl)) rfl (v := .int (nI LL.length)) rfl d_M_inside_39 ?_
        refine lv_iconst (v := nI 1) hx hb d_M_inside_42 (by decide) ?_
        refine lv_isub hx hb d_M_inside_43 ?_
        refine lv_istore_n (lv' := [(3, .int (nI LL.length - nI 1)), (0, .ref x), (1, .int (nI i1)), (2, .int (nI n1))]) hx hb d_M_inside_44 rfl hl (by decide) rfl (fun ls hl => ?_)
        exact lp_M_inside C0 hZ (B := B) (upd (upd F 0 (nI 0)) 15 (nI 0)) A (goF_lo _ _ _ _ _ _) (goA_lo _ _ _ _) cnt TT UU hrep LL hLc hgd (prS (dgA A 4 TT UU) LL) LL.length ([] : List Int64) _ H locs (Nat.le_refl _) (by simp; omega) (by rw [List.take_length] <;> rfl) (prB_0 B) hm ls (lv_sub hl [1, 0] rfl)
      · skip
        refine lv_iconst (v := (-1)) hx hb d_M_inside_29 (by decide) ?_
        exact W.iret hx hb hr (fun t9 ht hW => ⟨_, _, _, _, rfl, by rw [ht]; exact ⟨hm.1, hm.2.1, hm.2.2.1, fun _ h => by cases h⟩, by (try dsimp only); rw [if_neg (fun z => absurd z.2.2 c26)]; exact ⟨rfl, rfl, rfl, rfl⟩⟩) hm.2.2.2 d_M_inside_30 hlk
theorem k_M_growth_36 : kV "RegistryLogModel" 241 "RegistryLogModel" y_M_goDown b_M_goDown 6 none 3 := ⟨(in_6 (List.mem_of_getElem? (i := 2) rfl) rfl), (in_6 (List.mem_of_getElem? (i := 4) rfl) rfl), (in_0 (List.mem_of_getElem? (i := 23) rfl) rfl), (in_1 (List.mem_of_getElem? (i := 22) rfl) rfl), (in_6 (List.mem_of_getElem? (i := 5) rfl) rfl), ⟨by decide, by decide, by decide +kernel⟩⟩
theorem k_M_growth_57 : kV "RegistryLogModel" 214 "RegistryLogModel" y_M_headOf b_M_headOf 9 (some .long) 3 := ⟨(in_5 (List.mem_of_getElem? (i := 231) rfl) rfl), (in_5 (List.mem_of_getElem? (i := 233) rfl) rfl), (in_0 (List.mem_of_getElem? (i := 22) rfl) rfl), (in_1 (List.mem_of_getElem? (i := 22) rfl) rfl), (in_5 (List.mem_of_getElem? (i := 234) rfl) rfl), ⟨by decide, by decide, by decide +kernel⟩⟩
theorem k_M_growth_60 : kV "RegistryLogModel" 245 "RegistryLogModel" y_M_prove b_M_prove 3 none 1 := ⟨(in_6 (List.mem_of_getElem? (i := 9) rfl) rfl), (in_6 (List.mem_of_getElem? (i := 11) rfl) rfl), (in_0 (List.mem_of_getElem? (i := 24) rfl) rfl), (in_1 (List.mem_of_getElem? (i := 22) rfl) rfl), (in_6 (List.mem_of_getElem? (i := 12) rfl) rfl), ⟨by decide, by decide, by decide +kernel⟩⟩
theorem k_M_growth_89 : kV "RegistryLogModel" 214 "RegistryLogModel" y_M_headOf b_M_headOf 9 (some .long) 3 := ⟨(in_5 (List.mem_of_getElem? (i := 231) rfl) rfl), (in_5 (List.mem_of_getElem? (i := 233) rfl) rfl), (in_0 (List.mem_of_getElem? (i := 22) rfl) rfl), (in_1 (List.mem_of_getElem? (i := 22) rfl) rfl), (in_5 (List.mem_of_getElem? (i := 234) rfl) rfl), ⟨by decide, by decide, by decide +kernel⟩⟩
theorem k_M_growth_92 : kV "RegistryLogModel" 245 "RegistryLogModel" y_M_prove b_M_prove 3 none 1 := ⟨(in_6 (List.mem_of_getElem? (i := 9) rfl) rfl), (in_6 (List.mem_of_getElem? (i := 11) rfl) rfl), (in_0 (List.mem_of_getElem? (i := 24) rfl) rfl), (in_1 (List.mem_of_getElem? (i := 22) rfl) rfl), (in_6 (List.mem_of_getElem? (i := 12) rfl) rfl), ⟨by decide, by decide, by decide +kernel⟩⟩
set_option maxHeartbeats 4000000 in
set_option maxRecDepth 100000 in
theorem lp_M_growth {p : Program} {l : Launch} {e : Env} {s : State} {m : MethodId} {args : Array Value} {below : List Frame} {meth : Method} {c : Code} {g : gG} (C0 : cF g p s m args meth c b_M_growth 4 "RegistryLogModel" (some .int)) (hZ : zK g s s.heap) {x : Nat} {ad : Nat → Nat} {G : Nat → Int32} {A : Nat → Nat → Int32} {B : Nat → Nat → Int64} (FF : Nat → Int32) (AA : Nat → Nat → Int32) (hFF : lo G FF) (hAA : lo A AA) (cnt : Nat) (TT UU : Nat → List Nat) (hrep : repR A cnt TT UU) (LL : List St3) (hL : ∀ e ∈ LL, e.1 + e.2.1 ≤ cnt) (hgd : gdOk LL (A 38) (A 39) (A 40)) (res : List Int64) :
    ∀ (k : Nat) (acc : List Int64) (B1 : Nat → Nat → Int64) (H : Heap) (locs : List Loc), k ≤ LL.length → acc.length + k ≤ 8 → acc ++ prS (dgA A 4 TT UU) (LL.take k) = res → prB B1 B acc → mS g s.heap H x ad (upd G 15 (nI acc.length)) A B1 locs → ∀ (ls : Array Slot), lv_has ls 4 [(0, .ref x), (3, .int (nI k - nI 1))] → W p l e (rmk 3 0 0 78) s m args below meth c H locs 0 0 (MQ below (qM g s.heap x ad (fun v F1 A1 B1 => v = some (.int (nI res.length)) ∧ lo F1 (upd FF 15 (nI res.length)) ∧ lo A1 AA ∧ prB B1 B res)) args s 0 0 (mN x ad)) (F0 m 70 ls []) := by
  obtain ⟨hx, hb, hml, hown, hts, hr, hlk, hK⟩ := id C0
  have hc120 : cnt ≤ 120 := hrep.1
  intro k
  induction k with
  | zero =>
    intro acc B1 H locs hk h8 hres hpr hm ls hl
    refine lv_iload_n hx hb d_M_growth_70 rfl (lv_at hl 1 rfl) ?_
    refine lv_if_lt (tgt := 101) hx hb d_M_growth_71 (by decide) (fun c71 => ?_) (fun c71 => ?_)
    · skip
      refine lv_aload_n hx hb d_M_growth_101 rfl (lv_at hl 0 rfl) ?_
      refine m_get hx hb hts hown hK hm 15 (by decide) (hts (.fieldLink "RegistryLogModel" 238 "RegistryLogModel" "proofSize" "I") (in_4 (List.mem_of_getElem? (i := 224) rfl) rfl)) rfl (v := .int (nI acc.length)) rfl d_M_growth_102 ?_
      rw [List.take_zero, show prS (dgA A 4 TT UU) [] = [] from rfl, List.append_nil] at hres
      exact W.iret hx hb hr (fun t9 ht hW => ⟨_, _, _, _, rfl, by rw [ht]; exact ⟨hm.1, hm.2.1, hm.2.2.1, fun _ h => by cases h⟩, ⟨by rw [← hres], by rw [← hres]; exact (lo_u hFF), hAA, by rw [← hres]; exact hpr⟩⟩) hm.2.2.2 d_M_growth_105 hlk
    · skip
      exact absurd (show nI 0 - nI 1 < 0 by decide) c71
  | succ k ih =>
    intro acc B1 H locs hk h8 hres hpr hm ls hl
    rw [show nI (k + 1) - nI 1 = nI k from nI_pred k] at hl
    obtain ⟨q1, q2, q3⟩ := hgd k (by omega)
    have hin := hL (LL.getD k (0, 0, false)) (by rw [List.getD_eq_getElem?_getD, List.getElem?_eq_getElem (by omega)]; exact List.getElem_mem _)
    obtain ⟨e0, hE⟩ : ∃ e0, e0 = LL.getD k (0, 0, false) := ⟨_, rfl⟩
    rw [← hE] at q1 q2 hin
    refine lv_iload_n hx hb d_M_growth_70 rfl (lv_at hl 1 rfl) ?_
    refine lv_if_lt (tgt := 101) hx hb d_M_growth_71 (by decide) (fun c71 => ?_) (fun c71 => ?_)
    · skip
      exact absurd c71 (nI_pos (by omega))
    · skip
      refine lv_aload_n hx hb d_M_growth_74 rfl (lv_at hl 0 rfl) ?_
      refine lv_aload_n hx hb d_M_growth_75 rfl (lv_at hl 0 rfl) ?_
      refine lv_iconst (v := nI 4) hx hb d_M_growth_76 (by decide) ?_
      refine lv_aload_n hx hb d_M_growth_77 rfl (lv_at hl 0 rfl) ?_
      refine m_get hx hb hts hown hK hm 38 (by decide) (hts (.fieldLink "RegistryLogModel" 98 "RegistryLogModel" "otherFrom" "[I") (in_5 (List.mem_of_getElem? (i := 7) rfl) rfl)) rfl (v := .ref (ad 38)) rfl d_M_growth_78 ?_
      refine lv_iload_n hx hb d_M_growth_81 rfl (lv_at hl 1 rfl) ?_
      refine m_ld hx hb hK hm 38 rfl k rfl (show k < 16 from by omega) d_M_growth_82 ?_
      refine W.eq (g2 := F0 m 83 ls [.int (nI e0.1), .int (nI 4), .ref x, .ref x]) (by rw [q1]) ?_
      refine lv_aload_n hx hb d_M_growth_83 rfl (lv_at hl 0 rfl) ?_
      refine m_get hx hb hts hown hK hm 39 (by decide) (hts (.fieldLink "RegistryLogModel" 101 "RegistryLogModel" "otherMany" "[I") (in_5 (List.mem_of_getElem? (i := 8) rfl) rfl)) rfl (v := .ref (ad 39)) rfl d_M_growth_84 ?_
      refine lv_iload_n hx hb d_M_growth_87 rfl (lv_at hl 1 rfl) ?_
      refine m_ld hx hb hK hm 39 rfl k rfl (show k < 16 from by omega) d_M_growth_88 ?_
      refine W.eq (g2 := F0 m 89 ls [.int (nI e0.2.1), .int (nI e0.1), .int (nI 4), .ref x, .ref x]) (by rw [q2]) ?_
      refine aM (rV (As := [.int (nI 4), .int (nI e0.1), .int (nI e0.2.1)]) (rest := [.ref x]) C0 (c_M_headOf l g _ x ad _ _ _ hm.1 4 cnt TT UU (by decide) hrep e0.1 e0.2.1 hin) (m_zK hZ hm) k_M_growth_89 rfl rfl ⟨Nat.le_of_ble_eq_true rfl, Nat.le_of_ble_eq_true rfl⟩ (m_recv hK hm) rfl hl.1 rfl (Nat.le_of_ble_eq_true rfl) d_M_growth_89 ⟨Nat.zero_le _, Nat.zero_le _⟩) hm (fun v F1 A1 B1 H locs hp hm => ?_)
      obtain ⟨rfl, eF, eA, b1, b2, eB⟩ := hp
      rw [eF, eA, eB] at hm
      clear eF eA eB
      refine W.eq (g2 := F0 m 92 ls [.long (hdS (dgA A 4 TT UU) e0.1 e0.2.1), .ref x]) rfl ?_
      have hpr := prB_hd (b1 := b1) (b2 := b2) hpr
      refine aM (rV (As := [.long (hdS (dgA A 4 TT UU) e0.1 e0.2.1)]) (rest := []) C0 (c_M_prove l g _ x ad _ _ _ hm.1 acc.length rfl (by omega) (hdS (dgA A 4 TT UU) e0.1 e0.2.1)) (m_zK hZ hm) k_M_growth_92 rfl rfl ⟨Nat.le_of_ble_eq_true rfl, Nat.le_of_ble_eq_true rfl⟩ (m_recv hK hm) rfl hl.1 rfl (Nat.le_of_ble_eq_true rfl) d_M_growth_92 ⟨Nat.zero_le _, Nat.zero_le _⟩) hm (fun v F1 A1 B1 H locs hp hm => ?_)
      obtain ⟨rfl, eF, eA, eB⟩ := hp
      rw [eF, eA, eB, upd_upd] at hm
      clear eF eA eB
      have hpr := prB_ap (y := hdS (dgA A 4 TT UU) e0.1 e0.2.1) hpr
      refine W.eq (g2 := F0 m 95 ls []) rfl ?_
      refine lv_iinc (v := nI k - nI 1) (lv' := [(3, .int (nI k - nI 1)), (0, .ref x)]) hx hb d_M_growth_95 hl (k := 1) rfl (nI_dn k) (by decide) rfl (fun ls hl => ?_)
      refine lv_goto (tgt := 70) hx hb d_M_growth_98 (by decide) ?_
      refine ih (acc ++ [hdS (dgA A 4 TT UU) e0.1 e0.2.1]) _ H locs (by omega) (by simp; omega) ?_ hpr (by rw [List.length_append]; exact hm) ls (lv_sub hl [1, 0] rfl)
      rw [← hres, prS_s _ (by omega), hE, List.append_assoc]; rfl
set_option maxHeartbeats 4000000 in
set_option maxRecDepth 100000 in
/-- growth(i, n) -/
theorem c_M_growth (l : Launch) (g : gG) (H : Heap) (x : Nat) (ad : Nat → Nat) (F : Nat → Int32) (A : Nat → Nat → Int32) (B : Nat → Nat → Int64) (hm0 : mW g H x ad F A B) (cnt : Nat) (TT UU : Nat → List Nat) (hrep : repR A cnt TT UU) (hc : A 12 4 = nI cnt) (i n : Int32) : Met l y_M_growth (wC y_M_growth b_M_growth 4 (some .int)) (rmk 3 0 0 78) (pC g H [.ref x, .int i, .int n]) (qM g H x ad (fun v F1 A1 B1 => if n ≤ nI cnt ∧ 1 ≤ i ∧ i ≤ n then (v = some (.int (nI ((if (gdR true 7 0 n.toNatClampNeg i.toNatClampNeg true).2.2.2.2 then [] else [hdS (dgA A 4 TT UU) (gdR true 7 0 n.toNatClampNeg i.toNatClampNeg true).2.1 (gdR true 7 0 n.toNatClampNeg i.toNatClampNeg true).2.2.1]) ++ prS (dgA A 4 TT UU) (gdR true 7 0 n.toNatClampNeg i.toNatClampNeg true).1).length)) ∧ lo F1 (upd (upd (upd F 0 (nI 0)) 15 (nI 0)) 15 (nI ((if (gdR true 7 0 n.toNatClampNeg i.toNatClampNeg true).2.2.2.2 then [] else [hdS (dgA A 4 TT UU) (gdR true 7 0 n.toNatClampNeg i.toNatClampNeg true).2.1 (gdR true 7 0 n.toNatClampNeg i.toNatClampNeg true).2.2.1]) ++ prS (dgA A 4 TT UU) (gdR true 7 0 n.toNatClampNeg i.toNatClampNeg true).1).length)) ∧ lo A1 A ∧ prB B1 B ((if (gdR true 7 0 n.toNatClampNeg i.toNatClampNeg true).2.2.2.2 then [] else [hdS (dgA A 4 TT UU) (gdR true 7 0 n.toNatClampNeg i.toNatClampNeg true).2.1 (gdR true 7 0 n.toNatClampNeg i.toNatClampNeg true).2.2.1]) ++ prS (dgA A 4 TT UU) (gdR true 7 0 n.toNatClampNeg i.toNatClampNeg true).1)) else (v = some (.int (-1)) ∧ F1 = upd (upd F 0 (nI 0)) 15 (nI 0) ∧ A1 = A ∧ B1 = B))) 0 0 (mN x ad) := by
  refine mB (by decide) (Nat.le_of_ble_eq_true rfl) ?_
  intro p e s m below meth c ls C0 hH hZ hnm hl
  have C0 : cF g p s m _ meth c b_M_growth 4 "RegistryLogModel" (some .int) := C0
  obtain ⟨hx, hb, hml, hown, hts, hr, hlk, hK⟩ := id C0
  subst hH
  have hl : lv_has ls 4 [(0, .ref x), (1, .int i), (2, .int n)] := hl
  have hm := mS.rf hm0
  have hc120 : cnt ≤ 120 := hrep.1
  refine lv_aload_n hx hb d_M_growth_0 rfl (lv_at hl 0 rfl) ?_
  refine lv_iconst (v := nI 0) hx hb d_M_growth_1 (by decide) ?_
  refine m_put hx hb hts hown hK hm 0 (by decide) (hts (.fieldLink "RegistryLogModel" 108 "RegistryLogModel" "code" "I") (in_4 (List.mem_of_getElem? (i := 209) rfl) rfl)) rfl rfl (v := nI 0) rfl rfl rfl rfl d_M_growth_2 (fun H locs hm => ?_)
  refine lv_aload_n hx hb d_M_growth_5 rfl (lv_at hl 0 rfl) ?_
  refine lv_iconst (v := nI 0) hx hb d_M_growth_6 (by decide) ?_
  refine m_put hx hb hts hown hK hm 15 (by decide) (hts (.fieldLink "RegistryLogModel" 238 "RegistryLogModel" "proofSize" "I") (in_4 (List.mem_of_getElem? (i := 224) rfl) rfl)) rfl rfl (v := nI 0) rfl rfl rfl rfl d_M_growth_7 (fun H locs hm => ?_)
  refine lv_iload_n hx hb d_M_growth_10 rfl (lv_at hl 2 rfl) ?_
  refine lv_aload_n hx hb d_M_growth_11 rfl (lv_at hl 0 rfl) ?_
  refine m_get hx hb hts hown hK hm 12 (by decide) (hts (.fieldLink "RegistryLogModel" 40 "RegistryLogModel" "copied" "[I") (in_4 (List.mem_of_getElem? (i := 221) rfl) rfl)) rfl (v := .ref (ad 12)) rfl d_M_growth_12 ?_
  refine lv_iconst (v := nI 4) hx hb d_M_growth_15 (by decide) ?_
  refine m_ld hx hb hK hm 12 rfl 4 rfl (show 4 < 5 from by omega) d_M_growth_16 ?_
  refine W.eq (g2 := F0 m 17 ls [.int (nI cnt), .int n]) (by rw [hc]) ?_
  refine lv_icmp_gt (tgt := 30) hx hb d_M_growth_17 (by decide) (fun c17 => ?_) (fun c17 => ?_)
  · skip
    refine lv_iconst (v := (-1)) hx hb d_M_growth_30 (by decide) ?_
    exact W.iret hx hb hr (fun t9 ht hW => ⟨_, _, _, _, rfl, by rw [ht]; exact ⟨hm.1, hm.2.1, hm.2.2.1, fun _ h => by cases h⟩, by (try dsimp only); rw [if_neg (fun z => absurd z.1 (Int32.not_le.mpr c17))]; exact ⟨rfl, rfl, rfl, rfl⟩⟩) hm.2.2.2 d_M_growth_31 hlk
  · skip
    refine lv_iload_n hx hb d_M_growth_20 rfl (lv_at hl 1 rfl) ?_
    refine lv_iconst (v := nI 1) hx hb d_M_growth_21 (by decide) ?_
    refine lv_icmp_lt (tgt := 30) hx hb d_M_growth_22 (by decide) (fun c22 => ?_) (fun c22 => ?_)
    · skip
      refine lv_iconst (v := (-1)) hx hb d_M_growth_30 (by decide) ?_
      exact W.iret hx hb hr (fun t9 ht hW => ⟨_, _, _, _, rfl, by rw [ht]; exact ⟨hm.1, hm.2.1, hm.2.2.1, fun _ h => by cases h⟩, by (try dsimp only); rw [if_neg (fun z => absurd z.2.1 (Int32.not_le.mpr c22))]; exact ⟨rfl, rfl, rfl, rfl⟩⟩) hm.2.2.2 d_M_growth_31 hlk
    · skip
      refine lv_iload_n hx hb d_M_growth_25 rfl (lv_at hl 1 rfl) ?_
      refine lv_iload_n hx hb d_M_growth_26 rfl (lv_at hl 2 rfl) ?_
      refine lv_icmp_le (tgt := 32) hx hb d_M_growth_27 (by decide) (fun c27 => ?_) (fun c27 => ?_)
      · skip
        obtain ⟨i1, hi1, ei⟩ := nI_of (not_lt1 c22)
        subst ei
        obtain ⟨n1, hn1, en⟩ := nI_of (x := n) (fun z => absurd (Int32.lt_of_le_of_lt c27 z) (nI_pos hi1))
        subst en
        have hnc : n1 ≤ cnt := (nI_leI hn1 (by omega)).mp (Int32.not_lt.mp c17)
        have hn2 : n1 ≤ 120 := by omega
        have hi2 : i1 ≤ n1 := (nI_leI hi1 hn1).mp c27
        have hi3 : 1 ≤ i1 := (nI_leI (by decide) hi1).mp (Int32.not_lt.mp c22)
        simp only [if_pos (show nI n1 ≤ nI cnt ∧ 1 ≤ nI i1 ∧ nI i1 ≤ nI n1 from ⟨Int32.not_lt.mp c17, Int32.not_lt.mp c22, c27⟩), nI_clamp hn1, nI_clamp hi1]
        have hLc : ∀ e ∈ (gdR true 7 0 n1 i1 true).1, e.1 + e.2.1 ≤ cnt := fun e he => Nat.le_trans (gdR_in true 7 0 n1 i1 true (by omega) (fun z => hi3) e he) (by omega)
        have hRc : (gdR true 7 0 n1 i1 true).2.1 + (gdR true 7 0 n1 i1 true).2.2.1 ≤ cnt := Nat.le_trans (gdR_rest true 7 0 n1 i1 true (by omega) (fun _ => hi3)) (by omega)
        refine lv_aload_n hx hb d_M_growth_32 rfl (lv_at hl 0 rfl) ?_
        refine lv_iload_n hx hb d_M_growth_33 rfl (lv_at hl 1 rfl) ?_
        refine lv_iload_n hx hb d_M_growth_34 rfl (lv_at hl 2 rfl) ?_
        refine lv_iconst (v := nI 1) hx hb d_M_growth_35 (by decide) ?_
        refine aM (rV (As := [.int (nI i1), .int (nI n1), .int (nI 1)]) (rest := []) C0 (c_M_goDownG l g _ x ad _ _ _ hm.1 i1 n1 hn2 ⟨hi3, hi2⟩) (m_zK hZ hm) k_M_growth_36 rfl rfl ⟨Nat.le_of_ble_eq_true rfl, Nat.le_of_ble_eq_true rfl⟩ (m_recv hK hm) rfl hl.1 rfl (Nat.le_of_ble_eq_true rfl) d_M_growth_36 ⟨Nat.zero_le _, Nat.zero_le _⟩) hm (fun v F1 A1 B1 H locs hp hm => ?_)
        obtain ⟨rfl, eF, ⟨f1, f2, f3, eA, hgd⟩, eB⟩ := hp
        rw [eF, eA, eB] at hm
        clear eF eA eB
        have h7 := gdR_len true 7 0 n1 i1 true
        generalize (gdR true 7 0 n1 i1 true).1 = LL at *
        refine W.eq (g2 := F0 m 39 ls []) rfl ?_
        have hm : mS g s.heap H x ad (upd (goF (upd (upd F 0 (nI 0)) 15 (nI 0)) LL.length (gdR true 7 0 n1 i1 true).2.1 (gdR true 7 0 n1 i1 true).2.2.1 (gdR true 7 0 n1 i1 true).2.2.2.1 (gdR true 7 0 n1 i1 true).2.2.2.2) 15 (nI ([] : List Int64).length)) (goA A f1 f2 f3) B locs := by
          have e9 : ∀ z9, upd z9 15 (z9 15) = z9 := fun z9 => upd_id z9 15
          have := e9 (goF (upd (upd F 0 (nI 0)) 15 (nI 0)) LL.length (gdR true 7 0 n1 i1 true).2.1 (gdR true 7 0 n1 i1 true).2.2.1 (gdR true 7 0 n1 i1 true).2.2.2.1 (gdR true 7 0 n1 i1 true).2.2.2.2)
          rw [show (upd (goF (upd (upd F 0 (nI 0)) 15 (nI 0)) LL.length (gdR true 7 0 n1 i1 true).2.1 (gdR true 7 0 n1 i1 true).2.2.1 (gdR true 7 0 n1 i1 true).2.2.2.1 (gdR true 7 0 n1 i1 true).2.2.2.2) 15 (nI ([] : List Int64).length)) = (goF (upd (upd F 0 (nI 0)) 15 (nI 0)) LL.length (gdR true 7 0 n1 i1 true).2.1 (gdR true 7 0 n1 i1 true).2.2.1 (gdR true 7 0 n1 i1 true).2.2.2.1 (gdR true 7 0 n1 i1 true).2.2.2.2) from this]; exact hm
        refine lv_aload_n hx hb d_M_growth_39 rfl (lv_at hl 0 rfl) ?_
        refine m_get hx hb hts hown hK hm 45 (by decide) (hts (.fieldLink "RegistryLogModel" 230 "RegistryLogModel" "whole" "Z") (in_5 (List.mem_of_getElem? (i := 14) rfl) rfl)) rfl (v := .int (bI ((gdR true 7 0 n1 i1 true).2.2.2.2))) rfl d_M_growth_40 ?_
        refine z_ne (tgt := 63) (v := (gdR true 7 0 n1 i1 true).2.2.2.2) hx hb d_M_growth_43 (by decide) (fun c43 => ?_) (fun c43 => ?_)
        · skip
          refine lv_aload_n hx hb d_M_growth_63 rfl (lv_at hl 0 rfl) ?_
          refine m_get hx hb hts hown hK hm 41 (by decide) (hts (.fieldLink "RegistryLogModel" 218 "RegistryLogModel" "steps" "I") (in_5 (List.mem_of_getElem? (i := 10) rfl) rfl)) rfl (v := .int (nI LL.length)) rfl d_M_growth_64 ?_
          refine lv_iconst (v := nI 1) hx hb d_M_growth_67 (by decide) ?_
          refine lv_isub hx hb d_M_growth_68 ?_
          refine lv_istore_n (lv' := [(3, .int (nI LL.length - nI 1)), (0, .ref x), (1, .int (nI i1)), (2, .int (nI n1))]) hx hb d_M_growth_69 rfl hl (by decide) rfl (fun ls hl => ?_)
          simp only [c43, ↓reduceIte]
          exact lp_M_growth C0 hZ (B := B) (upd (upd F 0 (nI 0)) 15 (nI 0)) A (goF_lo _ _ _ _ _ _) (goA_lo _ _ _ _) cnt TT UU hrep LL hLc hgd ([] ++ prS (dgA A 4 TT UU) LL) LL.length ([] : List Int64) _ H locs (Nat.le_refl _) (by simp; omega) (by rw [List.take_length] <;> rfl) (prB_0 B) hm ls (lv_sub hl [1, 0] rfl)
        · skip
          refine lv_aload_n hx hb d_M_growth_46 rfl (lv_at hl 0 rfl) ?_
          refine lv_aload_n hx hb d_M_growth_47 rfl (lv_at hl 0 rfl) ?_
          refine lv_iconst (v := nI 4) hx hb d_M_growth_48 (by decide) ?_
          refine lv_aload_n hx hb d_M_growth_49 rfl (lv_at hl 0 rfl) ?_
          refine m_get hx hb hts hown hK hm 42 (by decide) (hts (.fieldLink "RegistryLogModel" 221 "RegistryLogModel" "restFrom" "I") (in_5 (List.mem_of_getElem? (i := 11) rfl) rfl)) rfl (v := .int (nI ((gdR true 7 0 n1 i1 true).2.1))) rfl d_M_growth_50 ?_
          refine lv_aload_n hx hb d_M_growth_53 rfl (lv_at hl 0 rfl) ?_
          refine m_get hx hb hts hown hK hm 43 (by decide) (hts (.fieldLink "RegistryLogModel" 224 "RegistryLogModel" "restMany" "I") (in_5 (List.mem_of_getElem? (i := 12) rfl) rfl)) rfl (v := .int (nI ((gdR true 7 0 n1 i1 true).2.2.1))) rfl d_M_growth_54 ?_
          refine aM (rV (As := [.int (nI 4), .int (nI ((gdR true 7 0 n1 i1 true).2.1)), .int (nI ((gdR true 7 0 n1 i1 true).2.2.1))]) (rest := [.ref x]) C0 (c_M_headOf l g _ x ad _ _ _ hm.1 4 cnt TT UU (by decide) hrep (gdR true 7 0 n1 i1 true).2.1 (gdR true 7 0 n1 i1 true).2.2.1 hRc) (m_zK hZ hm) k_M_growth_57 rfl rfl ⟨Nat.le_of_ble_eq_true rfl, Nat.le_of_ble_eq_true rfl⟩ (m_recv hK hm) rfl hl.1 rfl (Nat.le_of_ble_eq_true rfl) d_M_growth_57 ⟨Nat.zero_le _, Nat.zero_le _⟩) hm (fun v F1 A1 B1 H locs hp hm => ?_)
          obtain ⟨rfl, eF, eA, b1, b2, eB⟩ := hp
          rw [eF, eA, eB] at hm
          clear eF eA eB
          have hpr := prB_hd (b1 := b1) (b2 := b2) (prB_0 B)
          refine W.eq (g2 := F0 m 60 ls [.long (hdS (dgA A 4 TT UU) (gdR true 7 0 n1 i1 true).2.1 (gdR true 7 0 n1 i1 true).2.2.1), .ref x]) rfl ?_
          refine aM (rV (As := [.long (hdS (dgA A 4 TT UU) (gdR true 7 0 n1 i1 true).2.1 (gdR true 7 0 n1 i1 true).2.2.1)]) (rest := []) C0 (c_M_prove l g _ x ad _ _ _ hm.1 0 rfl (by omega) (hdS (dgA A 4 TT UU) (gdR true 7 0 n1 i1 true).2.1 (gdR true 7 0 n1 i1 true).2.2.1)) (m_zK hZ hm) k_M_growth_60 rfl rfl ⟨Nat.le_of_ble_eq_true rfl, Nat.le_of_ble_eq_true rfl⟩ (m_recv hK hm) rfl hl.1 rfl (Nat.le_of_ble_eq_true rfl) d_M_growth_60 ⟨Nat.zero_le _, Nat.zero_le _⟩) hm (fun v F1 A1 B1 H locs hp hm => ?_)
          obtain ⟨rfl, eF, eA, eB⟩ := hp
          rw [eF, eA, eB, upd_upd] at hm
          clear eF eA eB
          have hpr := prB_ap (y := (hdS (dgA A 4 TT UU) (gdR true 7 0 n1 i1 true).2.1 (gdR true 7 0 n1 i1 true).2.2.1)) hpr
          refine W.eq (g2 := F0 m 63 ls []) rfl ?_
          refine lv_aload_n hx hb d_M_growth_63 rfl (lv_at hl 0 rfl) ?_
          refine m_get hx hb hts hown hK hm 41 (by decide) (hts (.fieldLink "RegistryLogModel" 218 "RegistryLogModel" "steps" "I") (in_5 (List.mem_of_getElem? (i := 10) rfl) rfl)) rfl (v := .int (nI LL.length)) rfl d_M_growth_64 ?_
          refine lv_iconst (v := nI 1) hx hb d_M_growth_67 (by decide) ?_
          refine lv_isub hx hb d_M_growth_68 ?_
          refine lv_istore_n (lv' := [(3, .int (nI LL.length - nI 1)), (0, .ref x), (1, .int (nI i1)), (2, .int (nI n1))]) hx hb d_M_growth_69 rfl hl (by decide) rfl (fun ls hl => ?_)
          simp only [c43, if_neg (by decide : ¬ false = true)]
          exact lp_M_growth C0 hZ (B := B) (upd (upd F 0 (nI 0)) 15 (nI 0)) A (goF_lo _ _ _ _ _ _) (goA_lo _ _ _ _) cnt TT UU hrep LL hLc hgd ([hdS (dgA A 4 TT UU) (gdR true 7 0 n1 i1 true).2.1 (gdR true 7 0 n1 i1 true).2.2.1] ++ prS (dgA A 4 TT UU) LL) LL.length ([hdS (dgA A 4 TT UU) (gdR true 7 0 n1 i1 true).2.1 (gdR true 7 0 n1 i1 true).2.2.1] : List Int64) _ H locs (Nat.le_refl _) (by simp; omega) (by rw [List.take_length] <;> rfl) hpr hm ls (lv_sub hl [1, 0] rfl)
      · skip
        refine lv_iconst (v := (-1)) hx hb d_M_growth_30 (by decide) ?_
        exact W.iret hx hb hr (fun t9 ht hW => ⟨_, _, _, _, rfl, by rw [ht]; exact ⟨hm.1, hm.2.1, hm.2.2.1, fun _ h => by cases h⟩, by (try dsimp only); rw [if_neg (fun z => absurd z.2.2 c27)]; exact ⟨rfl, rfl, rfl, rfl⟩⟩) hm.2.2.2 d_M_growth_31 hlk
