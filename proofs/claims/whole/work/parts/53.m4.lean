/-- the array j holds the text t from o on -/
def txt (A : Nat → Nat → Int32) (j o : Nat) (t : List Nat) : Prop := ∀ k, k < t.length → A j (o + k) = nI (t.getD k 0)
def dgM (kd pe : Int32) (t u : List Nat) (fi fl su : Int32) : Int64 :=
  let h := mixS (mixT (mixS (mixS 0 kd.toInt64) pe.toInt64) t) 256
  if kd = 3 then mixT h u else mixS (mixS h fi.toInt64) (if kd = 0 then su else fl).toInt64
theorem k_M_digestOf_8 : kS "RegistryLogModel" 201 y_M_mix b_M_mix 6 (some .long) 2 := ⟨(in_5 (List.mem_of_getElem? (i := 222) rfl) rfl), (in_5 (List.mem_of_getElem? (i := 223) rfl) rfl), (in_1 (List.mem_of_getElem? (i := 22) rfl) rfl), (in_5 (List.mem_of_getElem? (i := 224) rfl) rfl), ⟨by decide, by decide, by decide +kernel⟩⟩
theorem k_M_digestOf_18 : kS "RegistryLogModel" 201 y_M_mix b_M_mix 6 (some .long) 2 := ⟨(in_5 (List.mem_of_getElem? (i := 222) rfl) rfl), (in_5 (List.mem_of_getElem? (i := 223) rfl) rfl), (in_1 (List.mem_of_getElem? (i := 22) rfl) rfl), (in_5 (List.mem_of_getElem? (i := 224) rfl) rfl), ⟨by decide, by decide, by decide +kernel⟩⟩
theorem k_M_digestOf_50 : kS "RegistryLogModel" 201 y_M_mix b_M_mix 6 (some .long) 2 := ⟨(in_5 (List.mem_of_getElem? (i := 222) rfl) rfl), (in_5 (List.mem_of_getElem? (i := 223) rfl) rfl), (in_1 (List.mem_of_getElem? (i := 22) rfl) rfl), (in_5 (List.mem_of_getElem? (i := 224) rfl) rfl), ⟨by decide, by decide, by decide +kernel⟩⟩
theorem k_M_digestOf_64 : kS "RegistryLogModel" 201 y_M_mix b_M_mix 6 (some .long) 2 := ⟨(in_5 (List.mem_of_getElem? (i := 222) rfl) rfl), (in_5 (List.mem_of_getElem? (i := 223) rfl) rfl), (in_1 (List.mem_of_getElem? (i := 22) rfl) rfl), (in_5 (List.mem_of_getElem? (i := 224) rfl) rfl), ⟨by decide, by decide, by decide +kernel⟩⟩
theorem k_M_digestOf_86 : kS "RegistryLogModel" 201 y_M_mix b_M_mix 6 (some .long) 2 := ⟨(in_5 (List.mem_of_getElem? (i := 222) rfl) rfl), (in_5 (List.mem_of_getElem? (i := 223) rfl) rfl), (in_1 (List.mem_of_getElem? (i := 22) rfl) rfl), (in_5 (List.mem_of_getElem? (i := 224) rfl) rfl), ⟨by decide, by decide, by decide +kernel⟩⟩
theorem k_M_digestOf_120 : kS "RegistryLogModel" 201 y_M_mix b_M_mix 6 (some .long) 2 := ⟨(in_5 (List.mem_of_getElem? (i := 222) rfl) rfl), (in_5 (List.mem_of_getElem? (i := 223) rfl) rfl), (in_1 (List.mem_of_getElem? (i := 22) rfl) rfl), (in_5 (List.mem_of_getElem? (i := 224) rfl) rfl), ⟨by decide, by decide, by decide +kernel⟩⟩
theorem k_M_digestOf_162 : kS "RegistryLogModel" 201 y_M_mix b_M_mix 6 (some .long) 2 := ⟨(in_5 (List.mem_of_getElem? (i := 222) rfl) rfl), (in_5 (List.mem_of_getElem? (i := 223) rfl) rfl), (in_1 (List.mem_of_getElem? (i := 22) rfl) rfl), (in_5 (List.mem_of_getElem? (i := 224) rfl) rfl), ⟨by decide, by decide, by decide +kernel⟩⟩
set_option maxHeartbeats 4000000 in
set_option maxRecDepth 100000 in
theorem lp_M_digestOf2 {p : Program} {l : Launch} {e : Env} {s : State} {m : MethodId} {args : Array Value} {below : List Frame} {meth : Method} {c : Code} {g : gG} (C0 : cF g p s m args meth c b_M_digestOf 6 "RegistryLogModel" (some .long)) (hZ : zK g s s.heap) {x : Nat} {ad : Nat → Nat} {F : Nat → Int32} {A : Nat → Nat → Int32} {B : Nat → Nat → Int64} (hm : mS g s.heap s.heap x ad F A B []) (w0 r0 : Nat) (hw : w0 < 5) (hr0 : r0 < 120) (t u : List Nat) (ht : t.length ≤ 10) (hu : u.length ≤ 10) (hs : A 7 r0 = nI t.length) (ho : A 8 r0 = nI u.length) (h9 : txt A 9 (10 * r0) t) (h10 : txt A 10 (10 * r0) u) (hk3 : A 3 r0 = 0 ∨ A 3 r0 = 1 ∨ A 3 r0 = 2 ∨ A 3 r0 = 3) (res : Int64) :
    ∀ (n i : Nat) (h : Int64), i ≤ u.length → u.length + 1 ≤ i + n → (if A 3 r0 = 3 then mixT h (u.drop i) else h) = res → ∀ (ls : Array Slot), lv_has ls 6 [(0, .ref x), (1, .int (nI w0)), (2, .int (nI r0)), (3, .long h), (5, .int (nI i))] → W p l e (rmk 1 0 0 25) s m args below meth c s.heap [] 0 0 (MQ below (qP s.heap (fun v => v = some (.long res))) args s 0 0 no_) (F0 m 127 ls []) := by
  obtain ⟨hx, hb, hml, hown, hts, hr, hlk, hK⟩ := id C0
  intro n
  induction n with
  | zero => intro i h h1 h2; exact absurd h2 (by omega)
  | succ n ih =>
    intro i h hi hin hres ls hl
    refine lv_iload hx hb d_M_digestOf_127 (lv_at hl 4 rfl) ?_
    refine lv_aload_n hx hb d_M_digestOf_129 rfl (lv_at hl 0 rfl) ?_
    refine m_get hx hb hts hown hK hm 8 (by decide) (hts (.fieldLink "RegistryLogModel" 28 "RegistryLogModel" "otherSize" "[I") (in_4 (List.mem_of_getElem? (i := 217) rfl) rfl)) rfl (v := .ref (ad 8)) rfl d_M_digestOf_130 ?_
    refine lv_iload_n hx hb d_M_digestOf_133 rfl (lv_at hl 2 rfl) ?_
    refine m_ld hx hb hK hm 8 rfl r0 rfl (show r0 < 120 from by omega) d_M_digestOf_134 ?_
    refine W.eq (g2 := F0 m 135 ls [.int (nI u.length), .int (nI i)]) (by rw [ho]) ?_
    refine n_ge (tgt := 172) (a := i) (b := u.length) hx hb d_M_digestOf_135 (by decide) (by omega) (by omega) (fun c135 => ?_) (fun c135 => ?_)
    · skip
      refine lv_lload_n hx hb d_M_digestOf_172 rfl (lv_at hl 3 rfl) ?_
      rw [show u.drop i = [] from List.drop_eq_nil_of_le (by omega)] at hres
      exact W.lret hx hb hr (fun t9 ht hW => ⟨_, rfl, by rw [← hres]; split <;> rfl, ht⟩) (fun q h => by cases h) d_M_digestOf_173 hlk
    · skip
      refine lv_aload_n hx hb d_M_digestOf_138 rfl (lv_at hl 0 rfl) ?_
      refine m_get hx hb hts hown hK hm 3 (by decide) (hts (.fieldLink "RegistryLogModel" 13 "RegistryLogModel" "kind" "[I") (in_4 (List.mem_of_getElem? (i := 212) rfl) rfl)) rfl (v := .ref (ad 3)) rfl d_M_digestOf_139 ?_
      refine lv_iload_n hx hb d_M_digestOf_142 rfl (lv_at hl 2 rfl) ?_
      refine m_ld hx hb hK hm 3 rfl r0 rfl (show r0 < 120 from by omega) d_M_digestOf_143 ?_
      refine lv_iconst (v := 3) hx hb d_M_digestOf_144 (by decide) ?_
      refine lv_icmp_ne (tgt := 172) hx hb d_M_digestOf_145 (by decide) (fun c145 => ?_) (fun c145 => ?_)
      · skip
        refine lv_lload_n hx hb d_M_digestOf_172 rfl (lv_at hl 3 rfl) ?_
        rw [if_neg c145] at hres
        exact W.lret hx hb hr (fun t9 ht hW => ⟨_, rfl, by rw [← hres], ht⟩) (fun q h => by cases h) d_M_digestOf_173 hlk
      · skip
        refine lv_lload_n hx hb d_M_digestOf_148 rfl (lv_at hl 3 rfl) ?_
        refine lv_aload_n hx hb d_M_digestOf_149 rfl (lv_at hl 0 rfl) ?_
        refine m_get hx hb hts hown hK hm 10 (by decide) (hts (.fieldLink "RegistryLogModel" 34 "RegistryLogModel" "otherLetters" "[I") (in_4 (List.mem_of_getElem? (i := 219) rfl) rfl)) rfl (v := .ref (ad 10)) rfl d_M_digestOf_150 ?_
        refine lv_bipush (v := nI 10) hx hb d_M_digestOf_153 (by decide) ?_
        refine lv_iload_n hx hb d_M_digestOf_155 rfl (lv_at hl 2 rfl) ?_
        refine n_imul hx hb d_M_digestOf_156 ?_
        refine lv_iload hx hb d_M_digestOf_157 (lv_at hl 4 rfl) ?_
        refine n_iadd hx hb d_M_digestOf_159 ?_
        refine m_ld hx hb hK hm 10 rfl ((10 * r0) + i) rfl (show (10 * r0) + i < 1200 from by omega) d_M_digestOf_160 ?_
        refine lv_i2l hx hb d_M_digestOf_161 rfl ?_
        refine aP (rS (As := [.long h, .long ((A 10 ((10 * r0) + i)).toInt64)]) (rest := []) C0 (c_M_mix l g _ h ((A 10 ((10 * r0) + i)).toInt64)) (m_zK hZ hm) k_M_digestOf_162 rfl rfl ⟨Nat.le_of_ble_eq_true rfl, Nat.le_of_ble_eq_true rfl⟩ rfl hl.1 rfl (Nat.le_of_ble_eq_true rfl) d_M_digestOf_162 ⟨Nat.zero_le _, Nat.zero_le _⟩) ?_
        intro v hv; subst hv
        refine W.eq (g2 := F0 m 165 ls [.long (mixS h ((A 10 ((10 * r0) + i)).toInt64))]) rfl ?_
        refine lv_topl (fun x_1 ex_1 => ?_)
        refine lv_lstore_n (lv' := [(3, .long x_1), (0, .ref x), (1, .int (nI w0)), (2, .int (nI r0)), (5, .int (nI i))]) hx hb d_M_digestOf_165 rfl hl (by decide) rfl (fun ls hl => ?_)
        refine n_inc (a := i) (lv' := [(5, .int (nI (i + 1))), (3, .long x_1), (0, .ref x), (1, .int (nI w0)), (2, .int (nI r0))]) hx hb d_M_digestOf_166 hl (k := 4) rfl (by decide) rfl (fun ls hl => ?_)
        refine lv_goto (tgt := 127) hx hb d_M_digestOf_169 (by decide) ?_
        have e8 : x_1 = mixS h (nI (u.getD i 0)).toInt64 := by rw [ex_1]; rw [h10 i c135]
        rw [e8] at hl
        rw [if_pos c145, dropT c135, mixT] at hres
        exact ih (i + 1) _ c135 (by omega) (by rw [if_pos c145]; exact hres) ls (lv_sub hl [2, 3, 4, 1, 0] rfl)
set_option maxHeartbeats 4000000 in
set_option maxRecDepth 100000 in
theorem lp_M_digestOf {p : Program} {l : Launch} {e : Env} {s : State} {m : MethodId} {args : Array Value} {below : List Frame} {meth : Method} {c : Code} {g : gG} (C0 : cF g p s m args meth c b_M_digestOf 6 "RegistryLogModel" (some .long)) (hZ : zK g s s.heap) {x : Nat} {ad : Nat → Nat} {F : Nat → Int32} {A : Nat → Nat → Int32} {B : Nat → Nat → Int64} (hm : mS g s.heap s.heap x ad F A B []) (w0 r0 : Nat) (hw : w0 < 5) (hr0 : r0 < 120) (t u : List Nat) (ht : t.length ≤ 10) (hu : u.length ≤ 10) (hs : A 7 r0 = nI t.length) (ho : A 8 r0 = nI u.length) (h9 : txt A 9 (10 * r0) t) (h10 : txt A 10 (10 * r0) u) (hk3 : A 3 r0 = 0 ∨ A 3 r0 = 1 ∨ A 3 r0 = 2 ∨ A 3 r0 = 3) (res : Int64) :
    ∀ (n i : Nat) (h : Int64), i ≤ t.length → t.length + 1 ≤ i + n → (let y := mixS (mixT h (t.drop i)) 256; if A 3 r0 = 3 then mixT y u else mixS (mixS y (A 5 r0).toInt64) (if A 3 r0 = 0 then A 11 (120 * w0 + r0) else A 6 r0).toInt64) = res → ∀ (ls : Array Slot), lv_has ls 6 [(0, .ref x), (1, .int (nI w0)), (2, .int (nI r0)), (3, .long h), (5, .int (nI i))] → W p l e (rmk 1 0 0 25) s m args below meth c s.heap [] 0 0 (MQ below (qP s.heap (fun v => v = some (.long res))) args s 0 0 no_) (F0 m 25 ls []) := by
  obtain ⟨hx, hb, hml, hown, hts, hr, hlk, hK⟩ := id C0
  intro n
  induction n with
  | zero => intro i h h1 h2; exact absurd h2 (by omega)
  | succ n ih =>
    intro i h hi hin hres ls hl
    dsimp only at hres
    refine lv_iload hx hb d_M_digestOf_25 (lv_at hl 4 rfl) ?_
    refine lv_aload_n hx hb d_M_digestOf_27 rfl (lv_at hl 0 rfl) ?_
    refine m_get hx hb hts hown hK hm 7 (by decide) (hts (.fieldLink "RegistryLogModel" 25 "RegistryLogModel" "size" "[I") (in_4 (List.mem_of_getElem? (i := 216) rfl) rfl)) rfl (v := .ref (ad 7)) rfl d_M_digestOf_28 ?_
    refine lv_iload_n hx hb d_M_digestOf_31 rfl (lv_at hl 2 rfl) ?_
    refine m_ld hx hb hK hm 7 rfl r0 rfl (show r0 < 120 from by omega) d_M_digestOf_32 ?_
    refine W.eq (g2 := F0 m 33 ls [.int (nI t.length), .int (nI i)]) (by rw [hs]) ?_
    refine n_ge (tgt := 60) (a := i) (b := t.length) hx hb d_M_digestOf_33 (by decide) (by omega) (by omega) (fun c33 => ?_) (fun c33 => ?_)
    · skip
      rw [show t.drop i = [] from List.drop_eq_nil_of_le (by omega), mixT] at hres
      refine lv_lload_n hx hb d_M_digestOf_60 rfl (lv_at hl 3 rfl) ?_
      refine lv_ldc2 (v := 256) hx hb hown (hts (.constantLong "RegistryLogModel" 205 256) (in_5 (List.mem_of_getElem? (i := 226) rfl) rfl)) d_M_digestOf_61 ?_
      refine aP (rS (As := [.long h, .long 256]) (rest := []) C0 (c_M_mix l g _ h 256) (m_zK hZ hm) k_M_digestOf_64 rfl rfl ⟨Nat.le_of_ble_eq_true rfl, Nat.le_of_ble_eq_true rfl⟩ rfl hl.1 rfl (Nat.le_of_ble_eq_true rfl) d_M_digestOf_64 ⟨Nat.zero_le _, Nat.zero_le _⟩) ?_
      intro v hv; subst hv
      refine W.eq (g2 := F0 m 67 ls [.long (mixS h 256)]) rfl ?_
      refine lv_lstore_n (lv' := [(3, .long (mixS h 256)), (0, .ref x), (1, .int (nI w0)), (2, .int (nI r0)), (5, .int (nI i))]) hx hb d_M_digestOf_67 rfl hl (by decide) rfl (fun ls hl => ?_)
      refine lv_aload_n hx hb d_M_digestOf_68 rfl (lv_at hl 1 rfl) ?_
      refine m_get hx hb hts hown hK hm 3 (by decide) (hts (.fieldLink "RegistryLogModel" 13 "RegistryLogModel" "kind" "[I") (in_4 (List.mem_of_getElem? (i := 212) rfl) rfl)) rfl (v := .ref (ad 3)) rfl d_M_digestOf_69 ?_
      refine lv_iload_n hx hb d_M_digestOf_72 rfl (lv_at hl 3 rfl) ?_
      refine m_ld hx hb hK hm 3 rfl r0 rfl (show r0 < 120 from by omega) d_M_digestOf_73 ?_
      refine lv_iconst (v := 3) hx hb d_M_digestOf_74 (by decide) ?_
      refine lv_icmp_ge (tgt := 124) hx hb d_M_digestOf_75 (by decide) (fun c75 => ?_) (fun c75 => ?_)
      · skip
        refine lv_iconst (v := nI 0) hx hb d_M_digestOf_124 (by decide) ?_
        refine lv_istore (lv' := [(5, .int (nI 0)), (3, .long (mixS h 256)), (0, .ref x), (1, .int (nI w0)), (2, .int (nI r0))]) hx hb d_M_digestOf_125 hl (by decide) rfl (fun ls hl => ?_)
        have k3 : A 3 r0 = 3 := by rcases hk3 with q | q | q | q; (rw [q] at c75; exact absurd c75 (by decide)); (rw [q] at c75; exact absurd c75 (by decide)); (rw [q] at c75; exact absurd c75 (by decide)); exact q
        rw [if_pos k3] at hres
        exact lp_M_digestOf2 C0 hZ hm w0 r0 hw hr0 t u ht hu hs ho h9 h10 hk3 _ (u.length + 1) 0 _ (Nat.zero_le _) (by omega) (by rw [if_pos k3]; exact hres) ls (lv_sub hl [2, 3, 4, 1, 0] rfl)
      · skip
        refine lv_lload_n hx hb d_M_digestOf_78 rfl (lv_at hl 0 rfl) ?_
        refine lv_aload_n hx hb d_M_digestOf_79 rfl (lv_at hl 1 rfl) ?_
        refine m_get hx hb hts hown hK hm 5 (by decide) (hts (.fieldLink "RegistryLogModel" 19 "RegistryLogModel" "first" "[I") (in_4 (List.mem_of_getElem? (i := 214) rfl) rfl)) rfl (v := .ref (ad 5)) rfl d_M_digestOf_80 ?_
        refine lv_iload_n hx hb d_M_digestOf_83 rfl (lv_at hl 3 rfl) ?_
        refine m_ld hx hb hK hm 5 rfl r0 rfl (show r0 < 120 from by omega) d_M_digestOf_84 ?_
        refine lv_i2l hx hb d_M_digestOf_85 rfl ?_
        refine aP (rS (As := [.long (mixS h 256), .long ((A 5 r0).toInt64)]) (rest := []) C0 (c_M_mix l g _ (mixS h 256) ((A 5 r0).toInt64)) (m_zK hZ hm) k_M_digestOf_86 rfl rfl ⟨Nat.le_of_ble_eq_true rfl, Nat.le_of_ble_eq_true rfl⟩ rfl hl.1 rfl (Nat.le_of_ble_eq_true rfl) d_M_digestOf_86 ⟨Nat.zero_le _, Nat.zero_le _⟩) ?_
        intro v hv; subst hv
        refine W.eq (g2 := F0 m 89 ls [.long (mixS (mixS h 256) ((A 5 r0).toInt64))]) rfl ?_
        refine lv_aload_n hx hb d_M_digestOf_89 rfl (lv_at hl 1 rfl) ?_
        refine m_get hx hb hts hown hK hm 3 (by decide) (hts (.fieldLink "RegistryLogModel" 13 "RegistryLogModel" "kind" "[I") (in_4 (List.mem_of_getElem? (i := 212) rfl) rfl)) rfl (v := .ref (ad 3)) rfl d_M_digestOf_90 ?_
        refine lv_iload_n hx hb d_M_digestOf_93 rfl (lv_at hl 3 rfl) ?_
        refine m_ld hx hb hK hm 3 rfl r0 rfl (show r0 < 120 from by omega) d_M_digestOf_94 ?_
        refine lv_if_ne (tgt := 113) hx hb d_M_digestOf_95 (by decide) (fun c95 => ?_) (fun c95 => ?_)
        · skip
          refine lv_aload_n hx hb d_M_digestOf_113 rfl (lv_at hl 1 rfl) ?_
          refine m_get hx hb hts hown hK hm 6 (by decide) (hts (.fieldLink "RegistryLogModel" 22 "RegistryLogModel" "flag" "[I") (in_4 (List.mem_of_getElem? (i := 215) rfl) rfl)) rfl (v := .ref (ad 6)) rfl d_M_digestOf_114 ?_
          refine lv_iload_n hx hb d_M_digestOf_117 rfl (lv_at hl 3 rfl) ?_
          refine m_ld hx hb hK hm 6 rfl r0 rfl (show r0 < 120 from by omega) d_M_digestOf_118 ?_
          refine lv_i2l hx hb d_M_digestOf_119 rfl ?_
          refine aP (rS (As := [.long (mixS (mixS h 256) ((A 5 r0).toInt64)), .long ((A 6 r0).toInt64)]) (rest := []) C0 (c_M_mix l g _ (mixS (mixS h 256) ((A 5 r0).toInt64)) ((A 6 r0).toInt64)) (m_zK hZ hm) k_M_digestOf_120 rfl rfl ⟨Nat.le_of_ble_eq_true rfl, Nat.le_of_ble_eq_true rfl⟩ rfl hl.1 rfl (Nat.le_of_ble_eq_true rfl) d_M_digestOf_120 ⟨Nat.zero_le _, Nat.zero_le _⟩) ?_
          intro v hv; subst hv
          refine W.eq (g2 := F0 m 123 ls [.long (mixS (mixS (mixS h 256) ((A 5 r0).toInt64)) ((A 6 r0).toInt64))]) rfl ?_
          refine lv_topl (fun x_1 ex_1 => ?_)
          refine lv_lstore_n (lv' := [(3, .long x_1), (0, .ref x), (1, .int (nI w0)), (2, .int (nI r0)), (5, .int (nI i))]) hx hb d_M_digestOf_123 rfl hl (by decide) rfl (fun ls hl => ?_)
          refine lv_iconst (v := nI 0) hx hb d_M_digestOf_124 (by decide) ?_
          refine lv_istore (lv' := [(5, .int (nI 0)), (3, .long x_1), (0, .ref x), (1, .int (nI w0)), (2, .int (nI r0))]) hx hb d_M_digestOf_125 hl (by decide) rfl (fun ls hl => ?_)
          subst ex_1
          have k3 : ¬ A 3 r0 = 3 := fun z => c75 (by rw [z]; decide)
          rw [if_neg k3, if_neg c95] at hres
          exact lp_M_digestOf2 C0 hZ hm w0 r0 hw hr0 t u ht hu hs ho h9 h10 hk3 _ (u.length + 1) 0 _ (Nat.zero_le _) (by omega) (by rw [if_neg k3]; exact hres) ls (lv_sub hl [2, 3, 4, 1, 0] rfl)
        · skip
          refine lv_aload_n hx hb d_M_digestOf_98 rfl (lv_at hl 1 rfl) ?_
          refine m_get hx hb hts hown hK hm 11 (by decide) (hts (.fieldLink "RegistryLogModel" 37 "RegistryLogModel" "sums" "[I") (in_4 (List.mem_of_getElem? (i := 220) rfl) rfl)) rfl (v := .ref (ad 11)) rfl d_M_digestOf_99 ?_
          refine lv_bipush (v := nI 120) hx hb d_M_digestOf_102 (by decide) ?_
          refine lv_iload_n hx hb d_M_digestOf_104 rfl (lv_at hl 2 rfl) ?_
          refine n_imul hx hb d_M_digestOf_105 ?_
          refine lv_iload_n hx hb d_M_digestOf_106 rfl (lv_at hl 3 rfl) ?_
          refine n_iadd hx hb d_M_digestOf_107 ?_
          refine m_ld hx hb hK hm 11 rfl ((120 * w0) + r0) rfl (show (120 * w0) + r0 < 600 from by omega) d_M_digestOf_108 ?_
          refine lv_i2l hx hb d_M_digestOf_109 rfl ?_
          refine lv_goto (tgt := 120) hx hb d_M_digestOf_110 (by decide) ?_
          refine aP (rS (As := [.long (mixS (mixS h 256) ((A 5 r0).toInt64)), .long ((A 11 ((120 * w0) + r0)).toInt64)]) (rest := []) C0 (c_M_mix l g _ (mixS (mixS h 256) ((A 5 r0).toInt64)) ((A 11 ((120 * w0) + r0)).toInt64)) (m_zK hZ hm) k_M_digestOf_120 rfl rfl ⟨Nat.le_of_ble_eq_true rfl, Nat.le_of_ble_eq_true rfl⟩ rfl hl.1 rfl (Nat.le_of_ble_eq_true rfl) d_M_digestOf_120 ⟨Nat.zero_le _, Nat.zero_le _⟩) ?_
          intro v hv; subst hv
          refine W.eq (g2 := F0 m 123 ls [.long (mixS (mixS (mixS h 256) ((A 5 r0).toInt64)) ((A 11 ((120 * w0) + r0)).toInt64))]) rfl ?_
          refine lv_topl (fun x_2 ex_2 => ?_)
          refine lv_lstore_n (lv' := [(3, .long x_2), (0, .ref x), (1, .int (nI w0)), (2, .int (nI r0)), (5, .int (nI i))]) hx hb d_M_digestOf_123 rfl hl (by decide) rfl (fun ls hl => ?_)
          refine lv_iconst (v := nI 0) hx hb d_M_digestOf_124 (by decide) ?_
          refine lv_istore (lv' := [(5, .int (nI 0)), (3, .long x_2), (0, .ref x), (1, .int (nI w0)), (2, .int (nI r0))]) hx hb d_M_digestOf_125 hl (by decide) rfl (fun ls hl => ?_)
          subst ex_2
          have k3 : ¬ A 3 r0 = 3 := fun z => c75 (by rw [z]; decide)
          rw [if_neg k3, if_pos c95] at hres
          exact lp_M_digestOf2 C0 hZ hm w0 r0 hw hr0 t u ht hu hs ho h9 h10 hk3 _ (u.length + 1) 0 _ (Nat.zero_le _) (by omega) (by rw [if_neg k3]; exact hres) ls (lv_sub hl [2, 3, 4, 1, 0] rfl)
    · skip
      refine lv_lload_n hx hb d_M_digestOf_36 rfl (lv_at hl 3 rfl) ?_
      refine lv_aload_n hx hb d_M_digestOf_37 rfl (lv_at hl 0 rfl) ?_
      refine m_get hx hb hts hown hK hm 9 (by decide) (hts (.fieldLink "RegistryLogModel" 31 "RegistryLogModel" "letters" "[I") (in_4 (List.mem_of_getElem? (i := 218) rfl) rfl)) rfl (v := .ref (ad 9)) rfl d_M_digestOf_38 ?_
      refine lv_bipush (v := nI 10) hx hb d_M_digestOf_41 (by decide) ?_
      refine lv_iload_n hx hb d_M_digestOf_43 rfl (lv_at hl 2 rfl) ?_
      refine n_imul hx hb d_M_digestOf_44 ?_
      refine lv_iload hx hb d_M_digestOf_45 (lv_at hl 4 rfl) ?_
      refine n_iadd hx hb d_M_digestOf_47 ?_
      refine m_ld hx hb hK hm 9 rfl ((10 * r0) + i) rfl (show (10 * r0) + i < 1200 from by omega) d_M_digestOf_48 ?_
      refine lv_i2l hx hb d_M_digestOf_49 rfl ?_
      refine aP (rS (As := [.long h, .long ((A 9 ((10 * r0) + i)).toInt64)]) (rest := []) C0 (c_M_mix l g _ h ((A 9 ((10 * r0) + i)).toInt64)) (m_zK hZ hm) k_M_digestOf_50 rfl rfl ⟨Nat.le_of_ble_eq_true rfl, Nat.le_of_ble_eq_true rfl⟩ rfl hl.1 rfl (Nat.le_of_ble_eq_true rfl) d_M_digestOf_50 ⟨Nat.zero_le _, Nat.zero_le _⟩) ?_
      intro v hv; subst hv
      refine W.eq (g2 := F0 m 53 ls [.long (mixS h ((A 9 ((10 * r0) + i)).toInt64))]) rfl ?_
      refine lv_topl (fun x_3 ex_3 => ?_)
      refine lv_lstore_n (lv' := [(3, .long x_3), (0, .ref x), (1, .int (nI w0)), (2, .int (nI r0)), (5, .int (nI i))]) hx hb d_M_digestOf_53 rfl hl (by decide) rfl (fun ls hl => ?_)
      refine n_inc (a := i) (lv' := [(5, .int (nI (i + 1))), (3, .long x_3), (0, .ref x), (1, .int (nI w0)), (2, .int (nI r0))]) hx hb d_M_digestOf_54 hl (k := 4) rfl (by decide) rfl (fun ls hl => ?_)
      refine lv_goto (tgt := 25) hx hb d_M_digestOf_57 (by decide) ?_
      have e8 : x_3 = mixS h (nI (t.getD i 0)).toInt64 := by rw [ex_3]; rw [h9 i c33]
      rw [e8] at hl
      rw [dropT c33, mixT] at hres
      exact ih (i + 1) _ c33 (by omega) hres ls (lv_sub hl [2, 3, 4, 1, 0] rfl)
set_option maxHeartbeats 4000000 in
set_option maxRecDepth 100000 in
/-- digestOf(who, i) -/
theorem c_M_digestOf (l : Launch) (g : gG) (H : Heap) (x : Nat) (ad : Nat → Nat) (F : Nat → Int32) (A : Nat → Nat → Int32) (B : Nat → Nat → Int64) (hm0 : mW g H x ad F A B) (w0 r0 : Nat) (hw : w0 < 5) (hr0 : r0 < 120) (t u : List Nat) (ht : t.length ≤ 10) (hu : u.length ≤ 10) (hs : A 7 r0 = nI t.length) (ho : A 8 r0 = nI u.length) (h9 : txt A 9 (10 * r0) t) (h10 : txt A 10 (10 * r0) u) (hk3 : A 3 r0 = 0 ∨ A 3 r0 = 1 ∨ A 3 r0 = 2 ∨ A 3 r0 = 3) : Met l y_M_digestOf (wC y_M_digestOf b_M_digestOf 6 (some .long)) (rmk 1 0 0 25) (pC g H [.ref x, .int (nI w0), .int (nI r0)]) (qP H (fun v => v = some (.long (dgM (A 3 r0) (A 4 r0) t u (A 5 r0) (A 6 r0) (A 11 (120 * w0 + r0)))))) 0 0 no_ := by
  refine mB (by decide) (Nat.le_of_ble_eq_true rfl) ?_
  intro p e s m below meth c ls C0 hH hZ hnm hl
  have C0 : cF g p s m _ meth c b_M_digestOf 6 "RegistryLogModel" (some .long) := C0
  obtain ⟨hx, hb, hml, hown, hts, hr, hlk, hK⟩ := id C0
  subst hH
  have hl : lv_has ls 6 [(0, .ref x), (1, .int (nI w0)), (2, .int (nI r0))] := hl
  have hm := mS.rf hm0
  refine lv_lconst (v := 0) hx hb d_M_digestOf_0 (by decide) ?_
  refine lv_aload_n hx hb d_M_digestOf_1 rfl (lv_at hl 0 rfl) ?_
  refine m_get hx hb hts hown hK hm 3 (by decide) (hts (.fieldLink "RegistryLogModel" 13 "RegistryLogModel" "kind" "[I") (in_4 (List.mem_of_getElem? (i := 212) rfl) rfl)) rfl (v := .ref (ad 3)) rfl d_M_digestOf_2 ?_
  refine lv_iload_n hx hb d_M_digestOf_5 rfl (lv_at hl 2 rfl) ?_
  refine m_ld hx hb hK hm 3 rfl r0 rfl (show r0 < 120 from by omega) d_M_digestOf_6 ?_
  refine lv_i2l hx hb d_M_digestOf_7 rfl ?_
  refine aP (rS (As := [.long 0, .long ((A 3 r0).toInt64)]) (rest := []) C0 (c_M_mix l g _ 0 ((A 3 r0).toInt64)) (m_zK hZ hm) k_M_digestOf_8 rfl rfl ⟨Nat.le_of_ble_eq_true rfl, Nat.le_of_ble_eq_true rfl⟩ rfl hl.1 rfl (Nat.le_of_ble_eq_true rfl) d_M_digestOf_8 ⟨Nat.zero_le _, Nat.zero_le _⟩) ?_
  intro v hv; subst hv
  refine W.eq (g2 := F0 m 11 ls [.long (mixS 0 ((A 3 r0).toInt64))]) rfl ?_
  refine lv_aload_n hx hb d_M_digestOf_11 rfl (lv_at hl 0 rfl) ?_
  refine m_get hx hb hts hown hK hm 4 (by decide) (hts (.fieldLink "RegistryLogModel" 16 "RegistryLogModel" "person" "[I") (in_4 (List.mem_of_getElem? (i := 213) rfl) rfl)) rfl (v := .ref (ad 4)) rfl d_M_digestOf_12 ?_
  refine lv_iload_n hx hb d_M_digestOf_15 rfl (lv_at hl 2 rfl) ?_
  refine m_ld hx hb hK hm 4 rfl r0 rfl (show r0 < 120 from by omega) d_M_digestOf_16 ?_
  refine lv_i2l hx hb d_M_digestOf_17 rfl ?_
  refine aP (rS (As := [.long (mixS 0 ((A 3 r0).toInt64)), .long ((A 4 r0).toInt64)]) (rest := []) C0 (c_M_mix l g _ (mixS 0 ((A 3 r0).toInt64)) ((A 4 r0).toInt64)) (m_zK hZ hm) k_M_digestOf_18 rfl rfl ⟨Nat.le_of_ble_eq_true rfl, Nat.le_of_ble_eq_true rfl⟩ rfl hl.1 rfl (Nat.le_of_ble_eq_true rfl) d_M_digestOf_18 ⟨Nat.zero_le _, Nat.zero_le _⟩) ?_
  intro v hv; subst hv
  refine W.eq (g2 := F0 m 21 ls [.long (mixS (mixS 0 ((A 3 r0).toInt64)) ((A 4 r0).toInt64))]) rfl ?_
  refine lv_topl (fun x_1 ex_1 => ?_)
  refine lv_lstore_n (lv' := [(3, .long x_1), (0, .ref x), (1, .int (nI w0)), (2, .int (nI r0))]) hx hb d_M_digestOf_21 rfl hl (by decide) rfl (fun ls hl => ?_)
  refine lv_iconst (v := nI 0) hx hb d_M_digestOf_22 (by decide) ?_
  refine lv_istore (lv' := [(5, .int (nI 0)), (3, .long x_1), (0, .ref x), (1, .int (nI w0)), (2, .int (nI r0))]) hx hb d_M_digestOf_23 hl (by decide) rfl (fun ls hl => ?_)
  subst ex_1
  exact lp_M_digestOf C0 hZ hm w0 r0 hw hr0 t u ht hu hs ho h9 h10 hk3 _ (t.length + 1) 0 _ (Nat.zero_le _) (by omega) rfl ls (lv_sub hl [2, 3, 4, 1, 0] rfl)
