def kv : Nat → Nat
  | 0 => 0
  | c + 1 => 2 ^ c
theorem kv_div : ∀ c, 2 ^ c / 2 = kv c
  | 0 => rfl
  | c + 1 => by rw [Nat.pow_succ, Nat.mul_div_cancel _ (by decide)]; rfl
theorem h_bit : ∀ n, n < 121 → ∀ c, c < 7 → ((nI n &&& nI (2 ^ c)) = 0 ∧ n % 2 ^ (c + 1) = n % 2 ^ c) ∨ (¬ (nI n &&& nI (2 ^ c)) = 0 ∧ n % 2 ^ (c + 1) = 2 ^ c + n % 2 ^ c) := by decide +kernel
theorem fp_c : ∀ n, n < 121 → ∀ c, c < 7 → 2 ^ c < n → n < 2 * 2 ^ c → fpS n = 2 ^ c := by decide +kernel
/-- what the parts and the rest say of the HEAD -/
def hdI (dd : Nat → Int64) (fr n0 : Nat) (PL : List Int64) (r : Nat) : Prop := (r = 0 → (n0 = 0 ∧ PL = []) ∨ ∃ P z, PL = P ++ [z] ∧ hdS dd fr n0 = P.foldr joinS z) ∧ (0 < r → hdS dd fr n0 = PL.foldr joinS (hdS dd (fr + (n0 - r)) r))
theorem hdI_set {dd : Nat → Int64} {fr n0 : Nat} {PL : List Int64} {c : Nat} (hc : c < 7) (hn : n0 < 121) (hle : 2 ^ c + n0 % 2 ^ c ≤ n0) (h : hdI dd fr n0 PL (2 ^ c + n0 % 2 ^ c)) : hdI dd fr n0 (PL ++ [hdS dd (fr + (n0 - (2 ^ c + n0 % 2 ^ c))) (2 ^ c)]) (n0 % 2 ^ c) := by
  have hp : 1 ≤ 2 ^ c := Nat.one_le_two_pow
  have h2 := h.2 (by omega)
  refine ⟨fun hr => Or.inr ⟨PL, _, rfl, ?_⟩, fun hr => ?_⟩
  · rw [hr, Nat.add_zero] at h2 ⊢
    exact h2
  · have hlt : n0 % 2 ^ c < 2 ^ c := Nat.mod_lt _ (by omega)
    rw [h2, List.foldr_append, hdS_n _ _ (by omega), fp_c (2 ^ c + n0 % 2 ^ c) (by omega) c hc (by omega) (by omega), Nat.add_sub_cancel_left, show fr + (n0 - (2 ^ c + n0 % 2 ^ c)) + 2 ^ c = fr + (n0 - n0 % 2 ^ c) by omega]
    rfl
set_option maxHeartbeats 4000000 in
set_option maxRecDepth 100000 in
theorem lp_M_head4 {p : Program} {l : Launch} {e : Env} {s : State} {m : MethodId} {args : Array Value} {below : List Frame} {meth : Method} {c : Code} {g : gG} {Q : State → Prop} (C0 : cF g p s m args meth c b_M_headOf 9 "RegistryLogModel" (some .long)) (hZ : zK g s s.heap) {x : Nat} {ad : Nat → Nat} {F : Nat → Int32} {A : Nat → Nat → Int32} {B : Nat → Nat → Int64} (w0 cnt : Nat) (TT UU : Nat → List Nat) (hw : w0 < 5) (hrep : repR A cnt TT UU) (fr n0 : Nat) (hfn : fr + n0 ≤ cnt) (K : ∀ (PL : List Int64) (b1 b2 : Nat → Int64) (H : Heap) (locs : List Loc), PL.length ≤ 7 → hdI (dgA A w0 TT UU) fr n0 PL 0 → (∀ q, q < PL.length → b2 q = PL.getD q 0) → mS g s.heap H x ad F A (hdB B b1 b2) locs → ∀ (ls : Array Slot), lv_has ls 9 [(0, .ref x), (1, .int (nI w0)), (2, .int (nI fr)), (3, .int (nI n0)), (4, .int (nI PL.length))] → W p l e (rmk 2 0 0 50) s m args below meth c H locs 0 0 Q (F0 m 157 ls [])) :
    ∀ (c0 : Nat) (PL : List Int64) (b1 b2 : Nat → Int64) (H : Heap) (locs : List Loc), PL.length + c0 ≤ 7 → hdI (dgA A w0 TT UU) fr n0 PL (n0 % 2 ^ c0) → (∀ q, q < PL.length → b2 q = PL.getD q 0) → mS g s.heap H x ad F A (hdB B b1 b2) locs → ∀ (ls : Array Slot), lv_has ls 9 [(0, .ref x), (1, .int (nI w0)), (2, .int (nI fr)), (3, .int (nI n0)), (4, .int (nI PL.length)), (5, .int (nI (fr + (n0 - n0 % 2 ^ c0)))), (6, .int (nI (kv c0)))] → W p l e (rmk 2 0 0 50) s m args below meth c H locs 0 0 Q (F0 m 10 ls []) := by
  obtain ⟨hx, hb, hml, hown, hts, hr, hlk, hK⟩ := id C0
  obtain ⟨hc120, hrow⟩ := id hrep
  intro c0
  induction c0 with
  | zero =>
    intro PL b1 b2 H locs hlen hJ hq hm ls hl
    refine lv_iload hx hb d_M_headOf_10 (lv_at hl 6 rfl) ?_
    refine lv_if_le (tgt := 157) hx hb d_M_headOf_12 (by decide) (fun c12 => ?_) (fun c12 => ?_)
    · skip
      rw [show n0 % 2 ^ 0 = 0 from Nat.mod_one n0] at hJ
      exact K PL b1 b2 H locs (by omega) hJ hq hm ls (lv_sub hl [0, 1, 2, 3, 4] rfl)
    · skip
      first | exact absurd c12 (by decide) | exact absurd (by decide) c12
  | succ c0 ih =>
    intro PL b1 b2 H locs hlen hJ hq hm ls hl
    have hp1 : 1 ≤ 2 ^ c0 := Nat.one_le_two_pow
    have hp2 : 2 ^ c0 ≤ 2 ^ 6 := Nat.pow_le_pow_right (by decide) (by omega)
    have hmod : n0 % 2 ^ c0 ≤ n0 := Nat.mod_le _ _
    have hl : lv_has ls 9 [(0, .ref x), (1, .int (nI w0)), (2, .int (nI fr)), (3, .int (nI n0)), (4, .int (nI PL.length)), (5, .int (nI (fr + (n0 - n0 % 2 ^ (c0 + 1))))), (6, .int (nI (2 ^ c0)))] := hl
    refine lv_iload hx hb d_M_headOf_10 (lv_at hl 6 rfl) ?_
    refine lv_if_le (tgt := 157) hx hb d_M_headOf_12 (by decide) (fun c12 => ?_) (fun c12 => ?_)
    · skip
      exact absurd c12 (nI_nle hp1 (by omega))
    · skip
      refine lv_iload_n hx hb d_M_headOf_15 rfl (lv_at hl 3 rfl) ?_
      refine lv_iload hx hb d_M_headOf_16 (lv_at hl 6 rfl) ?_
      refine lv_iand hx hb d_M_headOf_18 ?_
      refine lv_if_ne (tgt := 25) hx hb d_M_headOf_19 (by decide) (fun c19 => ?_) (fun c19 => ?_)
      · skip
        obtain ⟨-, hb9⟩ : ¬ (nI n0 &&& nI (2 ^ c0)) = 0 ∧ n0 % 2 ^ (c0 + 1) = 2 ^ c0 + n0 % 2 ^ c0 := (h_bit n0 (by omega) c0 (by omega)).resolve_left (fun z => c19 z.1)
        have hmod2 : n0 % 2 ^ (c0 + 1) ≤ n0 := Nat.mod_le _ _
        rw [hb9] at hl hJ hmod2
        refine lv_iconst (v := nI 0) hx hb d_M_headOf_25 (by decide) ?_
        refine lv_istore (lv' := [(7, .int (nI 0)), (0, .ref x), (1, .int (nI w0)), (2, .int (nI fr)), (3, .int (nI n0)), (4, .int (nI PL.length)), (5, .int (nI (fr + (n0 - (2 ^ c0 + n0 % 2 ^ c0))))), (6, .int (nI (2 ^ c0)))]) hx hb d_M_headOf_26 hl (by decide) rfl (fun ls hl => ?_)
        refine lp_M_head1 C0 hZ w0 cnt TT UU hw hrep fr n0 PL.length (fr + (n0 - (2 ^ c0 + n0 % 2 ^ c0))) (2 ^ c0) b2 (by omega) (by omega) (fun b1 b3 H locs hd hm he ls hl => ?_) (2 ^ c0 + 1) 0 b1 b2 H locs (Nat.zero_le _) (by omega) (fun q h => absurd h (by omega)) rfl hm ls (lv_sub hl [1, 2, 3, 4, 5, 6, 7, 0] rfl)
        rw [he] at hm
        refine lv_iload hx hb d_M_headOf_58 (lv_at hl 6 rfl) ?_
        refine lv_istore (lv' := [(7, .int (nI (2 ^ c0))), (0, .ref x), (1, .int (nI w0)), (2, .int (nI fr)), (3, .int (nI n0)), (4, .int (nI PL.length)), (5, .int (nI (fr + (n0 - (2 ^ c0 + n0 % 2 ^ c0))))), (6, .int (nI (2 ^ c0)))]) hx hb d_M_headOf_60 hl (by decide) rfl (fun ls hl => ?_)
        refine lp_M_head3 C0 hZ w0 cnt TT UU hw hrep fr n0 PL.length (fr + (n0 - (2 ^ c0 + n0 % 2 ^ c0))) (2 ^ c0) c0 b2 (by omega) (fun b1 b4 H locs hd hm he ls hl => ?_) c0 0 b1 b2 H locs (by omega) (fun q h => by rw [hd q h, Nat.pow_zero, Nat.mul_one, hdS_1]) rfl hm ls (lv_sub hl [1, 2, 3, 4, 5, 6, 7, 0] rfl)
        rw [he] at hm
        refine lv_aload_n hx hb d_M_headOf_125 rfl (lv_at hl 0 rfl) ?_
        refine m_get hx hb hts hown hK hm 37 (by decide) (hts (.fieldLink "RegistryLogModel" 95 "RegistryLogModel" "parts" "[J") (in_5 (List.mem_of_getElem? (i := 6) rfl) rfl)) rfl (v := .ref (ad 37)) rfl d_M_headOf_126 ?_
        refine lv_iload hx hb d_M_headOf_129 (lv_at hl 4 rfl) ?_
        refine lv_aload_n hx hb d_M_headOf_131 rfl (lv_at hl 0 rfl) ?_
        refine m_get hx hb hts hown hK hm 36 (by decide) (hts (.fieldLink "RegistryLogModel" 92 "RegistryLogModel" "tree" "[J") (in_5 (List.mem_of_getElem? (i := 5) rfl) rfl)) rfl (v := .ref (ad 36)) rfl d_M_headOf_132 ?_
        refine lv_iconst (v := nI 0) hx hb d_M_headOf_135 (by decide) ?_
        refine m_ldl hx hb hK hm 36 rfl 0 rfl (show 0 < 128 from by omega) d_M_headOf_136 ?_
        refine W.eq (g2 := F0 m 137 ls [.long (b1 0), .int (nI PL.length), .ref (ad 37)]) rfl ?_
        refine m_stl hx hb hK hm 37 rfl PL.length rfl (show PL.length < 8 from by omega) d_M_headOf_137 (fun H locs hm => ?_)
        have hm : mS g s.heap H x ad F A (updB (hdB B b1 b2) 37 (vp_updL (b2) PL.length (b1 0))) locs := hm
        refine n_inc (a := PL.length) (lv' := [(4, .int (nI (PL.length + 1))), (0, .ref x), (1, .int (nI w0)), (2, .int (nI fr)), (3, .int (nI n0)), (5, .int (nI (fr + (n0 - (2 ^ c0 + n0 % 2 ^ c0))))), (6, .int (nI (2 ^ c0)))]) hx hb d_M_headOf_138 hl (k := 4) rfl (by decide) rfl (fun ls hl => ?_)
        refine lv_iload hx hb d_M_headOf_141 (lv_at hl 5 rfl) ?_
        refine lv_iload hx hb d_M_headOf_143 (lv_at hl 6 rfl) ?_
        refine n_iadd hx hb d_M_headOf_145 ?_
        refine lv_istore (lv' := [(5, .int (nI ((fr + (n0 - (2 ^ c0 + n0 % 2 ^ c0))) + (2 ^ c0)))), (4, .int (nI (PL.length + 1))), (0, .ref x), (1, .int (nI w0)), (2, .int (nI fr)), (3, .int (nI n0)), (6, .int (nI (2 ^ c0)))]) hx hb d_M_headOf_146 hl (by decide) rfl (fun ls hl => ?_)
        refine lv_iload hx hb d_M_headOf_148 (lv_at hl 6 rfl) ?_
        refine lv_iconst (v := nI 2) hx hb d_M_headOf_150 (by decide) ?_
        refine lv_idiv hx hb d_M_headOf_151 (by decide) ?_
        refine W.eq (g2 := F0 m 152 ls [.int (nI (kv c0))]) (by rw [show nI ((2 ^ c0)) / nI 2 = nI (kv c0) from by rw [pk_div (by omega) (by decide) (by decide), kv_div]]) ?_
        refine lv_istore (lv' := [(6, .int (nI (kv c0))), (5, .int (nI ((fr + (n0 - (2 ^ c0 + n0 % 2 ^ c0))) + (2 ^ c0)))), (4, .int (nI (PL.length + 1))), (0, .ref x), (1, .int (nI w0)), (2, .int (nI fr)), (3, .int (nI n0))]) hx hb d_M_headOf_152 hl (by decide) rfl (fun ls hl => ?_)
        refine lv_goto (tgt := 10) hx hb d_M_headOf_154 (by decide) ?_
        rw [hdB_37] at hm
        rw [show fr + (n0 - (2 ^ c0 + n0 % 2 ^ c0)) + 2 ^ c0 = fr + (n0 - n0 % 2 ^ c0) by omega] at hl
        refine ih (PL ++ [b1 0]) _ _ H locs (by rw [List.length_append]; simp only [List.length_cons, List.length_nil]; omega) (by rw [hd]; exact hdI_set (by omega) (by omega) (by omega) hJ) (fun q h9 => ?_) hm ls (by rw [List.length_append]; exact lv_sub hl [3, 4, 5, 6, 2, 1, 0] rfl)
        rw [List.length_append] at h9; simp only [List.length_cons, List.length_nil] at h9
        by_cases z : q = PL.length
        · subst z; rw [uL_s, List.getD_eq_getElem?_getD, List.getElem?_append_right (Nat.le_refl _), Nat.sub_self]; rfl
        · rw [uL_n z, List.getD_eq_getElem?_getD, List.getElem?_append_left (by omega), ← List.getD_eq_getElem?_getD]; exact hq q (by omega)
      · skip
        obtain ⟨-, hb9⟩ : (nI n0 &&& nI (2 ^ c0)) = 0 ∧ n0 % 2 ^ (c0 + 1) = n0 % 2 ^ c0 := (h_bit n0 (by omega) c0 (by omega)).resolve_right (fun z => z.1 c19)
        rw [hb9] at hl hJ
        refine lv_goto (tgt := 148) hx hb d_M_headOf_22 (by decide) ?_
        refine lv_iload hx hb d_M_headOf_148 (lv_at hl 6 rfl) ?_
        refine lv_iconst (v := nI 2) hx hb d_M_headOf_150 (by decide) ?_
        refine lv_idiv hx hb d_M_headOf_151 (by decide) ?_
        refine W.eq (g2 := F0 m 152 ls [.int (nI (kv c0))]) (by rw [show nI ((2 ^ c0)) / nI 2 = nI (kv c0) from by rw [pk_div (by omega) (by decide) (by decide), kv_div]]) ?_
        refine lv_istore (lv' := [(6, .int (nI (kv c0))), (0, .ref x), (1, .int (nI w0)), (2, .int (nI fr)), (3, .int (nI n0)), (4, .int (nI PL.length)), (5, .int (nI (fr + (n0 - n0 % 2 ^ c0))))]) hx hb d_M_headOf_152 hl (by decide) rfl (fun ls hl => ?_)
        refine lv_goto (tgt := 10) hx hb d_M_headOf_154 (by decide) ?_
        exact ih PL b1 b2 H locs (by omega) hJ hq hm ls (lv_sub hl [1, 2, 3, 4, 5, 6, 0] rfl)
set_option maxHeartbeats 4000000 in
set_option maxRecDepth 100000 in
theorem lp_M_head5 {p : Program} {l : Launch} {e : Env} {s : State} {m : MethodId} {args : Array Value} {below : List Frame} {meth : Method} {c : Code} {g : gG} (C0 : cF g p s m args meth c b_M_headOf 9 "RegistryLogModel" (some .long)) (hZ : zK g s s.heap) {x : Nat} {ad : Nat → Nat} {F : Nat → Int32} {A : Nat → Nat → Int32} {B : Nat → Nat → Int64} (w0 fr n0 : Nat) (TT UU : Nat → List Nat) (PL : List Int64) (b1 b2 : Nat → Int64) {H : Heap} {locs : List Loc} (hm : mS g s.heap H x ad F A (hdB B b1 b2) locs) (hP7 : PL.length ≤ 7) (hq : ∀ q, q < PL.length → b2 q = PL.getD q 0) :
    ∀ (i : Nat) (h : Int64), i ≤ PL.length → (PL.take i).foldr joinS h = hdS (dgA A w0 TT UU) fr n0 → ∀ (ls : Array Slot), lv_has ls 9 [(0, .ref x), (4, .int (nI PL.length)), (6, .long h), (8, .int (nI i - nI 1))] → W p l e (rmk 2 0 0 50) s m args below meth c H locs 0 0 (MQ below (qM g s.heap x ad (fun v F1 A1 B1 => v = some (.long (hdS (dgA A w0 TT UU) fr n0)) ∧ F1 = F ∧ A1 = A ∧ ∃ b1 b2, B1 = hdB B b1 b2)) args s 0 0 (mN x ad)) (F0 m 181 ls []) := by
  obtain ⟨hx, hb, hml, hown, hts, hr, hlk, hK⟩ := id C0
  intro i
  induction i with
  | zero =>
    intro h hi hres ls hl
    refine lv_iload hx hb d_M_headOf_181 (lv_at hl 3 rfl) ?_
    refine lv_if_lt (tgt := 206) hx hb d_M_headOf_183 (by decide) (fun c183 => ?_) (fun c183 => ?_)
    · skip
      refine lv_lload hx hb d_M_headOf_206 (lv_at hl 2 rfl) ?_
      rw [List.take_zero] at hres
      exact W.lret hx hb hr (fun t9 ht hW => ⟨_, _, _, _, rfl, by rw [ht]; exact ⟨hm.1, hm.2.1, hm.2.2.1, fun _ h => by cases h⟩, ⟨by rw [← hres]; rfl, rfl, rfl, _, _, rfl⟩⟩) hm.2.2.2 d_M_headOf_208 hlk
    · skip
      exact absurd (show nI 0 - nI 1 < 0 by decide) c183
  | succ i ih =>
    intro h hi hres ls hl
    rw [show nI (i + 1) - nI 1 = nI i from nI_pred i] at hl
    refine lv_iload hx hb d_M_headOf_181 (lv_at hl 3 rfl) ?_
    refine lv_if_lt (tgt := 206) hx hb d_M_headOf_183 (by decide) (fun c183 => ?_) (fun c183 => ?_)
    · skip
      exact absurd c183 (nI_pos (by omega))
    · skip
      refine lv_aload_n hx hb d_M_headOf_186 rfl (lv_at hl 0 rfl) ?_
      refine m_get hx hb hts hown hK hm 37 (by decide) (hts (.fieldLink "RegistryLogModel" 95 "RegistryLogModel" "parts" "[J") (in_5 (List.mem_of_getElem? (i := 6) rfl) rfl)) rfl (v := .ref (ad 37)) rfl d_M_headOf_187 ?_
      refine lv_iload hx hb d_M_headOf_190 (lv_at hl 3 rfl) ?_
      refine m_ldl hx hb hK hm 37 rfl i rfl (show i < 8 from by omega) d_M_headOf_192 ?_
      refine W.eq (g2 := F0 m 193 ls [.long (b2 i)]) rfl ?_
      refine lv_lload hx hb d_M_headOf_193 (lv_at hl 2 rfl) ?_
      refine aP (rS (As := [.long (b2 i), .long h]) (rest := []) C0 (c_M_join l g _ (b2 i) h) (m_zK hZ hm) k_M_headOf_195 rfl rfl ⟨Nat.le_of_ble_eq_true rfl, Nat.le_of_ble_eq_true rfl⟩ rfl hl.1 rfl (Nat.le_of_ble_eq_true rfl) d_M_headOf_195 ⟨Nat.zero_le _, Nat.zero_le _⟩) ?_
      intro v hv; subst hv
      refine W.eq (g2 := F0 m 198 ls [.long (joinS (b2 i) h)]) rfl ?_
      refine lv_lstore (lv' := [(6, .long (joinS (b2 i) h)), (0, .ref x), (4, .int (nI PL.length)), (8, .int (nI i))]) hx hb d_M_headOf_198 hl (by decide) rfl (fun ls hl => ?_)
      refine lv_iinc (v := nI i - nI 1) (lv' := [(8, .int (nI i - nI 1)), (6, .long (joinS (b2 i) h)), (0, .ref x), (4, .int (nI PL.length))]) hx hb d_M_headOf_200 hl (k := 3) rfl (nI_dn i) (by decide) rfl (fun ls hl => ?_)
      refine lv_goto (tgt := 181) hx hb d_M_headOf_203 (by decide) ?_
      refine ih _ (by omega) ?_ ls (lv_sub hl [2, 3, 1, 0] rfl)
      rw [← hres, hq i (by omega), List.take_add_one, List.foldr_append, List.getD_eq_getElem?_getD, List.getElem?_eq_getElem (by omega)]; rfl
theorem nI_m2 {k : Nat} (h : 1 ≤ k) : nI k - nI 2 = nI (k - 1) - nI 1 := by
  obtain ⟨j, rfl⟩ : ∃ j, k = j + 1 := ⟨k - 1, by omega⟩
  rw [Nat.add_sub_cancel, ← nI_1, show nI 2 = nI 1 + 1 from by decide]
  rw [Int32.sub_eq_add_neg, Int32.sub_eq_add_neg, Int32.neg_add, Int32.add_assoc]
  congr 1
set_option maxHeartbeats 4000000 in
set_option maxRecDepth 100000 in
/-- headOf(who, from, n) -/
theorem c_M_headOf (l : Launch) (g : gG) (H : Heap) (x : Nat) (ad : Nat → Nat) (F : Nat → Int32) (A : Nat → Nat → Int32) (B : Nat → Nat → Int64) (hm0 : mW g H x ad F A B) (w0 cnt : Nat) (TT UU : Nat → List Nat) (hw : w0 < 5) (hrep : repR A cnt TT UU) (fr n0 : Nat) (hfn : fr + n0 ≤ cnt) : Met l y_M_headOf (wC y_M_headOf b_M_headOf 9 (some .long)) (rmk 2 0 0 50) (pC g H [.ref x, .int (nI w0), .int (nI fr), .int (nI n0)]) (qM g H x ad (fun v F1 A1 B1 => v = some (.long (hdS (dgA A w0 TT UU) fr n0)) ∧ F1 = F ∧ A1 = A ∧ ∃ b1 b2, B1 = hdB B b1 b2)) 0 0 (mN x ad) := by
  refine mB (by decide) (Nat.le_of_ble_eq_true rfl) ?_
  intro p e s m below meth c ls C0 hH hZ hnm hl
  have C0 : cF g p s m _ meth c b_M_headOf 9 "RegistryLogModel" (some .long) := C0
  obtain ⟨hx, hb, hml, hown, hts, hr, hlk, hK⟩ := id C0
  subst hH
  have hl : lv_has ls 9 [(0, .ref x), (1, .int (nI w0)), (2, .int (nI fr)), (3, .int (nI n0))] := hl
  have hm := mS.rf hm0
  have hc120 : cnt ≤ 120 := hrep.1
  refine lv_iconst (v := nI 0) hx hb d_M_headOf_0 (by decide) ?_
  refine lv_istore (lv' := [(4, .int (nI 0)), (0, .ref x), (1, .int (nI w0)), (2, .int (nI fr)), (3, .int (nI n0))]) hx hb d_M_headOf_1 hl (by decide) rfl (fun ls hl => ?_)
  refine lv_iload_n hx hb d_M_headOf_3 rfl (lv_at hl 3 rfl) ?_
  refine lv_istore (lv' := [(5, .int (nI fr)), (4, .int (nI 0)), (0, .ref x), (1, .int (nI w0)), (2, .int (nI fr)), (3, .int (nI n0))]) hx hb d_M_headOf_4 hl (by decide) rfl (fun ls hl => ?_)
  refine lv_bipush (v := nI 64) hx hb d_M_headOf_6 (by decide) ?_
  refine lv_istore (lv' := [(6, .int (nI 64)), (5, .int (nI fr)), (4, .int (nI 0)), (0, .ref x), (1, .int (nI w0)), (2, .int (nI fr)), (3, .int (nI n0))]) hx hb d_M_headOf_8 hl (by decide) rfl (fun ls hl => ?_)
  refine lp_M_head4 C0 hZ w0 cnt TT UU hw hrep fr n0 hfn (fun PL b1 b2 H locs h7 hJ hq hm ls hl => ?_) 7 [] (B 36) (B 37) s.heap [] (by simp) ?_ (fun q h => absurd h (by simp)) (by rw [hdB_id]; exact hm) ls ?_
  rotate_left
  · rw [Nat.mod_eq_of_lt (by omega)]; exact ⟨fun z => Or.inl ⟨z, rfl⟩, fun _ => by rw [Nat.sub_self, Nat.add_zero]; rfl⟩
  · rw [show n0 % 2 ^ 7 = n0 from Nat.mod_eq_of_lt (by omega), Nat.sub_self, Nat.add_zero]; exact lv_sub hl [3, 4, 5, 6, 2, 1, 0] rfl
  refine lv_iload hx hb d_M_headOf_157 (lv_at hl 4 rfl) ?_
  refine lv_if_ne (tgt := 164) hx hb d_M_headOf_159 (by decide) (fun c159 => ?_) (fun c159 => ?_)
  · skip
    have hP1 : 1 ≤ PL.length := by rcases Nat.lt_or_ge 0 PL.length with q | q; exact q; exact absurd (show nI PL.length = 0 from by rw [show PL.length = 0 by omega]; rfl) c159
    refine lv_aload_n hx hb d_M_headOf_164 rfl (lv_at hl 0 rfl) ?_
    refine m_get hx hb hts hown hK hm 37 (by decide) (hts (.fieldLink "RegistryLogModel" 95 "RegistryLogModel" "parts" "[J") (in_5 (List.mem_of_getElem? (i := 6) rfl) rfl)) rfl (v := .ref (ad 37)) rfl d_M_headOf_165 ?_
    refine lv_iload hx hb d_M_headOf_168 (lv_at hl 4 rfl) ?_
    refine lv_iconst (v := nI 1) hx hb d_M_headOf_170 (by decide) ?_
    refine n_isub hx hb (by omega) d_M_headOf_171 ?_
    refine m_ldl hx hb hK hm 37 rfl (PL.length - 1) rfl (show PL.length - 1 < 8 from by omega) d_M_headOf_172 ?_
    refine W.eq (g2 := F0 m 173 ls [.long (b2 (PL.length - 1))]) rfl ?_
    refine lv_topl (fun x_1 ex_1 => ?_)
    refine lv_lstore (lv' := [(6, .long x_1), (0, .ref x), (1, .int (nI w0)), (2, .int (nI fr)), (3, .int (nI n0)), (4, .int (nI PL.length))]) hx hb d_M_headOf_173 hl (by decide) rfl (fun ls hl => ?_)
    refine lv_iload hx hb d_M_headOf_175 (lv_at hl 5 rfl) ?_
    refine lv_iconst (v := nI 2) hx hb d_M_headOf_177 (by decide) ?_
    refine lv_isub hx hb d_M_headOf_178 ?_
    refine W.eq (g2 := F0 m 179 ls [.int (nI (PL.length - 1) - nI 1)]) (by rw [nI_m2 hP1]) ?_
    refine lv_istore (lv' := [(8, .int (nI (PL.length - 1) - nI 1)), (6, .long x_1), (0, .ref x), (1, .int (nI w0)), (2, .int (nI fr)), (3, .int (nI n0)), (4, .int (nI PL.length))]) hx hb d_M_headOf_179 hl (by decide) rfl (fun ls hl => ?_)
    subst ex_1
    obtain ⟨P, z, eP, hz⟩ := (hJ.1 rfl).resolve_left (fun z => by rw [z.2] at hP1; simp at hP1)
    exact lp_M_head5 C0 hZ w0 fr n0 TT UU PL b1 b2 hm h7 hq (PL.length - 1) _ (by omega) (by rw [hq _ (by omega), eP, hz]; simp [List.length_append, List.getD_eq_getElem?_getD]) ls (lv_sub hl [2, 6, 1, 0] rfl)
  · skip
    refine lv_lconst (v := 0) hx hb d_M_headOf_162 (by decide) ?_
    have c159 : PL.length = 0 := (nI_eq (by omega) (by decide)).mp (show nI PL.length = nI 0 from c159)
    have hz : n0 = 0 := by rcases hJ.1 rfl with q | ⟨P, z, q, _⟩; exact q.1; (rw [q] at c159; simp at c159)
    exact W.lret hx hb hr (fun t9 ht hW => ⟨_, _, _, _, rfl, by rw [ht]; exact ⟨hm.1, hm.2.1, hm.2.2.1, fun _ h => by cases h⟩, ⟨by rw [hz, hdS]; rfl, rfl, rfl, _, _, rfl⟩⟩) hm.2.2.2 d_M_headOf_163 hlk
