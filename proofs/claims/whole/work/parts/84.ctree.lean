/-! PROOFS: what the program makes of them, by the reference's way down -/
def psh (f : Nat → Int64) (k : Nat) : List Int64 → Nat → Int64
  | [] => f
  | x :: L => psh (vp_updL f k x) (k + 1) L
theorem psh_ap : ∀ (L : List Int64) (f : Nat → Int64) (k : Nat) (x : Int64), psh f k (L ++ [x]) = vp_updL (psh f k L) (k + L.length) x
  | [], f, k, x => rfl
  | y :: L, f, k, x => by
    rw [List.cons_append, psh, psh_ap L, psh, List.length_cons, show k + 1 + L.length = k + (L.length + 1) by omega]
theorem isU_kept {g : gG} {H H1 : Heap} {a v k q : Nat} {f : Nat → Int64} (h : isU g H a v f k q) (ha : H1[a]? = H[a]?) (hv : H1[v]? = H[v]?) : isU g H1 a v f k q := ⟨ob_kept h.1 ha, ar_kept h.2.1 hv, h.2.2⟩
theorem gI_l {d rf rn ri : Nat} {wb : Bool} (h : 1 < rn) (h2 : ri < fpS rn) : gdR false (d + 1) rf rn ri wb = ((rf + fpS rn, rn - fpS rn, true) :: (gdR false d rf (fpS rn) ri wb).1, (gdR false d rf (fpS rn) ri wb).2) := by
  rw [gdR]; simp [h, h2]
theorem gI_r {d rf rn ri : Nat} {wb : Bool} (h : 1 < rn) (h2 : ¬ ri < fpS rn) : gdR false (d + 1) rf rn ri wb = ((rf, fpS rn, false) :: (gdR false d (rf + fpS rn) (rn - fpS rn) (ri - fpS rn) false).1, (gdR false d (rf + fpS rn) (rn - fpS rn) (ri - fpS rn) false).2) := by
  rw [gdR]; simp [h, h2]
theorem gI_0 {d rf rn ri : Nat} {wb : Bool} (h : ¬ 1 < rn) : gdR false d rf rn ri wb = ([], rf, rn, ri, wb) := by
  cases d with
  | zero => rfl
  | succ d => rw [gdR]; simp [h]
theorem gG_l {d rf rn ri : Nat} {wb : Bool} (h : ri < rn) (h2 : ri ≤ fpS rn) : gdR true (d + 1) rf rn ri wb = ((rf + fpS rn, rn - fpS rn, true) :: (gdR true d rf (fpS rn) ri wb).1, (gdR true d rf (fpS rn) ri wb).2) := by
  rw [gdR]; simp [h, h2]
theorem gG_r {d rf rn ri : Nat} {wb : Bool} (h : ri < rn) (h2 : ¬ ri ≤ fpS rn) : gdR true (d + 1) rf rn ri wb = ((rf, fpS rn, false) :: (gdR true d (rf + fpS rn) (rn - fpS rn) (ri - fpS rn) false).1, (gdR true d (rf + fpS rn) (rn - fpS rn) (ri - fpS rn) false).2) := by
  rw [gdR]; simp [h, h2]
theorem gG_0 {d rf rn ri : Nat} {wb : Bool} (h : ¬ ri < rn) : gdR true d rf rn ri wb = ([], rf, rn, ri, wb) := by
  cases d with
  | zero => rfl
  | succ d => rw [gdR]; simp [h]
theorem prS_c (dg : Nat → Int64) (x : St3) (L : List St3) : prS dg (x :: L) = prS dg L ++ [hdS dg x.1 x.2.1] := by
  unfold prS; rw [List.reverse_cons, List.map_append]; rfl
theorem prS_len (dg : Nat → Int64) (L : List St3) : (prS dg L).length = L.length := by
  unfold prS; rw [List.length_map, List.length_reverse]
/-- a proof of growth -/
def grL (dg : Nat → Int64) (R : List St3 × Nat × Nat × Nat × Bool) : List Int64 := (if R.2.2.2.2 then [] else [hdS dg R.2.1 R.2.2.1]) ++ prS dg R.1
theorem grL_c (dg : Nat → Int64) (x : St3) (R : List St3 × Nat × Nat × Nat × Bool) : grL dg (x :: R.1, R.2) = grL dg R ++ [hdS dg x.1 x.2.1] := by
  unfold grL; rw [prS_c, List.append_assoc]
theorem grL_len (dg : Nat → Int64) (R : List St3 × Nat × Nat × Nat × Bool) : (grL dg R).length ≤ R.1.length + 1 := by
  unfold grL
  rw [List.length_append, prS_len]
  split
  · show 0 + _ ≤ _; omega
  · show 1 + _ ≤ _; omega
theorem iiL_ap (hd : Nat → Int64) (x : St3) : ∀ (L : List St3) (k : Nat) (h : Int64), iiL hd (L ++ [x]) k h = if x.2.2 then joinS (iiL hd L k h) (hd (k + L.length)) else joinS (hd (k + L.length)) (iiL hd L k h)
  | [], k, h => rfl
  | y :: L, k, h => by
    rw [List.cons_append, iiL, iiL_ap hd x L, iiL, List.length_cons, show k + 1 + L.length = k + (L.length + 1) by omega]
theorem igL_ap (hd : Nat → Int64) (x : St3) : ∀ (L : List St3) (k : Nat) (a b : Int64), igL hd (L ++ [x]) k a b = (if x.2.2 then (igL hd L k a b).1 else joinS (hd (k + L.length)) (igL hd L k a b).1, if x.2.2 then joinS (igL hd L k a b).2 (hd (k + L.length)) else joinS (hd (k + L.length)) (igL hd L k a b).2)
  | [], k, a, b => rfl
  | y :: L, k, a, b => by
    rw [List.cons_append, igL, igL_ap hd x L, igL, List.length_cons, show k + 1 + L.length = k + (L.length + 1) by omega]
def hgV (hd : Nat → Int64) (R : List St3 × Nat × Nat × Nat × Bool) (q : Nat) (fi : Int64) : Int64 × Int64 := if R.2.2.2.2 then igL hd R.1.reverse q fi fi else igL hd R.1.reverse (q + 1) (hd q) (hd q)
def hgN (R : List St3 × Nat × Nat × Nat × Bool) : Nat := R.1.length + (if R.2.2.2.2 then 0 else 1)
theorem hgN_c (x : St3) (R : List St3 × Nat × Nat × Nat × Bool) : hgN (x :: R.1, R.2) = hgN R + 1 := by
  unfold hgN; show R.1.length + 1 + (if R.2.2.2.2 = true then 0 else 1) = _; omega
theorem hgV_c (hd : Nat → Int64) (x : St3) (R : List St3 × Nat × Nat × Nat × Bool) (q : Nat) (fi : Int64) : hgV hd (x :: R.1, R.2) q fi = (if x.2.2 then (hgV hd R q fi).1 else joinS (hd (q + hgN R)) (hgV hd R q fi).1, if x.2.2 then joinS (hgV hd R q fi).2 (hd (q + hgN R)) else joinS (hd (q + hgN R)) (hgV hd R q fi).2) := by
  unfold hgV hgN
  show (if R.2.2.2.2 = true then igL hd (x :: R.1).reverse q fi fi else igL hd (x :: R.1).reverse (q + 1) (hd q) (hd q)) = _
  rw [List.reverse_cons]
  by_cases h : R.2.2.2.2 = true
  · simp only [if_pos h]; rw [igL_ap, List.length_reverse, Nat.add_zero]
  · simp only [if_neg h]; rw [igL_ap, List.length_reverse, show q + 1 + R.1.length = q + (R.1.length + 1) by omega]
theorem hgN_le (gr : Bool) (d rf rn ri : Nat) (wb : Bool) : hgN (gdR gr d rf rn ri wb) ≤ d + 1 := by
  have := gdR_len gr d rf rn ri wb
  unfold hgN
  split <;> omega

theorem k_T_proveInside_13 : kS "RegistryLog$Tree" 39 y_T_firstPart b_T_firstPart 3 (some .int) 1 := ⟨(in_3 (List.mem_of_getElem? (i := 62) rfl) rfl), (in_3 (List.mem_of_getElem? (i := 63) rfl) rfl), (in_1 (List.mem_of_getElem? (i := 20) rfl) rfl), (in_3 (List.mem_of_getElem? (i := 64) rfl) rfl), ⟨by decide, by decide, by decide +kernel⟩⟩
theorem k_T_proveInside_31 : kS "RegistryLog$Tree" 50 y_T_proveInside b_T_proveInside 6 none 5 := ⟨(in_3 (List.mem_of_getElem? (i := 80) rfl) rfl), (in_3 (List.mem_of_getElem? (i := 78) rfl) rfl), (in_1 (List.mem_of_getElem? (i := 20) rfl) rfl), (in_3 (List.mem_of_getElem? (i := 79) rfl) rfl), ⟨by decide, by decide, by decide +kernel⟩⟩
theorem k_T_proveInside_45 : kS "RegistryLog$Tree" 43 y_T_headOf b_T_headOf 4 (some .long) 3 := ⟨(in_3 (List.mem_of_getElem? (i := 65) rfl) rfl), (in_3 (List.mem_of_getElem? (i := 59) rfl) rfl), (in_1 (List.mem_of_getElem? (i := 20) rfl) rfl), (in_3 (List.mem_of_getElem? (i := 60) rfl) rfl), ⟨by decide, by decide, by decide +kernel⟩⟩
theorem k_T_proveInside_48 : kV "RegistryLog$Tree" 54 "RegistryLog$Numbers" y_U_add b_U_add 3 (some .boolean) 1 := ⟨(in_3 (List.mem_of_getElem? (i := 81) rfl) rfl), (in_3 (List.mem_of_getElem? (i := 82) rfl) rfl), (in_3 (List.mem_of_getElem? (i := 83) rfl) rfl), (in_1 (List.mem_of_getElem? (i := 21) rfl) rfl), (in_3 (List.mem_of_getElem? (i := 84) rfl) rfl), ⟨by decide, by decide, by decide +kernel⟩⟩
theorem k_T_proveInside_70 : kS "RegistryLog$Tree" 50 y_T_proveInside b_T_proveInside 6 none 5 := ⟨(in_3 (List.mem_of_getElem? (i := 80) rfl) rfl), (in_3 (List.mem_of_getElem? (i := 78) rfl) rfl), (in_1 (List.mem_of_getElem? (i := 20) rfl) rfl), (in_3 (List.mem_of_getElem? (i := 79) rfl) rfl), ⟨by decide, by decide, by decide +kernel⟩⟩
theorem k_T_proveInside_79 : kS "RegistryLog$Tree" 43 y_T_headOf b_T_headOf 4 (some .long) 3 := ⟨(in_3 (List.mem_of_getElem? (i := 65) rfl) rfl), (in_3 (List.mem_of_getElem? (i := 59) rfl) rfl), (in_1 (List.mem_of_getElem? (i := 20) rfl) rfl), (in_3 (List.mem_of_getElem? (i := 60) rfl) rfl), ⟨by decide, by decide, by decide +kernel⟩⟩
theorem k_T_proveInside_82 : kV "RegistryLog$Tree" 54 "RegistryLog$Numbers" y_U_add b_U_add 3 (some .boolean) 1 := ⟨(in_3 (List.mem_of_getElem? (i := 81) rfl) rfl), (in_3 (List.mem_of_getElem? (i := 82) rfl) rfl), (in_3 (List.mem_of_getElem? (i := 83) rfl) rfl), (in_1 (List.mem_of_getElem? (i := 21) rfl) rfl), (in_3 (List.mem_of_getElem? (i := 84) rfl) rfl), ⟨by decide, by decide, by decide +kernel⟩⟩
set_option maxHeartbeats 4000000 in
set_option maxRecDepth 100000 in
/-- proveInside -/
theorem c_T_proveInside (l : Launch) (g : gG) (P : Nat → Prop) (a w u v : Nat) (rows : List Rw) (hPu : ¬ P u) (hPv : ¬ P v) (hau : ¬ a = u) (hav : ¬ a = v) (hwu : ¬ w = u) (hwv : ¬ w = v) (huv : u ≠ v) (hu9 : g.2.2.1 ≤ u) (hv9 : g.2.2.1 ≤ v) : ∀ (d : Nat) (from0 n i : Nat) (wb : Bool) (f : Nat → Int64) (k q : Nat) (H : Heap), pL P g H a w rows → isU g H u v f k q → 1 ≤ n → n ≤ 2 ^ d → n ≤ 120 → from0 + n ≤ 120 → i < n → d ≤ 7 → k + d ≤ 16 → Met l y_T_proveInside (wC y_T_proveInside b_T_proveInside 6 none) (rmk (d + 10) 0 0 (25 * d + 232)) (pC g H [.ref a, .int (nI from0), .int (nI n), .int (nI i), .ref u]) (qW H (fun q => q = u ∨ q = v) (fun r H1 => r = none ∧ isU g H1 u v (psh f k (prS (dS rows) (gdR false d from0 n i wb).1)) (k + (prS (dS rows) (gdR false d from0 n i wb).1).length) q)) 0 0 (fW H (fun q => q = u ∨ q = v)) := by
  intro d
  induction d with
  | zero =>
    intro from0 n i wb f k q H hPL hU h1 h2 h3 h4 h5 h6 h7
    refine mB (by decide) (Nat.le_of_ble_eq_true rfl) ?_
    intro p e s m below meth c ls C0 hH hZ hnm hl
    have C0 : cF g p s m _ meth c b_T_proveInside 6 "RegistryLog$Tree" none := C0
    obtain ⟨hx, hb, hml, hown, hts, hr, hlk, hK⟩ := id C0
    subst hH
    have hl : lv_has ls 6 [(0, .ref a), (1, .int (nI from0)), (2, .int (nI n)), (3, .int (nI i)), (4, .ref u)] := hl
    have hS : va_S (fW s.heap (fun q => q = u ∨ q = v)) s.heap s.heap [] := hS_rf
    refine lv_iload_n hx hb d_T_proveInside_0 rfl (lv_at hl 2 rfl) ?_
    refine lv_iconst (v := nI 1) hx hb d_T_proveInside_1 (by decide) ?_
    refine n_le (tgt := 11) (a := n) (b := 1) hx hb d_T_proveInside_2 (by decide) (by omega) (by omega) (fun c2 => ?_) (fun c2 => ?_)
    · skip
      refine W.widen (k := 0) (n := 0) (by omega) (by omega) ?_
      exact W.vret hx hb hr (fun t9 ht hW => ⟨_, rfl, by rw [ht]; exact hS_hC hS, by rw [ht]; exact ⟨rfl, by rw [gI_0 (by omega)]; exact hU⟩⟩) hS.2.2 d_T_proveInside_11 hlk
    · skip
      exact absurd h2 (by have : 2 ^ 0 = 1 := rfl; omega)
  | succ d ih =>
    intro from0 n i wb f k q H hPL hU h1 h2 h3 h4 h5 h6 h7
    refine mB (by decide) (Nat.le_of_ble_eq_true rfl) ?_
    intro p e s m below meth c ls C0 hH hZ hnm hl
    have C0 : cF g p s m _ meth c b_T_proveInside 6 "RegistryLog$Tree" none := C0
    obtain ⟨hx, hb, hml, hown, hts, hr, hlk, hK⟩ := id C0
    subst hH
    have hl : lv_has ls 6 [(0, .ref a), (1, .int (nI from0)), (2, .int (nI n)), (3, .int (nI i)), (4, .ref u)] := hl
    have hS : va_S (fW s.heap (fun q => q = u ∨ q = v)) s.heap s.heap [] := hS_rf
    refine lv_iload_n hx hb d_T_proveInside_0 rfl (lv_at hl 2 rfl) ?_
    refine lv_iconst (v := nI 1) hx hb d_T_proveInside_1 (by decide) ?_
    refine n_le (tgt := 11) (a := n) (b := 1) hx hb d_T_proveInside_2 (by decide) (by omega) (by omega) (fun c2 => ?_) (fun c2 => ?_)
    · skip
      refine W.widen (k := 0) (n := 0) (by omega) (by omega) ?_
      exact W.vret hx hb hr (fun t9 ht hW => ⟨_, rfl, by rw [ht]; exact hS_hC hS, by rw [ht]; exact ⟨rfl, by rw [gI_0 (by omega)]; exact hU⟩⟩) hS.2.2 d_T_proveInside_11 hlk
    · skip
      refine lv_iload_n hx hb d_T_proveInside_5 rfl (lv_at hl 2 rfl) ?_
      refine lv_bipush (v := nI 120) hx hb d_T_proveInside_6 (by decide) ?_
      refine n_le (tgt := 12) (a := n) (b := 120) hx hb d_T_proveInside_8 (by decide) (by omega) (by omega) (fun c8 => ?_) (fun c8 => ?_)
      · skip
        refine lv_iload_n hx hb d_T_proveInside_12 rfl (lv_at hl 2 rfl) ?_
        refine aP (rS (As := [.int (nI n)]) (rest := []) C0 (c_T_firstPart l g _ n h3) (zK_S hZ hS (fun q h => h.elim (fun z => by rw [z]; exact hu9) (fun z => by rw [z]; exact hv9))) k_T_proveInside_13 rfl rfl ⟨by show _ ≤ _; simp only [rmk]; omega, by show _ ≤ _; simp only [rmk]; omega⟩ rfl hl.1 rfl (Nat.le_of_ble_eq_true rfl) d_T_proveInside_13 ⟨by show 0 + 0 ≤ 0; omega, by show 0 + 0 ≤ 0; omega⟩) ?_
        intro v hv; subst hv
        refine W.eq (g2 := F0 m 16 ls [.int (nI (fpS n))]) rfl ?_
        have hlt9 := fpS_lt (n := n) (by omega)
        have hps9 := fpS_pos n
        refine lv_istore (lv' := [(5, .int (nI (fpS n))), (0, .ref a), (1, .int (nI from0)), (2, .int (nI n)), (3, .int (nI i)), (4, .ref u)]) hx hb d_T_proveInside_16 hl (by decide) rfl (fun ls hl => ?_)
        refine lv_iload_n hx hb d_T_proveInside_18 rfl (lv_at hl 4 rfl) ?_
        refine lv_iload hx hb d_T_proveInside_19 (lv_at hl 0 rfl) ?_
        refine n_ge (tgt := 55) (a := i) (b := fpS n) hx hb d_T_proveInside_21 (by decide) (by omega) (by omega) (fun c21 => ?_) (fun c21 => ?_)
        · skip
          refine lv_aload_n hx hb d_T_proveInside_55 rfl (lv_at hl 1 rfl) ?_
          refine lv_iload_n hx hb d_T_proveInside_56 rfl (lv_at hl 2 rfl) ?_
          refine lv_iload hx hb d_T_proveInside_57 (lv_at hl 0 rfl) ?_
          refine n_iadd hx hb d_T_proveInside_59 ?_
          refine lv_iload_n hx hb d_T_proveInside_60 rfl (lv_at hl 3 rfl) ?_
          refine lv_iload hx hb d_T_proveInside_61 (lv_at hl 0 rfl) ?_
          refine n_isub hx hb (by omega) d_T_proveInside_63 ?_
          refine lv_iload_n hx hb d_T_proveInside_64 rfl (lv_at hl 4 rfl) ?_
          refine lv_iload hx hb d_T_proveInside_65 (lv_at hl 0 rfl) ?_
          refine n_isub hx hb (by omega) d_T_proveInside_67 ?_
          refine lv_aload hx hb d_T_proveInside_68 (lv_at hl 5 rfl) ?_
          refine aW (N := (fun q => q = u ∨ q = v)) (rS (As := [.ref a, .int (nI (from0 + fpS n)), .int (nI (n - fpS n)), .int (nI (i - fpS n)), .ref u]) (rest := []) C0 (ih (from0 + fpS n) (n - fpS n) (i - fpS n) false f k q _ hPL hU (by omega) (fpS_half n (by omega) (by omega) d (by omega) h2).2 (by omega) (by omega) (by omega) (by omega) (by omega)) (zK_S hZ hS (fun q h => h.elim (fun z => by rw [z]; exact hu9) (fun z => by rw [z]; exact hv9))) k_T_proveInside_70 rfl rfl ⟨by show _ ≤ _; simp only [rmk]; omega, by show _ ≤ _; simp only [rmk]; omega⟩ rfl hl.1 rfl (Nat.le_of_ble_eq_true rfl) d_T_proveInside_70 ⟨by show 0 + 0 ≤ 0; omega, by show 0 + 0 ≤ 0; omega⟩) (fun v H L hC1 hp hL => ?_)
          have hS0 := hS
          have hS := hS_call hS hC1 hL (fun q h => Or.inl h)
          have hPL := pL_mv hPL (hC_at hC1 (pL_lt hPL).1 (fun z => z.elim hau hav)) (hC_at hC1 (pL_lt hPL).2 (fun z => z.elim hwu hwv)) (fun q h1 h2 => ⟨hC_at hC1 h2 (fun z => z.elim (fun y => hPu (y ▸ h1)) (fun y => hPv (y ▸ h1))), h1⟩)
          obtain ⟨rfl, hU⟩ := hp
          have hl9 := gdR_len false d (from0 + fpS n) (n - fpS n) (i - fpS n) false
          have hz9 := prS_len (dS rows) (gdR false d (from0 + fpS n) (n - fpS n) (i - fpS n) false).1
          refine W.eq (g2 := F0 m 73 ls []) rfl ?_
          refine lv_aload hx hb d_T_proveInside_73 (lv_at hl 5 rfl) ?_
          refine lv_aload_n hx hb d_T_proveInside_75 rfl (lv_at hl 1 rfl) ?_
          refine lv_iload_n hx hb d_T_proveInside_76 rfl (lv_at hl 2 rfl) ?_
          refine lv_iload hx hb d_T_proveInside_77 (lv_at hl 0 rfl) ?_
          refine aP (rS (As := [.ref a, .int (nI from0), .int (nI (fpS n))]) (rest := [.ref u]) C0 (c_T_headOf l g _ a rows (pL_isL hPL) 7 from0 (fpS n) (by omega) (by omega) (by omega) (by omega) (by omega)) (zK_S hZ hS (fun q h => h.elim (fun z => by rw [z]; exact hu9) (fun z => by rw [z]; exact hv9))) k_T_proveInside_79 rfl rfl ⟨by show _ ≤ _; simp only [rmk]; omega, by show _ ≤ _; simp only [rmk]; omega⟩ rfl hl.1 rfl (Nat.le_of_ble_eq_true rfl) d_T_proveInside_79 ⟨by show 0 + 0 + 0 ≤ 0; omega, by show 0 + 0 + 0 ≤ 0; omega⟩) ?_
          intro v hv; subst hv
          refine W.eq (g2 := F0 m 82 ls [.long (hdS (dS rows) from0 (fpS n)), .ref u]) rfl ?_
          refine aW (N := (fun q => q = u ∨ q = v)) (rV (As := [.long (hdS (dS rows) from0 (fpS n))]) (rest := []) C0 (c_U_add l g _ u v _ q _ hU huv (hdS (dS rows) from0 (fpS n))) (zK_S hZ hS (fun q h => h.elim (fun z => by rw [z]; exact hu9) (fun z => by rw [z]; exact hv9))) k_T_proveInside_82 rfl rfl ⟨by show _ ≤ _; simp only [rmk]; omega, by show _ ≤ _; simp only [rmk]; omega⟩ (ob_recv hK hU.1 rfl) rfl hl.1 rfl (Nat.le_of_ble_eq_true rfl) d_T_proveInside_82 ⟨by show 0 + 0 + 0 ≤ 0; omega, by show 0 + 0 + 0 ≤ 0; omega⟩) (fun v H L hC1 hp hL => ?_)
          have hS0 := hS
          have hS := hS_call hS hC1 hL (fun q h => Or.inl h)
          have hPL := pL_mv hPL (hC_at hC1 (pL_lt hPL).1 (fun z => z.elim hau hav)) (hC_at hC1 (pL_lt hPL).2 (fun z => z.elim hwu hwv)) (fun q h1 h2 => ⟨hC_at hC1 h2 (fun z => z.elim (fun y => hPu (y ▸ h1)) (fun y => hPv (y ▸ h1))), h1⟩)
          rw [if_pos (by omega)] at hp
          obtain ⟨rfl, hU⟩ := hp
          refine W.eq (g2 := F0 m 85 ls [.int 1]) rfl ?_
          refine lv_pop hx hb d_T_proveInside_85 rfl ?_
          refine W.widen (k := 0) (n := 0) (by omega) (by omega) ?_
          exact W.vret hx hb hr (fun t9 ht hW => ⟨_, rfl, by rw [ht]; exact hS_hC hS, by rw [ht]; exact ⟨rfl, by rw [gI_r (by omega) (by omega), prS_c, psh_ap, List.length_append, ← Nat.add_assoc]; exact hU⟩⟩) hS.2.2 d_T_proveInside_86 hlk
        · skip
          refine lv_aload_n hx hb d_T_proveInside_24 rfl (lv_at hl 1 rfl) ?_
          refine lv_iload_n hx hb d_T_proveInside_25 rfl (lv_at hl 2 rfl) ?_
          refine lv_iload hx hb d_T_proveInside_26 (lv_at hl 0 rfl) ?_
          refine lv_iload_n hx hb d_T_proveInside_28 rfl (lv_at hl 4 rfl) ?_
          refine lv_aload hx hb d_T_proveInside_29 (lv_at hl 5 rfl) ?_
          refine aW (N := (fun q => q = u ∨ q = v)) (rS (As := [.ref a, .int (nI from0), .int (nI (fpS n)), .int (nI i), .ref u]) (rest := []) C0 (ih from0 (fpS n) i wb f k q _ hPL hU hps9 (fpS_half n (by omega) (by omega) d (by omega) h2).1 (by omega) (by omega) (by omega) (by omega) (by omega)) (zK_S hZ hS (fun q h => h.elim (fun z => by rw [z]; exact hu9) (fun z => by rw [z]; exact hv9))) k_T_proveInside_31 rfl rfl ⟨by show _ ≤ _; simp only [rmk]; omega, by show _ ≤ _; simp only [rmk]; omega⟩ rfl hl.1 rfl (Nat.le_of_ble_eq_true rfl) d_T_proveInside_31 ⟨by show 0 + 0 ≤ 0; omega, by show 0 + 0 ≤ 0; omega⟩) (fun v H L hC1 hp hL => ?_)
          have hS0 := hS
          have hS := hS_call hS hC1 hL (fun q h => Or.inl h)
          have hPL := pL_mv hPL (hC_at hC1 (pL_lt hPL).1 (fun z => z.elim hau hav)) (hC_at hC1 (pL_lt hPL).2 (fun z => z.elim hwu hwv)) (fun q h1 h2 => ⟨hC_at hC1 h2 (fun z => z.elim (fun y => hPu (y ▸ h1)) (fun y => hPv (y ▸ h1))), h1⟩)
          obtain ⟨rfl, hU⟩ := hp
          have hl9 := gdR_len false d from0 (fpS n) i wb
          have hz9 := prS_len (dS rows) (gdR false d from0 (fpS n) i wb).1
          refine W.eq (g2 := F0 m 34 ls []) rfl ?_
          refine lv_aload hx hb d_T_proveInside_34 (lv_at hl 5 rfl) ?_
          refine lv_aload_n hx hb d_T_proveInside_36 rfl (lv_at hl 1 rfl) ?_
          refine lv_iload_n hx hb d_T_proveInside_37 rfl (lv_at hl 2 rfl) ?_
          refine lv_iload hx hb d_T_proveInside_38 (lv_at hl 0 rfl) ?_
          refine n_iadd hx hb d_T_proveInside_40 ?_
          refine lv_iload_n hx hb d_T_proveInside_41 rfl (lv_at hl 3 rfl) ?_
          refine lv_iload hx hb d_T_proveInside_42 (lv_at hl 0 rfl) ?_
          refine n_isub hx hb (by omega) d_T_proveInside_44 ?_
          refine aP (rS (As := [.ref a, .int (nI (from0 + (fpS n))), .int (nI (n - (fpS n)))]) (rest := [.ref u]) C0 (c_T_headOf l g _ a rows (pL_isL hPL) 7 (from0 + (fpS n)) (n - (fpS n)) (by omega) (by omega) (by omega) (by omega) (by omega)) (zK_S hZ hS (fun q h => h.elim (fun z => by rw [z]; exact hu9) (fun z => by rw [z]; exact hv9))) k_T_proveInside_45 rfl rfl ⟨by show _ ≤ _; simp only [rmk]; omega, by show _ ≤ _; simp only [rmk]; omega⟩ rfl hl.1 rfl (Nat.le_of_ble_eq_true rfl) d_T_proveInside_45 ⟨by show 0 + 0 + 0 ≤ 0; omega, by show 0 + 0 + 0 ≤ 0; omega⟩) ?_
          intro v hv; subst hv
          refine W.eq (g2 := F0 m 48 ls [.long (hdS (dS rows) (from0 + (fpS n)) (n - (fpS n))), .ref u]) rfl ?_
          refine aW (N := (fun q => q = u ∨ q = v)) (rV (As := [.long (hdS (dS rows) (from0 + (fpS n)) (n - (fpS n)))]) (rest := []) C0 (c_U_add l g _ u v _ q _ hU huv (hdS (dS rows) (from0 + (fpS n)) (n - (fpS n)))) (zK_S hZ hS (fun q h => h.elim (fun z => by rw [z]; exact hu9) (fun z => by rw [z]; exact hv9))) k_T_proveInside_48 rfl rfl ⟨by show _ ≤ _; simp only [rmk]; omega, by show _ ≤ _; simp only [rmk]; omega⟩ (ob_recv hK hU.1 rfl) rfl hl.1 rfl (Nat.le_of_ble_eq_true rfl) d_T_proveInside_48 ⟨by show 0 + 0 + 0 ≤ 0; omega, by show 0 + 0 + 0 ≤ 0; omega⟩) (fun v H L hC1 hp hL => ?_)
          have hS0 := hS
          have hS := hS_call hS hC1 hL (fun q h => Or.inl h)
          have hPL := pL_mv hPL (hC_at hC1 (pL_lt hPL).1 (fun z => z.elim hau hav)) (hC_at hC1 (pL_lt hPL).2 (fun z => z.elim hwu hwv)) (fun q h1 h2 => ⟨hC_at hC1 h2 (fun z => z.elim (fun y => hPu (y ▸ h1)) (fun y => hPv (y ▸ h1))), h1⟩)
          rw [if_pos (by omega)] at hp
          obtain ⟨rfl, hU⟩ := hp
          refine W.eq (g2 := F0 m 51 ls [.int 1]) rfl ?_
          refine lv_pop hx hb d_T_proveInside_51 rfl ?_
          refine lv_goto (tgt := 86) hx hb d_T_proveInside_52 (by decide) ?_
          refine W.widen (k := 0) (n := 0) (by omega) (by omega) ?_
          exact W.vret hx hb hr (fun t9 ht hW => ⟨_, rfl, by rw [ht]; exact hS_hC hS, by rw [ht]; exact ⟨rfl, by rw [gI_l (by omega) (by omega), prS_c, psh_ap, List.length_append, ← Nat.add_assoc]; exact hU⟩⟩) hS.2.2 d_T_proveInside_86 hlk
      · skip
        exact absurd h3 (by omega)
theorem k_T_proveGrowth_21 : kS "RegistryLog$Tree" 43 y_T_headOf b_T_headOf 4 (some .long) 3 := ⟨(in_3 (List.mem_of_getElem? (i := 65) rfl) rfl), (in_3 (List.mem_of_getElem? (i := 59) rfl) rfl), (in_1 (List.mem_of_getElem? (i := 20) rfl) rfl), (in_3 (List.mem_of_getElem? (i := 60) rfl) rfl), ⟨by decide, by decide, by decide +kernel⟩⟩
theorem k_T_proveGrowth_24 : kV "RegistryLog$Tree" 54 "RegistryLog$Numbers" y_U_add b_U_add 3 (some .boolean) 1 := ⟨(in_3 (List.mem_of_getElem? (i := 81) rfl) rfl), (in_3 (List.mem_of_getElem? (i := 82) rfl) rfl), (in_3 (List.mem_of_getElem? (i := 83) rfl) rfl), (in_1 (List.mem_of_getElem? (i := 21) rfl) rfl), (in_3 (List.mem_of_getElem? (i := 84) rfl) rfl), ⟨by decide, by decide, by decide +kernel⟩⟩
theorem k_T_proveGrowth_30 : kS "RegistryLog$Tree" 39 y_T_firstPart b_T_firstPart 3 (some .int) 1 := ⟨(in_3 (List.mem_of_getElem? (i := 62) rfl) rfl), (in_3 (List.mem_of_getElem? (i := 63) rfl) rfl), (in_1 (List.mem_of_getElem? (i := 20) rfl) rfl), (in_3 (List.mem_of_getElem? (i := 64) rfl) rfl), ⟨by decide, by decide, by decide +kernel⟩⟩
theorem k_T_proveGrowth_50 : kS "RegistryLog$Tree" 60 y_T_proveGrowth b_T_proveGrowth 7 none 6 := ⟨(in_3 (List.mem_of_getElem? (i := 96) rfl) rfl), (in_3 (List.mem_of_getElem? (i := 94) rfl) rfl), (in_1 (List.mem_of_getElem? (i := 20) rfl) rfl), (in_3 (List.mem_of_getElem? (i := 95) rfl) rfl), ⟨by decide, by decide, by decide +kernel⟩⟩
theorem k_T_proveGrowth_64 : kS "RegistryLog$Tree" 43 y_T_headOf b_T_headOf 4 (some .long) 3 := ⟨(in_3 (List.mem_of_getElem? (i := 65) rfl) rfl), (in_3 (List.mem_of_getElem? (i := 59) rfl) rfl), (in_1 (List.mem_of_getElem? (i := 20) rfl) rfl), (in_3 (List.mem_of_getElem? (i := 60) rfl) rfl), ⟨by decide, by decide, by decide +kernel⟩⟩
theorem k_T_proveGrowth_67 : kV "RegistryLog$Tree" 54 "RegistryLog$Numbers" y_U_add b_U_add 3 (some .boolean) 1 := ⟨(in_3 (List.mem_of_getElem? (i := 81) rfl) rfl), (in_3 (List.mem_of_getElem? (i := 82) rfl) rfl), (in_3 (List.mem_of_getElem? (i := 83) rfl) rfl), (in_1 (List.mem_of_getElem? (i := 21) rfl) rfl), (in_3 (List.mem_of_getElem? (i := 84) rfl) rfl), ⟨by decide, by decide, by decide +kernel⟩⟩
theorem k_T_proveGrowth_90 : kS "RegistryLog$Tree" 60 y_T_proveGrowth b_T_proveGrowth 7 none 6 := ⟨(in_3 (List.mem_of_getElem? (i := 96) rfl) rfl), (in_3 (List.mem_of_getElem? (i := 94) rfl) rfl), (in_1 (List.mem_of_getElem? (i := 20) rfl) rfl), (in_3 (List.mem_of_getElem? (i := 95) rfl) rfl), ⟨by decide, by decide, by decide +kernel⟩⟩
theorem k_T_proveGrowth_99 : kS "RegistryLog$Tree" 43 y_T_headOf b_T_headOf 4 (some .long) 3 := ⟨(in_3 (List.mem_of_getElem? (i := 65) rfl) rfl), (in_3 (List.mem_of_getElem? (i := 59) rfl) rfl), (in_1 (List.mem_of_getElem? (i := 20) rfl) rfl), (in_3 (List.mem_of_getElem? (i := 60) rfl) rfl), ⟨by decide, by decide, by decide +kernel⟩⟩
theorem k_T_proveGrowth_102 : kV "RegistryLog$Tree" 54 "RegistryLog$Numbers" y_U_add b_U_add 3 (some .boolean) 1 := ⟨(in_3 (List.mem_of_getElem? (i := 81) rfl) rfl), (in_3 (List.mem_of_getElem? (i := 82) rfl) rfl), (in_3 (List.mem_of_getElem? (i := 83) rfl) rfl), (in_1 (List.mem_of_getElem? (i := 21) rfl) rfl), (in_3 (List.mem_of_getElem? (i := 84) rfl) rfl), ⟨by decide, by decide, by decide +kernel⟩⟩
set_option maxHeartbeats 4000000 in
set_option maxRecDepth 100000 in
/-- proveGrowth -/
theorem c_T_proveGrowth (l : Launch) (g : gG) (P : Nat → Prop) (a w u v : Nat) (rows : List Rw) (hPu : ¬ P u) (hPv : ¬ P v) (hau : ¬ a = u) (hav : ¬ a = v) (hwu : ¬ w = u) (hwv : ¬ w = v) (huv : u ≠ v) (hu9 : g.2.2.1 ≤ u) (hv9 : g.2.2.1 ≤ v) : ∀ (d : Nat) (from0 n i : Nat) (wb : Bool) (f : Nat → Int64) (k q : Nat) (H : Heap), pL P g H a w rows → isU g H u v f k q → 1 ≤ n → n ≤ 2 ^ d → n ≤ 120 → from0 + n ≤ 120 → i ≤ n → 1 ≤ i → d ≤ 7 → k + d + 1 ≤ 16 → Met l y_T_proveGrowth (wC y_T_proveGrowth b_T_proveGrowth 7 none) (rmk (d + 10) 0 0 (26 * d + 232)) (pC g H [.ref a, .int (nI from0), .int (nI n), .int (nI i), .int (bI wb), .ref u]) (qW H (fun q => q = u ∨ q = v) (fun r H1 => r = none ∧ isU g H1 u v (psh f k (grL (dS rows) (gdR true d from0 n i wb))) (k + (grL (dS rows) (gdR true d from0 n i wb)).length) q)) 0 0 (fW H (fun q => q = u ∨ q = v)) := by
  intro d
  induction d with
  | zero =>
    intro from0 n i wb f k q H hPL hU h1 h2 h3 h4 h5 h51 h6 h7
    refine mB (by decide) (Nat.le_of_ble_eq_true rfl) ?_
    intro p e s m below meth c ls C0 hH hZ hnm hl
    have C0 : cF g p s m _ meth c b_T_proveGrowth 7 "RegistryLog$Tree" none := C0
    obtain ⟨hx, hb, hml, hown, hts, hr, hlk, hK⟩ := id C0
    subst hH
    have hl : lv_has ls 7 [(0, .ref a), (1, .int (nI from0)), (2, .int (nI n)), (3, .int (nI i)), (4, .int (bI wb)), (5, .ref u)] := hl
    have hS : va_S (fW s.heap (fun q => q = u ∨ q = v)) s.heap s.heap [] := hS_rf
    refine lv_iload_n hx hb d_T_proveGrowth_0 rfl (lv_at hl 3 rfl) ?_
    refine lv_iload_n hx hb d_T_proveGrowth_1 rfl (lv_at hl 2 rfl) ?_
    refine n_ge (tgt := 11) (a := i) (b := n) hx hb d_T_proveGrowth_2 (by decide) (by omega) (by omega) (fun c2 => ?_) (fun c2 => ?_)
    · skip
      refine lv_iload hx hb d_T_proveGrowth_11 (lv_at hl 4 rfl) ?_
      refine z_ne (tgt := 28) (v := wb) hx hb d_T_proveGrowth_13 (by decide) (fun c13 => ?_) (fun c13 => ?_)
      · skip
        refine W.widen (k := 0) (n := 0) (by omega) (by omega) ?_
        exact W.vret hx hb hr (fun t9 ht hW => ⟨_, rfl, by rw [ht]; exact hS_hC hS, by rw [ht]; exact ⟨rfl, by rw [gG_0 (by omega)]; unfold grL prS; rw [c13]; exact hU⟩⟩) hS.2.2 d_T_proveGrowth_28 hlk
      · skip
        refine lv_aload hx hb d_T_proveGrowth_16 (lv_at hl 5 rfl) ?_
        refine lv_aload_n hx hb d_T_proveGrowth_18 rfl (lv_at hl 0 rfl) ?_
        refine lv_iload_n hx hb d_T_proveGrowth_19 rfl (lv_at hl 1 rfl) ?_
        refine lv_iload_n hx hb d_T_proveGrowth_20 rfl (lv_at hl 2 rfl) ?_
        refine aP (rS (As := [.ref a, .int (nI from0), .int (nI n)]) (rest := [.ref u]) C0 (c_T_headOf l g _ a rows (pL_isL hPL) 7 from0 n (by omega) (by omega) (by omega) (by omega) (by omega)) (zK_S hZ hS (fun q h => h.elim (fun z => by rw [z]; exact hu9) (fun z => by rw [z]; exact hv9))) k_T_proveGrowth_21 rfl rfl ⟨by show _ ≤ _; simp only [rmk]; omega, by show _ ≤ _; simp only [rmk]; omega⟩ rfl hl.1 rfl (Nat.le_of_ble_eq_true rfl) d_T_proveGrowth_21 ⟨by show 0 + 0 ≤ 0; omega, by show 0 + 0 ≤ 0; omega⟩) ?_
        intro v hv; subst hv
        refine W.eq (g2 := F0 m 24 ls [.long (hdS (dS rows) from0 n), .ref u]) rfl ?_
        refine aW (N := (fun q => q = u ∨ q = v)) (rV (As := [.long (hdS (dS rows) from0 n)]) (rest := []) C0 (c_U_add l g _ u v _ q _ hU huv (hdS (dS rows) from0 n)) (zK_S hZ hS (fun q h => h.elim (fun z => by rw [z]; exact hu9) (fun z => by rw [z]; exact hv9))) k_T_proveGrowth_24 rfl rfl ⟨by show _ ≤ _; simp only [rmk]; omega, by show _ ≤ _; simp only [rmk]; omega⟩ (ob_recv hK hU.1 rfl) rfl hl.1 rfl (Nat.le_of_ble_eq_true rfl) d_T_proveGrowth_24 ⟨by show 0 + 0 ≤ 0; omega, by show 0 + 0 ≤ 0; omega⟩) (fun v H L hC1 hp hL => ?_)
        have hS0 := hS
        have hS := hS_call hS hC1 hL (fun q h => Or.inl h)
        have hPL := pL_mv hPL (hC_at hC1 (pL_lt hPL).1 (fun z => z.elim hau hav)) (hC_at hC1 (pL_lt hPL).2 (fun z => z.elim hwu hwv)) (fun q h1 h2 => ⟨hC_at hC1 h2 (fun z => z.elim (fun y => hPu (y ▸ h1)) (fun y => hPv (y ▸ h1))), h1⟩)
        rw [if_pos (by omega)] at hp
        obtain ⟨rfl, hU⟩ := hp
        refine W.eq (g2 := F0 m 27 ls [.int 1]) rfl ?_
        refine lv_pop hx hb d_T_proveGrowth_27 rfl ?_
        refine W.widen (k := 0) (n := 0) (by omega) (by omega) ?_
        exact W.vret hx hb hr (fun t9 ht hW => ⟨_, rfl, by rw [ht]; exact hS_hC hS, by rw [ht]; exact ⟨rfl, by rw [gG_0 (by omega)]; unfold grL prS; rw [c13]; exact hU⟩⟩) hS.2.2 d_T_proveGrowth_28 hlk
    · skip
      exact absurd h2 (by have : 2 ^ 0 = 1 := rfl; omega)
  | succ d ih =>
    intro from0 n i wb f k q H hPL hU h1 h2 h3 h4 h5 h51 h6 h7
    refine mB (by decide) (Nat.le_of_ble_eq_true rfl) ?_
    intro p e s m below meth c ls C0 hH hZ hnm hl
    have C0 : cF g p s m _ meth c b_T_proveGrowth 7 "RegistryLog$Tree" none := C0
    obtain ⟨hx, hb, hml, hown, hts, hr, hlk, hK⟩ := id C0
    subst hH
    have hl : lv_has ls 7 [(0, .ref a), (1, .int (nI from0)), (2, .int (nI n)), (3, .int (nI i)), (4, .int (bI wb)), (5, .ref u)] := hl
    have hS : va_S (fW s.heap (fun q => q = u ∨ q = v)) s.heap s.heap [] := hS_rf
    refine lv_iload_n hx hb d_T_proveGrowth_0 rfl (lv_at hl 3 rfl) ?_
    refine lv_iload_n hx hb d_T_proveGrowth_1 rfl (lv_at hl 2 rfl) ?_
    refine n_ge (tgt := 11) (a := i) (b := n) hx hb d_T_proveGrowth_2 (by decide) (by omega) (by omega) (fun c2 => ?_) (fun c2 => ?_)
    · skip
      refine lv_iload hx hb d_T_proveGrowth_11 (lv_at hl 4 rfl) ?_
      refine z_ne (tgt := 28) (v := wb) hx hb d_T_proveGrowth_13 (by decide) (fun c13 => ?_) (fun c13 => ?_)
      · skip
        refine W.widen (k := 0) (n := 0) (by omega) (by omega) ?_
        exact W.vret hx hb hr (fun t9 ht hW => ⟨_, rfl, by rw [ht]; exact hS_hC hS, by rw [ht]; exact ⟨rfl, by rw [gG_0 (by omega)]; unfold grL prS; rw [c13]; exact hU⟩⟩) hS.2.2 d_T_proveGrowth_28 hlk
      · skip
        refine lv_aload hx hb d_T_proveGrowth_16 (lv_at hl 5 rfl) ?_
        refine lv_aload_n hx hb d_T_proveGrowth_18 rfl (lv_at hl 0 rfl) ?_
        refine lv_iload_n hx hb d_T_proveGrowth_19 rfl (lv_at hl 1 rfl) ?_
        refine lv_iload_n hx hb d_T_proveGrowth_20 rfl (lv_at hl 2 rfl) ?_
        refine aP (rS (As := [.ref a, .int (nI from0), .int (nI n)]) (rest := [.ref u]) C0 (c_T_headOf l g _ a rows (pL_isL hPL) 7 from0 n (by omega) (by omega) (by omega) (by omega) (by omega)) (zK_S hZ hS (fun q h => h.elim (fun z => by rw [z]; exact hu9) (fun z => by rw [z]; exact hv9))) k_T_proveGrowth_21 rfl rfl ⟨by show _ ≤ _; simp only [rmk]; omega, by show _ ≤ _; simp only [rmk]; omega⟩ rfl hl.1 rfl (Nat.le_of_ble_eq_true rfl) d_T_proveGrowth_21 ⟨by show 0 + 0 ≤ 0; omega, by show 0 + 0 ≤ 0; omega⟩) ?_
        intro v hv; subst hv
        refine W.eq (g2 := F0 m 24 ls [.long (hdS (dS rows) from0 n), .ref u]) rfl ?_
        refine aW (N := (fun q => q = u ∨ q = v)) (rV (As := [.long (hdS (dS rows) from0 n)]) (rest := []) C0 (c_U_add l g _ u v _ q _ hU huv (hdS (dS rows) from0 n)) (zK_S hZ hS (fun q h => h.elim (fun z => by rw [z]; exact hu9) (fun z => by rw [z]; exact hv9))) k_T_proveGrowth_24 rfl rfl ⟨by show _ ≤ _; simp only [rmk]; omega, by show _ ≤ _; simp only [rmk]; omega⟩ (ob_recv hK hU.1 rfl) rfl hl.1 rfl (Nat.le_of_ble_eq_true rfl) d_T_proveGrowth_24 ⟨by show 0 + 0 ≤ 0; omega, by show 0 + 0 ≤ 0; omega⟩) (fun v H L hC1 hp hL => ?_)
        have hS0 := hS
        have hS := hS_call hS hC1 hL (fun q h => Or.inl h)
        have hPL := pL_mv hPL (hC_at hC1 (pL_lt hPL).1 (fun z => z.elim hau hav)) (hC_at hC1 (pL_lt hPL).2 (fun z => z.elim hwu hwv)) (fun q h1 h2 => ⟨hC_at hC1 h2 (fun z => z.elim (fun y => hPu (y ▸ h1)) (fun y => hPv (y ▸ h1))), h1⟩)
        rw [if_pos (by omega)] at hp
        obtain ⟨rfl, hU⟩ := hp
        refine W.eq (g2 := F0 m 27 ls [.int 1]) rfl ?_
        refine lv_pop hx hb d_T_proveGrowth_27 rfl ?_
        refine W.widen (k := 0) (n := 0) (by omega) (by omega) ?_
        exact W.vret hx hb hr (fun t9 ht hW => ⟨_, rfl, by rw [ht]; exact hS_hC hS, by rw [ht]; exact ⟨rfl, by rw [gG_0 (by omega)]; unfold grL prS; rw [c13]; exact hU⟩⟩) hS.2.2 d_T_proveGrowth_28 hlk
    · skip
      refine lv_iload_n hx hb d_T_proveGrowth_5 rfl (lv_at hl 2 rfl) ?_
      refine lv_bipush (v := nI 120) hx hb d_T_proveGrowth_6 (by decide) ?_
      refine n_le (tgt := 29) (a := n) (b := 120) hx hb d_T_proveGrowth_8 (by decide) (by omega) (by omega) (fun c8 => ?_) (fun c8 => ?_)
      · skip
        refine lv_iload_n hx hb d_T_proveGrowth_29 rfl (lv_at hl 2 rfl) ?_
        refine aP (rS (As := [.int (nI n)]) (rest := []) C0 (c_T_firstPart l g _ n h3) (zK_S hZ hS (fun q h => h.elim (fun z => by rw [z]; exact hu9) (fun z => by rw [z]; exact hv9))) k_T_proveGrowth_30 rfl rfl ⟨by show _ ≤ _; simp only [rmk]; omega, by show _ ≤ _; simp only [rmk]; omega⟩ rfl hl.1 rfl (Nat.le_of_ble_eq_true rfl) d_T_proveGrowth_30 ⟨by show 0 + 0 ≤ 0; omega, by show 0 + 0 ≤ 0; omega⟩) ?_
        intro v hv; subst hv
        refine W.eq (g2 := F0 m 33 ls [.int (nI (fpS n))]) rfl ?_
        have hlt9 := fpS_lt (n := n) (by omega)
        have hps9 := fpS_pos n
        refine lv_istore (lv' := [(6, .int (nI (fpS n))), (0, .ref a), (1, .int (nI from0)), (2, .int (nI n)), (3, .int (nI i)), (4, .int (bI wb)), (5, .ref u)]) hx hb d_T_proveGrowth_33 hl (by decide) rfl (fun ls hl => ?_)
        refine lv_iload_n hx hb d_T_proveGrowth_35 rfl (lv_at hl 4 rfl) ?_
        refine lv_iload hx hb d_T_proveGrowth_36 (lv_at hl 0 rfl) ?_
        refine n_gt (tgt := 74) (a := i) (b := fpS n) hx hb d_T_proveGrowth_38 (by decide) (by omega) (by omega) (fun c38 => ?_) (fun c38 => ?_)
        · skip
          refine lv_aload_n hx hb d_T_proveGrowth_74 rfl (lv_at hl 1 rfl) ?_
          refine lv_iload_n hx hb d_T_proveGrowth_75 rfl (lv_at hl 2 rfl) ?_
          refine lv_iload hx hb d_T_proveGrowth_76 (lv_at hl 0 rfl) ?_
          refine n_iadd hx hb d_T_proveGrowth_78 ?_
          refine lv_iload_n hx hb d_T_proveGrowth_79 rfl (lv_at hl 3 rfl) ?_
          refine lv_iload hx hb d_T_proveGrowth_80 (lv_at hl 0 rfl) ?_
          refine n_isub hx hb (by omega) d_T_proveGrowth_82 ?_
          refine lv_iload_n hx hb d_T_proveGrowth_83 rfl (lv_at hl 4 rfl) ?_
          refine lv_iload hx hb d_T_proveGrowth_84 (lv_at hl 0 rfl) ?_
          refine n_isub hx hb (by omega) d_T_proveGrowth_86 ?_
          refine lv_iconst (v := bI false) hx hb d_T_proveGrowth_87 (by decide) ?_
          refine lv_aload hx hb d_T_proveGrowth_88 (lv_at hl 6 rfl) ?_
          refine aW (N := (fun q => q = u ∨ q = v)) (rS (As := [.ref a, .int (nI (from0 + fpS n)), .int (nI (n - fpS n)), .int (nI (i - fpS n)), .int (bI false), .ref u]) (rest := []) C0 (ih (from0 + fpS n) (n - fpS n) (i - fpS n) false f k q _ hPL hU (by omega) (fpS_half n (by omega) (by omega) d (by omega) h2).2 (by omega) (by omega) (by omega) (by omega) (by omega) (by omega)) (zK_S hZ hS (fun q h => h.elim (fun z => by rw [z]; exact hu9) (fun z => by rw [z]; exact hv9))) k_T_proveGrowth_90 rfl rfl ⟨by show _ ≤ _; simp only [rmk]; omega, by show _ ≤ _; simp only [rmk]; omega⟩ rfl hl.1 rfl (Nat.le_of_ble_eq_true rfl) d_T_proveGrowth_90 ⟨by show 0 + 0 ≤ 0; omega, by show 0 + 0 ≤ 0; omega⟩) (fun v H L hC1 hp hL => ?_)
          have hS0 := hS
          have hS := hS_call hS hC1 hL (fun q h => Or.inl h)
          have hPL := pL_mv hPL (hC_at hC1 (pL_lt hPL).1 (fun z => z.elim hau hav)) (hC_at hC1 (pL_lt hPL).2 (fun z => z.elim hwu hwv)) (fun q h1 h2 => ⟨hC_at hC1 h2 (fun z => z.elim (fun y => hPu (y ▸ h1)) (fun y => hPv (y ▸ h1))), h1⟩)
          obtain ⟨rfl, hU⟩ := hp
          have hl9 := gdR_len true d (from0 + fpS n) (n - fpS n) (i - fpS n) false
          have hz9 := grL_len (dS rows) (gdR true d (from0 + fpS n) (n - fpS n) (i - fpS n) false)
          refine W.eq (g2 := F0 m 93 ls []) rfl ?_
          refine lv_aload hx hb d_T_proveGrowth_93 (lv_at hl 6 rfl) ?_
          refine lv_aload_n hx hb d_T_proveGrowth_95 rfl (lv_at hl 1 rfl) ?_
          refine lv_iload_n hx hb d_T_proveGrowth_96 rfl (lv_at hl 2 rfl) ?_
          refine lv_iload hx hb d_T_proveGrowth_97 (lv_at hl 0 rfl) ?_
          refine aP (rS (As := [.ref a, .int (nI from0), .int (nI (fpS n))]) (rest := [.ref u]) C0 (c_T_headOf l g _ a rows (pL_isL hPL) 7 from0 (fpS n) (by omega) (by omega) (by omega) (by omega) (by omega)) (zK_S hZ hS (fun q h => h.elim (fun z => by rw [z]; exact hu9) (fun z => by rw [z]; exact hv9))) k_T_proveGrowth_99 rfl rfl ⟨by show _ ≤ _; simp only [rmk]; omega, by show _ ≤ _; simp only [rmk]; omega⟩ rfl hl.1 rfl (Nat.le_of_ble_eq_true rfl) d_T_proveGrowth_99 ⟨by show 0 + 0 + 0 ≤ 0; omega, by show 0 + 0 + 0 ≤ 0; omega⟩) ?_
          intro v hv; subst hv
          refine W.eq (g2 := F0 m 102 ls [.long (hdS (dS rows) from0 (fpS n)), .ref u]) rfl ?_
          refine aW (N := (fun q => q = u ∨ q = v)) (rV (As := [.long (hdS (dS rows) from0 (fpS n))]) (rest := []) C0 (c_U_add l g _ u v _ q _ hU huv (hdS (dS rows) from0 (fpS n))) (zK_S hZ hS (fun q h => h.elim (fun z => by rw [z]; exact hu9) (fun z => by rw [z]; exact hv9))) k_T_proveGrowth_102 rfl rfl ⟨by show _ ≤ _; simp only [rmk]; omega, by show _ ≤ _; simp only [rmk]; omega⟩ (ob_recv hK hU.1 rfl) rfl hl.1 rfl (Nat.le_of_ble_eq_true rfl) d_T_proveGrowth_102 ⟨by show 0 + 0 + 0 ≤ 0; omega, by show 0 + 0 + 0 ≤ 0; omega⟩) (fun v H L hC1 hp hL => ?_)
          have hS0 := hS
          have hS := hS_call hS hC1 hL (fun q h => Or.inl h)
          have hPL := pL_mv hPL (hC_at hC1 (pL_lt hPL).1 (fun z => z.elim hau hav)) (hC_at hC1 (pL_lt hPL).2 (fun z => z.elim hwu hwv)) (fun q h1 h2 => ⟨hC_at hC1 h2 (fun z => z.elim (fun y => hPu (y ▸ h1)) (fun y => hPv (y ▸ h1))), h1⟩)
          rw [if_pos (by omega)] at hp
          obtain ⟨rfl, hU⟩ := hp
          refine W.eq (g2 := F0 m 105 ls [.int 1]) rfl ?_
          refine lv_pop hx hb d_T_proveGrowth_105 rfl ?_
          refine W.widen (k := 0) (n := 0) (by omega) (by omega) ?_
          exact W.vret hx hb hr (fun t9 ht hW => ⟨_, rfl, by rw [ht]; exact hS_hC hS, by rw [ht]; exact ⟨rfl, by rw [gG_r (by omega) (by omega), grL_c, psh_ap, List.length_append, ← Nat.add_assoc]; exact hU⟩⟩) hS.2.2 d_T_proveGrowth_106 hlk
        · skip
          refine lv_aload_n hx hb d_T_proveGrowth_41 rfl (lv_at hl 1 rfl) ?_
          refine lv_iload_n hx hb d_T_proveGrowth_42 rfl (lv_at hl 2 rfl) ?_
          refine lv_iload hx hb d_T_proveGrowth_43 (lv_at hl 0 rfl) ?_
          refine lv_iload_n hx hb d_T_proveGrowth_45 rfl (lv_at hl 4 rfl) ?_
          refine lv_iload hx hb d_T_proveGrowth_46 (lv_at hl 5 rfl) ?_
          refine lv_aload hx hb d_T_proveGrowth_48 (lv_at hl 6 rfl) ?_
          refine aW (N := (fun q => q = u ∨ q = v)) (rS (As := [.ref a, .int (nI from0), .int (nI (fpS n)), .int (nI i), .int (bI wb), .ref u]) (rest := []) C0 (ih from0 (fpS n) i wb f k q _ hPL hU hps9 (fpS_half n (by omega) (by omega) d (by omega) h2).1 (by omega) (by omega) (by omega) (by omega) (by omega) (by omega)) (zK_S hZ hS (fun q h => h.elim (fun z => by rw [z]; exact hu9) (fun z => by rw [z]; exact hv9))) k_T_proveGrowth_50 rfl rfl ⟨by show _ ≤ _; simp only [rmk]; omega, by show _ ≤ _; simp only [rmk]; omega⟩ rfl hl.1 rfl (Nat.le_of_ble_eq_true rfl) d_T_proveGrowth_50 ⟨by show 0 + 0 ≤ 0; omega, by show 0 + 0 ≤ 0; omega⟩) (fun v H L hC1 hp hL => ?_)
          have hS0 := hS
          have hS := hS_call hS hC1 hL (fun q h => Or.inl h)
          have hPL := pL_mv hPL (hC_at hC1 (pL_lt hPL).1 (fun z => z.elim hau hav)) (hC_at hC1 (pL_lt hPL).2 (fun z => z.elim hwu hwv)) (fun q h1 h2 => ⟨hC_at hC1 h2 (fun z => z.elim (fun y => hPu (y ▸ h1)) (fun y => hPv (y ▸ h1))), h1⟩)
          obtain ⟨rfl, hU⟩ := hp
          have hl9 := gdR_len true d from0 (fpS n) i wb
          have hz9 := grL_len (dS rows) (gdR true d from0 (fpS n) i wb)
          refine W.eq (g2 := F0 m 53 ls []) rfl ?_
          refine lv_aload hx hb d_T_proveGrowth_53 (lv_at hl 6 rfl) ?_
          refine lv_aload_n hx hb d_T_proveGrowth_55 rfl (lv_at hl 1 rfl) ?_
          refine lv_iload_n hx hb d_T_proveGrowth_56 rfl (lv_at hl 2 rfl) ?_
          refine lv_iload hx hb d_T_proveGrowth_57 (lv_at hl 0 rfl) ?_
          refine n_iadd hx hb d_T_proveGrowth_59 ?_
          refine lv_iload_n hx hb d_T_proveGrowth_60 rfl (lv_at hl 3 rfl) ?_
          refine lv_iload hx hb d_T_proveGrowth_61 (lv_at hl 0 rfl) ?_
          refine n_isub hx hb (by omega) d_T_proveGrowth_63 ?_
          refine aP (rS (As := [.ref a, .int (nI (from0 + (fpS n))), .int (nI (n - (fpS n)))]) (rest := [.ref u]) C0 (c_T_headOf l g _ a rows (pL_isL hPL) 7 (from0 + (fpS n)) (n - (fpS n)) (by omega) (by omega) (by omega) (by omega) (by omega)) (zK_S hZ hS (fun q h => h.elim (fun z => by rw [z]; exact hu9) (fun z => by rw [z]; exact hv9))) k_T_proveGrowth_64 rfl rfl ⟨by show _ ≤ _; simp only [rmk]; omega, by show _ ≤ _; simp only [rmk]; omega⟩ rfl hl.1 rfl (Nat.le_of_ble_eq_true rfl) d_T_proveGrowth_64 ⟨by show 0 + 0 + 0 ≤ 0; omega, by show 0 + 0 + 0 ≤ 0; omega⟩) ?_
          intro v hv; subst hv
          refine W.eq (g2 := F0 m 67 ls [.long (hdS (dS rows) (from0 + (fpS n)) (n - (fpS n))), .ref u]) rfl ?_
          refine aW (N := (fun q => q = u ∨ q = v)) (rV (As := [.long (hdS (dS rows) (from0 + (fpS n)) (n - (fpS n)))]) (rest := []) C0 (c_U_add l g _ u v _ q _ hU huv (hdS (dS rows) (from0 + (fpS n)) (n - (fpS n)))) (zK_S hZ hS (fun q h => h.elim (fun z => by rw [z]; exact hu9) (fun z => by rw [z]; exact hv9))) k_T_proveGrowth_67 rfl rfl ⟨by show _ ≤ _; simp only [rmk]; omega, by show _ ≤ _; simp only [rmk]; omega⟩ (ob_recv hK hU.1 rfl) rfl hl.1 rfl (Nat.le_of_ble_eq_true rfl) d_T_proveGrowth_67 ⟨by show 0 + 0 + 0 ≤ 0; omega, by show 0 + 0 + 0 ≤ 0; omega⟩) (fun v H L hC1 hp hL => ?_)
          have hS0 := hS
          have hS := hS_call hS hC1 hL (fun q h => Or.inl h)
          have hPL := pL_mv hPL (hC_at hC1 (pL_lt hPL).1 (fun z => z.elim hau hav)) (hC_at hC1 (pL_lt hPL).2 (fun z => z.elim hwu hwv)) (fun q h1 h2 => ⟨hC_at hC1 h2 (fun z => z.elim (fun y => hPu (y ▸ h1)) (fun y => hPv (y ▸ h1))), h1⟩)
          rw [if_pos (by omega)] at hp
          obtain ⟨rfl, hU⟩ := hp
          refine W.eq (g2 := F0 m 70 ls [.int 1]) rfl ?_
          refine lv_pop hx hb d_T_proveGrowth_70 rfl ?_
          refine lv_goto (tgt := 106) hx hb d_T_proveGrowth_71 (by decide) ?_
          refine W.widen (k := 0) (n := 0) (by omega) (by omega) ?_
          exact W.vret hx hb hr (fun t9 ht hW => ⟨_, rfl, by rw [ht]; exact hS_hC hS, by rw [ht]; exact ⟨rfl, by rw [gG_l (by omega) (by omega), grL_c, psh_ap, List.length_append, ← Nat.add_assoc]; exact hU⟩⟩) hS.2.2 d_T_proveGrowth_106 hlk
      · skip
        refine lv_iload hx hb d_T_proveGrowth_11 (lv_at hl 4 rfl) ?_
        refine z_ne (tgt := 28) (v := wb) hx hb d_T_proveGrowth_13 (by decide) (fun c13 => ?_) (fun c13 => ?_)
        · skip
          exact absurd h3 (by omega)
        · skip
          refine lv_aload hx hb d_T_proveGrowth_16 (lv_at hl 5 rfl) ?_
          refine lv_aload_n hx hb d_T_proveGrowth_18 rfl (lv_at hl 0 rfl) ?_
          refine lv_iload_n hx hb d_T_proveGrowth_19 rfl (lv_at hl 1 rfl) ?_
          refine lv_iload_n hx hb d_T_proveGrowth_20 rfl (lv_at hl 2 rfl) ?_
          refine aP (rS (As := [.ref a, .int (nI from0), .int (nI n)]) (rest := [.ref u]) C0 (c_T_headOf l g _ a rows (pL_isL hPL) 7 from0 n (by omega) (by omega) (by omega) (by omega) (by omega)) (zK_S hZ hS (fun q h => h.elim (fun z => by rw [z]; exact hu9) (fun z => by rw [z]; exact hv9))) k_T_proveGrowth_21 rfl rfl ⟨by show _ ≤ _; simp only [rmk]; omega, by show _ ≤ _; simp only [rmk]; omega⟩ rfl hl.1 rfl (Nat.le_of_ble_eq_true rfl) d_T_proveGrowth_21 ⟨by show 0 + 0 ≤ 0; omega, by show 0 + 0 ≤ 0; omega⟩) ?_
          intro v hv; subst hv
          refine W.eq (g2 := F0 m 24 ls [.long (hdS (dS rows) from0 n), .ref u]) rfl ?_
          refine aW (N := (fun q => q = u ∨ q = v)) (rV (As := [.long (hdS (dS rows) from0 n)]) (rest := []) C0 (c_U_add l g _ u v _ q _ hU huv (hdS (dS rows) from0 n)) (zK_S hZ hS (fun q h => h.elim (fun z => by rw [z]; exact hu9) (fun z => by rw [z]; exact hv9))) k_T_proveGrowth_24 rfl rfl ⟨by show _ ≤ _; simp only [rmk]; omega, by show _ ≤ _; simp only [rmk]; omega⟩ (ob_recv hK hU.1 rfl) rfl hl.1 rfl (Nat.le_of_ble_eq_true rfl) d_T_proveGrowth_24 ⟨by show 0 + 0 ≤ 0; omega, by show 0 + 0 ≤ 0; omega⟩) (fun v H L hC1 hp hL => ?_)
          have hS0 := hS
          have hS := hS_call hS hC1 hL (fun q h => Or.inl h)
          have hPL := pL_mv hPL (hC_at hC1 (pL_lt hPL).1 (fun z => z.elim hau hav)) (hC_at hC1 (pL_lt hPL).2 (fun z => z.elim hwu hwv)) (fun q h1 h2 => ⟨hC_at hC1 h2 (fun z => z.elim (fun y => hPu (y ▸ h1)) (fun y => hPv (y ▸ h1))), h1⟩)
          rw [if_pos (by omega)] at hp
          obtain ⟨rfl, hU⟩ := hp
          refine W.eq (g2 := F0 m 27 ls [.int 1]) rfl ?_
          refine lv_pop hx hb d_T_proveGrowth_27 rfl ?_
          exact absurd h3 (by omega)
theorem k_T_headFromInside_14 : kS "RegistryLog$Tree" 39 y_T_firstPart b_T_firstPart 3 (some .int) 1 := ⟨(in_3 (List.mem_of_getElem? (i := 62) rfl) rfl), (in_3 (List.mem_of_getElem? (i := 63) rfl) rfl), (in_1 (List.mem_of_getElem? (i := 20) rfl) rfl), (in_3 (List.mem_of_getElem? (i := 64) rfl) rfl), ⟨by decide, by decide, by decide +kernel⟩⟩
theorem k_T_headFromInside_31 : kS "RegistryLog$Tree" 64 y_T_headFromInside b_T_headFromInside 8 (some .long) 4 := ⟨(in_3 (List.mem_of_getElem? (i := 117) rfl) rfl), (in_3 (List.mem_of_getElem? (i := 115) rfl) rfl), (in_1 (List.mem_of_getElem? (i := 20) rfl) rfl), (in_3 (List.mem_of_getElem? (i := 116) rfl) rfl), ⟨by decide, by decide, by decide +kernel⟩⟩
theorem k_T_headFromInside_40 : kV "RegistryLog$Tree" 68 "RegistryLog$Numbers" y_U_next b_U_next 3 (some .long) 0 := ⟨(in_3 (List.mem_of_getElem? (i := 118) rfl) rfl), (in_3 (List.mem_of_getElem? (i := 119) rfl) rfl), (in_3 (List.mem_of_getElem? (i := 120) rfl) rfl), (in_1 (List.mem_of_getElem? (i := 21) rfl) rfl), (in_3 (List.mem_of_getElem? (i := 121) rfl) rfl), ⟨by decide, by decide, by decide +kernel⟩⟩
theorem k_T_headFromInside_43 : kS "RegistryLog$Tree" 47 y_T_join b_T_join 4 (some .long) 2 := ⟨(in_3 (List.mem_of_getElem? (i := 66) rfl) rfl), (in_3 (List.mem_of_getElem? (i := 67) rfl) rfl), (in_1 (List.mem_of_getElem? (i := 20) rfl) rfl), (in_3 (List.mem_of_getElem? (i := 68) rfl) rfl), ⟨by decide, by decide, by decide +kernel⟩⟩
theorem k_T_headFromInside_58 : kS "RegistryLog$Tree" 64 y_T_headFromInside b_T_headFromInside 8 (some .long) 4 := ⟨(in_3 (List.mem_of_getElem? (i := 117) rfl) rfl), (in_3 (List.mem_of_getElem? (i := 115) rfl) rfl), (in_1 (List.mem_of_getElem? (i := 20) rfl) rfl), (in_3 (List.mem_of_getElem? (i := 116) rfl) rfl), ⟨by decide, by decide, by decide +kernel⟩⟩
theorem k_T_headFromInside_65 : kV "RegistryLog$Tree" 68 "RegistryLog$Numbers" y_U_next b_U_next 3 (some .long) 0 := ⟨(in_3 (List.mem_of_getElem? (i := 118) rfl) rfl), (in_3 (List.mem_of_getElem? (i := 119) rfl) rfl), (in_3 (List.mem_of_getElem? (i := 120) rfl) rfl), (in_1 (List.mem_of_getElem? (i := 21) rfl) rfl), (in_3 (List.mem_of_getElem? (i := 121) rfl) rfl), ⟨by decide, by decide, by decide +kernel⟩⟩
theorem k_T_headFromInside_70 : kS "RegistryLog$Tree" 47 y_T_join b_T_join 4 (some .long) 2 := ⟨(in_3 (List.mem_of_getElem? (i := 66) rfl) rfl), (in_3 (List.mem_of_getElem? (i := 67) rfl) rfl), (in_1 (List.mem_of_getElem? (i := 20) rfl) rfl), (in_3 (List.mem_of_getElem? (i := 68) rfl) rfl), ⟨by decide, by decide, by decide +kernel⟩⟩
set_option maxHeartbeats 4000000 in
set_option maxRecDepth 100000 in
/-- headFromInside -/
theorem c_T_headFromInside (l : Launch) (g : gG) (u v : Nat) (f : Nat → Int64) (k : Nat) (huv : u ≠ v) (hu9 : g.2.2.1 ≤ u) (dg : Int64) : ∀ (d : Nat) (from0 n i : Nat) (wb : Bool) (q : Nat) (H : Heap), isU g H u v f k q → 1 ≤ n → n ≤ 2 ^ d → n ≤ 120 → i < n → d ≤ 7 → q + d + 1 ≤ 100 → Met l y_T_headFromInside (wC y_T_headFromInside b_T_headFromInside 8 (some .long)) (rmk (d + 2) 0 0 (27 * d + 48)) (pC g H [.int (nI i), .int (nI n), .long dg, .ref u]) (qW H (fun q => q = u) (fun r H1 => r = some (.long (iiL (fun j => getS f k (nI j)) (gdR false d from0 n i wb).1.reverse q dg)) ∧ isU g H1 u v f k (q + (gdR false d from0 n i wb).1.length))) 0 0 (fW H (fun q => q = u)) := by
  intro d
  induction d with
  | zero =>
    intro from0 n i wb q H hU h1 h2 h3 h5 h6 h7
    refine mB (by decide) (Nat.le_of_ble_eq_true rfl) ?_
    intro p e s m below meth c ls C0 hH hZ hnm hl
    have C0 : cF g p s m _ meth c b_T_headFromInside 8 "RegistryLog$Tree" (some .long) := C0
    obtain ⟨hx, hb, hml, hown, hts, hr, hlk, hK⟩ := id C0
    subst hH
    have hl : lv_has ls 8 [(0, .int (nI i)), (1, .int (nI n)), (2, .long dg), (4, .ref u)] := hl
    have hS : va_S (fW s.heap (fun q => q = u)) s.heap s.heap [] := hS_rf
    refine lv_iload_n hx hb d_T_headFromInside_0 rfl (lv_at hl 1 rfl) ?_
    refine lv_iconst (v := nI 1) hx hb d_T_headFromInside_1 (by decide) ?_
    refine n_le (tgt := 11) (a := n) (b := 1) hx hb d_T_headFromInside_2 (by decide) (by omega) (by omega) (fun c2 => ?_) (fun c2 => ?_)
    · skip
      refine lv_lload_n hx hb d_T_headFromInside_11 rfl (lv_at hl 2 rfl) ?_
      refine W.widen (k := 0) (n := 0) (by omega) (by omega) ?_
      exact W.lret hx hb hr (fun t9 ht hW => ⟨_, rfl, by rw [ht]; exact hS_hC hS, by rw [ht]; exact ⟨by rw [gI_0 (by omega)]; rfl, by rw [gI_0 (by omega)]; exact hU⟩⟩) hS.2.2 d_T_headFromInside_12 hlk
    · skip
      exact absurd h2 (by have : 2 ^ 0 = 1 := rfl; omega)
  | succ d ih =>
    intro from0 n i wb q H hU h1 h2 h3 h5 h6 h7
    refine mB (by decide) (Nat.le_of_ble_eq_true rfl) ?_
    intro p e s m below meth c ls C0 hH hZ hnm hl
    have C0 : cF g p s m _ meth c b_T_headFromInside 8 "RegistryLog$Tree" (some .long) := C0
    obtain ⟨hx, hb, hml, hown, hts, hr, hlk, hK⟩ := id C0
    subst hH
    have hl : lv_has ls 8 [(0, .int (nI i)), (1, .int (nI n)), (2, .long dg), (4, .ref u)] := hl
    have hS : va_S (fW s.heap (fun q => q = u)) s.heap s.heap [] := hS_rf
    refine lv_iload_n hx hb d_T_headFromInside_0 rfl (lv_at hl 1 rfl) ?_
    refine lv_iconst (v := nI 1) hx hb d_T_headFromInside_1 (by decide) ?_
    refine n_le (tgt := 11) (a := n) (b := 1) hx hb d_T_headFromInside_2 (by decide) (by omega) (by omega) (fun c2 => ?_) (fun c2 => ?_)
    · skip
      refine lv_lload_n hx hb d_T_headFromInside_11 rfl (lv_at hl 2 rfl) ?_
      refine W.widen (k := 0) (n := 0) (by omega) (by omega) ?_
      exact W.lret hx hb hr (fun t9 ht hW => ⟨_, rfl, by rw [ht]; exact hS_hC hS, by rw [ht]; exact ⟨by rw [gI_0 (by omega)]; rfl, by rw [gI_0 (by omega)]; exact hU⟩⟩) hS.2.2 d_T_headFromInside_12 hlk
    · skip
      refine lv_iload_n hx hb d_T_headFromInside_5 rfl (lv_at hl 1 rfl) ?_
      refine lv_bipush (v := nI 120) hx hb d_T_headFromInside_6 (by decide) ?_
      refine n_le (tgt := 13) (a := n) (b := 120) hx hb d_T_headFromInside_8 (by decide) (by omega) (by omega) (fun c8 => ?_) (fun c8 => ?_)
      · skip
        refine lv_iload_n hx hb d_T_headFromInside_13 rfl (lv_at hl 1 rfl) ?_
        refine aP (rS (As := [.int (nI n)]) (rest := []) C0 (c_T_firstPart l g _ n h3) (zK_S hZ hS (fun q h => by rw [h]; exact hu9)) k_T_headFromInside_14 rfl rfl ⟨by show _ ≤ _; simp only [rmk]; omega, by show _ ≤ _; simp only [rmk]; omega⟩ rfl hl.1 rfl (Nat.le_of_ble_eq_true rfl) d_T_headFromInside_14 ⟨by show 0 + 0 ≤ 0; omega, by show 0 + 0 ≤ 0; omega⟩) ?_
        intro v hv; subst hv
        refine W.eq (g2 := F0 m 17 ls [.int (nI (fpS n))]) rfl ?_
        have hlt9 := fpS_lt (n := n) (by omega)
        have hps9 := fpS_pos n
        refine lv_istore (lv' := [(5, .int (nI (fpS n))), (0, .int (nI i)), (1, .int (nI n)), (2, .long dg), (4, .ref u)]) hx hb d_T_headFromInside_17 hl (by decide) rfl (fun ls hl => ?_)
        refine lv_iload_n hx hb d_T_headFromInside_19 rfl (lv_at hl 1 rfl) ?_
        refine lv_iload hx hb d_T_headFromInside_20 (lv_at hl 0 rfl) ?_
        refine n_ge (tgt := 47) (a := i) (b := fpS n) hx hb d_T_headFromInside_22 (by decide) (by omega) (by omega) (fun c22 => ?_) (fun c22 => ?_)
        · skip
          refine lv_iload_n hx hb d_T_headFromInside_47 rfl (lv_at hl 1 rfl) ?_
          refine lv_iload hx hb d_T_headFromInside_48 (lv_at hl 0 rfl) ?_
          refine n_isub hx hb (by omega) d_T_headFromInside_50 ?_
          refine lv_iload_n hx hb d_T_headFromInside_51 rfl (lv_at hl 2 rfl) ?_
          refine lv_iload hx hb d_T_headFromInside_52 (lv_at hl 0 rfl) ?_
          refine n_isub hx hb (by omega) d_T_headFromInside_54 ?_
          refine lv_lload_n hx hb d_T_headFromInside_55 rfl (lv_at hl 3 rfl) ?_
          refine lv_aload hx hb d_T_headFromInside_56 (lv_at hl 4 rfl) ?_
          refine aW (N := (fun q => q = u)) (rS (As := [.int (nI (i - fpS n)), .int (nI (n - fpS n)), .long dg, .ref u]) (rest := []) C0 (ih (from0 + fpS n) (n - fpS n) (i - fpS n) false q _ hU (by omega) (fpS_half n (by omega) (by omega) d (by omega) h2).2 (by omega) (by omega) (by omega) (by omega)) (zK_S hZ hS (fun q h => by rw [h]; exact hu9)) k_T_headFromInside_58 rfl rfl ⟨by show _ ≤ _; simp only [rmk]; omega, by show _ ≤ _; simp only [rmk]; omega⟩ rfl hl.1 rfl (Nat.le_of_ble_eq_true rfl) d_T_headFromInside_58 ⟨by show 0 + 0 ≤ 0; omega, by show 0 + 0 ≤ 0; omega⟩) (fun v H L hC1 hp hL => ?_)
          have hS0 := hS
          have hS := hS_call hS hC1 hL (fun q h => Or.inl h)
          obtain ⟨rfl, hU⟩ := hp
          have hl9 := gdR_len false d (from0 + fpS n) (n - fpS n) (i - fpS n) false
          refine W.eq (g2 := F0 m 61 ls [.long (iiL (fun j => getS f k (nI j)) (gdR false d (from0 + fpS n) (n - fpS n) (i - fpS n) false).1.reverse q dg)]) rfl ?_
          refine lv_topl (fun x_1 ex_1 => ?_)
          refine lv_lstore (lv' := [(6, .long x_1), (5, .int (nI (fpS n))), (0, .int (nI i)), (1, .int (nI n)), (2, .long dg), (4, .ref u)]) hx hb d_T_headFromInside_61 hl (by decide) rfl (fun ls hl => ?_)
          refine lv_aload hx hb d_T_headFromInside_63 (lv_at hl 5 rfl) ?_
          refine aW (N := (fun q => q = u)) (rV (As := []) (rest := []) C0 (c_U_next l g _ u v k (q + (gdR false d (from0 + fpS n) (n - fpS n) (i - fpS n) false).1.length) f hU huv (by omega) hu9) (zK_S hZ hS (fun q h => by rw [h]; exact hu9)) k_T_headFromInside_65 rfl rfl ⟨by show _ ≤ _; simp only [rmk]; omega, by show _ ≤ _; simp only [rmk]; omega⟩ (ob_recv hK hU.1 rfl) rfl hl.1 rfl (Nat.le_of_ble_eq_true rfl) d_T_headFromInside_65 ⟨by show 0 + 0 + 0 ≤ 0; omega, by show 0 + 0 + 0 ≤ 0; omega⟩) (fun v H L hC1 hp hL => ?_)
          have hS0 := hS
          have hS := hS_call hS hC1 hL (fun q h => Or.inl h)
          obtain ⟨rfl, hU⟩ := hp
          refine W.eq (g2 := F0 m 68 ls [.long (getS f k (nI (q + (gdR false d (from0 + fpS n) (n - fpS n) (i - fpS n) false).1.length)))]) rfl ?_
          refine lv_lload hx hb d_T_headFromInside_68 (lv_at hl 0 rfl) ?_
          refine aP (rS (As := [.long (getS f k (nI (q + (gdR false d (from0 + fpS n) (n - fpS n) (i - fpS n) false).1.length))), .long x_1]) (rest := []) C0 (c_T_join l g _ (getS f k (nI (q + (gdR false d (from0 + fpS n) (n - fpS n) (i - fpS n) false).1.length))) x_1) (zK_S hZ hS (fun q h => by rw [h]; exact hu9)) k_T_headFromInside_70 rfl rfl ⟨by show _ ≤ _; simp only [rmk]; omega, by show _ ≤ _; simp only [rmk]; omega⟩ rfl hl.1 rfl (Nat.le_of_ble_eq_true rfl) d_T_headFromInside_70 ⟨by show 0 + 0 + 0 + 0 ≤ 0; omega, by show 0 + 0 + 0 + 0 ≤ 0; omega⟩) ?_
          intro v hv; subst hv
          refine W.eq (g2 := F0 m 73 ls [.long (joinS (getS f k (nI (q + (gdR false d (from0 + fpS n) (n - fpS n) (i - fpS n) false).1.length))) x_1)]) rfl ?_
          refine W.widen (k := 0) (n := 0) (by omega) (by omega) ?_
          exact W.lret hx hb hr (fun t9 ht hW => ⟨_, rfl, by rw [ht]; exact hS_hC hS, by rw [ht]; exact ⟨by rw [gI_r (by omega) (by omega)]; show some (Value.long _) = some (Value.long (iiL _ (_ :: _).reverse _ _)); rw [List.reverse_cons, iiL_ap, List.length_reverse, ex_1]; rfl, by rw [gI_r (by omega) (by omega)]; show isU _ _ _ _ _ _ (q + (_ + 1)); rw [← Nat.add_assoc]; exact hU⟩⟩) hS.2.2 d_T_headFromInside_73 hlk
        · skip
          refine lv_iload_n hx hb d_T_headFromInside_25 rfl (lv_at hl 1 rfl) ?_
          refine lv_iload hx hb d_T_headFromInside_26 (lv_at hl 0 rfl) ?_
          refine lv_lload_n hx hb d_T_headFromInside_28 rfl (lv_at hl 3 rfl) ?_
          refine lv_aload hx hb d_T_headFromInside_29 (lv_at hl 4 rfl) ?_
          refine aW (N := (fun q => q = u)) (rS (As := [.int (nI i), .int (nI (fpS n)), .long dg, .ref u]) (rest := []) C0 (ih from0 (fpS n) i wb q _ hU hps9 (fpS_half n (by omega) (by omega) d (by omega) h2).1 (by omega) (by omega) (by omega) (by omega)) (zK_S hZ hS (fun q h => by rw [h]; exact hu9)) k_T_headFromInside_31 rfl rfl ⟨by show _ ≤ _; simp only [rmk]; omega, by show _ ≤ _; simp only [rmk]; omega⟩ rfl hl.1 rfl (Nat.le_of_ble_eq_true rfl) d_T_headFromInside_31 ⟨by show 0 + 0 ≤ 0; omega, by show 0 + 0 ≤ 0; omega⟩) (fun v H L hC1 hp hL => ?_)
          have hS0 := hS
          have hS := hS_call hS hC1 hL (fun q h => Or.inl h)
          obtain ⟨rfl, hU⟩ := hp
          have hl9 := gdR_len false d from0 (fpS n) i wb
          refine W.eq (g2 := F0 m 34 ls [.long (iiL (fun j => getS f k (nI j)) (gdR false d from0 (fpS n) i wb).1.reverse q dg)]) rfl ?_
          refine lv_topl (fun x_2 ex_2 => ?_)
          refine lv_lstore (lv' := [(6, .long x_2), (5, .int (nI (fpS n))), (0, .int (nI i)), (1, .int (nI n)), (2, .long dg), (4, .ref u)]) hx hb d_T_headFromInside_34 hl (by decide) rfl (fun ls hl => ?_)
          refine lv_lload hx hb d_T_headFromInside_36 (lv_at hl 0 rfl) ?_
          refine lv_aload hx hb d_T_headFromInside_38 (lv_at hl 5 rfl) ?_
          refine aW (N := (fun q => q = u)) (rV (As := []) (rest := [.long x_2]) C0 (c_U_next l g _ u v k (q + (gdR false d from0 (fpS n) i wb).1.length) f hU huv (by omega) hu9) (zK_S hZ hS (fun q h => by rw [h]; exact hu9)) k_T_headFromInside_40 rfl rfl ⟨by show _ ≤ _; simp only [rmk]; omega, by show _ ≤ _; simp only [rmk]; omega⟩ (ob_recv hK hU.1 rfl) rfl hl.1 rfl (Nat.le_of_ble_eq_true rfl) d_T_headFromInside_40 ⟨by show 0 + 0 + 0 ≤ 0; omega, by show 0 + 0 + 0 ≤ 0; omega⟩) (fun v H L hC1 hp hL => ?_)
          have hS0 := hS
          have hS := hS_call hS hC1 hL (fun q h => Or.inl h)
          obtain ⟨rfl, hU⟩ := hp
          refine W.eq (g2 := F0 m 43 ls [.long (getS f k (nI (q + (gdR false d from0 (fpS n) i wb).1.length))), .long x_2]) rfl ?_
          refine aP (rS (As := [.long x_2, .long (getS f k (nI (q + (gdR false d from0 (fpS n) i wb).1.length)))]) (rest := []) C0 (c_T_join l g _ x_2 (getS f k (nI (q + (gdR false d from0 (fpS n) i wb).1.length)))) (zK_S hZ hS (fun q h => by rw [h]; exact hu9)) k_T_headFromInside_43 rfl rfl ⟨by show _ ≤ _; simp only [rmk]; omega, by show _ ≤ _; simp only [rmk]; omega⟩ rfl hl.1 rfl (Nat.le_of_ble_eq_true rfl) d_T_headFromInside_43 ⟨by show 0 + 0 + 0 + 0 ≤ 0; omega, by show 0 + 0 + 0 + 0 ≤ 0; omega⟩) ?_
          intro v hv; subst hv
          refine W.eq (g2 := F0 m 46 ls [.long (joinS x_2 (getS f k (nI (q + (gdR false d from0 (fpS n) i wb).1.length))))]) rfl ?_
          refine W.widen (k := 0) (n := 0) (by omega) (by omega) ?_
          exact W.lret hx hb hr (fun t9 ht hW => ⟨_, rfl, by rw [ht]; exact hS_hC hS, by rw [ht]; exact ⟨by rw [gI_l (by omega) (by omega)]; show some (Value.long _) = some (Value.long (iiL _ (_ :: _).reverse _ _)); rw [List.reverse_cons, iiL_ap, List.length_reverse, ex_2]; rfl, by rw [gI_l (by omega) (by omega)]; show isU _ _ _ _ _ _ (q + (_ + 1)); rw [← Nat.add_assoc]; exact hU⟩⟩) hS.2.2 d_T_headFromInside_46 hlk
      · skip
        refine lv_lload_n hx hb d_T_headFromInside_11 rfl (lv_at hl 2 rfl) ?_
        exact absurd h3 (by omega)
theorem k_T_headsFromGrowth_21 : kV "RegistryLog$Tree" 68 "RegistryLog$Numbers" y_U_next b_U_next 3 (some .long) 0 := ⟨(in_3 (List.mem_of_getElem? (i := 118) rfl) rfl), (in_3 (List.mem_of_getElem? (i := 119) rfl) rfl), (in_3 (List.mem_of_getElem? (i := 120) rfl) rfl), (in_1 (List.mem_of_getElem? (i := 21) rfl) rfl), (in_3 (List.mem_of_getElem? (i := 121) rfl) rfl), ⟨by decide, by decide, by decide +kernel⟩⟩
theorem k_T_headsFromGrowth_34 : kI "RegistryLog$Tree" 74 y_H_init b_H_init 5 2 := ⟨(in_3 (List.mem_of_getElem? (i := 136) rfl) rfl), (in_3 (List.mem_of_getElem? (i := 137) rfl) rfl), (in_1 (List.mem_of_getElem? (i := 25) rfl) rfl), (in_3 (List.mem_of_getElem? (i := 138) rfl) rfl), rfl, ⟨by decide, by decide, by decide +kernel⟩⟩
theorem k_T_headsFromGrowth_39 : kS "RegistryLog$Tree" 39 y_T_firstPart b_T_firstPart 3 (some .int) 1 := ⟨(in_3 (List.mem_of_getElem? (i := 62) rfl) rfl), (in_3 (List.mem_of_getElem? (i := 63) rfl) rfl), (in_1 (List.mem_of_getElem? (i := 20) rfl) rfl), (in_3 (List.mem_of_getElem? (i := 64) rfl) rfl), ⟨by decide, by decide, by decide +kernel⟩⟩
theorem k_T_headsFromGrowth_57 : kS "RegistryLog$Tree" 77 y_T_headsFromGrowth b_T_headsFromGrowth 10 (some (.object "RegistryLog$TwoHeads")) 5 := ⟨(in_3 (List.mem_of_getElem? (i := 151) rfl) rfl), (in_3 (List.mem_of_getElem? (i := 132) rfl) rfl), (in_1 (List.mem_of_getElem? (i := 20) rfl) rfl), (in_3 (List.mem_of_getElem? (i := 133) rfl) rfl), ⟨by decide, by decide, by decide +kernel⟩⟩
theorem k_T_headsFromGrowth_78 : kV "RegistryLog$Tree" 68 "RegistryLog$Numbers" y_U_next b_U_next 3 (some .long) 0 := ⟨(in_3 (List.mem_of_getElem? (i := 118) rfl) rfl), (in_3 (List.mem_of_getElem? (i := 119) rfl) rfl), (in_3 (List.mem_of_getElem? (i := 120) rfl) rfl), (in_1 (List.mem_of_getElem? (i := 21) rfl) rfl), (in_3 (List.mem_of_getElem? (i := 121) rfl) rfl), ⟨by decide, by decide, by decide +kernel⟩⟩
theorem k_T_headsFromGrowth_81 : kS "RegistryLog$Tree" 47 y_T_join b_T_join 4 (some .long) 2 := ⟨(in_3 (List.mem_of_getElem? (i := 66) rfl) rfl), (in_3 (List.mem_of_getElem? (i := 67) rfl) rfl), (in_1 (List.mem_of_getElem? (i := 20) rfl) rfl), (in_3 (List.mem_of_getElem? (i := 68) rfl) rfl), ⟨by decide, by decide, by decide +kernel⟩⟩
theorem k_T_headsFromGrowth_84 : kI "RegistryLog$Tree" 74 y_H_init b_H_init 5 2 := ⟨(in_3 (List.mem_of_getElem? (i := 136) rfl) rfl), (in_3 (List.mem_of_getElem? (i := 137) rfl) rfl), (in_1 (List.mem_of_getElem? (i := 25) rfl) rfl), (in_3 (List.mem_of_getElem? (i := 138) rfl) rfl), rfl, ⟨by decide, by decide, by decide +kernel⟩⟩
theorem k_T_headsFromGrowth_100 : kS "RegistryLog$Tree" 77 y_T_headsFromGrowth b_T_headsFromGrowth 10 (some (.object "RegistryLog$TwoHeads")) 5 := ⟨(in_3 (List.mem_of_getElem? (i := 151) rfl) rfl), (in_3 (List.mem_of_getElem? (i := 132) rfl) rfl), (in_1 (List.mem_of_getElem? (i := 20) rfl) rfl), (in_3 (List.mem_of_getElem? (i := 133) rfl) rfl), ⟨by decide, by decide, by decide +kernel⟩⟩
theorem k_T_headsFromGrowth_107 : kV "RegistryLog$Tree" 68 "RegistryLog$Numbers" y_U_next b_U_next 3 (some .long) 0 := ⟨(in_3 (List.mem_of_getElem? (i := 118) rfl) rfl), (in_3 (List.mem_of_getElem? (i := 119) rfl) rfl), (in_3 (List.mem_of_getElem? (i := 120) rfl) rfl), (in_1 (List.mem_of_getElem? (i := 21) rfl) rfl), (in_3 (List.mem_of_getElem? (i := 121) rfl) rfl), ⟨by decide, by decide, by decide +kernel⟩⟩
theorem k_T_headsFromGrowth_123 : kS "RegistryLog$Tree" 47 y_T_join b_T_join 4 (some .long) 2 := ⟨(in_3 (List.mem_of_getElem? (i := 66) rfl) rfl), (in_3 (List.mem_of_getElem? (i := 67) rfl) rfl), (in_1 (List.mem_of_getElem? (i := 20) rfl) rfl), (in_3 (List.mem_of_getElem? (i := 68) rfl) rfl), ⟨by decide, by decide, by decide +kernel⟩⟩
theorem k_T_headsFromGrowth_133 : kS "RegistryLog$Tree" 47 y_T_join b_T_join 4 (some .long) 2 := ⟨(in_3 (List.mem_of_getElem? (i := 66) rfl) rfl), (in_3 (List.mem_of_getElem? (i := 67) rfl) rfl), (in_1 (List.mem_of_getElem? (i := 20) rfl) rfl), (in_3 (List.mem_of_getElem? (i := 68) rfl) rfl), ⟨by decide, by decide, by decide +kernel⟩⟩
theorem k_T_headsFromGrowth_136 : kI "RegistryLog$Tree" 74 y_H_init b_H_init 5 2 := ⟨(in_3 (List.mem_of_getElem? (i := 136) rfl) rfl), (in_3 (List.mem_of_getElem? (i := 137) rfl) rfl), (in_1 (List.mem_of_getElem? (i := 25) rfl) rfl), (in_3 (List.mem_of_getElem? (i := 138) rfl) rfl), rfl, ⟨by decide, by decide, by decide +kernel⟩⟩
set_option maxHeartbeats 4000000 in
set_option maxRecDepth 100000 in
/-- headsFromGrowth -/
theorem c_T_headsFromGrowth (l : Launch) (g : gG) (u v : Nat) (f : Nat → Int64) (k : Nat) (huv : u ≠ v) (hu9 : g.2.2.1 ≤ u) (fi : Int64) : ∀ (d : Nat) (from0 n i : Nat) (wb : Bool) (q : Nat) (H : Heap), isU g H u v f k q → 1 ≤ n → n ≤ 2 ^ d → n ≤ 120 → i ≤ n → 1 ≤ i → d ≤ 7 → q + d + 2 ≤ 100 → Met l y_T_headsFromGrowth (wC y_T_headsFromGrowth b_T_headsFromGrowth 10 (some (.object "RegistryLog$TwoHeads"))) (rmk (d + 2) (d + 1) (2 * (d + 1)) (29 * d + 48)) (pC g H [.int (nI i), .int (nI n), .int (bI wb), .long fi, .ref u]) (qW H (fun q => q = u) (fun r H1 => ∃ o, H.size ≤ o ∧ r = some (.ref o) ∧ ob g H1 o 5 [.long (hgV (fun j => getS f k (nI j)) (gdR true d from0 n i wb) q fi).1, .long (hgV (fun j => getS f k (nI j)) (gdR true d from0 n i wb) q fi).2] ∧ isU g H1 u v f k (q + hgN (gdR true d from0 n i wb)))) (d + 1) (2 * (d + 1)) (fW H (fun q => q = u)) := by
  intro d
  induction d with
  | zero =>
    intro from0 n i wb q H hU h1 h2 h3 h5 h51 h6 h7
    refine mB (by decide) (Nat.le_of_ble_eq_true rfl) ?_
    intro p e s m below meth c ls C0 hH hZ hnm hl
    have C0 : cF g p s m _ meth c b_T_headsFromGrowth 10 "RegistryLog$Tree" (some (.object "RegistryLog$TwoHeads")) := C0
    obtain ⟨hx, hb, hml, hown, hts, hr, hlk, hK⟩ := id C0
    subst hH
    have hl : lv_has ls 10 [(0, .int (nI i)), (1, .int (nI n)), (2, .int (bI wb)), (3, .long fi), (5, .ref u)] := hl
    have hS : va_S (fW s.heap (fun q => q = u)) s.heap s.heap [] := hS_rf
    have hult := ob_lt hU.1
    have hvlt := ar_lt hU.2.1
    refine lv_iload_n hx hb d_T_headsFromGrowth_0 rfl (lv_at hl 0 rfl) ?_
    refine lv_iload_n hx hb d_T_headsFromGrowth_1 rfl (lv_at hl 1 rfl) ?_
    refine n_ge (tgt := 11) (a := i) (b := n) hx hb d_T_headsFromGrowth_2 (by decide) (by omega) (by omega) (fun c2 => ?_) (fun c2 => ?_)
    · skip
      refine lv_iload_n hx hb d_T_headsFromGrowth_11 rfl (lv_at hl 2 rfl) ?_
      refine z_eq (tgt := 19) (v := wb) hx hb d_T_headsFromGrowth_12 (by decide) (fun c12 => ?_) (fun c12 => ?_)
      · skip
        refine lv_aload hx hb d_T_headsFromGrowth_19 (lv_at hl 4 rfl) ?_
        refine aW (N := (fun q => q = u)) (rV (As := []) (rest := []) C0 (c_U_next l g _ u v k q f hU huv (by omega) hu9) (zK_S hZ hS (fun q h => by rw [h]; exact hu9)) k_T_headsFromGrowth_21 rfl rfl ⟨by show _ ≤ _; simp only [rmk]; omega, by show _ ≤ _; simp only [rmk]; omega⟩ (ob_recv hK hU.1 rfl) rfl hl.1 rfl (Nat.le_of_ble_eq_true rfl) d_T_headsFromGrowth_21 ⟨by show 0 + 0 ≤ (0 + 1); omega, by show 0 + 0 ≤ (2 * (0 + 1)); omega⟩) (fun v H L hC1 hp hL => ?_)
        have hS0 := hS
        have hS := hS_call hS hC1 hL (fun q h => Or.inl h)
        obtain ⟨rfl, hU⟩ := hp
        refine W.eq (g2 := F0 m 24 ls [.long (getS f k (nI q))]) rfl ?_
        refine lv_lstore (lv' := [(6, .long (getS f k (nI q))), (0, .int (nI i)), (1, .int (nI n)), (2, .int (bI wb)), (3, .long fi), (5, .ref u)]) hx hb d_T_headsFromGrowth_24 hl (by decide) rfl (fun ls hl => ?_)
        have hS0 := hS
        refine s_new (ci := 5) (C := R_H) (T := F_H) (N := 2) hx hb hts i_H t_H t_H_ok hown (hts _ (in_3 (List.mem_of_getElem? (i := 134) rfl) rfl)) (hts _ (in_3 (List.mem_of_getElem? (i := 135) rfl) rfl)) (hts _ (in_1 (List.mem_of_getElem? (i := 25) rfl) rfl)) hK hS rfl (fs := [.long 0, .long 0]) (by decide) (by show 0 + 0 + 1 ≤ (0 + 1); omega) (by show 0 + 0 + 2 ≤ (2 * (0 + 1)); omega) d_T_headsFromGrowth_26 (fun q1 H hq f_q1 hz o1 hS => ?_)
        have hU := isU_kept hU (o1 _ (by rw [hq]; exact ob_lt hU.1)) (o1 _ (by rw [hq]; exact ar_lt hU.2.1))
        have ge_q1 : s.heap.size ≤ q1 := by rw [hq]; exact hS0.1
        refine lv_dup hx hb d_T_headsFromGrowth_29 rfl ?_
        refine lv_lload hx hb d_T_headsFromGrowth_30 (lv_at hl 0 rfl) ?_
        refine lv_lload hx hb d_T_headsFromGrowth_32 (lv_at hl 0 rfl) ?_
        refine aW (N := (fun q => q = q1)) (rI (As := [.long (getS f k (nI q)), .long (getS f k (nI q))]) (rest := [.ref q1]) C0 (c_H_init l g _ q1 (getS f k (nI q)) (getS f k (nI q)) f_q1) (zK_S hZ hS (fun q h => by rw [h]; exact hu9)) k_T_headsFromGrowth_34 rfl rfl ⟨by show _ ≤ _; simp only [rmk]; omega, by show _ ≤ _; simp only [rmk]; omega⟩ rfl hl.1 rfl (Nat.le_of_ble_eq_true rfl) d_T_headsFromGrowth_34 ⟨by show 0 + 0 + 1 + 0 ≤ (0 + 1); omega, by show 0 + 0 + 2 + 0 ≤ (2 * (0 + 1)); omega⟩) (fun v H L hC1 hp hL => ?_)
        have hS0 := hS
        have hS := hS_call hS hC1 hL (fun q h => by rw [h]; exact Or.inr ge_q1)
        have hU := isU_kept hU (hC_at hC1 (ob_lt hU.1) (fun z => absurd z (by omega))) (hC_at hC1 (ar_lt hU.2.1) (fun z => absurd z (by omega)))
        obtain ⟨rfl, f8⟩ := hp
        refine W.eq (g2 := F0 m 37 ls [.ref q1]) rfl ?_
        refine W.widen (k := (0 + 1)) (n := (2 * (0 + 1))) (by omega) (by omega) ?_
        exact W.aret hx hb hr (Or.inl ⟨_, rfl⟩) (Or.inr ⟨_, rfl⟩) (fun t9 ht hW => ⟨_, rfl, by rw [ht]; exact hS_hC hS, by rw [ht]; exact ⟨q1, ge_q1, rfl, by rw [gG_0 (by omega)]; unfold hgV igL; rw [c12]; exact f8, by rw [gG_0 (by omega)]; unfold hgN; rw [c12]; exact hU⟩⟩) hS.2.2 d_T_headsFromGrowth_37 hlk
      · skip
        refine lv_lload_n hx hb d_T_headsFromGrowth_15 rfl (lv_at hl 3 rfl) ?_
        refine lv_goto (tgt := 24) hx hb d_T_headsFromGrowth_16 (by decide) ?_
        refine lv_lstore (lv' := [(6, .long fi), (0, .int (nI i)), (1, .int (nI n)), (2, .int (bI wb)), (3, .long fi), (5, .ref u)]) hx hb d_T_headsFromGrowth_24 hl (by decide) rfl (fun ls hl => ?_)
        have hS0 := hS
        refine s_new (ci := 5) (C := R_H) (T := F_H) (N := 2) hx hb hts i_H t_H t_H_ok hown (hts _ (in_3 (List.mem_of_getElem? (i := 134) rfl) rfl)) (hts _ (in_3 (List.mem_of_getElem? (i := 135) rfl) rfl)) (hts _ (in_1 (List.mem_of_getElem? (i := 25) rfl) rfl)) hK hS rfl (fs := [.long 0, .long 0]) (by decide) (by show 0 + 1 ≤ (0 + 1); omega) (by show 0 + 2 ≤ (2 * (0 + 1)); omega) d_T_headsFromGrowth_26 (fun q2 H hq f_q2 hz o1 hS => ?_)
        have hU := isU_kept hU (o1 _ (by rw [hq]; exact ob_lt hU.1)) (o1 _ (by rw [hq]; exact ar_lt hU.2.1))
        have ge_q2 : s.heap.size ≤ q2 := by rw [hq]; exact hS0.1
        refine lv_dup hx hb d_T_headsFromGrowth_29 rfl ?_
        refine lv_lload hx hb d_T_headsFromGrowth_30 (lv_at hl 0 rfl) ?_
        refine lv_lload hx hb d_T_headsFromGrowth_32 (lv_at hl 0 rfl) ?_
        refine aW (N := (fun q => q = q2)) (rI (As := [.long fi, .long fi]) (rest := [.ref q2]) C0 (c_H_init l g _ q2 fi fi f_q2) (zK_S hZ hS (fun q h => by rw [h]; exact hu9)) k_T_headsFromGrowth_34 rfl rfl ⟨by show _ ≤ _; simp only [rmk]; omega, by show _ ≤ _; simp only [rmk]; omega⟩ rfl hl.1 rfl (Nat.le_of_ble_eq_true rfl) d_T_headsFromGrowth_34 ⟨by show 0 + 1 + 0 ≤ (0 + 1); omega, by show 0 + 2 + 0 ≤ (2 * (0 + 1)); omega⟩) (fun v H L hC1 hp hL => ?_)
        have hS0 := hS
        have hS := hS_call hS hC1 hL (fun q h => by rw [h]; exact Or.inr ge_q2)
        have hU := isU_kept hU (hC_at hC1 (ob_lt hU.1) (fun z => absurd z (by omega))) (hC_at hC1 (ar_lt hU.2.1) (fun z => absurd z (by omega)))
        obtain ⟨rfl, f8⟩ := hp
        refine W.eq (g2 := F0 m 37 ls [.ref q2]) rfl ?_
        refine W.widen (k := (0 + 1)) (n := (2 * (0 + 1))) (by omega) (by omega) ?_
        exact W.aret hx hb hr (Or.inl ⟨_, rfl⟩) (Or.inr ⟨_, rfl⟩) (fun t9 ht hW => ⟨_, rfl, by rw [ht]; exact hS_hC hS, by rw [ht]; exact ⟨q2, ge_q2, rfl, by rw [gG_0 (by omega)]; unfold hgV igL; rw [c12]; exact f8, by rw [gG_0 (by omega)]; unfold hgN; rw [c12]; exact hU⟩⟩) hS.2.2 d_T_headsFromGrowth_37 hlk
    · skip
      exact absurd h2 (by have : 2 ^ 0 = 1 := rfl; omega)
  | succ d ih =>
    intro from0 n i wb q H hU h1 h2 h3 h5 h51 h6 h7
    refine mB (by decide) (Nat.le_of_ble_eq_true rfl) ?_
    intro p e s m below meth c ls C0 hH hZ hnm hl
    have C0 : cF g p s m _ meth c b_T_headsFromGrowth 10 "RegistryLog$Tree" (some (.object "RegistryLog$TwoHeads")) := C0
    obtain ⟨hx, hb, hml, hown, hts, hr, hlk, hK⟩ := id C0
    subst hH
    have hl : lv_has ls 10 [(0, .int (nI i)), (1, .int (nI n)), (2, .int (bI wb)), (3, .long fi), (5, .ref u)] := hl
    have hS : va_S (fW s.heap (fun q => q = u)) s.heap s.heap [] := hS_rf
    have hult := ob_lt hU.1
    have hvlt := ar_lt hU.2.1
    refine lv_iload_n hx hb d_T_headsFromGrowth_0 rfl (lv_at hl 0 rfl) ?_
    refine lv_iload_n hx hb d_T_headsFromGrowth_1 rfl (lv_at hl 1 rfl) ?_
    refine n_ge (tgt := 11) (a := i) (b := n) hx hb d_T_headsFromGrowth_2 (by decide) (by omega) (by omega) (fun c2 => ?_) (fun c2 => ?_)
    · skip
      refine lv_iload_n hx hb d_T_headsFromGrowth_11 rfl (lv_at hl 2 rfl) ?_
      refine z_eq (tgt := 19) (v := wb) hx hb d_T_headsFromGrowth_12 (by decide) (fun c12 => ?_) (fun c12 => ?_)
      · skip
        refine lv_aload hx hb d_T_headsFromGrowth_19 (lv_at hl 4 rfl) ?_
        refine aW (N := (fun q => q = u)) (rV (As := []) (rest := []) C0 (c_U_next l g _ u v k q f hU huv (by omega) hu9) (zK_S hZ hS (fun q h => by rw [h]; exact hu9)) k_T_headsFromGrowth_21 rfl rfl ⟨by show _ ≤ _; simp only [rmk]; omega, by show _ ≤ _; simp only [rmk]; omega⟩ (ob_recv hK hU.1 rfl) rfl hl.1 rfl (Nat.le_of_ble_eq_true rfl) d_T_headsFromGrowth_21 ⟨by show 0 + 0 ≤ ((d + 1) + 1); omega, by show 0 + 0 ≤ (2 * ((d + 1) + 1)); omega⟩) (fun v H L hC1 hp hL => ?_)
        have hS0 := hS
        have hS := hS_call hS hC1 hL (fun q h => Or.inl h)
        obtain ⟨rfl, hU⟩ := hp
        refine W.eq (g2 := F0 m 24 ls [.long (getS f k (nI q))]) rfl ?_
        refine lv_lstore (lv' := [(6, .long (getS f k (nI q))), (0, .int (nI i)), (1, .int (nI n)), (2, .int (bI wb)), (3, .long fi), (5, .ref u)]) hx hb d_T_headsFromGrowth_24 hl (by decide) rfl (fun ls hl => ?_)
        have hS0 := hS
        refine s_new (ci := 5) (C := R_H) (T := F_H) (N := 2) hx hb hts i_H t_H t_H_ok hown (hts _ (in_3 (List.mem_of_getElem? (i := 134) rfl) rfl)) (hts _ (in_3 (List.mem_of_getElem? (i := 135) rfl) rfl)) (hts _ (in_1 (List.mem_of_getElem? (i := 25) rfl) rfl)) hK hS rfl (fs := [.long 0, .long 0]) (by decide) (by show 0 + 0 + 1 ≤ ((d + 1) + 1); omega) (by show 0 + 0 + 2 ≤ (2 * ((d + 1) + 1)); omega) d_T_headsFromGrowth_26 (fun q1 H hq f_q1 hz o1 hS => ?_)
        have hU := isU_kept hU (o1 _ (by rw [hq]; exact ob_lt hU.1)) (o1 _ (by rw [hq]; exact ar_lt hU.2.1))
        have ge_q1 : s.heap.size ≤ q1 := by rw [hq]; exact hS0.1
        refine lv_dup hx hb d_T_headsFromGrowth_29 rfl ?_
        refine lv_lload hx hb d_T_headsFromGrowth_30 (lv_at hl 0 rfl) ?_
        refine lv_lload hx hb d_T_headsFromGrowth_32 (lv_at hl 0 rfl) ?_
        refine aW (N := (fun q => q = q1)) (rI (As := [.long (getS f k (nI q)), .long (getS f k (nI q))]) (rest := [.ref q1]) C0 (c_H_init l g _ q1 (getS f k (nI q)) (getS f k (nI q)) f_q1) (zK_S hZ hS (fun q h => by rw [h]; exact hu9)) k_T_headsFromGrowth_34 rfl rfl ⟨by show _ ≤ _; simp only [rmk]; omega, by show _ ≤ _; simp only [rmk]; omega⟩ rfl hl.1 rfl (Nat.le_of_ble_eq_true rfl) d_T_headsFromGrowth_34 ⟨by show 0 + 0 + 1 + 0 ≤ ((d + 1) + 1); omega, by show 0 + 0 + 2 + 0 ≤ (2 * ((d + 1) + 1)); omega⟩) (fun v H L hC1 hp hL => ?_)
        have hS0 := hS
        have hS := hS_call hS hC1 hL (fun q h => by rw [h]; exact Or.inr ge_q1)
        have hU := isU_kept hU (hC_at hC1 (ob_lt hU.1) (fun z => absurd z (by omega))) (hC_at hC1 (ar_lt hU.2.1) (fun z => absurd z (by omega)))
        obtain ⟨rfl, f8⟩ := hp
        refine W.eq (g2 := F0 m 37 ls [.ref q1]) rfl ?_
        refine W.widen (k := ((d + 1) + 1)) (n := (2 * ((d + 1) + 1))) (by omega) (by omega) ?_
        exact W.aret hx hb hr (Or.inl ⟨_, rfl⟩) (Or.inr ⟨_, rfl⟩) (fun t9 ht hW => ⟨_, rfl, by rw [ht]; exact hS_hC hS, by rw [ht]; exact ⟨q1, ge_q1, rfl, by rw [gG_0 (by omega)]; unfold hgV igL; rw [c12]; exact f8, by rw [gG_0 (by omega)]; unfold hgN; rw [c12]; exact hU⟩⟩) hS.2.2 d_T_headsFromGrowth_37 hlk
      · skip
        refine lv_lload_n hx hb d_T_headsFromGrowth_15 rfl (lv_at hl 3 rfl) ?_
        refine lv_goto (tgt := 24) hx hb d_T_headsFromGrowth_16 (by decide) ?_
        refine lv_lstore (lv' := [(6, .long fi), (0, .int (nI i)), (1, .int (nI n)), (2, .int (bI wb)), (3, .long fi), (5, .ref u)]) hx hb d_T_headsFromGrowth_24 hl (by decide) rfl (fun ls hl => ?_)
        have hS0 := hS
        refine s_new (ci := 5) (C := R_H) (T := F_H) (N := 2) hx hb hts i_H t_H t_H_ok hown (hts _ (in_3 (List.mem_of_getElem? (i := 134) rfl) rfl)) (hts _ (in_3 (List.mem_of_getElem? (i := 135) rfl) rfl)) (hts _ (in_1 (List.mem_of_getElem? (i := 25) rfl) rfl)) hK hS rfl (fs := [.long 0, .long 0]) (by decide) (by show 0 + 1 ≤ ((d + 1) + 1); omega) (by show 0 + 2 ≤ (2 * ((d + 1) + 1)); omega) d_T_headsFromGrowth_26 (fun q2 H hq f_q2 hz o1 hS => ?_)
        have hU := isU_kept hU (o1 _ (by rw [hq]; exact ob_lt hU.1)) (o1 _ (by rw [hq]; exact ar_lt hU.2.1))
        have ge_q2 : s.heap.size ≤ q2 := by rw [hq]; exact hS0.1
        refine lv_dup hx hb d_T_headsFromGrowth_29 rfl ?_
        refine lv_lload hx hb d_T_headsFromGrowth_30 (lv_at hl 0 rfl) ?_
        refine lv_lload hx hb d_T_headsFromGrowth_32 (lv_at hl 0 rfl) ?_
        refine aW (N := (fun q => q = q2)) (rI (As := [.long fi, .long fi]) (rest := [.ref q2]) C0 (c_H_init l g _ q2 fi fi f_q2) (zK_S hZ hS (fun q h => by rw [h]; exact hu9)) k_T_headsFromGrowth_34 rfl rfl ⟨by show _ ≤ _; simp only [rmk]; omega, by show _ ≤ _; simp only [rmk]; omega⟩ rfl hl.1 rfl (Nat.le_of_ble_eq_true rfl) d_T_headsFromGrowth_34 ⟨by show 0 + 1 + 0 ≤ ((d + 1) + 1); omega, by show 0 + 2 + 0 ≤ (2 * ((d + 1) + 1)); omega⟩) (fun v H L hC1 hp hL => ?_)
        have hS0 := hS
        have hS := hS_call hS hC1 hL (fun q h => by rw [h]; exact Or.inr ge_q2)
        have hU := isU_kept hU (hC_at hC1 (ob_lt hU.1) (fun z => absurd z (by omega))) (hC_at hC1 (ar_lt hU.2.1) (fun z => absurd z (by omega)))
        obtain ⟨rfl, f8⟩ := hp
        refine W.eq (g2 := F0 m 37 ls [.ref q2]) rfl ?_
        refine W.widen (k := ((d + 1) + 1)) (n := (2 * ((d + 1) + 1))) (by omega) (by omega) ?_
        exact W.aret hx hb hr (Or.inl ⟨_, rfl⟩) (Or.inr ⟨_, rfl⟩) (fun t9 ht hW => ⟨_, rfl, by rw [ht]; exact hS_hC hS, by rw [ht]; exact ⟨q2, ge_q2, rfl, by rw [gG_0 (by omega)]; unfold hgV igL; rw [c12]; exact f8, by rw [gG_0 (by omega)]; unfold hgN; rw [c12]; exact hU⟩⟩) hS.2.2 d_T_headsFromGrowth_37 hlk
    · skip
      refine lv_iload_n hx hb d_T_headsFromGrowth_5 rfl (lv_at hl 1 rfl) ?_
      refine lv_bipush (v := nI 120) hx hb d_T_headsFromGrowth_6 (by decide) ?_
      refine n_le (tgt := 38) (a := n) (b := 120) hx hb d_T_headsFromGrowth_8 (by decide) (by omega) (by omega) (fun c8 => ?_) (fun c8 => ?_)
      · skip
        refine lv_iload_n hx hb d_T_headsFromGrowth_38 rfl (lv_at hl 1 rfl) ?_
        refine aP (rS (As := [.int (nI n)]) (rest := []) C0 (c_T_firstPart l g _ n h3) (zK_S hZ hS (fun q h => by rw [h]; exact hu9)) k_T_headsFromGrowth_39 rfl rfl ⟨by show _ ≤ _; simp only [rmk]; omega, by show _ ≤ _; simp only [rmk]; omega⟩ rfl hl.1 rfl (Nat.le_of_ble_eq_true rfl) d_T_headsFromGrowth_39 ⟨by show 0 + 0 ≤ ((d + 1) + 1); omega, by show 0 + 0 ≤ (2 * ((d + 1) + 1)); omega⟩) ?_
        intro v hv; subst hv
        refine W.eq (g2 := F0 m 42 ls [.int (nI (fpS n))]) rfl ?_
        have hlt9 := fpS_lt (n := n) (by omega)
        have hps9 := fpS_pos n
        refine lv_istore (lv' := [(6, .int (nI (fpS n))), (0, .int (nI i)), (1, .int (nI n)), (2, .int (bI wb)), (3, .long fi), (5, .ref u)]) hx hb d_T_headsFromGrowth_42 hl (by decide) rfl (fun ls hl => ?_)
        refine lv_iload_n hx hb d_T_headsFromGrowth_44 rfl (lv_at hl 1 rfl) ?_
        refine lv_iload hx hb d_T_headsFromGrowth_45 (lv_at hl 0 rfl) ?_
        refine n_gt (tgt := 88) (a := i) (b := fpS n) hx hb d_T_headsFromGrowth_47 (by decide) (by omega) (by omega) (fun c47 => ?_) (fun c47 => ?_)
        · skip
          refine lv_iload_n hx hb d_T_headsFromGrowth_88 rfl (lv_at hl 1 rfl) ?_
          refine lv_iload hx hb d_T_headsFromGrowth_89 (lv_at hl 0 rfl) ?_
          refine n_isub hx hb (by omega) d_T_headsFromGrowth_91 ?_
          refine lv_iload_n hx hb d_T_headsFromGrowth_92 rfl (lv_at hl 2 rfl) ?_
          refine lv_iload hx hb d_T_headsFromGrowth_93 (lv_at hl 0 rfl) ?_
          refine n_isub hx hb (by omega) d_T_headsFromGrowth_95 ?_
          refine lv_iconst (v := bI false) hx hb d_T_headsFromGrowth_96 (by decide) ?_
          refine lv_lload_n hx hb d_T_headsFromGrowth_97 rfl (lv_at hl 4 rfl) ?_
          refine lv_aload hx hb d_T_headsFromGrowth_98 (lv_at hl 5 rfl) ?_
          refine aW (N := (fun q => q = u)) (rS (As := [.int (nI (i - fpS n)), .int (nI (n - fpS n)), .int (bI false), .long fi, .ref u]) (rest := []) C0 (ih (from0 + fpS n) (n - fpS n) (i - fpS n) false q _ hU (by omega) (fpS_half n (by omega) (by omega) d (by omega) h2).2 (by omega) (by omega) (by omega) (by omega) (by omega)) (zK_S hZ hS (fun q h => by rw [h]; exact hu9)) k_T_headsFromGrowth_100 rfl rfl ⟨by show _ ≤ _; simp only [rmk]; omega, by show _ ≤ _; simp only [rmk]; omega⟩ rfl hl.1 rfl (Nat.le_of_ble_eq_true rfl) d_T_headsFromGrowth_100 ⟨by show 0 + (d + 1) ≤ ((d + 1) + 1); omega, by show 0 + (2 * (d + 1)) ≤ (2 * ((d + 1) + 1)); omega⟩) (fun v H L hC1 hp hL => ?_)
          have hS0 := hS
          have hS := hS_call hS hC1 hL (fun q h => Or.inl h)
          obtain ⟨ot, hot, rfl, fo9, hU⟩ := hp
          have hot : s.heap.size ≤ ot := Nat.le_trans hS0.1 hot
          have hl9 := hgN_le true d (from0 + fpS n) (n - fpS n) (i - fpS n) false
          have hotl := ob_lt fo9
          refine W.eq (g2 := F0 m 103 ls [.ref ot]) rfl ?_
          refine lv_astore (lv' := [(7, .ref ot), (6, .int (nI (fpS n))), (0, .int (nI i)), (1, .int (nI n)), (2, .int (bI wb)), (3, .long fi), (5, .ref u)]) hx hb d_T_headsFromGrowth_103 hl (by decide) rfl (fun ls hl => ?_)
          refine lv_aload hx hb d_T_headsFromGrowth_105 (lv_at hl 6 rfl) ?_
          refine aW (N := (fun q => q = u)) (rV (As := []) (rest := []) C0 (c_U_next l g _ u v k (q + hgN (gdR true d (from0 + fpS n) (n - fpS n) (i - fpS n) false)) f hU huv (by omega) hu9) (zK_S hZ hS (fun q h => by rw [h]; exact hu9)) k_T_headsFromGrowth_107 rfl rfl ⟨by show _ ≤ _; simp only [rmk]; omega, by show _ ≤ _; simp only [rmk]; omega⟩ (ob_recv hK hU.1 rfl) rfl hl.1 rfl (Nat.le_of_ble_eq_true rfl) d_T_headsFromGrowth_107 ⟨by show 0 + (d + 1) + 0 ≤ ((d + 1) + 1); omega, by show 0 + (2 * (d + 1)) + 0 ≤ (2 * ((d + 1) + 1)); omega⟩) (fun v H L hC1 hp hL => ?_)
          have hS0 := hS
          have hS := hS_call hS hC1 hL (fun q h => Or.inl h)
          have fo9 := ob_kept fo9 (hC_at hC1 (ob_lt fo9) (fun z => absurd z (by omega)))
          obtain ⟨rfl, hU⟩ := hp
          refine W.eq (g2 := F0 m 110 ls [.long (getS f k (nI (q + hgN (gdR true d (from0 + fpS n) (n - fpS n) (i - fpS n) false))))]) rfl ?_
          refine lv_topl (fun x_1 ex_1 => ?_)
          refine lv_lstore (lv' := [(8, .long x_1), (7, .ref ot), (6, .int (nI (fpS n))), (0, .int (nI i)), (1, .int (nI n)), (2, .int (bI wb)), (3, .long fi), (5, .ref u)]) hx hb d_T_headsFromGrowth_110 hl (by decide) rfl (fun ls hl => ?_)
          have hS0 := hS
          refine s_new (ci := 5) (C := R_H) (T := F_H) (N := 2) hx hb hts i_H t_H t_H_ok hown (hts _ (in_3 (List.mem_of_getElem? (i := 134) rfl) rfl)) (hts _ (in_3 (List.mem_of_getElem? (i := 135) rfl) rfl)) (hts _ (in_1 (List.mem_of_getElem? (i := 25) rfl) rfl)) hK hS rfl (fs := [.long 0, .long 0]) (by decide) (by show 0 + (d + 1) + 0 + 1 ≤ ((d + 1) + 1); omega) (by show 0 + (2 * (d + 1)) + 0 + 2 ≤ (2 * ((d + 1) + 1)); omega) d_T_headsFromGrowth_112 (fun q3 H hq f_q3 hz o1 hS => ?_)
          have lt_ot_q3 : ot < q3 := by rw [hq]; exact ob_lt fo9
          have fo9 := ob_kept fo9 (o1 _ lt_ot_q3)
          have hU := isU_kept hU (o1 _ (by rw [hq]; exact ob_lt hU.1)) (o1 _ (by rw [hq]; exact ar_lt hU.2.1))
          have ge_q3 : s.heap.size ≤ q3 := by rw [hq]; exact hS0.1
          refine lv_dup hx hb d_T_headsFromGrowth_115 rfl ?_
          refine lv_lload hx hb d_T_headsFromGrowth_116 (lv_at hl 0 rfl) ?_
          refine lv_aload hx hb d_T_headsFromGrowth_118 (lv_at hl 1 rfl) ?_
          refine va_get (D := g.1) (ci := 5) (C := R_H) (T := F_H) (N := 2) hx hb hts i_H hown hK.1 fo9 0 rfl rfl 0 (by decide) (hts (.fieldLink "RegistryLog$Tree" 81 "RegistryLog$TwoHeads" "shorter" "J") (in_3 (List.mem_of_getElem? (i := 141) rfl) rfl)) (fun _ h9 => h9) rfl d_T_headsFromGrowth_120 ?_
          refine aP (rS (As := [.long x_1, .long ((hgV (fun j => getS f k (nI j)) (gdR true d (from0 + fpS n) (n - fpS n) (i - fpS n) false) q fi).1)]) (rest := [.ref q3, .ref q3]) C0 (c_T_join l g _ x_1 ((hgV (fun j => getS f k (nI j)) (gdR true d (from0 + fpS n) (n - fpS n) (i - fpS n) false) q fi).1)) (zK_S hZ hS (fun q h => by rw [h]; exact hu9)) k_T_headsFromGrowth_123 rfl rfl ⟨by show _ ≤ _; simp only [rmk]; omega, by show _ ≤ _; simp only [rmk]; omega⟩ rfl hl.1 rfl (Nat.le_of_ble_eq_true rfl) d_T_headsFromGrowth_123 ⟨by show 0 + (d + 1) + 0 + 1 + 0 ≤ ((d + 1) + 1); omega, by show 0 + (2 * (d + 1)) + 0 + 2 + 0 ≤ (2 * ((d + 1) + 1)); omega⟩) ?_
          intro v hv; subst hv
          refine W.eq (g2 := F0 m 126 ls [.long (joinS x_1 ((hgV (fun j => getS f k (nI j)) (gdR true d (from0 + fpS n) (n - fpS n) (i - fpS n) false) q fi).1)), .ref q3, .ref q3]) rfl ?_
          refine lv_lload hx hb d_T_headsFromGrowth_126 (lv_at hl 0 rfl) ?_
          refine lv_aload hx hb d_T_headsFromGrowth_128 (lv_at hl 1 rfl) ?_
          refine va_get (D := g.1) (ci := 5) (C := R_H) (T := F_H) (N := 2) hx hb hts i_H hown hK.1 fo9 0 rfl rfl 1 (by decide) (hts (.fieldLink "RegistryLog$Tree" 84 "RegistryLog$TwoHeads" "longer" "J") (in_3 (List.mem_of_getElem? (i := 144) rfl) rfl)) (fun _ h9 => h9) rfl d_T_headsFromGrowth_130 ?_
          refine aP (rS (As := [.long x_1, .long ((hgV (fun j => getS f k (nI j)) (gdR true d (from0 + fpS n) (n - fpS n) (i - fpS n) false) q fi).2)]) (rest := [.long (joinS x_1 ((hgV (fun j => getS f k (nI j)) (gdR true d (from0 + fpS n) (n - fpS n) (i - fpS n) false) q fi).1)), .ref q3, .ref q3]) C0 (c_T_join l g _ x_1 ((hgV (fun j => getS f k (nI j)) (gdR true d (from0 + fpS n) (n - fpS n) (i - fpS n) false) q fi).2)) (zK_S hZ hS (fun q h => by rw [h]; exact hu9)) k_T_headsFromGrowth_133 rfl rfl ⟨by show _ ≤ _; simp only [rmk]; omega, by show _ ≤ _; simp only [rmk]; omega⟩ rfl hl.1 rfl (Nat.le_of_ble_eq_true rfl) d_T_headsFromGrowth_133 ⟨by show 0 + (d + 1) + 0 + 1 + 0 ≤ ((d + 1) + 1); omega, by show 0 + (2 * (d + 1)) + 0 + 2 + 0 ≤ (2 * ((d + 1) + 1)); omega⟩) ?_
          intro v hv; subst hv
          refine W.eq (g2 := F0 m 136 ls [.long (joinS x_1 ((hgV (fun j => getS f k (nI j)) (gdR true d (from0 + fpS n) (n - fpS n) (i - fpS n) false) q fi).2)), .long (joinS x_1 ((hgV (fun j => getS f k (nI j)) (gdR true d (from0 + fpS n) (n - fpS n) (i - fpS n) false) q fi).1)), .ref q3, .ref q3]) rfl ?_
          refine aW (N := (fun q => q = q3)) (rI (As := [.long (joinS x_1 ((hgV (fun j => getS f k (nI j)) (gdR true d (from0 + fpS n) (n - fpS n) (i - fpS n) false) q fi).1)), .long (joinS x_1 ((hgV (fun j => getS f k (nI j)) (gdR true d (from0 + fpS n) (n - fpS n) (i - fpS n) false) q fi).2))]) (rest := [.ref q3]) C0 (c_H_init l g _ q3 (joinS x_1 ((hgV (fun j => getS f k (nI j)) (gdR true d (from0 + fpS n) (n - fpS n) (i - fpS n) false) q fi).1)) (joinS x_1 ((hgV (fun j => getS f k (nI j)) (gdR true d (from0 + fpS n) (n - fpS n) (i - fpS n) false) q fi).2)) f_q3) (zK_S hZ hS (fun q h => by rw [h]; exact hu9)) k_T_headsFromGrowth_136 rfl rfl ⟨by show _ ≤ _; simp only [rmk]; omega, by show _ ≤ _; simp only [rmk]; omega⟩ rfl hl.1 rfl (Nat.le_of_ble_eq_true rfl) d_T_headsFromGrowth_136 ⟨by show 0 + (d + 1) + 0 + 1 + 0 ≤ ((d + 1) + 1); omega, by show 0 + (2 * (d + 1)) + 0 + 2 + 0 ≤ (2 * ((d + 1) + 1)); omega⟩) (fun v H L hC1 hp hL => ?_)
          have hS0 := hS
          have hS := hS_call hS hC1 hL (fun q h => by rw [h]; exact Or.inr ge_q3)
          have fo9 := ob_kept fo9 (hC_at hC1 (ob_lt fo9) (fun z => absurd z (by omega)))
          have hU := isU_kept hU (hC_at hC1 (ob_lt hU.1) (fun z => absurd z (by omega))) (hC_at hC1 (ar_lt hU.2.1) (fun z => absurd z (by omega)))
          obtain ⟨rfl, f8⟩ := hp
          refine W.eq (g2 := F0 m 139 ls [.ref q3]) rfl ?_
          subst ex_1
          refine W.widen (k := ((d + 1) + 1)) (n := (2 * ((d + 1) + 1))) (by omega) (by omega) ?_
          exact W.aret hx hb hr (Or.inl ⟨_, rfl⟩) (Or.inr ⟨_, rfl⟩) (fun t9 ht hW => ⟨_, rfl, by rw [ht]; exact hS_hC hS, by rw [ht]; exact ⟨q3, ge_q3, rfl, by rw [gG_r (by omega) (by omega), hgV_c]; exact f8, by rw [gG_r (by omega) (by omega), hgN_c, ← Nat.add_assoc]; exact hU⟩⟩) hS.2.2 d_T_headsFromGrowth_139 hlk
        · skip
          refine lv_iload_n hx hb d_T_headsFromGrowth_50 rfl (lv_at hl 1 rfl) ?_
          refine lv_iload hx hb d_T_headsFromGrowth_51 (lv_at hl 0 rfl) ?_
          refine lv_iload_n hx hb d_T_headsFromGrowth_53 rfl (lv_at hl 3 rfl) ?_
          refine lv_lload_n hx hb d_T_headsFromGrowth_54 rfl (lv_at hl 4 rfl) ?_
          refine lv_aload hx hb d_T_headsFromGrowth_55 (lv_at hl 5 rfl) ?_
          refine aW (N := (fun q => q = u)) (rS (As := [.int (nI i), .int (nI (fpS n)), .int (bI wb), .long fi, .ref u]) (rest := []) C0 (ih from0 (fpS n) i wb q _ hU hps9 (fpS_half n (by omega) (by omega) d (by omega) h2).1 (by omega) (by omega) (by omega) (by omega) (by omega)) (zK_S hZ hS (fun q h => by rw [h]; exact hu9)) k_T_headsFromGrowth_57 rfl rfl ⟨by show _ ≤ _; simp only [rmk]; omega, by show _ ≤ _; simp only [rmk]; omega⟩ rfl hl.1 rfl (Nat.le_of_ble_eq_true rfl) d_T_headsFromGrowth_57 ⟨by show 0 + (d + 1) ≤ ((d + 1) + 1); omega, by show 0 + (2 * (d + 1)) ≤ (2 * ((d + 1) + 1)); omega⟩) (fun v H L hC1 hp hL => ?_)
          have hS0 := hS
          have hS := hS_call hS hC1 hL (fun q h => Or.inl h)
          obtain ⟨ot, hot, rfl, fo9, hU⟩ := hp
          have hot : s.heap.size ≤ ot := Nat.le_trans hS0.1 hot
          have hl9 := hgN_le true d from0 (fpS n) i wb
          have hotl := ob_lt fo9
          refine W.eq (g2 := F0 m 60 ls [.ref ot]) rfl ?_
          refine lv_astore (lv' := [(7, .ref ot), (6, .int (nI (fpS n))), (0, .int (nI i)), (1, .int (nI n)), (2, .int (bI wb)), (3, .long fi), (5, .ref u)]) hx hb d_T_headsFromGrowth_60 hl (by decide) rfl (fun ls hl => ?_)
          have hS0 := hS
          refine s_new (ci := 5) (C := R_H) (T := F_H) (N := 2) hx hb hts i_H t_H t_H_ok hown (hts _ (in_3 (List.mem_of_getElem? (i := 134) rfl) rfl)) (hts _ (in_3 (List.mem_of_getElem? (i := 135) rfl) rfl)) (hts _ (in_1 (List.mem_of_getElem? (i := 25) rfl) rfl)) hK hS rfl (fs := [.long 0, .long 0]) (by decide) (by show 0 + (d + 1) + 1 ≤ ((d + 1) + 1); omega) (by show 0 + (2 * (d + 1)) + 2 ≤ (2 * ((d + 1) + 1)); omega) d_T_headsFromGrowth_62 (fun q4 H hq f_q4 hz o1 hS => ?_)
          have lt_ot_q4 : ot < q4 := by rw [hq]; exact ob_lt fo9
          have fo9 := ob_kept fo9 (o1 _ lt_ot_q4)
          have hU := isU_kept hU (o1 _ (by rw [hq]; exact ob_lt hU.1)) (o1 _ (by rw [hq]; exact ar_lt hU.2.1))
          have ge_q4 : s.heap.size ≤ q4 := by rw [hq]; exact hS0.1
          refine lv_dup hx hb d_T_headsFromGrowth_65 rfl ?_
          refine lv_aload hx hb d_T_headsFromGrowth_66 (lv_at hl 0 rfl) ?_
          refine va_get (D := g.1) (ci := 5) (C := R_H) (T := F_H) (N := 2) hx hb hts i_H hown hK.1 fo9 0 rfl rfl 0 (by decide) (hts (.fieldLink "RegistryLog$Tree" 81 "RegistryLog$TwoHeads" "shorter" "J") (in_3 (List.mem_of_getElem? (i := 141) rfl) rfl)) (fun _ h9 => h9) rfl d_T_headsFromGrowth_68 ?_
          refine lv_aload hx hb d_T_headsFromGrowth_71 (lv_at hl 0 rfl) ?_
          refine va_get (D := g.1) (ci := 5) (C := R_H) (T := F_H) (N := 2) hx hb hts i_H hown hK.1 fo9 0 rfl rfl 1 (by decide) (hts (.fieldLink "RegistryLog$Tree" 84 "RegistryLog$TwoHeads" "longer" "J") (in_3 (List.mem_of_getElem? (i := 144) rfl) rfl)) (fun _ h9 => h9) rfl d_T_headsFromGrowth_73 ?_
          refine lv_aload hx hb d_T_headsFromGrowth_76 (lv_at hl 6 rfl) ?_
          refine aW (N := (fun q => q = u)) (rV (As := []) (rest := [.long ((hgV (fun j => getS f k (nI j)) (gdR true d from0 (fpS n) i wb) q fi).2), .long ((hgV (fun j => getS f k (nI j)) (gdR true d from0 (fpS n) i wb) q fi).1), .ref q4, .ref q4]) C0 (c_U_next l g _ u v k (q + hgN (gdR true d from0 (fpS n) i wb)) f hU huv (by omega) hu9) (zK_S hZ hS (fun q h => by rw [h]; exact hu9)) k_T_headsFromGrowth_78 rfl rfl ⟨by show _ ≤ _; simp only [rmk]; omega, by show _ ≤ _; simp only [rmk]; omega⟩ (ob_recv hK hU.1 rfl) rfl hl.1 rfl (Nat.le_of_ble_eq_true rfl) d_T_headsFromGrowth_78 ⟨by show 0 + (d + 1) + 1 + 0 ≤ ((d + 1) + 1); omega, by show 0 + (2 * (d + 1)) + 2 + 0 ≤ (2 * ((d + 1) + 1)); omega⟩) (fun v H L hC1 hp hL => ?_)
          have hS0 := hS
          have hS := hS_call hS hC1 hL (fun q h => Or.inl h)
          have fo9 := ob_kept fo9 (hC_at hC1 (ob_lt fo9) (fun z => absurd z (by omega)))
          have f_q4 := ob_kept f_q4 (hC_at hC1 (ob_lt f_q4) (fun z => absurd z (by omega)))
          obtain ⟨rfl, hU⟩ := hp
          refine W.eq (g2 := F0 m 81 ls [.long (getS f k (nI (q + hgN (gdR true d from0 (fpS n) i wb)))), .long ((hgV (fun j => getS f k (nI j)) (gdR true d from0 (fpS n) i wb) q fi).2), .long ((hgV (fun j => getS f k (nI j)) (gdR true d from0 (fpS n) i wb) q fi).1), .ref q4, .ref q4]) rfl ?_
          refine aP (rS (As := [.long ((hgV (fun j => getS f k (nI j)) (gdR true d from0 (fpS n) i wb) q fi).2), .long (getS f k (nI (q + hgN (gdR true d from0 (fpS n) i wb))))]) (rest := [.long ((hgV (fun j => getS f k (nI j)) (gdR true d from0 (fpS n) i wb) q fi).1), .ref q4, .ref q4]) C0 (c_T_join l g _ ((hgV (fun j => getS f k (nI j)) (gdR true d from0 (fpS n) i wb) q fi).2) (getS f k (nI (q + hgN (gdR true d from0 (fpS n) i wb))))) (zK_S hZ hS (fun q h => by rw [h]; exact hu9)) k_T_headsFromGrowth_81 rfl rfl ⟨by show _ ≤ _; simp only [rmk]; omega, by show _ ≤ _; simp only [rmk]; omega⟩ rfl hl.1 rfl (Nat.le_of_ble_eq_true rfl) d_T_headsFromGrowth_81 ⟨by show 0 + (d + 1) + 1 + 0 + 0 ≤ ((d + 1) + 1); omega, by show 0 + (2 * (d + 1)) + 2 + 0 + 0 ≤ (2 * ((d + 1) + 1)); omega⟩) ?_
          intro v hv; subst hv
          refine W.eq (g2 := F0 m 84 ls [.long (joinS ((hgV (fun j => getS f k (nI j)) (gdR true d from0 (fpS n) i wb) q fi).2) (getS f k (nI (q + hgN (gdR true d from0 (fpS n) i wb))))), .long ((hgV (fun j => getS f k (nI j)) (gdR true d from0 (fpS n) i wb) q fi).1), .ref q4, .ref q4]) rfl ?_
          refine aW (N := (fun q => q = q4)) (rI (As := [.long ((hgV (fun j => getS f k (nI j)) (gdR true d from0 (fpS n) i wb) q fi).1), .long (joinS ((hgV (fun j => getS f k (nI j)) (gdR true d from0 (fpS n) i wb) q fi).2) (getS f k (nI (q + hgN (gdR true d from0 (fpS n) i wb)))))]) (rest := [.ref q4]) C0 (c_H_init l g _ q4 ((hgV (fun j => getS f k (nI j)) (gdR true d from0 (fpS n) i wb) q fi).1) (joinS ((hgV (fun j => getS f k (nI j)) (gdR true d from0 (fpS n) i wb) q fi).2) (getS f k (nI (q + hgN (gdR true d from0 (fpS n) i wb))))) f_q4) (zK_S hZ hS (fun q h => by rw [h]; exact hu9)) k_T_headsFromGrowth_84 rfl rfl ⟨by show _ ≤ _; simp only [rmk]; omega, by show _ ≤ _; simp only [rmk]; omega⟩ rfl hl.1 rfl (Nat.le_of_ble_eq_true rfl) d_T_headsFromGrowth_84 ⟨by show 0 + (d + 1) + 1 + 0 + 0 ≤ ((d + 1) + 1); omega, by show 0 + (2 * (d + 1)) + 2 + 0 + 0 ≤ (2 * ((d + 1) + 1)); omega⟩) (fun v H L hC1 hp hL => ?_)
          have hS0 := hS
          have hS := hS_call hS hC1 hL (fun q h => by rw [h]; exact Or.inr ge_q4)
          have fo9 := ob_kept fo9 (hC_at hC1 (ob_lt fo9) (fun z => absurd z (by omega)))
          have hU := isU_kept hU (hC_at hC1 (ob_lt hU.1) (fun z => absurd z (by omega))) (hC_at hC1 (ar_lt hU.2.1) (fun z => absurd z (by omega)))
          obtain ⟨rfl, f8⟩ := hp
          refine W.eq (g2 := F0 m 87 ls [.ref q4]) rfl ?_
          refine W.widen (k := ((d + 1) + 1)) (n := (2 * ((d + 1) + 1))) (by omega) (by omega) ?_
          exact W.aret hx hb hr (Or.inl ⟨_, rfl⟩) (Or.inr ⟨_, rfl⟩) (fun t9 ht hW => ⟨_, rfl, by rw [ht]; exact hS_hC hS, by rw [ht]; exact ⟨q4, ge_q4, rfl, by rw [gG_l (by omega) (by omega), hgV_c]; exact f8, by rw [gG_l (by omega) (by omega), hgN_c, ← Nat.add_assoc]; exact hU⟩⟩) hS.2.2 d_T_headsFromGrowth_87 hlk
      · skip
        refine lv_iload_n hx hb d_T_headsFromGrowth_11 rfl (lv_at hl 2 rfl) ?_
        refine z_eq (tgt := 19) (v := wb) hx hb d_T_headsFromGrowth_12 (by decide) (fun c12 => ?_) (fun c12 => ?_)
        · skip
          refine lv_aload hx hb d_T_headsFromGrowth_19 (lv_at hl 4 rfl) ?_
          refine aW (N := (fun q => q = u)) (rV (As := []) (rest := []) C0 (c_U_next l g _ u v k q f hU huv (by omega) hu9) (zK_S hZ hS (fun q h => by rw [h]; exact hu9)) k_T_headsFromGrowth_21 rfl rfl ⟨by show _ ≤ _; simp only [rmk]; omega, by show _ ≤ _; simp only [rmk]; omega⟩ (ob_recv hK hU.1 rfl) rfl hl.1 rfl (Nat.le_of_ble_eq_true rfl) d_T_headsFromGrowth_21 ⟨by show 0 + 0 ≤ ((d + 1) + 1); omega, by show 0 + 0 ≤ (2 * ((d + 1) + 1)); omega⟩) (fun v H L hC1 hp hL => ?_)
          have hS0 := hS
          have hS := hS_call hS hC1 hL (fun q h => Or.inl h)
          obtain ⟨rfl, hU⟩ := hp
          refine W.eq (g2 := F0 m 24 ls [.long (getS f k (nI q))]) rfl ?_
          refine lv_lstore (lv' := [(6, .long (getS f k (nI q))), (0, .int (nI i)), (1, .int (nI n)), (2, .int (bI wb)), (3, .long fi), (5, .ref u)]) hx hb d_T_headsFromGrowth_24 hl (by decide) rfl (fun ls hl => ?_)
          have hS0 := hS
          refine s_new (ci := 5) (C := R_H) (T := F_H) (N := 2) hx hb hts i_H t_H t_H_ok hown (hts _ (in_3 (List.mem_of_getElem? (i := 134) rfl) rfl)) (hts _ (in_3 (List.mem_of_getElem? (i := 135) rfl) rfl)) (hts _ (in_1 (List.mem_of_getElem? (i := 25) rfl) rfl)) hK hS rfl (fs := [.long 0, .long 0]) (by decide) (by show 0 + 0 + 1 ≤ ((d + 1) + 1); omega) (by show 0 + 0 + 2 ≤ (2 * ((d + 1) + 1)); omega) d_T_headsFromGrowth_26 (fun q5 H hq f_q5 hz o1 hS => ?_)
          have hU := isU_kept hU (o1 _ (by rw [hq]; exact ob_lt hU.1)) (o1 _ (by rw [hq]; exact ar_lt hU.2.1))
          have ge_q5 : s.heap.size ≤ q5 := by rw [hq]; exact hS0.1
          refine lv_dup hx hb d_T_headsFromGrowth_29 rfl ?_
          refine lv_lload hx hb d_T_headsFromGrowth_30 (lv_at hl 0 rfl) ?_
          refine lv_lload hx hb d_T_headsFromGrowth_32 (lv_at hl 0 rfl) ?_
          refine aW (N := (fun q => q = q5)) (rI (As := [.long (getS f k (nI q)), .long (getS f k (nI q))]) (rest := [.ref q5]) C0 (c_H_init l g _ q5 (getS f k (nI q)) (getS f k (nI q)) f_q5) (zK_S hZ hS (fun q h => by rw [h]; exact hu9)) k_T_headsFromGrowth_34 rfl rfl ⟨by show _ ≤ _; simp only [rmk]; omega, by show _ ≤ _; simp only [rmk]; omega⟩ rfl hl.1 rfl (Nat.le_of_ble_eq_true rfl) d_T_headsFromGrowth_34 ⟨by show 0 + 0 + 1 + 0 ≤ ((d + 1) + 1); omega, by show 0 + 0 + 2 + 0 ≤ (2 * ((d + 1) + 1)); omega⟩) (fun v H L hC1 hp hL => ?_)
          have hS0 := hS
          have hS := hS_call hS hC1 hL (fun q h => by rw [h]; exact Or.inr ge_q5)
          have hU := isU_kept hU (hC_at hC1 (ob_lt hU.1) (fun z => absurd z (by omega))) (hC_at hC1 (ar_lt hU.2.1) (fun z => absurd z (by omega)))
          obtain ⟨rfl, f8⟩ := hp
          refine W.eq (g2 := F0 m 37 ls [.ref q5]) rfl ?_
          exact absurd h3 (by omega)
        · skip
          refine lv_lload_n hx hb d_T_headsFromGrowth_15 rfl (lv_at hl 3 rfl) ?_
          refine lv_goto (tgt := 24) hx hb d_T_headsFromGrowth_16 (by decide) ?_
          refine lv_lstore (lv' := [(6, .long fi), (0, .int (nI i)), (1, .int (nI n)), (2, .int (bI wb)), (3, .long fi), (5, .ref u)]) hx hb d_T_headsFromGrowth_24 hl (by decide) rfl (fun ls hl => ?_)
          have hS0 := hS
          refine s_new (ci := 5) (C := R_H) (T := F_H) (N := 2) hx hb hts i_H t_H t_H_ok hown (hts _ (in_3 (List.mem_of_getElem? (i := 134) rfl) rfl)) (hts _ (in_3 (List.mem_of_getElem? (i := 135) rfl) rfl)) (hts _ (in_1 (List.mem_of_getElem? (i := 25) rfl) rfl)) hK hS rfl (fs := [.long 0, .long 0]) (by decide) (by show 0 + 1 ≤ ((d + 1) + 1); omega) (by show 0 + 2 ≤ (2 * ((d + 1) + 1)); omega) d_T_headsFromGrowth_26 (fun q6 H hq f_q6 hz o1 hS => ?_)
          have hU := isU_kept hU (o1 _ (by rw [hq]; exact ob_lt hU.1)) (o1 _ (by rw [hq]; exact ar_lt hU.2.1))
          have ge_q6 : s.heap.size ≤ q6 := by rw [hq]; exact hS0.1
          refine lv_dup hx hb d_T_headsFromGrowth_29 rfl ?_
          refine lv_lload hx hb d_T_headsFromGrowth_30 (lv_at hl 0 rfl) ?_
          refine lv_lload hx hb d_T_headsFromGrowth_32 (lv_at hl 0 rfl) ?_
          refine aW (N := (fun q => q = q6)) (rI (As := [.long fi, .long fi]) (rest := [.ref q6]) C0 (c_H_init l g _ q6 fi fi f_q6) (zK_S hZ hS (fun q h => by rw [h]; exact hu9)) k_T_headsFromGrowth_34 rfl rfl ⟨by show _ ≤ _; simp only [rmk]; omega, by show _ ≤ _; simp only [rmk]; omega⟩ rfl hl.1 rfl (Nat.le_of_ble_eq_true rfl) d_T_headsFromGrowth_34 ⟨by show 0 + 1 + 0 ≤ ((d + 1) + 1); omega, by show 0 + 2 + 0 ≤ (2 * ((d + 1) + 1)); omega⟩) (fun v H L hC1 hp hL => ?_)
          have hS0 := hS
          have hS := hS_call hS hC1 hL (fun q h => by rw [h]; exact Or.inr ge_q6)
          have hU := isU_kept hU (hC_at hC1 (ob_lt hU.1) (fun z => absurd z (by omega))) (hC_at hC1 (ar_lt hU.2.1) (fun z => absurd z (by omega)))
          obtain ⟨rfl, f8⟩ := hp
          refine W.eq (g2 := F0 m 37 ls [.ref q6]) rfl ?_
          exact absurd h3 (by omega)
