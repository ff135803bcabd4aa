theorem s_len {l : Launch} {g : gG} {H : Heap} {a : Nat} {t : List Nat} (h : isS g H a t) : Met l y_S_length (wC y_S_length b_S_length 1 (some .int)) (rmk 1 0 0 20) (pC g H [.ref a]) (qP H (fun v => v = some (.int (nI t.length)))) 0 0 no_ := by
  obtain ⟨v, f0, f1, -, -⟩ := h
  exact c_S_length l g H a v _ _ f0 f1
theorem s_ch {l : Launch} {g : gG} {H : Heap} {a j : Nat} {t : List Nat} (h : isS g H a t) (hj : j < t.length) : Met l y_S_charAt (wC y_S_charAt b_S_charAt 2 (some .char)) (rmk 3 0 0 64) (pC g H [.ref a, .int (nI j)]) (qP H (fun v => v = some (.int (nI (t.getD j 0))))) 0 0 no_ := by
  obtain ⟨v, f0, f1, hc, hn⟩ := h
  have hj2 : (nI j).toNatClampNeg = j := nI_clamp (by omega)
  have q := ch_c _ (ch_lt hc j)
  have z := c_S_charAt l g H a v _ _ (nI j) f0 f1 (vp_in_nI hj (by omega)) (by omega) (by rw [hj2]; exact q.1) (by rw [hj2]; exact q.2)
  rw [hj2] at z
  exact z
theorem s_eq {l : Launch} {g : gG} {H : Heap} {a b : Nat} {t u : List Nat} (h : isS g H a t) (h2 : isS g H b u) : Met l y_S_equals (wC y_S_equals b_S_equals 3 (some .boolean)) (rmk 1 0 0 22) (pC g H [.ref a, .ref b]) (qP H (fun v => v = some (.int (bI (decide (t = u)))))) 0 0 no_ := by
  obtain ⟨v, f0, f1, hc, hn⟩ := h
  obtain ⟨v2, k0, k1, kc, kn⟩ := h2
  exact c_S_equals l g H a b v v2 t u f0 k0 f1 k1 hc kc hn kn
theorem isS_recv {g : gG} {H : Heap} {s : State} {a : Nat} {t : List Nat} (hK : kK g s) (h : isS g H a t) : ∃ cell : Cell, H[a]? = some cell ∧ cell.vm.isStatics = false ∧ s.vm.findClass "java/lang/String" = some cell.cls := by
  obtain ⟨v, f0, -⟩ := h
  exact s_recv hK f0
theorem isN_recv {g : gG} {H : Heap} {s : State} {a : Nat} {t : List Nat} (hK : kK g s) (h : isN g H a t) : ∃ cell : Cell, H[a]? = some cell ∧ cell.vm.isStatics = false ∧ s.vm.findClass "RegistryLog$Name" = some cell.cls := by
  obtain ⟨v, u, f0, -⟩ := h
  exact ob_recv (ci := 2) (q := (R_N, F_N, 2)) hK f0 rfl
/-! what the loops compute -/
def cbS : List Nat → List Nat → Nat
  | x :: a, y :: b => if x = y then cbS a b + 1 else 0
  | _, _ => 0
def nearS (t u : List Nat) : Bool := decide ((foldT t).length ≤ (foldT u).length + 1 ∧ (foldT u).length ≤ (foldT t).length + 1 ∧ max (foldT t).length (foldT u).length ≤ cbS (foldT t) (foldT u) + cbS (foldT t).reverse (foldT u).reverse + 1)
def oS (t : List Nat) : List Rw → Int32 → Int32
  | [], o => o
  | r :: l, o => if rk r = 3 ∧ rn r = t then -1 else oS t l (if ra r = t then ro r else o)
def hrS (o q : Int32) : List Rw → Bool → Bool
  | [], b => b
  | r :: l, b => hrS o q l (if rk r = 2 ∧ ro r = o ∧ r2 r = q then decide (r3 r = 1) else b)
def pubS (o v : Int32) : List Rw → Nat → Int32
  | [], _ => -1
  | r :: l, i => if rk r = 0 ∧ ro r = o ∧ r2 r = v then nI i else pubS o v l (i + 1)
def ynS (o v : Int32) : List Rw → Bool → Bool
  | [], b => b
  | r :: l, b => ynS o v l (if rk r = 1 ∧ ro r = o ∧ r2 r = v then decide (r3 r = 1) else b)
def freeS (t : List Nat) (mine : Int32) (all : List Rw) : List Rw → Bool
  | [] => true
  | r :: l => if ra r = t then false else if ro r ≠ mine ∧ nearS (ra r) t = true ∧ oS (ra r) all (-1) ≠ -1 then false else freeS t mine all l
theorem dropR {rows : List Rw} {i : Nat} {R9 : Rw} (h : i < rows.length) (e : R9 = rows.getD i noRw) : rows.drop i = R9 :: rows.drop (i + 1) := by
  rw [List.drop_eq_getElem_cons h, e, List.getD_eq_getElem?_getD, List.getElem?_eq_getElem h, Option.getD_some]

theorem k_N_isSame_8 : kV "RegistryLog$Name" 32 "java/lang/String" y_S_equals b_S_equals 3 (some .boolean) 1 := ⟨(in_4 (List.mem_of_getElem? (i := 1) rfl) rfl), (in_4 (List.mem_of_getElem? (i := 2) rfl) rfl), (in_4 (List.mem_of_getElem? (i := 3) rfl) rfl), (in_1 (List.mem_of_getElem? (i := 4) rfl) rfl), (in_4 (List.mem_of_getElem? (i := 4) rfl) rfl), ⟨by decide, by decide, by decide +kernel⟩⟩
set_option maxHeartbeats 4000000 in
set_option maxRecDepth 100000 in
/-- Name.isSame -/
theorem c_N_isSame (l : Launch) (g : gG) (H : Heap) (a b : Nat) (t u : List Nat) (h : isN g H a t) (h2 : isN g H b u) : Met l y_N_isSame (wC y_N_isSame b_N_isSame 2 (some .boolean)) (rmk 2 0 0 44) (pC g H [.ref a, .ref b]) (qP H (fun v => v = some (.int (bI (decide (t = u)))))) 0 0 no_ := by
  refine mB (by decide) (Nat.le_of_ble_eq_true rfl) ?_
  intro p e s m below meth c ls C0 hH hZ hnm hl
  have C0 : cF g p s m _ meth c b_N_isSame 2 "RegistryLog$Name" (some .boolean) := C0
  obtain ⟨hx, hb, hml, hown, hts, hr, hlk, hK⟩ := id C0
  subst hH
  have hl : lv_has ls 2 [(0, .ref a), (1, .ref b)] := hl
  obtain ⟨sa, fa, n0, n1, n2⟩ := h
  obtain ⟨sb, fb, k0, k1, k2⟩ := h2
  refine lv_aload_n hx hb d_N_isSame_0 rfl (lv_at hl 0 rfl) ?_
  refine va_get (D := g.1) (ci := 2) (C := R_N) (T := F_N) (N := 2) hx hb hts i_N hown hK.1 n0 0 rfl rfl 0 (by decide) (hts (.fieldLink "RegistryLog$Name" 9 "RegistryLog$Name" "typed" "Ljava/lang/String;") (in_2 (List.mem_of_getElem? (i := 157) rfl) rfl)) (fun _ h9 => h9) rfl d_N_isSame_1 ?_
  refine lv_aload_n hx hb d_N_isSame_4 rfl (lv_at hl 1 rfl) ?_
  refine va_get (D := g.1) (ci := 2) (C := R_N) (T := F_N) (N := 2) hx hb hts i_N hown hK.1 k0 0 rfl rfl 0 (by decide) (hts (.fieldLink "RegistryLog$Name" 9 "RegistryLog$Name" "typed" "Ljava/lang/String;") (in_2 (List.mem_of_getElem? (i := 157) rfl) rfl)) (fun _ h9 => h9) rfl d_N_isSame_5 ?_
  refine aP (rV (As := [.ref sb]) (rest := []) C0 (s_eq n1 k1) hZ k_N_isSame_8 rfl rfl ⟨Nat.le_of_ble_eq_true rfl, Nat.le_of_ble_eq_true rfl⟩ (isS_recv hK n1) rfl hl.1 rfl (Nat.le_of_ble_eq_true rfl) d_N_isSame_8 ⟨Nat.zero_le _, Nat.zero_le _⟩) ?_
  intro v hv; subst hv
  refine W.eq (g2 := F0 m 11 ls [.int (bI (decide (t = u)))]) rfl ?_
  exact W.zret hx hb hr (by cases decide (t = u) <;> rfl) (fun t9 ht hW => ⟨_, rfl, rfl, ht⟩) (fun q h => by cases h) d_N_isSame_11 hlk
theorem k_L_originOf_14 : kV "RegistryLog$Ledger" 35 "RegistryLog$Ledger" y_L_at b_L_at 2 (some (.object "RegistryLog$Row")) 1 := ⟨(in_3 (List.mem_of_getElem? (i := 236) rfl) rfl), (in_3 (List.mem_of_getElem? (i := 47) rfl) rfl), (in_3 (List.mem_of_getElem? (i := 48) rfl) rfl), (in_1 (List.mem_of_getElem? (i := 6) rfl) rfl), (in_3 (List.mem_of_getElem? (i := 49) rfl) rfl), ⟨by decide, by decide, by decide +kernel⟩⟩
theorem k_L_originOf_34 : kV "RegistryLog$Ledger" 46 "RegistryLog$Name" y_N_isSame b_N_isSame 2 (some .boolean) 1 := ⟨(in_3 (List.mem_of_getElem? (i := 237) rfl) rfl), (in_3 (List.mem_of_getElem? (i := 238) rfl) rfl), (in_3 (List.mem_of_getElem? (i := 239) rfl) rfl), (in_1 (List.mem_of_getElem? (i := 7) rfl) rfl), (in_4 (List.mem_of_getElem? (i := 0) rfl) rfl), ⟨by decide, by decide, by decide +kernel⟩⟩
theorem k_L_originOf_48 : kV "RegistryLog$Ledger" 46 "RegistryLog$Name" y_N_isSame b_N_isSame 2 (some .boolean) 1 := ⟨(in_3 (List.mem_of_getElem? (i := 237) rfl) rfl), (in_3 (List.mem_of_getElem? (i := 238) rfl) rfl), (in_3 (List.mem_of_getElem? (i := 239) rfl) rfl), (in_1 (List.mem_of_getElem? (i := 7) rfl) rfl), (in_4 (List.mem_of_getElem? (i := 0) rfl) rfl), ⟨by decide, by decide, by decide +kernel⟩⟩
set_option maxHeartbeats 4000000 in
set_option maxRecDepth 100000 in
theorem lp_L_originOf {p : Program} {l : Launch} {e : Env} {s : State} {m : MethodId} {args : Array Value} {below : List Frame} {meth : Method} {c : Code} {g : gG} (C0 : cF g p s m args meth c b_L_originOf 5 "RegistryLog$Ledger" (some .int)) (hZ : zK g s s.heap) (a : Nat) (rows : List Rw) (h : isL g s.heap a rows) (b : Nat) (t : List Nat) (hb9 : isN g s.heap b t) (res : Int32) :
    ∀ (n i : Nat) (o : Int32), i ≤ rows.length → rows.length + 1 ≤ i + n → oS t (rows.drop i) o = res → ∀ (ls : Array Slot), lv_has ls 5 [(0, .ref a), (1, .ref b), (2, .int o), (3, .int (nI i))] → W p l e (rmk 3 0 0 65) s m args below meth c s.heap [] 0 0 (MQ below (qP s.heap (fun v => v = some (.int res))) args s 0 0 no_) (F0 m 4 ls []) := by
  obtain ⟨hx, hb, hml, hown, hts, hr, hlk, hK⟩ := id C0
  obtain ⟨w, n0, f, f0, f1, hn9, hlen, hrs⟩ := id h
  intro n
  induction n with
  | zero => intro i o h1 h2; exact absurd h2 (by omega)
  | succ n ih =>
    intro i o hi hin hres ls hl
    refine lv_iload_n hx hb d_L_originOf_4 rfl (lv_at hl 3 rfl) ?_
    refine lv_aload_n hx hb d_L_originOf_5 rfl (lv_at hl 0 rfl) ?_
    refine va_get (D := g.1) (ci := 1) (C := R_L) (T := F_L) (N := 3) hx hb hts i_L hown hK.1 f0 0 rfl rfl 2 (by decide) (hts (.fieldLink "RegistryLog$Ledger" 31 "RegistryLog$Ledger" "count" "I") (in_2 (List.mem_of_getElem? (i := 223) rfl) rfl)) (fun _ h9 => h9) rfl d_L_originOf_6 ?_
    refine lv_icmp_ge (tgt := 66) hx hb d_L_originOf_9 (by decide) (fun c9 => ?_) (fun c9 => ?_)
    · skip
      refine lv_iload_n hx hb d_L_originOf_66 rfl (lv_at hl 2 rfl) ?_
      have he : i = rows.length := by have := (nI_leI (by omega) (by omega)).mp c9; omega
      subst he
      rw [List.drop_length] at hres
      exact W.iret hx hb hr (fun t9 ht hW => ⟨_, rfl, by rw [← hres]; rfl, ht⟩) (fun q h => by cases h) d_L_originOf_67 hlk
    · skip
      have hlt : i < rows.length := by rcases Nat.lt_or_ge i rows.length with q | q; exact q; exact absurd (nI_le q (by omega)) c9
      refine lv_aload_n hx hb d_L_originOf_12 rfl (lv_at hl 0 rfl) ?_
      refine lv_iload_n hx hb d_L_originOf_13 rfl (lv_at hl 3 rfl) ?_
      refine aP (rV (As := [.int (nI i)]) (rest := []) C0 (c_L_at l g s.heap a rows (nI i) h) hZ k_L_originOf_14 rfl rfl ⟨Nat.le_of_ble_eq_true rfl, Nat.le_of_ble_eq_true rfl⟩ (isL_recv hK h) rfl hl.1 rfl (Nat.le_of_ble_eq_true rfl) d_L_originOf_14 ⟨Nat.zero_le _, Nat.zero_le _⟩) ?_
      rintro v ⟨r, rfl, hr9⟩
      rw [atS_in hlt hlen] at hr9
      obtain ⟨R9, eR⟩ : ∃ R9, R9 = rows.getD i noRw := ⟨_, rfl⟩
      rw [← eR] at hr9
      rw [dropR hlt eR] at hres
      refine W.eq (g2 := F0 m 17 ls [.ref r]) rfl ?_
      obtain ⟨na, nb, hr90, hr9n, hr9a⟩ := hr9
      refine lv_astore (lv' := [(4, .ref r), (0, .ref a), (1, .ref b), (2, .int o), (3, .int (nI i))]) hx hb d_L_originOf_17 hl (by decide) rfl (fun ls hl => ?_)
      refine lv_aload hx hb d_L_originOf_19 (lv_at hl 0 rfl) ?_
      refine va_get (D := g.1) (ci := 4) (C := R_R) (T := F_R) (N := 8) hx hb hts i_R hown hK.1 hr90 0 rfl rfl 0 (by decide) (hts (.fieldLink "RegistryLog$Ledger" 39 "RegistryLog$Row" "kind" "I") (in_2 (List.mem_of_getElem? (i := 183) rfl) rfl)) (fun _ h9 => h9) rfl d_L_originOf_21 ?_
      refine lv_iconst (v := 3) hx hb d_L_originOf_24 (by decide) ?_
      refine lv_icmp_ne (tgt := 42) hx hb d_L_originOf_25 (by decide) (fun c25 => ?_) (fun c25 => ?_)
      · skip
        refine lv_aload hx hb d_L_originOf_42 (lv_at hl 0 rfl) ?_
        refine va_get (D := g.1) (ci := 4) (C := R_R) (T := F_R) (N := 8) hx hb hts i_R hown hK.1 hr90 0 rfl rfl 3 (by decide) (hts (.fieldLink "RegistryLog$Ledger" 50 "RegistryLog$Row" "nameAfter" "LRegistryLog$Name;") (in_2 (List.mem_of_getElem? (i := 191) rfl) rfl)) (fun _ h9 => h9) rfl d_L_originOf_44 ?_
        refine lv_aload_n hx hb d_L_originOf_47 rfl (lv_at hl 2 rfl) ?_
        refine aP (rV (As := [.ref b]) (rest := []) C0 (c_N_isSame l g s.heap nb b _ t hr9a hb9) hZ k_L_originOf_48 rfl rfl ⟨Nat.le_of_ble_eq_true rfl, Nat.le_of_ble_eq_true rfl⟩ (isN_recv hK hr9a) rfl hl.1 rfl (Nat.le_of_ble_eq_true rfl) d_L_originOf_48 ⟨Nat.zero_le _, Nat.zero_le _⟩) ?_
        intro v hv; subst hv
        refine W.eq (g2 := F0 m 51 ls [.int (bI (decide (ra R9 = t)))]) rfl ?_
        refine lv_if_eq (tgt := 60) hx hb d_L_originOf_51 (by decide) (fun c51 => ?_) (fun c51 => ?_)
        · skip
          obtain ⟨x_1, ex_1⟩ : ∃ y : Int32, y = (nI i) + 1 := ⟨_, rfl⟩
          refine lv_iinc (v := x_1) (lv' := [(3, .int x_1), (4, .ref r), (0, .ref a), (1, .ref b), (2, .int o)]) hx hb d_L_originOf_60 hl (k := 4) rfl (by rw [ex_1]; rfl) (by decide) rfl (fun ls hl => ?_)
          refine lv_goto (tgt := 4) hx hb d_L_originOf_63 (by decide) ?_
          rw [ex_1, nI_1] at hl
          rw [oS, if_neg (fun z => c25 z.1)] at hres
          rw [if_neg (of_decide_eq_false (bI_z.mp c51))] at hres
          exact ih (i + 1) _ hlt (by omega) hres ls (lv_sub hl [2, 3, 4, 0] rfl)
        · skip
          refine lv_aload hx hb d_L_originOf_54 (lv_at hl 0 rfl) ?_
          refine va_get (D := g.1) (ci := 4) (C := R_R) (T := F_R) (N := 8) hx hb hts i_R hown hK.1 hr90 0 rfl rfl 6 (by decide) (hts (.fieldLink "RegistryLog$Ledger" 53 "RegistryLog$Row" "origin" "I") (in_2 (List.mem_of_getElem? (i := 199) rfl) rfl)) (fun _ h9 => h9) rfl d_L_originOf_56 ?_
          refine lv_istore_n (lv' := [(2, .int (ro R9)), (4, .ref r), (0, .ref a), (1, .ref b), (3, .int (nI i))]) hx hb d_L_originOf_59 rfl hl (by decide) rfl (fun ls hl => ?_)
          obtain ⟨x_2, ex_2⟩ : ∃ y : Int32, y = (nI i) + 1 := ⟨_, rfl⟩
          refine lv_iinc (v := x_2) (lv' := [(3, .int x_2), (2, .int (ro R9)), (4, .ref r), (0, .ref a), (1, .ref b)]) hx hb d_L_originOf_60 hl (k := 4) rfl (by rw [ex_2]; rfl) (by decide) rfl (fun ls hl => ?_)
          refine lv_goto (tgt := 4) hx hb d_L_originOf_63 (by decide) ?_
          rw [ex_2, nI_1] at hl
          rw [oS, if_neg (fun z => c25 z.1)] at hres
          rw [if_pos (of_decide_eq_true (bI_n.mp c51))] at hres
          exact ih (i + 1) _ hlt (by omega) hres ls (lv_sub hl [3, 4, 1, 0] rfl)
      · skip
        refine lv_aload hx hb d_L_originOf_28 (lv_at hl 0 rfl) ?_
        refine va_get (D := g.1) (ci := 4) (C := R_R) (T := F_R) (N := 8) hx hb hts i_R hown hK.1 hr90 0 rfl rfl 2 (by decide) (hts (.fieldLink "RegistryLog$Ledger" 42 "RegistryLog$Row" "name" "LRegistryLog$Name;") (in_2 (List.mem_of_getElem? (i := 189) rfl) rfl)) (fun _ h9 => h9) rfl d_L_originOf_30 ?_
        refine lv_aload_n hx hb d_L_originOf_33 rfl (lv_at hl 2 rfl) ?_
        refine aP (rV (As := [.ref b]) (rest := []) C0 (c_N_isSame l g s.heap na b _ t hr9n hb9) hZ k_L_originOf_34 rfl rfl ⟨Nat.le_of_ble_eq_true rfl, Nat.le_of_ble_eq_true rfl⟩ (isN_recv hK hr9n) rfl hl.1 rfl (Nat.le_of_ble_eq_true rfl) d_L_originOf_34 ⟨Nat.zero_le _, Nat.zero_le _⟩) ?_
        intro v hv; subst hv
        refine W.eq (g2 := F0 m 37 ls [.int (bI (decide (rn R9 = t)))]) rfl ?_
        refine lv_if_eq (tgt := 42) hx hb d_L_originOf_37 (by decide) (fun c37 => ?_) (fun c37 => ?_)
        · skip
          refine lv_aload hx hb d_L_originOf_42 (lv_at hl 0 rfl) ?_
          refine va_get (D := g.1) (ci := 4) (C := R_R) (T := F_R) (N := 8) hx hb hts i_R hown hK.1 hr90 0 rfl rfl 3 (by decide) (hts (.fieldLink "RegistryLog$Ledger" 50 "RegistryLog$Row" "nameAfter" "LRegistryLog$Name;") (in_2 (List.mem_of_getElem? (i := 191) rfl) rfl)) (fun _ h9 => h9) rfl d_L_originOf_44 ?_
          refine lv_aload_n hx hb d_L_originOf_47 rfl (lv_at hl 2 rfl) ?_
          refine aP (rV (As := [.ref b]) (rest := []) C0 (c_N_isSame l g s.heap nb b _ t hr9a hb9) hZ k_L_originOf_48 rfl rfl ⟨Nat.le_of_ble_eq_true rfl, Nat.le_of_ble_eq_true rfl⟩ (isN_recv hK hr9a) rfl hl.1 rfl (Nat.le_of_ble_eq_true rfl) d_L_originOf_48 ⟨Nat.zero_le _, Nat.zero_le _⟩) ?_
          intro v hv; subst hv
          refine W.eq (g2 := F0 m 51 ls [.int (bI (decide (ra R9 = t)))]) rfl ?_
          refine lv_if_eq (tgt := 60) hx hb d_L_originOf_51 (by decide) (fun c51 => ?_) (fun c51 => ?_)
          · skip
            obtain ⟨x_3, ex_3⟩ : ∃ y : Int32, y = (nI i) + 1 := ⟨_, rfl⟩
            refine lv_iinc (v := x_3) (lv' := [(3, .int x_3), (4, .ref r), (0, .ref a), (1, .ref b), (2, .int o)]) hx hb d_L_originOf_60 hl (k := 4) rfl (by rw [ex_3]; rfl) (by decide) rfl (fun ls hl => ?_)
            refine lv_goto (tgt := 4) hx hb d_L_originOf_63 (by decide) ?_
            rw [ex_3, nI_1] at hl
            rw [oS, if_neg (fun z => absurd z.2 (of_decide_eq_false (bI_z.mp c37)))] at hres
            rw [if_neg (of_decide_eq_false (bI_z.mp c51))] at hres
            exact ih (i + 1) _ hlt (by omega) hres ls (lv_sub hl [2, 3, 4, 0] rfl)
          · skip
            refine lv_aload hx hb d_L_originOf_54 (lv_at hl 0 rfl) ?_
            refine va_get (D := g.1) (ci := 4) (C := R_R) (T := F_R) (N := 8) hx hb hts i_R hown hK.1 hr90 0 rfl rfl 6 (by decide) (hts (.fieldLink "RegistryLog$Ledger" 53 "RegistryLog$Row" "origin" "I") (in_2 (List.mem_of_getElem? (i := 199) rfl) rfl)) (fun _ h9 => h9) rfl d_L_originOf_56 ?_
            refine lv_istore_n (lv' := [(2, .int (ro R9)), (4, .ref r), (0, .ref a), (1, .ref b), (3, .int (nI i))]) hx hb d_L_originOf_59 rfl hl (by decide) rfl (fun ls hl => ?_)
            obtain ⟨x_4, ex_4⟩ : ∃ y : Int32, y = (nI i) + 1 := ⟨_, rfl⟩
            refine lv_iinc (v := x_4) (lv' := [(3, .int x_4), (2, .int (ro R9)), (4, .ref r), (0, .ref a), (1, .ref b)]) hx hb d_L_originOf_60 hl (k := 4) rfl (by rw [ex_4]; rfl) (by decide) rfl (fun ls hl => ?_)
            refine lv_goto (tgt := 4) hx hb d_L_originOf_63 (by decide) ?_
            rw [ex_4, nI_1] at hl
            rw [oS, if_neg (fun z => absurd z.2 (of_decide_eq_false (bI_z.mp c37)))] at hres
            rw [if_pos (of_decide_eq_true (bI_n.mp c51))] at hres
            exact ih (i + 1) _ hlt (by omega) hres ls (lv_sub hl [3, 4, 1, 0] rfl)
        · skip
          refine lv_iconst (v := (-1)) hx hb d_L_originOf_40 (by decide) ?_
          rw [oS, if_pos ⟨c25, of_decide_eq_true (bI_n.mp c37)⟩] at hres
          exact W.iret hx hb hr (fun t9 ht hW => ⟨_, rfl, by rw [← hres], ht⟩) (fun q h => by cases h) d_L_originOf_41 hlk
set_option maxHeartbeats 4000000 in
set_option maxRecDepth 100000 in
/-- Ledger.originOf -/
theorem c_L_originOf (l : Launch) (g : gG) (H : Heap) (a b : Nat) (rows : List Rw) (t : List Nat) (h : isL g H a rows) (hb9 : isN g H b t) : Met l y_L_originOf (wC y_L_originOf b_L_originOf 5 (some .int)) (rmk 3 0 0 65) (pC g H [.ref a, .ref b]) (qP H (fun v => v = some (.int (oS t rows (-1))))) 0 0 no_ := by
  refine mB (by decide) (Nat.le_of_ble_eq_true rfl) ?_
  intro p e s m below meth c ls C0 hH hZ hnm hl
  have C0 : cF g p s m _ meth c b_L_originOf 5 "RegistryLog$Ledger" (some .int) := C0
  obtain ⟨hx, hb, hml, hown, hts, hr, hlk, hK⟩ := id C0
  subst hH
  have hl : lv_has ls 5 [(0, .ref a), (1, .ref b)] := hl
  refine lv_iconst (v := (-1)) hx hb d_L_originOf_0 (by decide) ?_
  refine lv_istore_n (lv' := [(2, .int ((-1))), (0, .ref a), (1, .ref b)]) hx hb d_L_originOf_1 rfl hl (by decide) rfl (fun ls hl => ?_)
  refine lv_iconst (v := 0) hx hb d_L_originOf_2 (by decide) ?_
  refine lv_istore_n (lv' := [(3, .int 0), (2, .int ((-1))), (0, .ref a), (1, .ref b)]) hx hb d_L_originOf_3 rfl hl (by decide) rfl (fun ls hl => ?_)
  exact lp_L_originOf C0 hZ a rows h b t hb9 _ (rows.length + 1) 0 (-1) (Nat.zero_le _) (by omega) rfl ls (lv_sub hl [2, 3, 1, 0] rfl)
