theorem updA2 (A : Nat → Nat → Int32) (d : Nat) (f f2 : Nat → Int32) : updA (updA A d f) d f2 = updA A d f2 := by
  funext k
  unfold updA
  split <;> rfl
theorem cpy_s {f g9 : Nat → Int32} {so do9 i : Nat} : upd (va_cpy f g9 so do9 i) (do9 + i) (f (so + i)) = va_cpy f g9 so do9 (i + 1) := by
  funext q
  unfold upd va_cpy
  by_cases h : q = do9 + i
  · subst h
    rw [if_pos rfl, if_pos (by omega)]
    congr 1
    omega
  · rw [if_neg h]
    by_cases h2 : do9 ≤ q ∧ q < do9 + i
    · rw [if_pos h2, if_pos (by omega)]
    · rw [if_neg h2, if_neg (by omega)]
theorem cpy_0 {f g9 : Nat → Int32} {so do9 : Nat} : va_cpy f g9 so do9 0 = g9 := by
  funext q
  unfold va_cpy
  rw [if_neg (by omega)]
theorem updA_id (A : Nat → Nat → Int32) (d : Nat) : updA A d (A d) = A := by
  funext k
  unfold updA
  by_cases h : k = d
  · rw [if_pos h, h]
  · rw [if_neg h]
theorem k_M_isName_21 : kS "RegistryLogModel" 115 y_M_isLetter b_M_isLetter 1 (some .boolean) 1 := ⟨(in_5 (List.mem_of_getElem? (i := 130) rfl) rfl), (in_5 (List.mem_of_getElem? (i := 131) rfl) rfl), (in_1 (List.mem_of_getElem? (i := 22) rfl) rfl), (in_5 (List.mem_of_getElem? (i := 132) rfl) rfl), ⟨by decide, by decide, by decide +kernel⟩⟩
theorem k_M_isName_35 : kS "RegistryLogModel" 115 y_M_isLetter b_M_isLetter 1 (some .boolean) 1 := ⟨(in_5 (List.mem_of_getElem? (i := 130) rfl) rfl), (in_5 (List.mem_of_getElem? (i := 131) rfl) rfl), (in_1 (List.mem_of_getElem? (i := 22) rfl) rfl), (in_5 (List.mem_of_getElem? (i := 132) rfl) rfl), ⟨by decide, by decide, by decide +kernel⟩⟩
theorem k_M_isName_67 : kS "RegistryLogModel" 115 y_M_isLetter b_M_isLetter 1 (some .boolean) 1 := ⟨(in_5 (List.mem_of_getElem? (i := 130) rfl) rfl), (in_5 (List.mem_of_getElem? (i := 131) rfl) rfl), (in_1 (List.mem_of_getElem? (i := 22) rfl) rfl), (in_5 (List.mem_of_getElem? (i := 132) rfl) rfl), ⟨by decide, by decide, by decide +kernel⟩⟩
def nmL (T : List Nat) : Nat → Nat → Bool → Bool
  | 0, _, b => b
  | n + 1, i, b => if b then nmL T n (i + 1) (letS (T.getD i 0) || (decide (T.getD i 0 = 45) && !decide (T.getD (i - 1) 0 = 45))) else b
theorem nmL_f (T : List Nat) : ∀ n i, nmL T n i false = false
  | 0, _ => rfl
  | n + 1, i => rfl
def nameM (T : List Nat) (a b : Nat) : Bool := if 1 ≤ b - a ∧ b - a ≤ 10 ∧ letS (T.getD a 0) = true ∧ letS (T.getD (b - 1) 0) = true then nmL T (b - a) a true else false
set_option maxHeartbeats 4000000 in
set_option maxRecDepth 100000 in
theorem lp_M_isName {p : Program} {l : Launch} {e : Env} {s : State} {m : MethodId} {args : Array Value} {below : List Frame} {meth : Method} {c : Code} {g : gG} (C0 : cF g p s m args meth c b_M_isName 5 "RegistryLogModel" (some .boolean)) (hZ : zK g s s.heap) {x : Nat} {ad : Nat → Nat} {F : Nat → Int32} {A : Nat → Nat → Int32} {B : Nat → Nat → Int64} (hm : mS g s.heap s.heap x ad F A B []) (T : List Nat) (hT : ∀ k, k < T.length → A 1 k = nI (T.getD k 0)) (hc : ∀ k, T.getD k 0 < 128) (hT24 : T.length ≤ 24) (a b : Nat) (hab : a ≤ b) (hbT : b ≤ T.length) (res : Bool) :
    ∀ (n i : Nat) (b0 : Bool), i ≤ b → b + 1 ≤ i + n → a ≤ i → (i = a → letS (T.getD a 0) = true) → nmL T (b - i) i b0 = res → ∀ (ls : Array Slot), lv_has ls 5 [(0, .ref x), (1, .int (nI a)), (2, .int (nI b)), (3, .int (bI b0)), (4, .int (nI i))] → W p l e (rmk 1 0 0 20) s m args below meth c s.heap [] 0 0 (MQ below (qP s.heap (fun v => v = some (.int (bI res)))) args s 0 0 no_) (F0 m 50 ls []) := by
  obtain ⟨hx, hb, hml, hown, hts, hr, hlk, hK⟩ := id C0
  intro n
  induction n with
  | zero => intro i b0 h1 h2; exact absurd h2 (by omega)
  | succ n ih =>
    intro i b0 hi hin hai0 hfst hres ls hl
    have hci := hc i
    have hci1 := hc (i - 1)
    refine lv_iload hx hb d_M_isName_50 (lv_at hl 4 rfl) ?_
    refine lv_iload_n hx hb d_M_isName_52 rfl (lv_at hl 2 rfl) ?_
    refine n_ge (tgt := 111) (a := i) (b := b) hx hb d_M_isName_53 (by decide) (by omega) (by omega) (fun c53 => ?_) (fun c53 => ?_)
    · skip
      refine lv_iload_n hx hb d_M_isName_111 rfl (lv_at hl 3 rfl) ?_
      rw [show b - i = 0 by omega, nmL] at hres
      exact W.zret hx hb hr (by cases b0 <;> rfl) (fun t9 ht hW => ⟨_, rfl, by rw [← hres], ht⟩) (fun q h => by cases h) d_M_isName_112 hlk
    · skip
      refine lv_iload_n hx hb d_M_isName_56 rfl (lv_at hl 3 rfl) ?_
      refine z_eq (tgt := 111) (v := b0) hx hb d_M_isName_57 (by decide) (fun c57 => ?_) (fun c57 => ?_)
      · skip
        refine lv_iload_n hx hb d_M_isName_111 rfl (lv_at hl 3 rfl) ?_
        rw [c57, nmL_f, ← c57] at hres
        exact W.zret hx hb hr (by cases b0 <;> rfl) (fun t9 ht hW => ⟨_, rfl, by rw [← hres], ht⟩) (fun q h => by cases h) d_M_isName_112 hlk
      · skip
        refine lv_aload_n hx hb d_M_isName_60 rfl (lv_at hl 0 rfl) ?_
        refine m_get hx hb hts hown hK hm 1 (by decide) (hts (.fieldLink "RegistryLogModel" 7 "RegistryLogModel" "text" "[I") (in_4 (List.mem_of_getElem? (i := 210) rfl) rfl)) rfl (v := .ref (ad 1)) rfl d_M_isName_61 ?_
        refine lv_iload hx hb d_M_isName_64 (lv_at hl 4 rfl) ?_
        refine m_ld hx hb hK hm 1 rfl i rfl (show i < 24 from by omega) d_M_isName_66 ?_
        refine W.eq (g2 := F0 m 67 ls [.int (nI (T.getD i 0))]) (by rw [hT i (by omega)]) ?_
        refine aP (rS (As := [.int (nI (T.getD i 0))]) (rest := []) C0 (c_M_isLetter l g _ (T.getD i 0) (by have := hc i; omega)) (m_zK hZ hm) k_M_isName_67 rfl rfl ⟨Nat.le_of_ble_eq_true rfl, Nat.le_of_ble_eq_true rfl⟩ rfl hl.1 rfl (Nat.le_of_ble_eq_true rfl) d_M_isName_67 ⟨Nat.zero_le _, Nat.zero_le _⟩) ?_
        intro v hv; subst hv
        refine W.eq (g2 := F0 m 70 ls [.int (bI (letS (T.getD i 0)))]) rfl ?_
        refine z_ne (tgt := 99) (v := letS (T.getD i 0)) hx hb d_M_isName_70 (by decide) (fun c70 => ?_) (fun c70 => ?_)
        · skip
          refine lv_iconst (v := nI 1) hx hb d_M_isName_99 (by decide) ?_
          refine lv_goto (tgt := 104) hx hb d_M_isName_100 (by decide) ?_
          refine lv_istore_n (lv' := [(3, .int (nI 1)), (0, .ref x), (1, .int (nI a)), (2, .int (nI b)), (4, .int (nI i))]) hx hb d_M_isName_104 rfl hl (by decide) rfl (fun ls hl => ?_)
          refine n_inc (a := i) (lv' := [(4, .int (nI (i + 1))), (3, .int (nI 1)), (0, .ref x), (1, .int (nI a)), (2, .int (nI b))]) hx hb d_M_isName_105 hl (k := 4) rfl (by decide) rfl (fun ls hl => ?_)
          refine lv_goto (tgt := 50) hx hb d_M_isName_108 (by decide) ?_
          have e8 : (letS (T.getD i 0) || (decide (T.getD i 0 = 45) && !decide (T.getD (i - 1) 0 = 45))) = true := by rw [c70, Bool.true_or]
          rw [show b - i = (b - (i + 1)) + 1 by omega, nmL, c57, if_pos rfl, e8] at hres
          exact ih (i + 1) true c53 (by omega) (by omega) (fun h => by omega) hres ls (lv_sub hl [2, 3, 4, 1, 0] rfl)
        · skip
          refine lv_aload_n hx hb d_M_isName_73 rfl (lv_at hl 0 rfl) ?_
          refine m_get hx hb hts hown hK hm 1 (by decide) (hts (.fieldLink "RegistryLogModel" 7 "RegistryLogModel" "text" "[I") (in_4 (List.mem_of_getElem? (i := 210) rfl) rfl)) rfl (v := .ref (ad 1)) rfl d_M_isName_74 ?_
          refine lv_iload hx hb d_M_isName_77 (lv_at hl 4 rfl) ?_
          refine m_ld hx hb hK hm 1 rfl i rfl (show i < 24 from by omega) d_M_isName_79 ?_
          refine W.eq (g2 := F0 m 80 ls [.int (nI (T.getD i 0))]) (by rw [hT i (by omega)]) ?_
          refine lv_bipush (v := nI 45) hx hb d_M_isName_80 (by decide) ?_
          refine n_ne (tgt := 103) (a := T.getD i 0) (b := 45) hx hb d_M_isName_82 (by decide) (by omega) (by omega) (fun c82 => ?_) (fun c82 => ?_)
          · skip
            refine lv_iconst (v := nI 0) hx hb d_M_isName_103 (by decide) ?_
            refine lv_istore_n (lv' := [(3, .int (nI 0)), (0, .ref x), (1, .int (nI a)), (2, .int (nI b)), (4, .int (nI i))]) hx hb d_M_isName_104 rfl hl (by decide) rfl (fun ls hl => ?_)
            refine n_inc (a := i) (lv' := [(4, .int (nI (i + 1))), (3, .int (nI 0)), (0, .ref x), (1, .int (nI a)), (2, .int (nI b))]) hx hb d_M_isName_105 hl (k := 4) rfl (by decide) rfl (fun ls hl => ?_)
            refine lv_goto (tgt := 50) hx hb d_M_isName_108 (by decide) ?_
            have e8 : (letS (T.getD i 0) || (decide (T.getD i 0 = 45) && !decide (T.getD (i - 1) 0 = 45))) = false := by rw [c70, decide_eq_false c82]; rfl
            rw [show b - i = (b - (i + 1)) + 1 by omega, nmL, c57, if_pos rfl, e8] at hres
            exact ih (i + 1) false c53 (by omega) (by omega) (fun h => by omega) hres ls (lv_sub hl [2, 3, 4, 1, 0] rfl)
          · skip
            have hai : 1 ≤ i := by rcases Nat.lt_or_ge 0 i with q | q; exact q; exact absurd (hfst (by omega)) (by rw [show a = i by omega, c70]; decide)
            refine lv_aload_n hx hb d_M_isName_85 rfl (lv_at hl 0 rfl) ?_
            refine m_get hx hb hts hown hK hm 1 (by decide) (hts (.fieldLink "RegistryLogModel" 7 "RegistryLogModel" "text" "[I") (in_4 (List.mem_of_getElem? (i := 210) rfl) rfl)) rfl (v := .ref (ad 1)) rfl d_M_isName_86 ?_
            refine lv_iload hx hb d_M_isName_89 (lv_at hl 4 rfl) ?_
            refine lv_iconst (v := nI 1) hx hb d_M_isName_91 (by decide) ?_
            refine n_isub hx hb (by omega) d_M_isName_92 ?_
            refine m_ld hx hb hK hm 1 rfl (i - 1) rfl (show i - 1 < 24 from by omega) d_M_isName_93 ?_
            refine W.eq (g2 := F0 m 94 ls [.int (nI (T.getD (i - 1) 0))]) (by rw [hT (i - 1) (by omega)]) ?_
            refine lv_bipush (v := nI 45) hx hb d_M_isName_94 (by decide) ?_
            refine n_eq (tgt := 103) (a := T.getD (i - 1) 0) (b := 45) hx hb d_M_isName_96 (by decide) (by omega) (by omega) (fun c96 => ?_) (fun c96 => ?_)
            · skip
              refine lv_iconst (v := nI 0) hx hb d_M_isName_103 (by decide) ?_
              refine lv_istore_n (lv' := [(3, .int (nI 0)), (0, .ref x), (1, .int (nI a)), (2, .int (nI b)), (4, .int (nI i))]) hx hb d_M_isName_104 rfl hl (by decide) rfl (fun ls hl => ?_)
              refine n_inc (a := i) (lv' := [(4, .int (nI (i + 1))), (3, .int (nI 0)), (0, .ref x), (1, .int (nI a)), (2, .int (nI b))]) hx hb d_M_isName_105 hl (k := 4) rfl (by decide) rfl (fun ls hl => ?_)
              refine lv_goto (tgt := 50) hx hb d_M_isName_108 (by decide) ?_
              have e8 : (letS (T.getD i 0) || (decide (T.getD i 0 = 45) && !decide (T.getD (i - 1) 0 = 45))) = false := by rw [c70, decide_eq_true c82, decide_eq_true c96]; rfl
              rw [show b - i = (b - (i + 1)) + 1 by omega, nmL, c57, if_pos rfl, e8] at hres
              exact ih (i + 1) false c53 (by omega) (by omega) (fun h => by omega) hres ls (lv_sub hl [2, 3, 4, 1, 0] rfl)
            · skip
              refine lv_iconst (v := nI 1) hx hb d_M_isName_99 (by decide) ?_
              refine lv_goto (tgt := 104) hx hb d_M_isName_100 (by decide) ?_
              refine lv_istore_n (lv' := [(3, .int (nI 1)), (0, .ref x), (1, .int (nI a)), (2, .int (nI b)), (4, .int (nI i))]) hx hb d_M_isName_104 rfl hl (by decide) rfl (fun ls hl => ?_)
              refine n_inc (a := i) (lv' := [(4, .int (nI (i + 1))), (3, .int (nI 1)), (0, .ref x), (1, .int (nI a)), (2, .int (nI b))]) hx hb d_M_isName_105 hl (k := 4) rfl (by decide) rfl (fun ls hl => ?_)
              refine lv_goto (tgt := 50) hx hb d_M_isName_108 (by decide) ?_
              have e8 : (letS (T.getD i 0) || (decide (T.getD i 0 = 45) && !decide (T.getD (i - 1) 0 = 45))) = true := by rw [c70, decide_eq_true c82, decide_eq_false c96]; rfl
              rw [show b - i = (b - (i + 1)) + 1 by omega, nmL, c57, if_pos rfl, e8] at hres
              exact ih (i + 1) true c53 (by omega) (by omega) (fun h => by omega) hres ls (lv_sub hl [2, 3, 4, 1, 0] rfl)
set_option maxHeartbeats 4000000 in
set_option maxRecDepth 100000 in
/-- isName(from, to) -/
theorem c_M_isName (l : Launch) (g : gG) (H : Heap) (x : Nat) (ad : Nat → Nat) (F : Nat → Int32) (A : Nat → Nat → Int32) (B : Nat → Nat → Int64) (hm0 : mW g H x ad F A B) (T : List Nat) (hT : ∀ k, k < T.length → A 1 k = nI (T.getD k 0)) (hc : ∀ k, T.getD k 0 < 128) (hT24 : T.length ≤ 24) (a b : Nat) (hab : a ≤ b) (hbT : b ≤ T.length) : Met l y_M_isName (wC y_M_isName b_M_isName 5 (some .boolean)) (rmk 1 0 0 20) (pC g H [.ref x, .int (nI a), .int (nI b)]) (qP H (fun v => v = some (.int (bI (nameM T a b))))) 0 0 no_ := by
  refine mB (by decide) (Nat.le_of_ble_eq_true rfl) ?_
  intro p e s m below meth c ls C0 hH hZ hnm hl
  have C0 : cF g p s m _ meth c b_M_isName 5 "RegistryLogModel" (some .boolean) := C0
  obtain ⟨hx, hb, hml, hown, hts, hr, hlk, hK⟩ := id C0
  subst hH
  have hl : lv_has ls 5 [(0, .ref x), (1, .int (nI a)), (2, .int (nI b))] := hl
  have hm := mS.rf hm0
  refine lv_iload_n hx hb d_M_isName_0 rfl (lv_at hl 2 rfl) ?_
  refine lv_iload_n hx hb d_M_isName_1 rfl (lv_at hl 1 rfl) ?_
  refine n_isub hx hb (by omega) d_M_isName_2 ?_
  refine lv_iconst (v := nI 1) hx hb d_M_isName_3 (by decide) ?_
  refine n_lt (tgt := 45) (a := b - a) (b := 1) hx hb d_M_isName_4 (by decide) (by omega) (by omega) (fun c4 => ?_) (fun c4 => ?_)
  · skip
    refine lv_iconst (v := nI 0) hx hb d_M_isName_45 (by decide) ?_
    refine lv_istore_n (lv' := [(3, .int (nI 0)), (0, .ref x), (1, .int (nI a)), (2, .int (nI b))]) hx hb d_M_isName_46 rfl hl (by decide) rfl (fun ls hl => ?_)
    refine lv_iload_n hx hb d_M_isName_47 rfl (lv_at hl 2 rfl) ?_
    refine lv_istore (lv' := [(4, .int (nI a)), (3, .int (nI 0)), (0, .ref x), (1, .int (nI a)), (2, .int (nI b))]) hx hb d_M_isName_48 hl (by decide) rfl (fun ls hl => ?_)
    rw [nameM, if_neg (by omega)]
    refine lv_iload hx hb d_M_isName_50 (lv_at hl 0 rfl) ?_
    refine lv_iload_n hx hb d_M_isName_52 rfl (lv_at hl 4 rfl) ?_
    refine n_ge (tgt := 111) (a := a) (b := b) hx hb d_M_isName_53 (by decide) (by omega) (by omega) (fun c53 => ?_) (fun c53 => ?_)
    · refine lv_iload_n hx hb d_M_isName_111 rfl (lv_at hl 1 rfl) ?_
      exact W.zret hx hb hr rfl (fun t9 ht hW => ⟨_, rfl, rfl, ht⟩) (fun q h => by cases h) d_M_isName_112 hlk
    · refine lv_iload_n hx hb d_M_isName_56 rfl (lv_at hl 1 rfl) ?_
      refine lv_if_eq (tgt := 111) hx hb d_M_isName_57 (by decide) (fun c57 => ?_) (fun c57 => absurd (by decide) c57)
      refine lv_iload_n hx hb d_M_isName_111 rfl (lv_at hl 1 rfl) ?_
      exact W.zret hx hb hr rfl (fun t9 ht hW => ⟨_, rfl, rfl, ht⟩) (fun q h => by cases h) d_M_isName_112 hlk
  · skip
    refine lv_iload_n hx hb d_M_isName_7 rfl (lv_at hl 2 rfl) ?_
    refine lv_iload_n hx hb d_M_isName_8 rfl (lv_at hl 1 rfl) ?_
    refine n_isub hx hb (by omega) d_M_isName_9 ?_
    refine lv_bipush (v := nI 10) hx hb d_M_isName_10 (by decide) ?_
    refine n_gt (tgt := 45) (a := b - a) (b := 10) hx hb d_M_isName_12 (by decide) (by omega) (by omega) (fun c12 => ?_) (fun c12 => ?_)
    · skip
      refine lv_iconst (v := nI 0) hx hb d_M_isName_45 (by decide) ?_
      refine lv_istore_n (lv' := [(3, .int (nI 0)), (0, .ref x), (1, .int (nI a)), (2, .int (nI b))]) hx hb d_M_isName_46 rfl hl (by decide) rfl (fun ls hl => ?_)
      refine lv_iload_n hx hb d_M_isName_47 rfl (lv_at hl 2 rfl) ?_
      refine lv_istore (lv' := [(4, .int (nI a)), (3, .int (nI 0)), (0, .ref x), (1, .int (nI a)), (2, .int (nI b))]) hx hb d_M_isName_48 hl (by decide) rfl (fun ls hl => ?_)
      rw [nameM, if_neg (by omega)]
      refine lv_iload hx hb d_M_isName_50 (lv_at hl 0 rfl) ?_
      refine lv_iload_n hx hb d_M_isName_52 rfl (lv_at hl 4 rfl) ?_
      refine n_ge (tgt := 111) (a := a) (b := b) hx hb d_M_isName_53 (by decide) (by omega) (by omega) (fun c53 => ?_) (fun c53 => ?_)
      · refine lv_iload_n hx hb d_M_isName_111 rfl (lv_at hl 1 rfl) ?_
        exact W.zret hx hb hr rfl (fun t9 ht hW => ⟨_, rfl, rfl, ht⟩) (fun q h => by cases h) d_M_isName_112 hlk
      · refine lv_iload_n hx hb d_M_isName_56 rfl (lv_at hl 1 rfl) ?_
        refine lv_if_eq (tgt := 111) hx hb d_M_isName_57 (by decide) (fun c57 => ?_) (fun c57 => absurd (by decide) c57)
        refine lv_iload_n hx hb d_M_isName_111 rfl (lv_at hl 1 rfl) ?_
        exact W.zret hx hb hr rfl (fun t9 ht hW => ⟨_, rfl, rfl, ht⟩) (fun q h => by cases h) d_M_isName_112 hlk
    · skip
      refine lv_aload_n hx hb d_M_isName_15 rfl (lv_at hl 0 rfl) ?_
      refine m_get hx hb hts hown hK hm 1 (by decide) (hts (.fieldLink "RegistryLogModel" 7 "RegistryLogModel" "text" "[I") (in_4 (List.mem_of_getElem? (i := 210) rfl) rfl)) rfl (v := .ref (ad 1)) rfl d_M_isName_16 ?_
      refine lv_iload_n hx hb d_M_isName_19 rfl (lv_at hl 1 rfl) ?_
      refine m_ld hx hb hK hm 1 rfl a rfl (show a < 24 from by omega) d_M_isName_20 ?_
      refine W.eq (g2 := F0 m 21 ls [.int (nI (T.getD a 0))]) (by rw [hT a (by omega)]) ?_
      refine aP (rS (As := [.int (nI (T.getD a 0))]) (rest := []) C0 (c_M_isLetter l g _ (T.getD a 0) (by have := hc a; omega)) (m_zK hZ hm) k_M_isName_21 rfl rfl ⟨Nat.le_of_ble_eq_true rfl, Nat.le_of_ble_eq_true rfl⟩ rfl hl.1 rfl (Nat.le_of_ble_eq_true rfl) d_M_isName_21 ⟨Nat.zero_le _, Nat.zero_le _⟩) ?_
      intro v hv; subst hv
      refine W.eq (g2 := F0 m 24 ls [.int (bI (letS (T.getD a 0)))]) rfl ?_
      refine z_eq (tgt := 45) (v := letS (T.getD a 0)) hx hb d_M_isName_24 (by decide) (fun c24 => ?_) (fun c24 => ?_)
      · skip
        refine lv_iconst (v := nI 0) hx hb d_M_isName_45 (by decide) ?_
        refine lv_istore_n (lv' := [(3, .int (nI 0)), (0, .ref x), (1, .int (nI a)), (2, .int (nI b))]) hx hb d_M_isName_46 rfl hl (by decide) rfl (fun ls hl => ?_)
        refine lv_iload_n hx hb d_M_isName_47 rfl (lv_at hl 2 rfl) ?_
        refine lv_istore (lv' := [(4, .int (nI a)), (3, .int (nI 0)), (0, .ref x), (1, .int (nI a)), (2, .int (nI b))]) hx hb d_M_isName_48 hl (by decide) rfl (fun ls hl => ?_)
        rw [nameM, if_neg (by rw [c24]; simp)]
        refine lv_iload hx hb d_M_isName_50 (lv_at hl 0 rfl) ?_
        refine lv_iload_n hx hb d_M_isName_52 rfl (lv_at hl 4 rfl) ?_
        refine n_ge (tgt := 111) (a := a) (b := b) hx hb d_M_isName_53 (by decide) (by omega) (by omega) (fun c53 => ?_) (fun c53 => ?_)
        · refine lv_iload_n hx hb d_M_isName_111 rfl (lv_at hl 1 rfl) ?_
          exact W.zret hx hb hr rfl (fun t9 ht hW => ⟨_, rfl, rfl, ht⟩) (fun q h => by cases h) d_M_isName_112 hlk
        · refine lv_iload_n hx hb d_M_isName_56 rfl (lv_at hl 1 rfl) ?_
          refine lv_if_eq (tgt := 111) hx hb d_M_isName_57 (by decide) (fun c57 => ?_) (fun c57 => absurd (by decide) c57)
          refine lv_iload_n hx hb d_M_isName_111 rfl (lv_at hl 1 rfl) ?_
          exact W.zret hx hb hr rfl (fun t9 ht hW => ⟨_, rfl, rfl, ht⟩) (fun q h => by cases h) d_M_isName_112 hlk
      · skip
        refine lv_aload_n hx hb d_M_isName_27 rfl (lv_at hl 0 rfl) ?_
        refine m_get hx hb hts hown hK hm 1 (by decide) (hts (.fieldLink "RegistryLogModel" 7 "RegistryLogModel" "text" "[I") (in_4 (List.mem_of_getElem? (i := 210) rfl) rfl)) rfl (v := .ref (ad 1)) rfl d_M_isName_28 ?_
        refine lv_iload_n hx hb d_M_isName_31 rfl (lv_at hl 2 rfl) ?_
        refine lv_iconst (v := nI 1) hx hb d_M_isName_32 (by decide) ?_
        refine n_isub hx hb (by omega) d_M_isName_33 ?_
        refine m_ld hx hb hK hm 1 rfl (b - 1) rfl (show b - 1 < 24 from by omega) d_M_isName_34 ?_
        refine W.eq (g2 := F0 m 35 ls [.int (nI (T.getD (b - 1) 0))]) (by rw [hT (b - 1) (by omega)]) ?_
        refine aP (rS (As := [.int (nI (T.getD (b - 1) 0))]) (rest := []) C0 (c_M_isLetter l g _ (T.getD (b - 1) 0) (by have := hc (b - 1); omega)) (m_zK hZ hm) k_M_isName_35 rfl rfl ⟨Nat.le_of_ble_eq_true rfl, Nat.le_of_ble_eq_true rfl⟩ rfl hl.1 rfl (Nat.le_of_ble_eq_true rfl) d_M_isName_35 ⟨Nat.zero_le _, Nat.zero_le _⟩) ?_
        intro v hv; subst hv
        refine W.eq (g2 := F0 m 38 ls [.int (bI (letS (T.getD (b - 1) 0)))]) rfl ?_
        refine z_eq (tgt := 45) (v := letS (T.getD (b - 1) 0)) hx hb d_M_isName_38 (by decide) (fun c38 => ?_) (fun c38 => ?_)
        · skip
          refine lv_iconst (v := nI 0) hx hb d_M_isName_45 (by decide) ?_
          refine lv_istore_n (lv' := [(3, .int (nI 0)), (0, .ref x), (1, .int (nI a)), (2, .int (nI b))]) hx hb d_M_isName_46 rfl hl (by decide) rfl (fun ls hl => ?_)
          refine lv_iload_n hx hb d_M_isName_47 rfl (lv_at hl 2 rfl) ?_
          refine lv_istore (lv' := [(4, .int (nI a)), (3, .int (nI 0)), (0, .ref x), (1, .int (nI a)), (2, .int (nI b))]) hx hb d_M_isName_48 hl (by decide) rfl (fun ls hl => ?_)
          rw [nameM, if_neg (by rw [c38]; simp)]
          refine lv_iload hx hb d_M_isName_50 (lv_at hl 0 rfl) ?_
          refine lv_iload_n hx hb d_M_isName_52 rfl (lv_at hl 4 rfl) ?_
          refine n_ge (tgt := 111) (a := a) (b := b) hx hb d_M_isName_53 (by decide) (by omega) (by omega) (fun c53 => ?_) (fun c53 => ?_)
          · refine lv_iload_n hx hb d_M_isName_111 rfl (lv_at hl 1 rfl) ?_
            exact W.zret hx hb hr rfl (fun t9 ht hW => ⟨_, rfl, rfl, ht⟩) (fun q h => by cases h) d_M_isName_112 hlk
          · refine lv_iload_n hx hb d_M_isName_56 rfl (lv_at hl 1 rfl) ?_
            refine lv_if_eq (tgt := 111) hx hb d_M_isName_57 (by decide) (fun c57 => ?_) (fun c57 => absurd (by decide) c57)
            refine lv_iload_n hx hb d_M_isName_111 rfl (lv_at hl 1 rfl) ?_
            exact W.zret hx hb hr rfl (fun t9 ht hW => ⟨_, rfl, rfl, ht⟩) (fun q h => by cases h) d_M_isName_112 hlk
        · skip
          refine lv_iconst (v := nI 1) hx hb d_M_isName_41 (by decide) ?_
          refine lv_goto (tgt := 46) hx hb d_M_isName_42 (by decide) ?_
          refine lv_istore_n (lv' := [(3, .int (nI 1)), (0, .ref x), (1, .int (nI a)), (2, .int (nI b))]) hx hb d_M_isName_46 rfl hl (by decide) rfl (fun ls hl => ?_)
          refine lv_iload_n hx hb d_M_isName_47 rfl (lv_at hl 2 rfl) ?_
          refine lv_istore (lv' := [(4, .int (nI a)), (3, .int (nI 1)), (0, .ref x), (1, .int (nI a)), (2, .int (nI b))]) hx hb d_M_isName_48 hl (by decide) rfl (fun ls hl => ?_)
          rw [nameM, if_pos ⟨by omega, by omega, c24, c38⟩]
          exact lp_M_isName C0 hZ hm T hT hc hT24 a b hab hbT _ (b + 1 - a) a true hab (by omega) (Nat.le_refl _) (fun _ => c24) rfl ls (lv_sub hl [2, 3, 4, 1, 0] rfl)
set_option maxHeartbeats 4000000 in
set_option maxRecDepth 100000 in
theorem lp_M_write1 {p : Program} {l : Launch} {e : Env} {s : State} {m : MethodId} {args : Array Value} {below : List Frame} {meth : Method} {c : Code} {g : gG} {R : Room} {Q : State → Prop} (C0 : cF g p s m args meth c b_M_write 7 "RegistryLogModel" (some .int)) {x : Nat} {ad : Nat → Nat} {F : Nat → Int32} {A : Nat → Nat → Int32} {B : Nat → Nat → Int64} (k0 p0 a0 b0 : Int32) (r n1 n2 : Nat) (hr9 : r < 120) (h1 : F 32 = nI n1) (h2 : F 33 = nI n2) (hn1 : n1 ≤ 10) (hn2 : n2 ≤ 10) (K : ∀ (H : Heap) (locs : List Loc), mS g s.heap H x ad F (updA A 9 (va_cpy (A 30) (A 9) 0 (10 * r) n1)) B locs → ∀ (ls : Array Slot), lv_has ls 7 [(0, .ref x), (1, .int k0), (2, .int p0), (3, .int a0), (4, .int b0), (5, .int (nI r)), (6, .int (nI n1))] → W p l e R s m args below meth c H locs 0 0 Q (F0 m 114 ls [])) :
    ∀ (n i : Nat) (H : Heap) (locs : List Loc), i ≤ n1 → n1 + 1 ≤ i + n → mS g s.heap H x ad F (updA A 9 (va_cpy (A 30) (A 9) 0 (10 * r) i)) B locs → ∀ (ls : Array Slot), lv_has ls 7 [(0, .ref x), (1, .int k0), (2, .int p0), (3, .int a0), (4, .int b0), (5, .int (nI r)), (6, .int (nI i))] → W p l e R s m args below meth c H locs 0 0 Q (F0 m 79 ls []) := by
  obtain ⟨hx, hb, hml, hown, hts, hr, hlk, hK⟩ := id C0
  intro n
  induction n with
  | zero => intro i H locs h1 h2; exact absurd h2 (by omega)
  | succ n ih =>
    intro i H locs hi hin hm ls hl
    refine lv_iload hx hb d_M_write_79 (lv_at hl 6 rfl) ?_
    refine lv_aload_n hx hb d_M_write_81 rfl (lv_at hl 0 rfl) ?_
    refine m_get hx hb hts hown hK hm 32 (by decide) (hts (.fieldLink "RegistryLogModel" 123 "RegistryLogModel" "oneSize" "I") (in_5 (List.mem_of_getElem? (i := 1) rfl) rfl)) rfl (v := .int (nI n1)) (congrArg (fun z => some (Value.int z)) h1) d_M_write_82 ?_
    refine n_ge (tgt := 114) (a := i) (b := n1) hx hb d_M_write_85 (by decide) (by omega) (by omega) (fun c85 => ?_) (fun c85 => ?_)
    · skip
      have e9 : i = n1 := by omega
      rw [e9] at hm hl
      exact K H locs hm ls (lv_sub hl [0, 1, 2, 3, 4, 5, 6] rfl)
    · skip
      refine lv_aload_n hx hb d_M_write_88 rfl (lv_at hl 0 rfl) ?_
      refine m_get hx hb hts hown hK hm 9 (by decide) (hts (.fieldLink "RegistryLogModel" 31 "RegistryLogModel" "letters" "[I") (in_4 (List.mem_of_getElem? (i := 218) rfl) rfl)) rfl (v := .ref (ad 9)) rfl d_M_write_89 ?_
      refine lv_bipush (v := nI 10) hx hb d_M_write_92 (by decide) ?_
      refine lv_iload hx hb d_M_write_94 (lv_at hl 5 rfl) ?_
      refine n_imul hx hb d_M_write_96 ?_
      refine lv_iload hx hb d_M_write_97 (lv_at hl 6 rfl) ?_
      refine n_iadd hx hb d_M_write_99 ?_
      refine lv_aload_n hx hb d_M_write_100 rfl (lv_at hl 0 rfl) ?_
      refine m_get hx hb hts hown hK hm 30 (by decide) (hts (.fieldLink "RegistryLogModel" 80 "RegistryLogModel" "one" "[I") (in_4 (List.mem_of_getElem? (i := 239) rfl) rfl)) rfl (v := .ref (ad 30)) rfl d_M_write_101 ?_
      refine lv_iload hx hb d_M_write_104 (lv_at hl 6 rfl) ?_
      refine m_ld hx hb hK hm 30 rfl (0 + i) (by rw [Nat.zero_add]) (show 0 + i < 10 from by omega) d_M_write_106 ?_
      refine W.eq (g2 := F0 m 107 ls [.int (A 30 (0 + i)), .int (nI ((10 * r) + i)), .ref (ad 9)]) rfl ?_
      refine m_st hx hb hK hm 9 rfl ((10 * r) + i) rfl (show (10 * r) + i < 1200 from by omega) d_M_write_107 (fun H locs hm => ?_)
      have hm : mS g s.heap H x ad F (updA (updA A 9 (va_cpy (A 30) (A 9) 0 (10 * r) i)) 9 (upd (va_cpy (A 30) (A 9) 0 (10 * r) i) ((10 * r) + i) (A 30 (0 + i)))) B locs := hm
      refine n_inc (a := i) (lv' := [(6, .int (nI (i + 1))), (0, .ref x), (1, .int k0), (2, .int p0), (3, .int a0), (4, .int b0), (5, .int (nI r))]) hx hb d_M_write_108 hl (k := 6) rfl (by decide) rfl (fun ls hl => ?_)
      refine lv_goto (tgt := 79) hx hb d_M_write_111 (by decide) ?_
      rw [updA2, cpy_s] at hm
      exact ih (i + 1) H locs (by omega) (by omega) hm ls (lv_sub hl [1, 2, 3, 4, 5, 6, 0] rfl)
set_option maxHeartbeats 4000000 in
set_option maxRecDepth 100000 in
theorem lp_M_write2 {p : Program} {l : Launch} {e : Env} {s : State} {m : MethodId} {args : Array Value} {below : List Frame} {meth : Method} {c : Code} {g : gG} {R : Room} {Q : State → Prop} (C0 : cF g p s m args meth c b_M_write 7 "RegistryLogModel" (some .int)) {x : Nat} {ad : Nat → Nat} {F : Nat → Int32} {A : Nat → Nat → Int32} {B : Nat → Nat → Int64} (k0 p0 a0 b0 : Int32) (r n1 n2 : Nat) (hr9 : r < 120) (h1 : F 32 = nI n1) (h2 : F 33 = nI n2) (hn1 : n1 ≤ 10) (hn2 : n2 ≤ 10) (K : ∀ (H : Heap) (locs : List Loc), mS g s.heap H x ad F (updA A 10 (va_cpy (A 31) (A 10) 0 (10 * r) n2)) B locs → ∀ (ls : Array Slot), lv_has ls 7 [(0, .ref x), (1, .int k0), (2, .int p0), (3, .int a0), (4, .int b0), (5, .int (nI r)), (6, .int (nI n2))] → W p l e R s m args below meth c H locs 0 0 Q (F0 m 152 ls [])) :
    ∀ (n i : Nat) (H : Heap) (locs : List Loc), i ≤ n2 → n2 + 1 ≤ i + n → mS g s.heap H x ad F (updA A 10 (va_cpy (A 31) (A 10) 0 (10 * r) i)) B locs → ∀ (ls : Array Slot), lv_has ls 7 [(0, .ref x), (1, .int k0), (2, .int p0), (3, .int a0), (4, .int b0), (5, .int (nI r)), (6, .int (nI i))] → W p l e R s m args below meth c H locs 0 0 Q (F0 m 117 ls []) := by
  obtain ⟨hx, hb, hml, hown, hts, hr, hlk, hK⟩ := id C0
  intro n
  induction n with
  | zero => intro i H locs h1 h2; exact absurd h2 (by omega)
  | succ n ih =>
    intro i H locs hi hin hm ls hl
    refine lv_iload hx hb d_M_write_117 (lv_at hl 6 rfl) ?_
    refine lv_aload_n hx hb d_M_write_119 rfl (lv_at hl 0 rfl) ?_
    refine m_get hx hb hts hown hK hm 33 (by decide) (hts (.fieldLink "RegistryLogModel" 126 "RegistryLogModel" "twoSize" "I") (in_5 (List.mem_of_getElem? (i := 2) rfl) rfl)) rfl (v := .int (nI n2)) (congrArg (fun z => some (Value.int z)) h2) d_M_write_120 ?_
    refine n_ge (tgt := 152) (a := i) (b := n2) hx hb d_M_write_123 (by decide) (by omega) (by omega) (fun c123 => ?_) (fun c123 => ?_)
    · skip
      have e9 : i = n2 := by omega
      rw [e9] at hm hl
      exact K H locs hm ls (lv_sub hl [0, 1, 2, 3, 4, 5, 6] rfl)
    · skip
      refine lv_aload_n hx hb d_M_write_126 rfl (lv_at hl 0 rfl) ?_
      refine m_get hx hb hts hown hK hm 10 (by decide) (hts (.fieldLink "RegistryLogModel" 34 "RegistryLogModel" "otherLetters" "[I") (in_4 (List.mem_of_getElem? (i := 219) rfl) rfl)) rfl (v := .ref (ad 10)) rfl d_M_write_127 ?_
      refine lv_bipush (v := nI 10) hx hb d_M_write_130 (by decide) ?_
      refine lv_iload hx hb d_M_write_132 (lv_at hl 5 rfl) ?_
      refine n_imul hx hb d_M_write_134 ?_
      refine lv_iload hx hb d_M_write_135 (lv_at hl 6 rfl) ?_
      refine n_iadd hx hb d_M_write_137 ?_
      refine lv_aload_n hx hb d_M_write_138 rfl (lv_at hl 0 rfl) ?_
      refine m_get hx hb hts hown hK hm 31 (by decide) (hts (.fieldLink "RegistryLogModel" 83 "RegistryLogModel" "two" "[I") (in_5 (List.mem_of_getElem? (i := 0) rfl) rfl)) rfl (v := .ref (ad 31)) rfl d_M_write_139 ?_
      refine lv_iload hx hb d_M_write_142 (lv_at hl 6 rfl) ?_
      refine m_ld hx hb hK hm 31 rfl (0 + i) (by rw [Nat.zero_add]) (show 0 + i < 10 from by omega) d_M_write_144 ?_
      refine W.eq (g2 := F0 m 145 ls [.int (A 31 (0 + i)), .int (nI ((10 * r) + i)), .ref (ad 10)]) rfl ?_
      refine m_st hx hb hK hm 10 rfl ((10 * r) + i) rfl (show (10 * r) + i < 1200 from by omega) d_M_write_145 (fun H locs hm => ?_)
      have hm : mS g s.heap H x ad F (updA (updA A 10 (va_cpy (A 31) (A 10) 0 (10 * r) i)) 10 (upd (va_cpy (A 31) (A 10) 0 (10 * r) i) ((10 * r) + i) (A 31 (0 + i)))) B locs := hm
      refine n_inc (a := i) (lv' := [(6, .int (nI (i + 1))), (0, .ref x), (1, .int k0), (2, .int p0), (3, .int a0), (4, .int b0), (5, .int (nI r))]) hx hb d_M_write_146 hl (k := 6) rfl (by decide) rfl (fun ls hl => ?_)
      refine lv_goto (tgt := 117) hx hb d_M_write_149 (by decide) ?_
      rw [updA2, cpy_s] at hm
      exact ih (i + 1) H locs (by omega) (by omega) hm ls (lv_sub hl [1, 2, 3, 4, 5, 6, 0] rfl)
