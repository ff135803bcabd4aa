theorem updA2 (A : Nat → Nat → Int32) (d : Nat) (f f2 : Nat → Int32) : updA (updA A d f) d f2 = updA A d f2 := by
  funext k
  unfold updA
  split <;> rfl
theorem cpy_s {f g9 : Nat → Int32} {so do9 i : Nat} : upd (va_cpy f g9 so do9 i) (do9 + i) (f (so + i)) = va_cpy f g9 so do9 (i + 1) := by
  funext q
  unfold upd va_cpy
  by_cases h : q = do9 + i
  · subst h
    rw [if_pos rfl, if_pos (by omega)]
    congr 1
    omega
  · rw [if_neg h]
    by_cases h2 : do9 ≤ q ∧ q < do9 + i
    · rw [if_pos h2, if_pos (by omega)]
    · rw [if_neg h2, if_neg (by omega)]
theorem cpy_0 {f g9 : Nat → Int32} {so do9 : Nat} : va_cpy f g9 so do9 0 = g9 := by
  funext q
  unfold va_cpy
  rw [if_neg (by omega)]
theorem updA_id (A : Nat → Nat → Int32) (d : Nat) : updA A d (A d) = A := by
  funext k
  unfold updA
  by_cases h : k = d
  · rw [if_pos h, h]
  · rw [if_neg h]
theorem k_M_isName_21 : kS "RegistryLogModel" 115 y_M_isLetter b_M_isLetter 1 (some .boolean) 1 := ⟨(in_5 (List.mem_of_getElem? (i := 130) rfl) rfl), (in_5 (List.mem_of_getElem? (i := 131) rfl) rfl), (in_1 (List.mem_of_getElem? (i := 22) rfl) rfl), (in_5 (List.mem_of_getElem? (i := 132) rfl) rfl), ⟨by decide, by decide, by decide +kernel⟩⟩
theorem k_M_isName_35 : kS "RegistryLogModel" 115 y_M_isLetter b_M_isLetter 1 (some .boolean) 1 := ⟨(in_5 (List.mem_of_getElem? (i := 130) rfl) rfl), (in_5 (List.mem_of_getElem? (i := 131) rfl) rfl), (in_1 (List.mem_of_getElem? (i := 22) rfl) rfl), (in_5 (List.mem_of_getElem? (i := 132) rfl) rfl), ⟨by decide, by decide, by decide +kernel⟩⟩
theorem k_M_isName_67 : kS "RegistryLogModel" 115 y_M_isLetter b_M_isLetter 1 (some .boolean) 1 := ⟨(in_5 (List.mem_of_getElem? (i := 130) rfl) rfl), (in_5 (List.mem_of_getElem? (i := 131) rfl) rfl), (in_1 (List.mem_of_getElem? (i := 22) rfl) rfl), (in_5 (List.mem_of_getElem? (i := 132) rfl) rfl), ⟨by decide, by decide, by decide +kernel⟩⟩
def nmL (T : List Nat) : Nat → Nat → Bool → Bool
  | 0, _, b => b
  | n + 1, i, b => if b then nmL T n (i + 1) (letS (T.getD i 0) || (decide (T.getD i 0 = 45) && !decide (T.getD (i - 1) 0 = 45))) else b
theorem nmL_f (T : List Nat) : ∀ n i, nmL T n i false = false
  | 0, _ => rfl
  | n + 1, i => rfl
def nameM (T : List Nat) (a b : Nat) : Bool := if 1 ≤ b - a ∧ b - a ≤ 10 ∧ letS (T.getD a 0) = true ∧ letS (T.getD (b - 1) 0) = true then nmL T (b - a) a true else false
set_option maxHeartbeats 4000000 in
set_option maxRecDepth 100000 in
theorem lp_M_isName {p : Program} {l : Launch} {e : Env} {s : State} {m : MethodId} {args : Array Value} {below : List Frame} {meth : Method} {c : Code} {g : gG} (C0 : cF g p s m args meth c b_M_isName 5 "RegistryLogModel" (some .boolean)) (hZ : zK g s s.heap) {x : Nat} {ad : Nat → Nat} {F : Nat → Int32} {A : Nat → Nat → Int32} {B : Nat → Nat → Int64} (hm : mS g s.heap s.heap x ad F A B []) (T : List Nat) (hT : ∀ k, k < T.length → A 1 k = nI (T.getD k 0)) (hc : ∀ k, T.getD k 0 < 128) (hT24 : T.length ≤ 24) (a b : Nat) (hab : a ≤ b) (hbT : b ≤ T.length) (res : Bool) :
    ∀ (n i : Nat) (b0 : Bool), i ≤ b → b + 1 ≤ i + n → a ≤ i → (i = a → letS (T.getD a 0) = true) → nmL T (b - i) i b0 = res → ∀ (ls : Array Slot), lv_has ls 5 [(0, .ref x), (1, .int (nI a)), (2, .int (nI b)), (3, .int (bI b0)), (4, .int (nI i))] → W p l e (rmk 1 0 0 20) s m args below meth c s.heap [] 0 0 (MQ below (qP s.heap (fun v => v = some (.int (bI res)))) args s 0 0 no_) (F0 m 50 ls []) := by
  obtain ⟨hx, hb, hml, hown, hts, hr, hlk, hK⟩ := id C0
  intro n
  induction n with
  | zero => intro i b0 h1 h2; exact absurd h2 (by omega)
  | succ n ih =>
    intro i b0 hi hin hai0 hfst hres ls hl
    have hci := hc i
    have hci1 := hc (i - 1)
    refine lv_iload hx hb d_M_isName_50 (lv_at hl 4 rfl) ?_
    refine lv_iload_n hx hb d_M_isName_52 rfl (lv_at hl 2 rfl) ?_
    refine n_ge (tgt := 111) (a := i) (b := b) hx hb d_M_isName_53 (by decide) (by omega) (by omega) (fun c53 => ?_) (fun c53 => ?_)
    · skip
      refine lv_iload_n hx hb d_M_isName_111 rfl (lv_at hl 3 rfl) ?_
      rw [show b - i = 0 by omega, nmL] at hres
      exact W.zret hx hb hr (by cases b0 <;> rfl) (fun t9 ht hW => ⟨_, rfl, by rw [← hres], ht⟩) (fun q h => by cases h) d_M_isName_112 hlk
    · skip
      refine lv_iload_n hx hb d_M_isName_56 rfl (lv_at hl 3 rfl) ?_
      refine z_eq (tgt := 111) (v := b0) hx hb d_M_isName_57 (by decide) (fun c57 => ?_) (fun c57 => ?_)
      · skip
        refine lv_iload_n hx hb d_M_isName_111 rfl (lv_at hl 3 rfl) ?_
        rw [c57, nmL_f, ← c57] at hres
        exact W.zret hx hb hr (by cases b0 <;> rfl) (fun t9 ht hW => ⟨_, rfl, by rw [← hres], ht⟩) (fun q h => by cases h) d_M_isName_112 hlk
      · skip
        refine lv_aload_n hx hb d_M_isName_60 rfl (lv_at hl 0 rfl) ?_
        refine m_get hx hb hts hown hK hm 1 (by decide) (hts (.fieldLink "RegistryLogModel" 7 "RegistryLogModel" "text" "[I") (in_4 (List.mem_of_getElem? (i := 210) rfl) rfl)) rfl (v := .ref (ad 1)) rfl d_M_isName_61 ?_
        refine lv_iload hx hb d_M_isName_64 (lv_at hl 4 rfl) ?_
        refine m_ld hx hb hK hm 1 rfl i rfl (show i < 24 from by omega) d_M_isName_66 ?_
        refine W.eq (g2 := F0 m 67 ls [.int (nI (T.getD i 0))]) (by rw [hT i (by omega)]) ?_
        refine aP (rS (As := [.int (nI (T.getD i 0))]) (rest := []) C0 (c_M_isLetter l g _ (T.getD i 0) (by have := hc i; omega)) (m_zK hZ hm) k_M_isName_67 rfl rfl ⟨Nat.le_of_ble_eq_true rfl, Nat.le_of_ble_eq_true rfl⟩ rfl hl.1 rfl (Nat.le_of_ble_eq_true rfl) d_M_isName_67 ⟨Nat.zero_le _, Nat.zero_le _⟩) ?_
        intro v hv; subst hv
        refine W.eq (g2 := F0 m 70 ls [.int (bI (letS (T.getD i 0)))]) rfl ?_
        refine z_ne (tgt := 99) (v := letS (T.getD i 0)) hx hb d_M_isName_70 (by decide) (fun c70 => ?_) (fun c70 => ?_)
        · skip
          refine lv_iconst (v := nI 1) hx hb d_M_isName_99 (by decide) ?_
          refine lv_goto (tgt := 104) hx hb d_M_isName_100 (by decide) ?_
          refine lv_istore_n (lv' := [(3, .int (nI 1)), (0, .ref x), (1, .int (nI a)), (2, .int (nI b)), (4, .int (nI i))]) hx hb d_M_isName_104 rfl hl (by decide) rfl (fun ls hl => ?_)
          refine n_inc (a := i) (lv' := [(4, .int (nI (i + 1))), (3, .int (nI 1)), (0, .ref x), (1, .int (nI a)), (2, .int (nI b))]) hx hb d_M_isName_105 hl (k := 4) rfl (by decide) rfl (fun ls hl => ?_)
          refine lv_goto (tgt := 50) hx hb d_M_isName_108 (by decide) ?_
          have e8 : (letS (T.getD i 0) || (decide (T.getD i 0 = 45) && !decide (T.getD (i - 1) 0 = 45))) = true := by rw [c70, Bool.true_or]
          rw [show b - i = (b - (i + 1)) + 1 by omega, nmL, c57, if_pos rfl, e8] at hres
          exact ih (i + 1) true c53 (by omega) (by omega) (fun h => by omega) hres ls (lv_sub hl [2, 3, 4, 1, 0] rfl)
        · skip
          refine lv_aload_n hx hb d_M_isName_73 rfl (lv_at hl 0 rfl) ?_
          refine m_get hx hb hts hown hK hm 1 (by decide) (hts (.fieldLink "RegistryLogModel" 7 "RegistryLogModel" "text" "[I") (in_4 (List.mem_of_getElem? (i := 210) rfl) rfl)) rfl (v := .ref (ad 1)) rfl d_M_isName_74 ?_
          refine lv_iload hx hb d_M_isName_77 (lv_at hl 4 rfl) ?_
          refine m_ld hx hb hK hm 1 rfl i rfl (show i < 24 from by omega) d_M_isName_79 ?_
          refine W.eq (g2 := F0 m 80 ls [.int (nI (T.getD i 0))]) (by rw [hT i (by omega)]) ?_
          refine lv_bipush (v := nI 45) hx hb d_M_isName_80 (by decide) ?_
          refine n_ne (tgt := 103) (a := T.getD i 0) (b := 45) hx hb d_M_isName_82 (by decide) (by omega) (by omega) (fun c82 => ?_) (fun c82 => ?_)
          · skip
            refine lv_iconst (v := nI 0) hx hb d_M_isName_103 (by decide) ?_
            refine lv_istore_n (lv' := [(3, .int (nI 0)), (0, .ref x), (1, .int (nI a)), (2, .int (nI b)), (4, .int (nI i))]) hx hb d_M_isName_104 rfl hl (by decide) rfl (fun ls hl => ?_)
            refine n_inc (a := i) (lv' := [(4, .int (nI (i + 1))), (3, .int (nI 0)), (0, .ref x), (1, .int (nI a)), (2, .int (nI b))]) hx hb d_M_isName_105 hl (k := 4) rfl (by decide) rfl (fun ls hl => ?_)
            refine lv_goto (tgt := 50) hx hb d_M_isName_108 (by decide) ?_
            have e8 : (letS (T.getD i 0) || (decide (T.getD i 0 = 45) && !decide (T.getD (i - 1) 0 = 45))) = false := by rw [c70, decide_eq_false c82]; rfl
            rw [show b - i = (b - (i + 1)) + 1 by omega, nmL, c57, if_pos rfl, e8] at hres
            exact ih (i + 1) false c53 (by omega) (by omega) (fun h => by omega) hres ls (lv_sub hl [2, 3, 4, 1, 0] rfl)
          · skip
            have hai : 1 ≤ i := by rcases Nat.lt_or_ge 0 i with q | q; exact q; exact absurd (hfst (by omega)) (by rw [show a = i by omega, c70]; decide)
            refine lv_aload_n hx hb d_M_isName_85 rfl (lv_at hl 0 rfl) ?_
            refine m_get hx hb hts hown hK hm 1 (by decide) (hts (.fieldLink "RegistryLogModel" 7 "RegistryLogModel" "text" "[I") (in_4 (List.mem_of_getElem? (i := 210) rfl) rfl)) rfl (v := .ref (ad 1)) rfl d_M_isName_86 ?_
            refine lv_iload hx hb d_M_isName_89 (lv_at hl 4 rfl) ?_
            refine lv_iconst (v := nI 1) hx hb d_M_isName_91 (by decide) ?_
            refine n_isub hx hb (by omega) d_M_isName_92 ?_
            refine m_ld hx hb hK hm 1 rfl (i - 1) rfl (show i - 1 < 24 from by omega) d_M_isName_93 ?_
            refine W.eq (g2 := F0 m 94 ls [.int (nI (T.getD (i - 1) 0))]) (by rw [hT (i - 1) (by omega)]) ?_
            refine lv_bipush (v := nI 45) hx hb d_M_isName_94 (by decide) ?_
            refine n_eq (tgt := 103) (a := T.getD (i - 1) 0) (b := 45) hx hb d_M_isName_96 (by decide) (by omega) (by omega) (fun c96 => ?_) (fun c96 => ?_)
            · skip
              refine lv_iconst (v := nI 0) hx hb d_M_isName_103 (by decide) ?_
              refine lv_istore_n (lv' := [(3, .int (nI 0)), (0, .ref x), (1, .int (nI a)), (2, .int (nI b)), (4, .int (nI i))]) hx hb d_M_isName_104 rfl hl (by decide) rfl (fun ls hl => ?_)
              refine n_inc (a := i) (lv' := [(4, .int (nI (i + 1))), (3, .int (nI 0)), (0, .ref x), (1, .int (nI a)), (2, .int (nI b))]) hx hb d_M_isName_105 hl (k := 4) rfl (by decide) rfl (fun ls hl => ?_)
              refine lv_goto (tgt := 50) hx hb d_M_isName_108 (by decide) ?_
              have e8 : (letS (T.getD i 0) || (decide (T.getD i 0 = 45) && !decide (T.getD (i - 1) 0 = 45))) = false := by rw [c70, decide_eq_true c82, decide_eq_true c96]; rfl
              rw [show b - i = (b - (i + 1)) + 1 by omega, nmL, c57, if_pos rfl, e8] at hres
              exact ih (i + 1) false c53 (by omega) (by omega) (fun h => by omega) hres ls (lv_sub hl [2, 3, 4, 1, 0] rfl)
            · skip
              refine lv_iconst (v := nI 1) hx hb d_M_isName_99 (by decide) ?_
              refine lv_goto (tgt := 104) hx hb d_M_isName_100 (by decide) ?_
              refine lv_istore_n (lv' := [(3, .int (nI 1)), (0, .ref x), (1, .int (nI a)), (2, .int (nI b)), (4, .int (nI i))]) hx hb d_M_isName_104 rfl hl (by decide) rfl (fun ls hl => ?_)
              refine n_inc (a := i) (lv' := [(4, .int (nI (i + 1))), (3, .int (nI 1)), (0, .ref x), (1, .int (nI a)), (2, .int (nI b))]) hx hb d_M_isName_105 hl (k := 4) rfl (by decide) rfl (fun ls hl => ?_)
              refine lv_goto (tgt := 50) hx hb d_M_isName_108 (by decide) ?_
              have e8 : (letS (T.getD i 0) || (decide (T.getD i 0 = 45) && !decide (T.getD (i - 1) 0 = 45))) = true := by rw [c70, decide_eq_true c82, decide_eq_false c96]; rfl
              rw [show b - i = (b - (i + 1)) + 1 by omega, nmL, c57, if_pos rfl, e8] at hres
              exact ih (i + 1) true c53 (by omega) (by omega) (fun h => by omega) hres ls (lv_sub hl [2, 3, 4, 1, 0] rfl)
set_option maxHeartbeats 4000000 in
set_option maxRecDepth 100000 in
/-- isName(from, to) -/
theorem c_M_isName (l : Launch) (g : gG) (H : Heap) (x : Nat) (ad : Nat → Nat) (F : Nat → Int32) (A : Nat → Nat → Int32) (B : Nat → Nat → Int64) (hm0 : mW g H x ad F A B) (T : List Nat) (hT : ∀ k, k < T.length → A 1 k = nI (T.getD k 0)) (hc : ∀ k, T.getD k 0 < 128) (hT24 : T.length ≤ 24) (a b : Nat) (hab : a ≤ b) (hbT : b ≤ T.length) : Met l y_M_isName (wC y_M_isName b_M_isName 5 (some .boolean)) (rmk 1 0 0 20) (pC g H [.ref x, .int (nI a), .int (nI b)]) (qP H (fun v => v = some (.int (bI (nameM T a b))))) 0 0 no_ := by
  refine mB (by decide) (Nat.le_of_ble_eq_true rfl) ?_
  intro p e s m below meth c ls C0 hH hZ hnm hl
  have C0 : cF g p s m _ meth c b_M_isName 5 "RegistryLogModel" (some .boolean) := C0
  obtain ⟨hx, hb, hml, hown, hts, hr, hlk, hK⟩ := id C0
  subst hH
  have hl : lv_has ls 5 [(0, .ref x), (1, .int (nI a)), (2, .int (nI b))] := hl
  have hm := mS.rf hm0
  refine lv_iload_n hx hb d_M_isName_0 rfl (lv_at hl 2 rfl) ?_
  refine lv_iload_n hx hb d_M_isName_1 rfl (lv_at hl 1 rfl) ?_
  refine n_isub hx hb (by omega) d_M_isName_2 ?_
  refine lv_iconst (v := nI 1) hx hb d_M_isName_3 (by decide) ?_
  refine n_lt (tgt := 45) (a := b - a) (b := 1) hx hb d_M_isName_4 (by decide) (by omega) (by omega) (fun c4 => ?_) (fun c4 => ?_)
  · skip
    refine lv_iconst (v := nI 0) hx hb d_M_isName_45 (by decide) ?_
    refine lv_istore_n (lv' := [(3, .int (nI 0)), (0, .ref x), (1, .int (nI a)), (2, .int (nI b))]) hx hb d_M_isName_46 rfl hl (by decide) rfl (fun ls hl => ?_)
    refine lv_iload_n hx hb d_M_isName_47 rfl (lv_at hl 2 rfl) ?_
    refine lv_istore (lv' := [(4, .int (nI a)), (3, .int (nI 0)), (0, .ref x), (1, .int (nI a)), (2, .int (nI b))]) hx hb d_M_isName_48 hl (by decide) rfl (fun ls hl => ?_)
    rw [nameM, if_neg (by omega)]
    refine lv_iload hx hb d_M_isName_50 (lv_at hl 0 rfl) ?_
    refine lv_iload_n hx hb d_M_isName_52 rfl (lv_at hl 4 rfl) ?_
    refine n_ge (tgt := 111) (a := a) (b := b) hx hb d_M_isName_53 (by decide) (by omega) (by omega) (fun c53 => ?_) (fun c53 => ?_)
    · refine lv_iload_n hx hb d_M_isName_111 rfl (lv_at hl 1 rfl) ?_
      exact W.zret hx hb hr rfl (fun t9 ht hW => ⟨_, rfl, rfl, ht⟩) (fun q h => by cases h) d_M_isName_112 hlk
    · refine lv_iload_n hx hb d_M_isName_56 rfl (lv_at hl 1 rfl) ?_
      refine lv_if_eq (tgt := 111) hx hb d_M_isName_57 (by decide) (fun c57 => ?_) (fun c57 => absurd (by decide) c57)
      refine lv_iload_n hx hb d_M_isName_111 rfl (lv_at hl 1 rfl) ?_
      exact W.zret hx hb hr rfl (fun t9 ht hW => ⟨_, rfl, rfl, ht⟩) (fun q h => by cases h) d_M_isName_112 hlk
  · skip
    refine lv_iload_n hx hb d_M_isName_7 rfl (lv_at hl 2 rfl) ?_
    refine lv_iload_n hx hb d_M_isName_8 rfl (lv_at hl 1 rfl) ?_
    refine n_isub hx hb (by omega) d_M_isName_9 ?_
    refine lv_bipush (v := nI 10) hx hb d_M_isName_10 (by decide) ?_
    refine n_gt (tgt := 45) (a := b - a) (b := 10) hx hb d_M_isName_12 (by decide) (by omega) (by omega) (fun c12 => ?_) (fun c12 => ?_)
    · skip
      refine lv_iconst (v := nI 0) hx hb d_M_isName_45 (by decide) ?_
      refine lv_istore_n (lv' := [(3, .int (nI 0)), (0, .ref x), (1, .int (nI a)), (2, .int (nI b))]) hx hb d_M_isName_46 rfl hl (by decide) rfl (fun ls hl => ?_)
      refine lv_iload_n hx hb d_M_isName_47 rfl (lv_at hl 2 rfl) ?_
      refine lv_istore (lv' := [(4, .int (nI a)), (3, .int (nI 0)), (0, .ref x), (1, .int (nI a)), (2, .int (nI b))]) hx hb d_M_isName_48 hl (by decide) rfl (fun ls hl => ?_)
      rw [nameM, if_neg (by omega)]
      refine lv_iload hx hb d_M_isName_50 (lv_at hl 0 rfl) ?_
      refine lv_iload_n hx hb d_M_isName_52 rfl (lv_at hl 4 rfl) ?_
      refine n_ge (tgt := 111) (a := a) (b := b) hx hb d_M_isName_53 (by decide) (by omega) (by omega) (fun c53 => ?_) (fun c53 => ?_)
      · refine lv_iload_n hx hb d_M_isName_111 rfl (lv_at hl 1 rfl) ?_
        exact W.zret hx hb hr rfl (fun t9 ht hW => ⟨_, rfl, rfl, ht⟩) (fun q h => by cases h) d_M_isName_112 hlk
      · refine lv_iload_n hx hb d_M_isName_56 rfl (lv_at hl 1 rfl) ?_
        refine lv_if_eq (tgt := 111) hx hb d_M_isName_57 (by decide) (fun c57 => ?_) (fun c57 => absurd (by decide) c57)
        refine lv_iload_n hx hb d_M_isName_111 rfl (lv_at hl 1 rfl) ?_
        exact W.zret hx hb hr rfl (fun t9 ht hW => ⟨_, rfl, rfl, ht⟩) (fun q h => by cases h) d_M_isName_112 hlk
    · skip
      refine lv_aload_n hx hb d_M_isName_15 rfl (lv_at hl 0 rfl) ?_
      refine m_get hx hb hts hown hK hm 1 (by decide) (hts (.fieldLink "RegistryLogModel" 7 "RegistryLogModel" "text" "[I") (in_4 (List.mem_of_getElem? (i := 210) rfl) rfl)) rfl (v := .ref (ad 1)) rfl d_M_isName_16 ?_
      refine lv_iload_n hx hb d_M_isName_19 rfl (lv_at hl 1 rfl) ?_
      refine m_ld hx hb hK hm 1 rfl a rfl (show a < 24 from by omega) d_M_isName_20 ?_
      refine W.eq (g2 := F0 m 21 ls [.int (nI (T.getD a 0))]) (by rw [hT a (by omega)]) ?_
      refine aP (rS (As := [.int (nI (T.getD a 0))]) (rest := []) C0 (c_M_isLetter l g _ (T.getD a 0) (by have := hc a; omega)) (m_zK hZ hm) k_M_isName_21 rfl rfl ⟨Nat.le_of_ble_eq_true rfl, Nat.le_of_ble_eq_true rfl⟩ rfl hl.1 rfl (Nat.le_of_ble_eq_true rfl) d_M_isName_21 ⟨Nat.zero_le _, Nat.zero_le _⟩) ?_
      intro v hv; subst hv
      refine W.eq (g2 := F0 m 24 ls [.int (bI (letS (T.getD a 0)))]) rfl ?_
      refine z_eq (tgt := 45) (v := letS (T.getD a 0)) hx hb d_M_isName_24 (by decide) (fun c24 => ?_) (fun c24 => ?_)
      · skip
        refine lv_iconst (v := nI 0) hx hb d_M_isName_45 (by decide) ?_
        refine lv_istore_n (lv' := [(3, .int (nI 0)), (0, .ref x), (1, .int (nI a)), (2, .int (nI b))]) hx hb d_M_isName_46 rfl hl (by decide) rfl (fun ls hl => ?_)
        refine lv_iload_n hx hb d_M_isName_47 rfl (lv_at hl 2 rfl) ?_
        refine lv_istore (lv' := [(4, .int (nI a)), (3, .int (nI 0)), (0, .ref x), (1, .int (nI a)), (2, .int (nI b))]) hx hb d_M_isName_48 hl (by decide) rfl (fun ls hl => ?_)
        rw [nameM, if_neg (by rw [c24]; simp)]
        refine lv_iload hx hb d_M_isName_50 (lv_at hl 0 rfl) ?_
        refine lv_iload_n hx hb d_M_isName_52 rfl (lv_at hl 4 rfl) ?_
        refine n_ge (tgt := 111) (a := a) (b := b) hx hb d_M_isName_53 (by decide) (by omega) (by omega) (fun c53 => ?_) (fun c53 => ?_)
        · refine lv_iload_n hx hb d_M_isName_111 rfl (lv_at hl 1 rfl) ?_
          exact W.zret hx hb hr rfl (fun t9 ht hW => ⟨_, rfl, rfl, ht⟩) (fun q h => by cases h) d_M_isName_112 hlk
        · refine lv_iload_n hx hb d_M_isName_56 rfl (lv_at hl 1 rfl) ?_
          refine lv_if_eq (tgt := 111) hx hb d_M_isName_57 (by decide) (fun c57 => ?_) (fun c57 => absurd (by decide) c57)
          refine lv_iload_n hx hb d_M_isName_111 rfl (lv_at hl 1 rfl) ?_
          exact W.zret hx hb hr rfl (fun t9 ht hW => ⟨_, rfl, rfl, ht⟩) (fun q h => by cases h) d_M_isName_112 hlk
      · skip
        refine lv_aload_n hx hb d_M_isName_27 rfl (lv_at hl 0 rfl) ?_
        refine m_get hx hb hts hown hK hm 1 (by decide) (hts (.fieldLink "RegistryLogModel" 7 "RegistryLogModel" "text" "[I") (in_4 (List.mem_of_getElem? (i := 210) rfl) rfl)) rfl (v := .ref (ad 1)) rfl d_M_isName_28 ?_
        refine lv_iload_n hx hb d_M_isName_31 rfl (lv_at hl 2 rfl) ?_
        refine lv_iconst (v := nI 1) hx hb d_M_isName_32 (by decide) ?_
        refine n_isub hx hb (by omega) d_M_isName_33 ?_
        refine m_ld hx hb hK hm 1 rfl (b - 1) rfl (show b - 1 < 24 from by omega) d_M_isName_34 ?_
        refine W.eq (g2 := F0 m 35 ls [.int (nI (T.getD (b - 1) 0))]) (by rw [hT (b - 1) (by omega)]) ?_
        refine aP (rS (As := [.int (nI (T.getD (b - 1) 0))]) (rest := []) C0 (c_M_isLetter l g _ (T.getD (b - 1) 0) (by have := hc (b - 1); omega)) (m_zK hZ hm) k_M_isName_35 rfl rfl ⟨Nat.le_of_ble_eq_true rfl, Nat.le_of_ble_eq_true rfl⟩ rfl hl.1 rfl (Nat.le_of_ble_eq_true rfl) d_M_isName_35 ⟨Nat.zero_le _, Nat.zero_le _⟩) ?_
        intro v hv; subst hv
        refine W.eq (g2 := F0 m 38 ls [.int (bI (letS (T.getD (b - 1) 0)))]) rfl ?_
        refine z_eq (tgt := 45) (v := letS (T.getD (b - 1) 0)) hx hb d_M_isName_38 (by decide) (fun c38 => ?_) (fun c38 => ?_)
        · skip
          refine lv_iconst (v := nI 0) hx hb d_M_isName_45 (by decide) ?_
          refine lv_istore_n (lv' := [(3, .int (nI 0)), (0, .ref x), (1, .int (nI a)), (2, .int (nI b))]) hx hb d_M_isName_46 rfl hl (by decide) rfl (fun ls hl => ?_)
          refine lv_iload_n hx hb d_M_isName_47 rfl (lv_at hl 2 rfl) ?_
          refine lv_istore (lv' := [(4, .int (nI a)), (3, .int (nI 0)), (0, .ref x), (1, .int (nI a)), (2, .int (nI b))]) hx hb d_M_isName_48 hl (by decide) rfl (fun ls hl => ?_)
          rw [nameM, if_neg (by rw [c38]; simp)]
          refine lv_iload hx hb d_M_isName_50 (lv_at hl 0 rfl) ?_
          refine lv_iload_n hx hb d_M_isName_52 rfl (lv_at hl 4 rfl) ?_
          refine n_ge (tgt := 111) (a := a) (b := b) hx hb d_M_isName_53 (by decide) (by omega) (by omega) (fun c53 => ?_) (fun c53 => ?_)
          · refine lv_iload_n hx hb d_M_isName_111 rfl (lv_at hl 1 rfl) ?_
            exact W.zret hx hb hr rfl (fun t9 ht hW => ⟨_, rfl, rfl, ht⟩) (fun q h => by cases h) d_M_isName_112 hlk
          · refine lv_iload_n hx hb d_M_isName_56 rfl (lv_at hl 1 rfl) ?_
            refine lv_if_eq (tgt := 111) hx hb d_M_isName_57 (by decide) (fun c57 => ?_) (fun c57 => absurd (by decide) c57)
            refine lv_iload_n hx hb d_M_isName_111 rfl (lv_at hl 1 rfl) ?_
            exact W.zret hx hb hr rfl (fun t9 ht hW => ⟨_, rfl, rfl, ht⟩) (fun q h => by cases h) d_M_isName_112 hlk
        · skip
          refine lv_iconst (v := nI 1) hx hb d_M_isName_41 (by decide) ?_
          refine lv_goto (tgt := 46) hx hb d_M_isName_42 (by decide) ?_
          refine lv_istore_n (lv' := [(3, .int (nI 1)), (0, .ref x), (1, .int (nI a)), (2, .int (nI b))]) hx hb d_M_isName_46 rfl hl (by decide) rfl (fun ls hl => ?_)
          refine lv_iload_n hx hb d_M_isName_47 rfl (lv_at hl 2 rfl) ?_
          refine lv_istore (lv' := [(4, .int (nI a)), (3, .int (nI 1)), (0, .ref x), (1, .int (nI a)), (2, .int (nI b))]) hx hb d_M_isName_48 hl (by decide) rfl (fun ls hl => ?_)
          rw [nameM, if_pos ⟨by omega, by omega, c24, c38⟩]
          exact lp_M_isName C0 hZ hm T hT hc hT24 a b hab hbT _ (b + 1 - a) a true hab (by omega) (Nat.le_refl _) (fun _ => c24) rfl ls (lv_sub hl [2, 3, 4, 1, 0] rfl)
set_option maxHeartbeats 4000000 in
set_option maxRecDepth 100000 in
theorem lp_M_write1 {p : Program} {l : Launch} {e : Env} {s : State} {m : MethodId} {args : Array Value} {below : List Frame} {meth : Method} {c : Code} {g : gG} {R : Room} {Q : State → Prop} (C0 : cF g p s m args meth c b_M_write 7 "RegistryLogModel" (some .int)) {x : Nat} {ad : Nat → Nat} {F : Nat → Int32} {A : Nat → Nat → Int32} {B : Nat → Nat → Int64} (k0 p0 a0 b0 : Int32) (r n1 n2 : Nat) (hr9 : r < 120) (h1 : F 32 = nI n1) (h2 : F 33 = nI n2) (hn1 : n1 ≤ 10) (hn2 : n2 ≤ 10) (K : ∀ (H : Heap) (locs : List Loc), mS g s.heap H x ad F (updA A 9 (va_cpy (A 30) (A 9) 0 (10 * r) n1)) B locs → ∀ (ls : Array Slot), lv_has ls 7 [(0, .ref x), (1, .int k0), (2, .int p0), (3, .int a0), (4, .int b0), (5, .int (nI r)), (6, .int (nI n1))] → W p l e R s m args below meth c H locs 0 0 Q (F0 m 114 ls [])) :
    ∀ (n i : Nat) (H : Heap) (locs : List Loc), i ≤ n1 → n1 + 1 ≤ i + n → mS g s.heap H x ad F (updA A 9 (va_cpy (A 30) (A 9) 0 (10 * r) i)) B locs → ∀ (ls : Array Slot), lv_has ls 7 [(0, .ref x), (1, .int k0), (2, .int p0), (3, .int a0), (4, .int b0), (5, .int (nI r)), (6, .int (nI i))] → W p l e R s m args below meth c H locs 0 0 Q (F0 m 79 ls []) := by
  obtain ⟨hx, hb, hml, hown, hts, hr, hlk, hK⟩ := id C0
  intro n
  induction n with
  | zero => intro i H locs h1 h2; exact absurd h2 (by omega)
  | succ n ih =>
    intro i H locs hi hin hm ls hl
    refine lv_iload hx hb d_M_write_79 (lv_at hl 6 rfl) ?_
    refine lv_aload_n hx hb d_M_write_81 rfl (lv_at hl 0 rfl) ?_
    refine m_get hx hb hts hown hK hm 32 (by decide) (hts (.fieldLink "RegistryLogModel" 123 "RegistryLogModel" "oneSize" "I") (in_5 (List.mem_of_getElem? (i := 1) rfl) rfl)) rfl (v := .int (nI n1)) (congrArg (fun z => some (Value.int z)) h1) d_M_write_82 ?_
    refine n_ge (tgt := 114) (a := i) (b := n1) hx hb d_M_write_85 (by decide) (by omega) (by omega) (fun c85 => ?_) (fun c85 => ?_)
    · skip
      have e9 : i = n1 := by omega
      rw [e9] at hm hl
      exact K H locs hm ls (lv_sub hl [0, 1, 2, 3, 4, 5, 6] rfl)
    · skip
      refine lv_aload_n hx hb d_M_write_88 rfl (lv_at hl 0 rfl) ?_
      refine m_get hx hb hts hown hK hm 9 (by decide) (hts (.fieldLink "RegistryLogModel" 31 "RegistryLogModel" "letters" "[I") (in_4 (List.mem_of_getElem? (i := 218) rfl) rfl)) rfl (v := .ref (ad 9)) rfl d_M_write_89 ?_
      refine lv_bipush (v := nI 10) hx hb d_M_write_92 (by decide) ?_
      refine lv_iload hx hb d_M_write_94 (lv_at hl 5 rfl) ?_
      refine n_imul hx hb d_M_write_96 ?_
      refine lv_iload hx hb d_M_write_97 (lv_at hl 6 rfl) ?_
      refine n_iadd hx hb d_M_write_99 ?_
      refine lv_aload_n hx hb d_M_write_100 rfl (lv_at hl 0 rfl) ?_
      refine m_get hx hb hts hown hK hm 30 (by decide) (hts (.fieldLink "RegistryLogModel" 80 "RegistryLogModel" "one" "[I") (in_4 (List.mem_of_getElem? (i := 239) rfl) rfl)) rfl (v := .ref (ad 30)) rfl d_M_write_101 ?_
      refine lv_iload hx hb d_M_write_104 (lv_at hl 6 rfl) ?_
      refine m_ld hx hb hK hm 30 rfl (0 + i) (by rw [Nat.zero_add]) (show 0 + i < 10 from by omega) d_M_write_106 ?_
      refine W.eq (g2 := F0 m 107 ls [.int (A 30 (0 + i)), .int (nI ((10 * r) + i)), .ref (ad 9)]) rfl ?_
      refine m_st hx hb hK hm 9 rfl ((10 * r) + i) rfl (show (10 * r) + i < 1200 from by omega) d_M_write_107 (fun H locs hm => ?_)
      have hm : mS g s.heap H x ad F (updA (updA A 9 (va_cpy (A 30) (A 9) 0 (10 * r) i)) 9 (upd (va_cpy (A 30) (A 9) 0 (10 * r) i) ((10 * r) + i) (A 30 (0 + i)))) B locs := hm
      refine n_inc (a := i) (lv' := [(6, .int (nI (i + 1))), (0, .ref x), (1, .int k0), (2, .int p0), (3, .int a0), (4, .int b0), (5, .int (nI r))]) hx hb d_M_write_108 hl (k := 6) rfl (by decide) rfl (fun ls hl => ?_)
      refine lv_goto (tgt := 79) hx hb d_M_write_111 (by decide) ?_
      rw [updA2, cpy_s] at hm
      exact ih (i + 1) H locs (by omega) (by omega) hm ls (lv_sub hl [1, 2, 3, 4, 5, 6, 0] rfl)
set_option maxHeartbeats 4000000 in
set_option maxRecDepth 100000 in
theorem lp_M_write2 {p : Program} {l : Launch} {e : Env} {s : State} {m : MethodId} {args : Array Value} {below : List Frame} {meth : Method} {c : Code} {g : gG} {R : Room} {Q : State → Prop} (C0 : cF g p s m args meth c b_M_write 7 "RegistryLogModel" (some .int)) {x : Nat} {ad : Nat → Nat} {F : Nat → Int32} {A : Nat → Nat → Int32} {B : Nat → Nat → Int64} (k0 p0 a0 b0 : Int32) (r n1 n2 : Nat) (hr9 : r < 120) (h1 : F 32 = nI n1) (h2 : F 33 = nI n2) (hn1 : n1 ≤ 10) (hn2 : n2 ≤ 10) (K : ∀ (H : Heap) (locs : List Loc), mS g s.heap H x ad F (updA A 10 (va_cpy (A 31) (A 10) 0 (10 * r) n2)) B locs → ∀ (ls : Array Slot), lv_has ls 7 [(0, .ref x), (1, .int k0), (2, .int p0), (3, .int a0), (4, .int b0), (5, .int (nI r)), (6, .int (nI n2))] → W p l e R s m args below meth c H locs 0 0 Q (F0 m 152 ls [])) :
    ∀ (n i : Nat) (H : Heap) (locs : List Loc), i ≤ n2 → n2 + 1 ≤ i + n → mS g s.heap H x ad F (updA A 10 (va_cpy (A 31) (A 10) 0 (10 * r) i)) B locs → ∀ (ls : Array Slot), lv_has ls 7 [(0, .ref x), (1, .int k0), (2, .int p0), (3, .int a0), (4, .int b0), (5, .int (nI r)), (6, .int (nI i))] → W p l e R s m args below meth c H locs 0 0 Q (F0 m 117 ls []) := by
  obtain ⟨hx, hb, hml, hown, hts, hr, hlk, hK⟩ := id C0
  intro n
  induction n with
  | zero => intro i H locs h1 h2; exact absurd h2 (by omega)
  | succ n ih =>
    intro i H locs hi hin hm ls hl
    refine lv_iload hx hb d_M_write_117 (lv_at hl 6 rfl) ?_
    refine lv_aload_n hx hb d_M_write_119 rfl (lv_at hl 0 rfl) ?_
    refine m_get hx hb hts hown hK hm 33 (by decide) (hts (.fieldLink "RegistryLogModel" 126 "RegistryLogModel" "twoSize" "I") (in_5 (List.mem_of_getElem? (i := 2) rfl) rfl)) rfl (v := .int (nI n2)) (congrArg (fun z => some (Value.int z)) h2) d_M_write_120 ?_
    refine n_ge (tgt := 152) (a := i) (b := n2) hx hb d_M_write_123 (by decide) (by omega) (by omega) (fun c123 => ?_) (fun c123 => ?_)
    · skip
      have e9 : i = n2 := by omega
      rw [e9] at hm hl
      exact K H locs hm ls (lv_sub hl [0, 1, 2, 3, 4, 5, 6] rfl)
    · skip
      refine lv_aload_n hx hb d_M_write_126 rfl (lv_at hl 0 rfl) ?_
      refine m_get hx hb hts hown hK hm 10 (by decide) (hts (.fieldLink "RegistryLogModel" 34 "RegistryLogModel" "otherLetters" "[I") (in_4 (List.mem_of_getElem? (i := 219) rfl) rfl)) rfl (v := .ref (ad 10)) rfl d_M_write_127 ?_
      refine lv_bipush (v := nI 10) hx hb d_M_write_130 (by decide) ?_
      refine lv_iload hx hb d_M_write_132 (lv_at hl 5 rfl) ?_
      refine n_imul hx hb d_M_write_134 ?_
      refine lv_iload hx hb d_M_write_135 (lv_at hl 6 rfl) ?_
      refine n_iadd hx hb d_M_write_137 ?_
      refine lv_aload_n hx hb d_M_write_138 rfl (lv_at hl 0 rfl) ?_
      refine m_get hx hb hts hown hK hm 31 (by decide) (hts (.fieldLink "RegistryLogModel" 83 "RegistryLogModel" "two" "[I") (in_5 (List.mem_of_getElem? (i := 0) rfl) rfl)) rfl (v := .ref (ad 31)) rfl d_M_write_139 ?_
      refine lv_iload hx hb d_M_write_142 (lv_at hl 6 rfl) ?_
      refine m_ld hx hb hK hm 31 rfl (0 + i) (by rw [Nat.zero_add]) (show 0 + i < 10 from by omega) d_M_write_144 ?_
      refine W.eq (g2 := F0 m 145 ls [.int (A 31 (0 + i)), .int (nI ((10 * r) + i)), .ref (ad 10)]) rfl ?_
      refine m_st hx hb hK hm 10 rfl ((10 * r) + i) rfl (show (10 * r) + i < 1200 from by omega) d_M_write_145 (fun H locs hm => ?_)
      have hm : mS g s.heap H x ad F (updA (updA A 10 (va_cpy (A 31) (A 10) 0 (10 * r) i)) 10 (upd (va_cpy (A 31) (A 10) 0 (10 * r) i) ((10 * r) + i) (A 31 (0 + i)))) B locs := hm
      refine n_inc (a := i) (lv' := [(6, .int (nI (i + 1))), (0, .ref x), (1, .int k0), (2, .int p0), (3, .int a0), (4, .int b0), (5, .int (nI r))]) hx hb d_M_write_146 hl (k := 6) rfl (by decide) rfl (fun ls hl => ?_)
      refine lv_goto (tgt := 117) hx hb d_M_write_149 (by decide) ?_
      rw [updA2, cpy_s] at hm
      exact ih (i + 1) H locs (by omega) (by omega) hm ls (lv_sub hl [1, 2, 3, 4, 5, 6, 0] rfl)
def wrA (A : Nat → Nat → Int32) (r : Nat) (k0 p0 a0 b0 : Int32) (n1 n2 : Nat) : Nat → Nat → Int32 :=
  updA (updA (updA (updA (updA (updA (updA (updA (updA (updA A 3 (upd (A 3) r k0)) 4 (upd (A 4) r p0)) 5 (upd (A 5) r a0)) 6 (upd (A 6) r b0)) 11 (upd (A 11) (480 + r) b0)) 7 (upd (A 7) r (nI n1))) 8 (upd (A 8) r (nI n2))) 9 (va_cpy (A 30) (A 9) 0 (10 * r) n1)) 10 (va_cpy (A 31) (A 10) 0 (10 * r) n2)) 12 (upd (A 12) 4 (nI (r + 1)))
set_option maxHeartbeats 4000000 in
set_option maxRecDepth 100000 in
/-- write(what, who, a, b) -/
theorem c_M_write (l : Launch) (g : gG) (H : Heap) (x : Nat) (ad : Nat → Nat) (F : Nat → Int32) (A : Nat → Nat → Int32) (B : Nat → Nat → Int64) (hm0 : mW g H x ad F A B) (k0 p0 a0 b0 : Int32) (r n1 n2 : Nat) (hr9 : r < 120) (h1 : F 32 = nI n1) (h2 : F 33 = nI n2) (hn1 : n1 ≤ 10) (hn2 : n2 ≤ 10) (hcn : A 12 4 = nI r) : Met l y_M_write (wC y_M_write b_M_write 7 (some .int)) (rmk 0 0 0 0) (pC g H [.ref x, .int k0, .int p0, .int a0, .int b0]) (qM g H x ad (fun v F1 A1 B1 => v = some (.int (nI r)) ∧ F1 = F ∧ A1 = wrA A r k0 p0 a0 b0 n1 n2 ∧ B1 = B)) 0 0 (mN x ad) := by
  refine mB (by decide) (Nat.le_of_ble_eq_true rfl) ?_
  intro p e s m below meth c ls C0 hH hZ hnm hl
  have C0 : cF g p s m _ meth c b_M_write 7 "RegistryLogModel" (some .int) := C0
  obtain ⟨hx, hb, hml, hown, hts, hr, hlk, hK⟩ := id C0
  subst hH
  have hl : lv_has ls 7 [(0, .ref x), (1, .int k0), (2, .int p0), (3, .int a0), (4, .int b0)] := hl
  have hm := mS.rf hm0
  refine lv_aload_n hx hb d_M_write_0 rfl (lv_at hl 0 rfl) ?_
  refine m_get hx hb hts hown hK hm 12 (by decide) (hts (.fieldLink "RegistryLogModel" 40 "RegistryLogModel" "copied" "[I") (in_4 (List.mem_of_getElem? (i := 221) rfl) rfl)) rfl (v := .ref (ad 12)) rfl d_M_write_1 ?_
  refine lv_iconst (v := nI 4) hx hb d_M_write_4 (by decide) ?_
  refine m_ld hx hb hK hm 12 rfl 4 rfl (show 4 < 5 from by omega) d_M_write_5 ?_
  refine W.eq (g2 := F0 m 6 ls [.int (nI r)]) (by rw [hcn]) ?_
  refine lv_istore (lv' := [(5, .int (nI r)), (0, .ref x), (1, .int k0), (2, .int p0), (3, .int a0), (4, .int b0)]) hx hb d_M_write_6 hl (by decide) rfl (fun ls hl => ?_)
  refine lv_aload_n hx hb d_M_write_8 rfl (lv_at hl 1 rfl) ?_
  refine m_get hx hb hts hown hK hm 3 (by decide) (hts (.fieldLink "RegistryLogModel" 13 "RegistryLogModel" "kind" "[I") (in_4 (List.mem_of_getElem? (i := 212) rfl) rfl)) rfl (v := .ref (ad 3)) rfl d_M_write_9 ?_
  refine lv_iload hx hb d_M_write_12 (lv_at hl 0 rfl) ?_
  refine lv_iload_n hx hb d_M_write_14 rfl (lv_at hl 2 rfl) ?_
  refine m_st hx hb hK hm 3 rfl r rfl (show r < 120 from by omega) d_M_write_15 (fun H locs hm => ?_)
  have hm : mS g s.heap H x ad F (updA A 3 (upd (A 3) r (k0))) B locs := hm
  refine lv_aload_n hx hb d_M_write_16 rfl (lv_at hl 1 rfl) ?_
  refine m_get hx hb hts hown hK hm 4 (by decide) (hts (.fieldLink "RegistryLogModel" 16 "RegistryLogModel" "person" "[I") (in_4 (List.mem_of_getElem? (i := 213) rfl) rfl)) rfl (v := .ref (ad 4)) rfl d_M_write_17 ?_
  refine lv_iload hx hb d_M_write_20 (lv_at hl 0 rfl) ?_
  refine lv_iload_n hx hb d_M_write_22 rfl (lv_at hl 3 rfl) ?_
  refine m_st hx hb hK hm 4 rfl r rfl (show r < 120 from by omega) d_M_write_23 (fun H locs hm => ?_)
  have hm : mS g s.heap H x ad F (updA (updA A 3 (upd (A 3) r (k0))) 4 (upd (A 4) r (p0))) B locs := hm
  refine lv_aload_n hx hb d_M_write_24 rfl (lv_at hl 1 rfl) ?_
  refine m_get hx hb hts hown hK hm 5 (by decide) (hts (.fieldLink "RegistryLogModel" 19 "RegistryLogModel" "first" "[I") (in_4 (List.mem_of_getElem? (i := 214) rfl) rfl)) rfl (v := .ref (ad 5)) rfl d_M_write_25 ?_
  refine lv_iload hx hb d_M_write_28 (lv_at hl 0 rfl) ?_
  refine lv_iload_n hx hb d_M_write_30 rfl (lv_at hl 4 rfl) ?_
  refine m_st hx hb hK hm 5 rfl r rfl (show r < 120 from by omega) d_M_write_31 (fun H locs hm => ?_)
  have hm : mS g s.heap H x ad F (updA (updA (updA A 3 (upd (A 3) r (k0))) 4 (upd (A 4) r (p0))) 5 (upd (A 5) r (a0))) B locs := hm
  refine lv_aload_n hx hb d_M_write_32 rfl (lv_at hl 1 rfl) ?_
  refine m_get hx hb hts hown hK hm 6 (by decide) (hts (.fieldLink "RegistryLogModel" 22 "RegistryLogModel" "flag" "[I") (in_4 (List.mem_of_getElem? (i := 215) rfl) rfl)) rfl (v := .ref (ad 6)) rfl d_M_write_33 ?_
  refine lv_iload hx hb d_M_write_36 (lv_at hl 0 rfl) ?_
  refine lv_iload hx hb d_M_write_38 (lv_at hl 5 rfl) ?_
  refine m_st hx hb hK hm 6 rfl r rfl (show r < 120 from by omega) d_M_write_40 (fun H locs hm => ?_)
  have hm : mS g s.heap H x ad F (updA (updA (updA (updA A 3 (upd (A 3) r (k0))) 4 (upd (A 4) r (p0))) 5 (upd (A 5) r (a0))) 6 (upd (A 6) r (b0))) B locs := hm
  refine lv_aload_n hx hb d_M_write_41 rfl (lv_at hl 1 rfl) ?_
  refine m_get hx hb hts hown hK hm 11 (by decide) (hts (.fieldLink "RegistryLogModel" 37 "RegistryLogModel" "sums" "[I") (in_4 (List.mem_of_getElem? (i := 220) rfl) rfl)) rfl (v := .ref (ad 11)) rfl d_M_write_42 ?_
  refine lv_sipush (v := nI 480) hx hb d_M_write_45 (by decide) ?_
  refine lv_iload hx hb d_M_write_48 (lv_at hl 0 rfl) ?_
  refine n_iadd hx hb d_M_write_50 ?_
  refine lv_iload hx hb d_M_write_51 (lv_at hl 5 rfl) ?_
  refine m_st hx hb hK hm 11 rfl (480 + r) rfl (show 480 + r < 600 from by omega) d_M_write_53 (fun H locs hm => ?_)
  have hm : mS g s.heap H x ad F (updA (updA (updA (updA (updA A 3 (upd (A 3) r (k0))) 4 (upd (A 4) r (p0))) 5 (upd (A 5) r (a0))) 6 (upd (A 6) r (b0))) 11 (upd (A 11) (480 + r) (b0))) B locs := hm
  refine lv_aload_n hx hb d_M_write_54 rfl (lv_at hl 1 rfl) ?_
  refine m_get hx hb hts hown hK hm 7 (by decide) (hts (.fieldLink "RegistryLogModel" 25 "RegistryLogModel" "size" "[I") (in_4 (List.mem_of_getElem? (i := 216) rfl) rfl)) rfl (v := .ref (ad 7)) rfl d_M_write_55 ?_
  refine lv_iload hx hb d_M_write_58 (lv_at hl 0 rfl) ?_
  refine lv_aload_n hx hb d_M_write_60 rfl (lv_at hl 1 rfl) ?_
  refine m_get hx hb hts hown hK hm 32 (by decide) (hts (.fieldLink "RegistryLogModel" 123 "RegistryLogModel" "oneSize" "I") (in_5 (List.mem_of_getElem? (i := 1) rfl) rfl)) rfl (v := .int (nI n1)) (congrArg (fun z => some (Value.int z)) h1) d_M_write_61 ?_
  refine m_st hx hb hK hm 7 rfl r rfl (show r < 120 from by omega) d_M_write_64 (fun H locs hm => ?_)
  have hm : mS g s.heap H x ad F (updA (updA (updA (updA (updA (updA A 3 (upd (A 3) r (k0))) 4 (upd (A 4) r (p0))) 5 (upd (A 5) r (a0))) 6 (upd (A 6) r (b0))) 11 (upd (A 11) (480 + r) (b0))) 7 (upd (A 7) r (nI n1))) B locs := hm
  refine lv_aload_n hx hb d_M_write_65 rfl (lv_at hl 1 rfl) ?_
  refine m_get hx hb hts hown hK hm 8 (by decide) (hts (.fieldLink "RegistryLogModel" 28 "RegistryLogModel" "otherSize" "[I") (in_4 (List.mem_of_getElem? (i := 217) rfl) rfl)) rfl (v := .ref (ad 8)) rfl d_M_write_66 ?_
  refine lv_iload hx hb d_M_write_69 (lv_at hl 0 rfl) ?_
  refine lv_aload_n hx hb d_M_write_71 rfl (lv_at hl 1 rfl) ?_
  refine m_get hx hb hts hown hK hm 33 (by decide) (hts (.fieldLink "RegistryLogModel" 126 "RegistryLogModel" "twoSize" "I") (in_5 (List.mem_of_getElem? (i := 2) rfl) rfl)) rfl (v := .int (nI n2)) (congrArg (fun z => some (Value.int z)) h2) d_M_write_72 ?_
  refine m_st hx hb hK hm 8 rfl r rfl (show r < 120 from by omega) d_M_write_75 (fun H locs hm => ?_)
  have hm : mS g s.heap H x ad F (updA (updA (updA (updA (updA (updA (updA A 3 (upd (A 3) r (k0))) 4 (upd (A 4) r (p0))) 5 (upd (A 5) r (a0))) 6 (upd (A 6) r (b0))) 11 (upd (A 11) (480 + r) (b0))) 7 (upd (A 7) r (nI n1))) 8 (upd (A 8) r (nI n2))) B locs := hm
  refine lv_iconst (v := nI 0) hx hb d_M_write_76 (by decide) ?_
  refine lv_istore (lv' := [(6, .int (nI 0)), (5, .int (nI r)), (0, .ref x), (1, .int k0), (2, .int p0), (3, .int a0), (4, .int b0)]) hx hb d_M_write_77 hl (by decide) rfl (fun ls hl => ?_)
  refine lp_M_write1 C0 (A := (updA (updA (updA (updA (updA (updA (updA A 3 (upd (A 3) r (k0))) 4 (upd (A 4) r (p0))) 5 (upd (A 5) r (a0))) 6 (upd (A 6) r (b0))) 11 (upd (A 11) (480 + r) (b0))) 7 (upd (A 7) r (nI n1))) 8 (upd (A 8) r (nI n2)))) k0 p0 a0 b0 r n1 n2 hr9 h1 h2 hn1 hn2 (fun H locs hm ls hl => ?_) (n1 + 1) 0 H locs (Nat.zero_le _) (by omega) (by rw [cpy_0, updA_id]; exact hm) ls (lv_sub hl [2, 3, 4, 5, 6, 1, 0] rfl)
  have hm : mS g s.heap H x ad F (updA (updA (updA (updA (updA (updA (updA (updA A 3 (upd (A 3) r (k0))) 4 (upd (A 4) r (p0))) 5 (upd (A 5) r (a0))) 6 (upd (A 6) r (b0))) 11 (upd (A 11) (480 + r) (b0))) 7 (upd (A 7) r (nI n1))) 8 (upd (A 8) r (nI n2))) 9 (va_cpy (A 30) (A 9) 0 (10 * r) n1)) B locs := hm
  refine lv_iconst (v := nI 0) hx hb d_M_write_114 (by decide) ?_
  refine lv_istore (lv' := [(6, .int (nI 0)), (0, .ref x), (1, .int k0), (2, .int p0), (3, .int a0), (4, .int b0), (5, .int (nI r))]) hx hb d_M_write_115 hl (by decide) rfl (fun ls hl => ?_)
  refine lp_M_write2 C0 (A := (updA (updA (updA (updA (updA (updA (updA (updA A 3 (upd (A 3) r (k0))) 4 (upd (A 4) r (p0))) 5 (upd (A 5) r (a0))) 6 (upd (A 6) r (b0))) 11 (upd (A 11) (480 + r) (b0))) 7 (upd (A 7) r (nI n1))) 8 (upd (A 8) r (nI n2))) 9 (va_cpy (A 30) (A 9) 0 (10 * r) n1))) k0 p0 a0 b0 r n1 n2 hr9 h1 h2 hn1 hn2 (fun H locs hm ls hl => ?_) (n2 + 1) 0 H locs (Nat.zero_le _) (by omega) (by rw [cpy_0, updA_id]; exact hm) ls (lv_sub hl [1, 2, 3, 4, 5, 6, 0] rfl)
  have hm : mS g s.heap H x ad F (updA (updA (updA (updA (updA (updA (updA (updA (updA A 3 (upd (A 3) r (k0))) 4 (upd (A 4) r (p0))) 5 (upd (A 5) r (a0))) 6 (upd (A 6) r (b0))) 11 (upd (A 11) (480 + r) (b0))) 7 (upd (A 7) r (nI n1))) 8 (upd (A 8) r (nI n2))) 9 (va_cpy (A 30) (A 9) 0 (10 * r) n1)) 10 (va_cpy (A 31) (A 10) 0 (10 * r) n2)) B locs := hm
  refine lv_aload_n hx hb d_M_write_152 rfl (lv_at hl 0 rfl) ?_
  refine m_get hx hb hts hown hK hm 12 (by decide) (hts (.fieldLink "RegistryLogModel" 40 "RegistryLogModel" "copied" "[I") (in_4 (List.mem_of_getElem? (i := 221) rfl) rfl)) rfl (v := .ref (ad 12)) rfl d_M_write_153 ?_
  refine lv_iconst (v := nI 4) hx hb d_M_write_156 (by decide) ?_
  refine lv_dup2_11 hx hb d_M_write_157 rfl rfl ?_
  refine m_ld hx hb hK hm 12 rfl 4 rfl (show 4 < 5 from by omega) d_M_write_158 ?_
  refine W.eq (g2 := F0 m 159 ls [.int (A 12 4), .int (nI 4), .ref (ad 12)]) rfl ?_
  refine W.eq (g2 := F0 m 159 ls [.int (nI r), .int (nI 4), .ref (ad 12)]) (by rw [hcn]) ?_
  refine lv_iconst (v := nI 1) hx hb d_M_write_159 (by decide) ?_
  refine n_iadd hx hb d_M_write_160 ?_
  refine m_st hx hb hK hm 12 rfl 4 rfl (show 4 < 5 from by omega) d_M_write_161 (fun H locs hm => ?_)
  have hm : mS g s.heap H x ad F (updA (updA (updA (updA (updA (updA (updA (updA (updA (updA A 3 (upd (A 3) r (k0))) 4 (upd (A 4) r (p0))) 5 (upd (A 5) r (a0))) 6 (upd (A 6) r (b0))) 11 (upd (A 11) (480 + r) (b0))) 7 (upd (A 7) r (nI n1))) 8 (upd (A 8) r (nI n2))) 9 (va_cpy (A 30) (A 9) 0 (10 * r) n1)) 10 (va_cpy (A 31) (A 10) 0 (10 * r) n2)) 12 (upd (A 12) 4 (nI (r + 1)))) B locs := hm
  refine lv_iload hx hb d_M_write_162 (lv_at hl 5 rfl) ?_
  exact W.iret hx hb hr (fun t9 ht hW => ⟨_, _, _, _, rfl, by rw [ht]; exact ⟨hm.1, hm.2.1, hm.2.2.1, fun _ h => by cases h⟩, ⟨rfl, rfl, rfl, rfl⟩⟩) hm.2.2.2 d_M_write_164 hlk
set_option maxHeartbeats 4000000 in
set_option maxRecDepth 100000 in
theorem lp_M_meet9 {p : Program} {l : Launch} {e : Env} {s : State} {m : MethodId} {args : Array Value} {below : List Frame} {meth : Method} {c : Code} {g : gG} {R : Room} {Q : State → Prop} (C0 : cF g p s m args meth c b_M_meet 6 "RegistryLogModel" (some .int)) {x : Nat} {ad : Nat → Nat} {F : Nat → Int32} {A : Nat → Nat → Int32} {B : Nat → Nat → Int64} (fr n0 ow cn : Nat) (hn0 : n0 ≤ 10) (hfr : fr + n0 ≤ 1200) (hcn : F 27 = nI cn) (hcn2 : cn < 240) (K : ∀ (H : Heap) (locs : List Loc), mS g s.heap H x ad F (updA A 17 (va_cpy (A 9) (A 17) fr (10 * cn) n0)) B locs → ∀ (ls : Array Slot), lv_has ls 6 [(0, .ref x), (1, .ref (ad 9)), (2, .int (nI fr)), (3, .int (nI n0)), (4, .int (nI ow)), (5, .int (nI n0))] → W p l e R s m args below meth c H locs 0 0 Q (F0 m 46 ls [])) :
    ∀ (n i : Nat) (H : Heap) (locs : List Loc), i ≤ n0 → n0 + 1 ≤ i + n → mS g s.heap H x ad F (updA A 17 (va_cpy (A 9) (A 17) fr (10 * cn) i)) B locs → ∀ (ls : Array Slot), lv_has ls 6 [(0, .ref x), (1, .ref (ad 9)), (2, .int (nI fr)), (3, .int (nI n0)), (4, .int (nI ow)), (5, .int (nI i))] → W p l e R s m args below meth c H locs 0 0 Q (F0 m 13 ls []) := by
  obtain ⟨hx, hb, hml, hown, hts, hr, hlk, hK⟩ := id C0
  intro n
  induction n with
  | zero => intro i H locs h1 h2; exact absurd h2 (by omega)
  | succ n ih =>
    intro i H locs hi hin hm ls hl
    refine lv_iload hx hb d_M_meet_13 (lv_at hl 5 rfl) ?_
    refine lv_iload_n hx hb d_M_meet_15 rfl (lv_at hl 3 rfl) ?_
    refine n_ge (tgt := 46) (a := i) (b := n0) hx hb d_M_meet_16 (by decide) (by omega) (by omega) (fun c16 => ?_) (fun c16 => ?_)
    · skip
      have e9 : i = n0 := by omega
      rw [e9] at hm hl
      exact K H locs hm ls (lv_sub hl [0, 1, 2, 3, 4, 5] rfl)
    · skip
      refine lv_aload_n hx hb d_M_meet_19 rfl (lv_at hl 0 rfl) ?_
      refine m_get hx hb hts hown hK hm 17 (by decide) (hts (.fieldLink "RegistryLogModel" 50 "RegistryLogModel" "nameLetters" "[I") (in_4 (List.mem_of_getElem? (i := 226) rfl) rfl)) rfl (v := .ref (ad 17)) rfl d_M_meet_20 ?_
      refine lv_bipush (v := nI 10) hx hb d_M_meet_23 (by decide) ?_
      refine lv_aload_n hx hb d_M_meet_25 rfl (lv_at hl 0 rfl) ?_
      refine m_get hx hb hts hown hK hm 27 (by decide) (hts (.fieldLink "RegistryLogModel" 133 "RegistryLogModel" "names" "I") (in_4 (List.mem_of_getElem? (i := 236) rfl) rfl)) rfl (v := .int (nI cn)) (congrArg (fun z => some (Value.int z)) hcn) d_M_meet_26 ?_
      refine n_imul hx hb d_M_meet_29 ?_
      refine lv_iload hx hb d_M_meet_30 (lv_at hl 5 rfl) ?_
      refine n_iadd hx hb d_M_meet_32 ?_
      refine lv_aload_n hx hb d_M_meet_33 rfl (lv_at hl 1 rfl) ?_
      refine lv_iload_n hx hb d_M_meet_34 rfl (lv_at hl 2 rfl) ?_
      refine lv_iload hx hb d_M_meet_35 (lv_at hl 5 rfl) ?_
      refine n_iadd hx hb d_M_meet_37 ?_
      refine m_ld hx hb hK hm 9 rfl (fr + i) rfl (show fr + i < 1200 from by omega) d_M_meet_38 ?_
      refine W.eq (g2 := F0 m 39 ls [.int (A 9 (fr + i)), .int (nI ((10 * cn) + i)), .ref (ad 17)]) rfl ?_
      refine m_st hx hb hK hm 17 rfl ((10 * cn) + i) rfl (show (10 * cn) + i < 2400 from by omega) d_M_meet_39 (fun H locs hm => ?_)
      have hm : mS g s.heap H x ad F (updA (updA A 17 (va_cpy (A 9) (A 17) fr (10 * cn) i)) 17 (upd (va_cpy (A 9) (A 17) fr (10 * cn) i) ((10 * cn) + i) (A 9 (fr + i)))) B locs := hm
      refine n_inc (a := i) (lv' := [(5, .int (nI (i + 1))), (0, .ref x), (1, .ref (ad 9)), (2, .int (nI fr)), (3, .int (nI n0)), (4, .int (nI ow))]) hx hb d_M_meet_40 hl (k := 5) rfl (by decide) rfl (fun ls hl => ?_)
      refine lv_goto (tgt := 13) hx hb d_M_meet_43 (by decide) ?_
      rw [updA2, cpy_s] at hm
      exact ih (i + 1) H locs (by omega) (by omega) hm ls (lv_sub hl [1, 2, 3, 4, 5, 0] rfl)
def meA9 (A : Nat → Nat → Int32) (fr n0 ow cn : Nat) : Nat → Nat → Int32 :=
  updA (updA (updA (updA A 18 (upd (A 18) cn (nI n0))) 17 (va_cpy (A 9) (A 17) fr (10 * cn) n0)) 19 (upd (A 19) cn (nI 1))) 20 (upd (A 20) cn (nI ow))
set_option maxHeartbeats 4000000 in
set_option maxRecDepth 100000 in
/-- meet(row, from, n, owner) -/
theorem c_M_meet9 (l : Launch) (g : gG) (H : Heap) (x : Nat) (ad : Nat → Nat) (F : Nat → Int32) (A : Nat → Nat → Int32) (B : Nat → Nat → Int64) (hm0 : mW g H x ad F A B) (fr n0 ow cn : Nat) (hn0 : n0 ≤ 10) (hfr : fr + n0 ≤ 1200) (hcn : F 27 = nI cn) (hcn2 : cn < 240) : Met l y_M_meet (wC y_M_meet b_M_meet 6 (some .int)) (rmk 0 0 0 0) (pC g H [.ref x, .ref (ad 9), .int (nI fr), .int (nI n0), .int (nI ow)]) (qM g H x ad (fun v F1 A1 B1 => v = some (.int (nI cn)) ∧ F1 = upd F 27 (nI (cn + 1)) ∧ A1 = meA9 A fr n0 ow cn ∧ B1 = B)) 0 0 (mN x ad) := by
  refine mB (by decide) (Nat.le_of_ble_eq_true rfl) ?_
  intro p e s m below meth c ls C0 hH hZ hnm hl
  have C0 : cF g p s m _ meth c b_M_meet 6 "RegistryLogModel" (some .int) := C0
  obtain ⟨hx, hb, hml, hown, hts, hr, hlk, hK⟩ := id C0
  subst hH
  have hl : lv_has ls 6 [(0, .ref x), (1, .ref (ad 9)), (2, .int (nI fr)), (3, .int (nI n0)), (4, .int (nI ow))] := hl
  have hm := mS.rf hm0
  refine lv_aload_n hx hb d_M_meet_0 rfl (lv_at hl 0 rfl) ?_
  refine m_get hx hb hts hown hK hm 18 (by decide) (hts (.fieldLink "RegistryLogModel" 53 "RegistryLogModel" "nameSize" "[I") (in_4 (List.mem_of_getElem? (i := 227) rfl) rfl)) rfl (v := .ref (ad 18)) rfl d_M_meet_1 ?_
  refine lv_aload_n hx hb d_M_meet_4 rfl (lv_at hl 0 rfl) ?_
  refine m_get hx hb hts hown hK hm 27 (by decide) (hts (.fieldLink "RegistryLogModel" 133 "RegistryLogModel" "names" "I") (in_4 (List.mem_of_getElem? (i := 236) rfl) rfl)) rfl (v := .int (nI cn)) (congrArg (fun z => some (Value.int z)) hcn) d_M_meet_5 ?_
  refine lv_iload_n hx hb d_M_meet_8 rfl (lv_at hl 3 rfl) ?_
  refine m_st hx hb hK hm 18 rfl cn rfl (show cn < 240 from by omega) d_M_meet_9 (fun H locs hm => ?_)
  have hm : mS g s.heap H x ad F (updA A 18 (upd (A 18) cn (nI n0))) B locs := hm
  refine lv_iconst (v := nI 0) hx hb d_M_meet_10 (by decide) ?_
  refine lv_istore (lv' := [(5, .int (nI 0)), (0, .ref x), (1, .ref (ad 9)), (2, .int (nI fr)), (3, .int (nI n0)), (4, .int (nI ow))]) hx hb d_M_meet_11 hl (by decide) rfl (fun ls hl => ?_)
  refine lp_M_meet9 C0 (A := (updA A 18 (upd (A 18) cn (nI n0)))) fr n0 ow cn hn0 hfr hcn hcn2 (fun H locs hm ls hl => ?_) (n0 + 1) 0 H locs (Nat.zero_le _) (by omega) (by rw [cpy_0, updA_id]; exact hm) ls (lv_sub hl [1, 2, 3, 4, 5, 0] rfl)
  have hm : mS g s.heap H x ad F (updA (updA A 18 (upd (A 18) cn (nI n0))) 17 (va_cpy (A 9) (A 17) fr (10 * cn) n0)) B locs := hm
  refine lv_aload_n hx hb d_M_meet_46 rfl (lv_at hl 0 rfl) ?_
  refine m_get hx hb hts hown hK hm 19 (by decide) (hts (.fieldLink "RegistryLogModel" 56 "RegistryLogModel" "nameState" "[I") (in_4 (List.mem_of_getElem? (i := 228) rfl) rfl)) rfl (v := .ref (ad 19)) rfl d_M_meet_47 ?_
  refine lv_aload_n hx hb d_M_meet_50 rfl (lv_at hl 0 rfl) ?_
  refine m_get hx hb hts hown hK hm 27 (by decide) (hts (.fieldLink "RegistryLogModel" 133 "RegistryLogModel" "names" "I") (in_4 (List.mem_of_getElem? (i := 236) rfl) rfl)) rfl (v := .int (nI cn)) (congrArg (fun z => some (Value.int z)) hcn) d_M_meet_51 ?_
  refine lv_iconst (v := nI 1) hx hb d_M_meet_54 (by decide) ?_
  refine m_st hx hb hK hm 19 rfl cn rfl (show cn < 240 from by omega) d_M_meet_55 (fun H locs hm => ?_)
  have hm : mS g s.heap H x ad F (updA (updA (updA A 18 (upd (A 18) cn (nI n0))) 17 (va_cpy (A 9) (A 17) fr (10 * cn) n0)) 19 (upd (A 19) cn (nI 1))) B locs := hm
  refine lv_aload_n hx hb d_M_meet_56 rfl (lv_at hl 0 rfl) ?_
  refine m_get hx hb hts hown hK hm 20 (by decide) (hts (.fieldLink "RegistryLogModel" 59 "RegistryLogModel" "nameOf" "[I") (in_4 (List.mem_of_getElem? (i := 229) rfl) rfl)) rfl (v := .ref (ad 20)) rfl d_M_meet_57 ?_
  refine lv_aload_n hx hb d_M_meet_60 rfl (lv_at hl 0 rfl) ?_
  refine m_get hx hb hts hown hK hm 27 (by decide) (hts (.fieldLink "RegistryLogModel" 133 "RegistryLogModel" "names" "I") (in_4 (List.mem_of_getElem? (i := 236) rfl) rfl)) rfl (v := .int (nI cn)) (congrArg (fun z => some (Value.int z)) hcn) d_M_meet_61 ?_
  refine lv_iload hx hb d_M_meet_64 (lv_at hl 4 rfl) ?_
  refine m_st hx hb hK hm 20 rfl cn rfl (show cn < 240 from by omega) d_M_meet_66 (fun H locs hm => ?_)
  have hm : mS g s.heap H x ad F (updA (updA (updA (updA A 18 (upd (A 18) cn (nI n0))) 17 (va_cpy (A 9) (A 17) fr (10 * cn) n0)) 19 (upd (A 19) cn (nI 1))) 20 (upd (A 20) cn (nI ow))) B locs := hm
  refine lv_aload_n hx hb d_M_meet_67 rfl (lv_at hl 0 rfl) ?_
  refine lv_dup hx hb d_M_meet_68 rfl ?_
  refine m_get hx hb hts hown hK hm 27 (by decide) (hts (.fieldLink "RegistryLogModel" 133 "RegistryLogModel" "names" "I") (in_4 (List.mem_of_getElem? (i := 236) rfl) rfl)) rfl (v := .int (nI cn)) (congrArg (fun z => some (Value.int z)) hcn) d_M_meet_69 ?_
  refine lv_iconst (v := nI 1) hx hb d_M_meet_72 (by decide) ?_
  refine n_iadd hx hb d_M_meet_73 ?_
  refine m_put hx hb hts hown hK hm 27 (by decide) (hts (.fieldLink "RegistryLogModel" 133 "RegistryLogModel" "names" "I") (in_4 (List.mem_of_getElem? (i := 236) rfl) rfl)) rfl rfl (v := nI (cn + 1)) rfl rfl rfl rfl d_M_meet_74 (fun H locs hm => ?_)
  refine lv_aload_n hx hb d_M_meet_77 rfl (lv_at hl 0 rfl) ?_
  refine m_get hx hb hts hown hK hm 27 (by decide) (hts (.fieldLink "RegistryLogModel" 133 "RegistryLogModel" "names" "I") (in_4 (List.mem_of_getElem? (i := 236) rfl) rfl)) rfl (v := .int (nI (cn + 1))) rfl d_M_meet_78 ?_
  refine lv_iconst (v := nI 1) hx hb d_M_meet_81 (by decide) ?_
  refine n_isub hx hb (by omega) d_M_meet_82 ?_
  exact W.iret hx hb hr (fun t9 ht hW => ⟨_, _, _, _, rfl, by rw [ht]; exact ⟨hm.1, hm.2.1, hm.2.2.1, fun _ h => by cases h⟩, ⟨by rw [Nat.add_sub_cancel], rfl, rfl, rfl⟩⟩) hm.2.2.2 d_M_meet_83 hlk
set_option maxHeartbeats 4000000 in
set_option maxRecDepth 100000 in
theorem lp_M_meet10 {p : Program} {l : Launch} {e : Env} {s : State} {m : MethodId} {args : Array Value} {below : List Frame} {meth : Method} {c : Code} {g : gG} {R : Room} {Q : State → Prop} (C0 : cF g p s m args meth c b_M_meet 6 "RegistryLogModel" (some .int)) {x : Nat} {ad : Nat → Nat} {F : Nat → Int32} {A : Nat → Nat → Int32} {B : Nat → Nat → Int64} (fr n0 ow cn : Nat) (hn0 : n0 ≤ 10) (hfr : fr + n0 ≤ 1200) (hcn : F 27 = nI cn) (hcn2 : cn < 240) (K : ∀ (H : Heap) (locs : List Loc), mS g s.heap H x ad F (updA A 17 (va_cpy (A 10) (A 17) fr (10 * cn) n0)) B locs → ∀ (ls : Array Slot), lv_has ls 6 [(0, .ref x), (1, .ref (ad 10)), (2, .int (nI fr)), (3, .int (nI n0)), (4, .int (nI ow)), (5, .int (nI n0))] → W p l e R s m args below meth c H locs 0 0 Q (F0 m 46 ls [])) :
    ∀ (n i : Nat) (H : Heap) (locs : List Loc), i ≤ n0 → n0 + 1 ≤ i + n → mS g s.heap H x ad F (updA A 17 (va_cpy (A 10) (A 17) fr (10 * cn) i)) B locs → ∀ (ls : Array Slot), lv_has ls 6 [(0, .ref x), (1, .ref (ad 10)), (2, .int (nI fr)), (3, .int (nI n0)), (4, .int (nI ow)), (5, .int (nI i))] → W p l e R s m args below meth c H locs 0 0 Q (F0 m 13 ls []) := by
  obtain ⟨hx, hb, hml, hown, hts, hr, hlk, hK⟩ := id C0
  intro n
  induction n with
  | zero => intro i H locs h1 h2; exact absurd h2 (by omega)
  | succ n ih =>
    intro i H locs hi hin hm ls hl
    refine lv_iload hx hb d_M_meet_13 (lv_at hl 5 rfl) ?_
    refine lv_iload_n hx hb d_M_meet_15 rfl (lv_at hl 3 rfl) ?_
    refine n_ge (tgt := 46) (a := i) (b := n0) hx hb d_M_meet_16 (by decide) (by omega) (by omega) (fun c16 => ?_) (fun c16 => ?_)
    · skip
      have e9 : i = n0 := by omega
      rw [e9] at hm hl
      exact K H locs hm ls (lv_sub hl [0, 1, 2, 3, 4, 5] rfl)
    · skip
      refine lv_aload_n hx hb d_M_meet_19 rfl (lv_at hl 0 rfl) ?_
      refine m_get hx hb hts hown hK hm 17 (by decide) (hts (.fieldLink "RegistryLogModel" 50 "RegistryLogModel" "nameLetters" "[I") (in_4 (List.mem_of_getElem? (i := 226) rfl) rfl)) rfl (v := .ref (ad 17)) rfl d_M_meet_20 ?_
      refine lv_bipush (v := nI 10) hx hb d_M_meet_23 (by decide) ?_
      refine lv_aload_n hx hb d_M_meet_25 rfl (lv_at hl 0 rfl) ?_
      refine m_get hx hb hts hown hK hm 27 (by decide) (hts (.fieldLink "RegistryLogModel" 133 "RegistryLogModel" "names" "I") (in_4 (List.mem_of_getElem? (i := 236) rfl) rfl)) rfl (v := .int (nI cn)) (congrArg (fun z => some (Value.int z)) hcn) d_M_meet_26 ?_
      refine n_imul hx hb d_M_meet_29 ?_
      refine lv_iload hx hb d_M_meet_30 (lv_at hl 5 rfl) ?_
      refine n_iadd hx hb d_M_meet_32 ?_
      refine lv_aload_n hx hb d_M_meet_33 rfl (lv_at hl 1 rfl) ?_
      refine lv_iload_n hx hb d_M_meet_34 rfl (lv_at hl 2 rfl) ?_
      refine lv_iload hx hb d_M_meet_35 (lv_at hl 5 rfl) ?_
      refine n_iadd hx hb d_M_meet_37 ?_
      refine m_ld hx hb hK hm 10 rfl (fr + i) rfl (show fr + i < 1200 from by omega) d_M_meet_38 ?_
      refine W.eq (g2 := F0 m 39 ls [.int (A 10 (fr + i)), .int (nI ((10 * cn) + i)), .ref (ad 17)]) rfl ?_
      refine m_st hx hb hK hm 17 rfl ((10 * cn) + i) rfl (show (10 * cn) + i < 2400 from by omega) d_M_meet_39 (fun H locs hm => ?_)
      have hm : mS g s.heap H x ad F (updA (updA A 17 (va_cpy (A 10) (A 17) fr (10 * cn) i)) 17 (upd (va_cpy (A 10) (A 17) fr (10 * cn) i) ((10 * cn) + i) (A 10 (fr + i)))) B locs := hm
      refine n_inc (a := i) (lv' := [(5, .int (nI (i + 1))), (0, .ref x), (1, .ref (ad 10)), (2, .int (nI fr)), (3, .int (nI n0)), (4, .int (nI ow))]) hx hb d_M_meet_40 hl (k := 5) rfl (by decide) rfl (fun ls hl => ?_)
      refine lv_goto (tgt := 13) hx hb d_M_meet_43 (by decide) ?_
      rw [updA2, cpy_s] at hm
      exact ih (i + 1) H locs (by omega) (by omega) hm ls (lv_sub hl [1, 2, 3, 4, 5, 0] rfl)
def meA10 (A : Nat → Nat → Int32) (fr n0 ow cn : Nat) : Nat → Nat → Int32 :=
  updA (updA (updA (updA A 18 (upd (A 18) cn (nI n0))) 17 (va_cpy (A 10) (A 17) fr (10 * cn) n0)) 19 (upd (A 19) cn (nI 1))) 20 (upd (A 20) cn (nI ow))
set_option maxHeartbeats 4000000 in
set_option maxRecDepth 100000 in
/-- meet(row, from, n, owner) -/
theorem c_M_meet10 (l : Launch) (g : gG) (H : Heap) (x : Nat) (ad : Nat → Nat) (F : Nat → Int32) (A : Nat → Nat → Int32) (B : Nat → Nat → Int64) (hm0 : mW g H x ad F A B) (fr n0 ow cn : Nat) (hn0 : n0 ≤ 10) (hfr : fr + n0 ≤ 1200) (hcn : F 27 = nI cn) (hcn2 : cn < 240) : Met l y_M_meet (wC y_M_meet b_M_meet 6 (some .int)) (rmk 0 0 0 0) (pC g H [.ref x, .ref (ad 10), .int (nI fr), .int (nI n0), .int (nI ow)]) (qM g H x ad (fun v F1 A1 B1 => v = some (.int (nI cn)) ∧ F1 = upd F 27 (nI (cn + 1)) ∧ A1 = meA10 A fr n0 ow cn ∧ B1 = B)) 0 0 (mN x ad) := by
  refine mB (by decide) (Nat.le_of_ble_eq_true rfl) ?_
  intro p e s m below meth c ls C0 hH hZ hnm hl
  have C0 : cF g p s m _ meth c b_M_meet 6 "RegistryLogModel" (some .int) := C0
  obtain ⟨hx, hb, hml, hown, hts, hr, hlk, hK⟩ := id C0
  subst hH
  have hl : lv_has ls 6 [(0, .ref x), (1, .ref (ad 10)), (2, .int (nI fr)), (3, .int (nI n0)), (4, .int (nI ow))] := hl
  have hm := mS.rf hm0
  refine lv_aload_n hx hb d_M_meet_0 rfl (lv_at hl 0 rfl) ?_
  refine m_get hx hb hts hown hK hm 18 (by decide) (hts (.fieldLink "RegistryLogModel" 53 "RegistryLogModel" "nameSize" "[I") (in_4 (List.mem_of_getElem? (i := 227) rfl) rfl)) rfl (v := .ref (ad 18)) rfl d_M_meet_1 ?_
  refine lv_aload_n hx hb d_M_meet_4 rfl (lv_at hl 0 rfl) ?_
  refine m_get hx hb hts hown hK hm 27 (by decide) (hts (.fieldLink "RegistryLogModel" 133 "RegistryLogModel" "names" "I") (in_4 (List.mem_of_getElem? (i := 236) rfl) rfl)) rfl (v := .int (nI cn)) (congrArg (fun z => some (Value.int z)) hcn) d_M_meet_5 ?_
  refine lv_iload_n hx hb d_M_meet_8 rfl (lv_at hl 3 rfl) ?_
  refine m_st hx hb hK hm 18 rfl cn rfl (show cn < 240 from by omega) d_M_meet_9 (fun H locs hm => ?_)
  have hm : mS g s.heap H x ad F (updA A 18 (upd (A 18) cn (nI n0))) B locs := hm
  refine lv_iconst (v := nI 0) hx hb d_M_meet_10 (by decide) ?_
  refine lv_istore (lv' := [(5, .int (nI 0)), (0, .ref x), (1, .ref (ad 10)), (2, .int (nI fr)), (3, .int (nI n0)), (4, .int (nI ow))]) hx hb d_M_meet_11 hl (by decide) rfl (fun ls hl => ?_)
  refine lp_M_meet10 C0 (A := (updA A 18 (upd (A 18) cn (nI n0)))) fr n0 ow cn hn0 hfr hcn hcn2 (fun H locs hm ls hl => ?_) (n0 + 1) 0 H locs (Nat.zero_le _) (by omega) (by rw [cpy_0, updA_id]; exact hm) ls (lv_sub hl [1, 2, 3, 4, 5, 0] rfl)
  have hm : mS g s.heap H x ad F (updA (updA A 18 (upd (A 18) cn (nI n0))) 17 (va_cpy (A 10) (A 17) fr (10 * cn) n0)) B locs := hm
  refine lv_aload_n hx hb d_M_meet_46 rfl (lv_at hl 0 rfl) ?_
  refine m_get hx hb hts hown hK hm 19 (by decide) (hts (.fieldLink "RegistryLogModel" 56 "RegistryLogModel" "nameState" "[I") (in_4 (List.mem_of_getElem? (i := 228) rfl) rfl)) rfl (v := .ref (ad 19)) rfl d_M_meet_47 ?_
  refine lv_aload_n hx hb d_M_meet_50 rfl (lv_at hl 0 rfl) ?_
  refine m_get hx hb hts hown hK hm 27 (by decide) (hts (.fieldLink "RegistryLogModel" 133 "RegistryLogModel" "names" "I") (in_4 (List.mem_of_getElem? (i := 236) rfl) rfl)) rfl (v := .int (nI cn)) (congrArg (fun z => some (Value.int z)) hcn) d_M_meet_51 ?_
  refine lv_iconst (v := nI 1) hx hb d_M_meet_54 (by decide) ?_
  refine m_st hx hb hK hm 19 rfl cn rfl (show cn < 240 from by omega) d_M_meet_55 (fun H locs hm => ?_)
  have hm : mS g s.heap H x ad F (updA (updA (updA A 18 (upd (A 18) cn (nI n0))) 17 (va_cpy (A 10) (A 17) fr (10 * cn) n0)) 19 (upd (A 19) cn (nI 1))) B locs := hm
  refine lv_aload_n hx hb d_M_meet_56 rfl (lv_at hl 0 rfl) ?_
  refine m_get hx hb hts hown hK hm 20 (by decide) (hts (.fieldLink "RegistryLogModel" 59 "RegistryLogModel" "nameOf" "[I") (in_4 (List.mem_of_getElem? (i := 229) rfl) rfl)) rfl (v := .ref (ad 20)) rfl d_M_meet_57 ?_
  refine lv_aload_n hx hb d_M_meet_60 rfl (lv_at hl 0 rfl) ?_
  refine m_get hx hb hts hown hK hm 27 (by decide) (hts (.fieldLink "RegistryLogModel" 133 "RegistryLogModel" "names" "I") (in_4 (List.mem_of_getElem? (i := 236) rfl) rfl)) rfl (v := .int (nI cn)) (congrArg (fun z => some (Value.int z)) hcn) d_M_meet_61 ?_
  refine lv_iload hx hb d_M_meet_64 (lv_at hl 4 rfl) ?_
  refine m_st hx hb hK hm 20 rfl cn rfl (show cn < 240 from by omega) d_M_meet_66 (fun H locs hm => ?_)
  have hm : mS g s.heap H x ad F (updA (updA (updA (updA A 18 (upd (A 18) cn (nI n0))) 17 (va_cpy (A 10) (A 17) fr (10 * cn) n0)) 19 (upd (A 19) cn (nI 1))) 20 (upd (A 20) cn (nI ow))) B locs := hm
  refine lv_aload_n hx hb d_M_meet_67 rfl (lv_at hl 0 rfl) ?_
  refine lv_dup hx hb d_M_meet_68 rfl ?_
  refine m_get hx hb hts hown hK hm 27 (by decide) (hts (.fieldLink "RegistryLogModel" 133 "RegistryLogModel" "names" "I") (in_4 (List.mem_of_getElem? (i := 236) rfl) rfl)) rfl (v := .int (nI cn)) (congrArg (fun z => some (Value.int z)) hcn) d_M_meet_69 ?_
  refine lv_iconst (v := nI 1) hx hb d_M_meet_72 (by decide) ?_
  refine n_iadd hx hb d_M_meet_73 ?_
  refine m_put hx hb hts hown hK hm 27 (by decide) (hts (.fieldLink "RegistryLogModel" 133 "RegistryLogModel" "names" "I") (in_4 (List.mem_of_getElem? (i := 236) rfl) rfl)) rfl rfl (v := nI (cn + 1)) rfl rfl rfl rfl d_M_meet_74 (fun H locs hm => ?_)
  refine lv_aload_n hx hb d_M_meet_77 rfl (lv_at hl 0 rfl) ?_
  refine m_get hx hb hts hown hK hm 27 (by decide) (hts (.fieldLink "RegistryLogModel" 133 "RegistryLogModel" "names" "I") (in_4 (List.mem_of_getElem? (i := 236) rfl) rfl)) rfl (v := .int (nI (cn + 1))) rfl d_M_meet_78 ?_
  refine lv_iconst (v := nI 1) hx hb d_M_meet_81 (by decide) ?_
  refine n_isub hx hb (by omega) d_M_meet_82 ?_
  exact W.iret hx hb hr (fun t9 ht hW => ⟨_, _, _, _, rfl, by rw [ht]; exact ⟨hm.1, hm.2.1, hm.2.2.1, fun _ h => by cases h⟩, ⟨by rw [Nat.add_sub_cancel], rfl, rfl, rfl⟩⟩) hm.2.2.2 d_M_meet_83 hlk
