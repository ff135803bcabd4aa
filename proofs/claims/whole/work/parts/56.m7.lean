theorem k_M_isFree_4 : kV "RegistryLogModel" 142 "RegistryLogModel" y_M_met b_M_met 8 (some .int) 3 := ⟨(in_5 (List.mem_of_getElem? (i := 143) rfl) rfl), (in_5 (List.mem_of_getElem? (i := 145) rfl) rfl), (in_0 (List.mem_of_getElem? (i := 9) rfl) rfl), (in_1 (List.mem_of_getElem? (i := 22) rfl) rfl), (in_5 (List.mem_of_getElem? (i := 146) rfl) rfl), ⟨by decide, by decide, by decide +kernel⟩⟩
theorem k_M_isFree_57 : kV "RegistryLogModel" 157 "RegistryLogModel" y_M_isNear b_M_isNear 8 (some .boolean) 3 := ⟨(in_5 (List.mem_of_getElem? (i := 159) rfl) rfl), (in_5 (List.mem_of_getElem? (i := 161) rfl) rfl), (in_0 (List.mem_of_getElem? (i := 13) rfl) rfl), (in_1 (List.mem_of_getElem? (i := 22) rfl) rfl), (in_5 (List.mem_of_getElem? (i := 162) rfl) rfl), ⟨by decide, by decide, by decide +kernel⟩⟩
def frM (S : Nat → Int32) (t : List Nat) (NT : Nat → List Nat) (but : Int32) : Nat → Nat → Bool → Bool
  | 0, _, b => b
  | n + 1, k, b => if b then frM S t NT but n (k + 1) (decide (nI k = but) || (!decide (S k = nI 1) || !nearM t (NT k))) else b
theorem frM_f (S : Nat → Int32) (t : List Nat) (NT : Nat → List Nat) (but : Int32) : ∀ n k, frM S t NT but n k false = false
  | 0, _ => rfl
  | n + 1, k => rfl
theorem updA4 (A : Nat → Nat → Int32) (f f2 f3 f4 : Nat → Int32) : updA (updA (updA (updA A 34 f) 35 f2) 34 f3) 35 f4 = updA (updA A 34 f3) 35 f4 := by
  funext k
  unfold updA
  by_cases h : k = 35 <;> by_cases h2 : k = 34 <;> simp [h, h2]
theorem updA_id2 (A : Nat → Nat → Int32) : updA (updA A 34 (A 34)) 35 (A 35) = A := by
  rw [updA_id, updA_id]
/-- the names' table: cn names with the texts NT -/
def repN (F : Nat → Int32) (A : Nat → Nat → Int32) (cn : Nat) (NT : Nat → List Nat) : Prop := F 27 = nI cn ∧ cn ≤ 240 ∧ ∀ k, k < cn → (NT k).length ≤ 10 ∧ txt A 17 (10 * k) (NT k) ∧ A 18 k = nI (NT k).length ∧ ∀ i, (NT k).getD i 0 < 128
set_option maxHeartbeats 4000000 in
set_option maxRecDepth 100000 in
theorem lp_M_isFree30 {p : Program} {l : Launch} {e : Env} {s : State} {m : MethodId} {args : Array Value} {below : List Frame} {meth : Method} {c : Code} {g : gG} (C0 : cF g p s m args meth c b_M_isFree 6 "RegistryLogModel" (some .boolean)) (hZ : zK g s s.heap) {x : Nat} {ad : Nat → Nat} {F : Nat → Int32} {A : Nat → Nat → Int32} {B : Nat → Nat → Int64} (t : List Nat) (cn : Nat) (NT : Nat → List Nat) (ht : t.length ≤ 10) (htx : txt A 30 0 t) (hct : ∀ k, t.getD k 0 < 128) (hrep : repN F A cn NT) (but : Int32) (res : Bool) :
    ∀ (n i : Nat) (b0 : Bool) (f f2 : Nat → Int32) (H : Heap) (locs : List Loc), i ≤ cn → cn + 1 ≤ i + n → mS g s.heap H x ad F (updA (updA A 34 f) 35 f2) B locs → frM (A 19) t NT but (cn - i) i b0 = res → ∀ (ls : Array Slot), lv_has ls 6 [(0, .ref x), (1, .ref (ad 30)), (2, .int (nI t.length)), (3, .int but), (4, .int (bI b0)), (5, .int (nI i))] → W p l e (rmk 2 0 0 52) s m args below meth c H locs 0 0 (MQ below (qM g s.heap x ad (fun v F1 A1 B1 => v = some (.int (bI res)) ∧ F1 = F ∧ (∃ f f2, A1 = updA (updA A 34 f) 35 f2) ∧ B1 = B)) args s 0 0 (mN x ad)) (F0 m 21 ls []) := by
  obtain ⟨hx, hb, hml, hown, hts, hr, hlk, hK⟩ := id C0
  obtain ⟨hcn, hcn2, hnt⟩ := hrep
  intro n
  induction n with
  | zero => intro i b0 f f2 H locs h1 h2; exact absurd h2 (by omega)
  | succ n ih =>
    intro i b0 f f2 H locs hi hin hm hres ls hl
    refine lv_iload hx hb d_M_isFree_21 (lv_at hl 5 rfl) ?_
    refine lv_aload_n hx hb d_M_isFree_23 rfl (lv_at hl 0 rfl) ?_
    refine m_get hx hb hts hown hK hm 27 (by decide) (hts (.fieldLink "RegistryLogModel" 133 "RegistryLogModel" "names" "I") (in_4 (List.mem_of_getElem? (i := 236) rfl) rfl)) rfl (v := .int (nI cn)) (congrArg (fun z => some (Value.int z)) hcn) d_M_isFree_24 ?_
    refine n_ge (tgt := 76) (a := i) (b := cn) hx hb d_M_isFree_27 (by decide) (by omega) (by omega) (fun c27 => ?_) (fun c27 => ?_)
    · skip
      refine lv_iload hx hb d_M_isFree_76 (lv_at hl 4 rfl) ?_
      rw [show cn - i = 0 by omega, frM] at hres
      exact W.zret hx hb hr (by cases b0 <;> rfl) (fun t9 ht hW => ⟨_, _, _, _, rfl, by rw [ht]; exact ⟨hm.1, hm.2.1, hm.2.2.1, fun _ h => by cases h⟩, ⟨by rw [← hres], rfl, ⟨_, _, rfl⟩, rfl⟩⟩) hm.2.2.2 d_M_isFree_78 hlk
    · skip
      refine lv_iload hx hb d_M_isFree_30 (lv_at hl 4 rfl) ?_
      refine z_eq (tgt := 76) (v := b0) hx hb d_M_isFree_32 (by decide) (fun c32 => ?_) (fun c32 => ?_)
      · skip
        refine lv_iload hx hb d_M_isFree_76 (lv_at hl 4 rfl) ?_
        rw [c32, frM_f, ← c32] at hres
        exact W.zret hx hb hr (by cases b0 <;> rfl) (fun t9 ht hW => ⟨_, _, _, _, rfl, by rw [ht]; exact ⟨hm.1, hm.2.1, hm.2.2.1, fun _ h => by cases h⟩, ⟨by rw [← hres], rfl, ⟨_, _, rfl⟩, rfl⟩⟩) hm.2.2.2 d_M_isFree_78 hlk
      · skip
        refine lv_iload hx hb d_M_isFree_35 (lv_at hl 5 rfl) ?_
        refine lv_iload_n hx hb d_M_isFree_37 rfl (lv_at hl 3 rfl) ?_
        refine lv_icmp_eq (tgt := 63) hx hb d_M_isFree_38 (by decide) (fun c38 => ?_) (fun c38 => ?_)
        · skip
          refine lv_iconst (v := nI 1) hx hb d_M_isFree_63 (by decide) ?_
          refine lv_goto (tgt := 68) hx hb d_M_isFree_64 (by decide) ?_
          refine lv_istore (lv' := [(4, .int (nI 1)), (0, .ref x), (1, .ref (ad 30)), (2, .int (nI t.length)), (3, .int but), (5, .int (nI i))]) hx hb d_M_isFree_68 hl (by decide) rfl (fun ls hl => ?_)
          refine n_inc (a := i) (lv' := [(5, .int (nI (i + 1))), (4, .int (nI 1)), (0, .ref x), (1, .ref (ad 30)), (2, .int (nI t.length)), (3, .int but)]) hx hb d_M_isFree_70 hl (k := 5) rfl (by decide) rfl (fun ls hl => ?_)
          refine lv_goto (tgt := 21) hx hb d_M_isFree_73 (by decide) ?_
          have e8 : (decide (nI i = but) || (!decide (A 19 i = nI 1) || !nearM t (NT i))) = true := by rw [decide_eq_true c38]; rfl
          rw [show cn - i = (cn - (i + 1)) + 1 by omega, frM, c32, if_pos rfl, e8] at hres
          exact ih (i + 1) true _ _ H locs (by omega) (by omega) hm hres ls (lv_sub hl [2, 3, 4, 5, 1, 0] rfl)
        · skip
          refine lv_aload_n hx hb d_M_isFree_41 rfl (lv_at hl 0 rfl) ?_
          refine m_get hx hb hts hown hK hm 19 (by decide) (hts (.fieldLink "RegistryLogModel" 56 "RegistryLogModel" "nameState" "[I") (in_4 (List.mem_of_getElem? (i := 228) rfl) rfl)) rfl (v := .ref (ad 19)) rfl d_M_isFree_42 ?_
          refine lv_iload hx hb d_M_isFree_45 (lv_at hl 5 rfl) ?_
          refine m_ld hx hb hK hm 19 rfl i rfl (show i < 240 from by omega) d_M_isFree_47 ?_
          refine W.eq (g2 := F0 m 48 ls [.int (A 19 i)]) rfl ?_
          refine lv_iconst (v := nI 1) hx hb d_M_isFree_48 (by decide) ?_
          refine lv_icmp_ne (tgt := 63) hx hb d_M_isFree_49 (by decide) (fun c49 => ?_) (fun c49 => ?_)
          · skip
            refine lv_iconst (v := nI 1) hx hb d_M_isFree_63 (by decide) ?_
            refine lv_goto (tgt := 68) hx hb d_M_isFree_64 (by decide) ?_
            refine lv_istore (lv' := [(4, .int (nI 1)), (0, .ref x), (1, .ref (ad 30)), (2, .int (nI t.length)), (3, .int but), (5, .int (nI i))]) hx hb d_M_isFree_68 hl (by decide) rfl (fun ls hl => ?_)
            refine n_inc (a := i) (lv' := [(5, .int (nI (i + 1))), (4, .int (nI 1)), (0, .ref x), (1, .ref (ad 30)), (2, .int (nI t.length)), (3, .int but)]) hx hb d_M_isFree_70 hl (k := 5) rfl (by decide) rfl (fun ls hl => ?_)
            refine lv_goto (tgt := 21) hx hb d_M_isFree_73 (by decide) ?_
            have e8 : (decide (nI i = but) || (!decide (A 19 i = nI 1) || !nearM t (NT i))) = true := by rw [decide_eq_false c38, decide_eq_false c49]; rfl
            rw [show cn - i = (cn - (i + 1)) + 1 by omega, frM, c32, if_pos rfl, e8] at hres
            exact ih (i + 1) true _ _ H locs (by omega) (by omega) hm hres ls (lv_sub hl [2, 3, 4, 5, 1, 0] rfl)
          · skip
            refine lv_aload_n hx hb d_M_isFree_52 rfl (lv_at hl 0 rfl) ?_
            refine lv_aload_n hx hb d_M_isFree_53 rfl (lv_at hl 1 rfl) ?_
            refine lv_iload_n hx hb d_M_isFree_54 rfl (lv_at hl 2 rfl) ?_
            refine lv_iload hx hb d_M_isFree_55 (lv_at hl 5 rfl) ?_
            obtain ⟨hu10, hut, hus, hcu⟩ := hnt i (by omega)
            refine aM (rV (As := [.ref (ad 30), .int (nI t.length), .int (nI i)]) (rest := []) C0 (c_M_isNear30 l g _ x ad _ _ _ hm.1 t (NT i) i ht hu10 (by omega) htx hut hus hct hcu) (m_zK hZ hm) k_M_isFree_57 rfl rfl ⟨Nat.le_of_ble_eq_true rfl, Nat.le_of_ble_eq_true rfl⟩ (m_recv hK hm) rfl hl.1 rfl (Nat.le_of_ble_eq_true rfl) d_M_isFree_57 ⟨Nat.zero_le _, Nat.zero_le _⟩) hm (fun v F1 A1 B1 H locs hp hm => ?_)
            obtain ⟨rfl, eF, ⟨f3, f4, eA⟩, eB⟩ := hp
            rw [eF, eA, eB, updA4] at hm
            refine W.eq (g2 := F0 m 60 ls [.int (bI (nearM t (NT i)))]) rfl ?_
            refine z_ne (tgt := 67) (v := nearM t (NT i)) hx hb d_M_isFree_60 (by decide) (fun c60 => ?_) (fun c60 => ?_)
            · skip
              refine lv_iconst (v := nI 0) hx hb d_M_isFree_67 (by decide) ?_
              refine lv_istore (lv' := [(4, .int (nI 0)), (0, .ref x), (1, .ref (ad 30)), (2, .int (nI t.length)), (3, .int but), (5, .int (nI i))]) hx hb d_M_isFree_68 hl (by decide) rfl (fun ls hl => ?_)
              refine n_inc (a := i) (lv' := [(5, .int (nI (i + 1))), (4, .int (nI 0)), (0, .ref x), (1, .ref (ad 30)), (2, .int (nI t.length)), (3, .int but)]) hx hb d_M_isFree_70 hl (k := 5) rfl (by decide) rfl (fun ls hl => ?_)
              refine lv_goto (tgt := 21) hx hb d_M_isFree_73 (by decide) ?_
              have e8 : (decide (nI i = but) || (!decide (A 19 i = nI 1) || !nearM t (NT i))) = false := by rw [decide_eq_false c38, decide_eq_true c49, c60]; rfl
              rw [show cn - i = (cn - (i + 1)) + 1 by omega, frM, c32, if_pos rfl, e8] at hres
              exact ih (i + 1) false _ _ H locs (by omega) (by omega) hm hres ls (lv_sub hl [2, 3, 4, 5, 1, 0] rfl)
            · skip
              refine lv_iconst (v := nI 1) hx hb d_M_isFree_63 (by decide) ?_
              refine lv_goto (tgt := 68) hx hb d_M_isFree_64 (by decide) ?_
              refine lv_istore (lv' := [(4, .int (nI 1)), (0, .ref x), (1, .ref (ad 30)), (2, .int (nI t.length)), (3, .int but), (5, .int (nI i))]) hx hb d_M_isFree_68 hl (by decide) rfl (fun ls hl => ?_)
              refine n_inc (a := i) (lv' := [(5, .int (nI (i + 1))), (4, .int (nI 1)), (0, .ref x), (1, .ref (ad 30)), (2, .int (nI t.length)), (3, .int but)]) hx hb d_M_isFree_70 hl (k := 5) rfl (by decide) rfl (fun ls hl => ?_)
              refine lv_goto (tgt := 21) hx hb d_M_isFree_73 (by decide) ?_
              have e8 : (decide (nI i = but) || (!decide (A 19 i = nI 1) || !nearM t (NT i))) = true := by rw [decide_eq_false c38, decide_eq_true c49, c60]; rfl
              rw [show cn - i = (cn - (i + 1)) + 1 by omega, frM, c32, if_pos rfl, e8] at hres
              exact ih (i + 1) true _ _ H locs (by omega) (by omega) hm hres ls (lv_sub hl [2, 3, 4, 5, 1, 0] rfl)
set_option maxHeartbeats 4000000 in
set_option maxRecDepth 100000 in
theorem c_M_isFree30 (l : Launch) (g : gG) (H : Heap) (x : Nat) (ad : Nat → Nat) (F : Nat → Int32) (A : Nat → Nat → Int32) (B : Nat → Nat → Int64) (hm0 : mW g H x ad F A B) (t : List Nat) (cn : Nat) (NT : Nat → List Nat) (ht : t.length ≤ 10) (htx : txt A 30 0 t) (hct : ∀ k, t.getD k 0 < 128) (hrep : repN F A cn NT) (but : Int32) : Met l y_M_isFree (wC y_M_isFree b_M_isFree 6 (some .boolean)) (rmk 2 0 0 52) (pC g H [.ref x, .ref (ad 30), .int (nI t.length), .int but]) (qM g H x ad (fun v F1 A1 B1 => v = some (.int (bI (frM (A 19) t NT but cn 0 (decide (metA A 30 0 t.length cn 0 (-1) = -1))))) ∧ F1 = F ∧ (∃ f f2, A1 = updA (updA A 34 f) 35 f2) ∧ B1 = B)) 0 0 (mN x ad) := by
  refine mB (by decide) (Nat.le_of_ble_eq_true rfl) ?_
  intro p e s m below meth c ls C0 hH hZ hnm hl
  have C0 : cF g p s m _ meth c b_M_isFree 6 "RegistryLogModel" (some .boolean) := C0
  obtain ⟨hx, hb, hml, hown, hts, hr, hlk, hK⟩ := id C0
  subst hH
  have hl : lv_has ls 6 [(0, .ref x), (1, .ref (ad 30)), (2, .int (nI t.length)), (3, .int but)] := hl
  have hm := mS.rf hm0
  obtain ⟨hcn, hcn2, hnt⟩ := id hrep
  refine lv_aload_n hx hb d_M_isFree_0 rfl (lv_at hl 0 rfl) ?_
  refine lv_aload_n hx hb d_M_isFree_1 rfl (lv_at hl 1 rfl) ?_
  refine lv_iconst (v := nI 0) hx hb d_M_isFree_2 (by decide) ?_
  refine lv_iload_n hx hb d_M_isFree_3 rfl (lv_at hl 2 rfl) ?_
  refine aM (rV (As := [.ref (ad 30), .int (nI 0), .int (nI t.length)]) (rest := []) C0 (c_M_met l g _ x ad _ _ _ hm.1 30 0 t.length cn rfl ht (by show 0 + t.length ≤ 10; omega) hcn hcn2) (m_zK hZ hm) k_M_isFree_4 rfl rfl ⟨Nat.le_of_ble_eq_true rfl, Nat.le_of_ble_eq_true rfl⟩ (m_recv hK hm) rfl hl.1 rfl (Nat.le_of_ble_eq_true rfl) d_M_isFree_4 ⟨Nat.zero_le _, Nat.zero_le _⟩) hm (fun v F1 A1 B1 H locs hp hm => ?_)
  obtain ⟨rfl, eF, eA, eB⟩ := hp
  rw [eF, eA, eB] at hm
  refine W.eq (g2 := F0 m 7 ls [.int (metA A 30 0 t.length cn 0 (-1))]) rfl ?_
  refine lv_iconst (v := (-1)) hx hb d_M_isFree_7 (by decide) ?_
  refine lv_icmp_ne (tgt := 15) hx hb d_M_isFree_8 (by decide) (fun c8 => ?_) (fun c8 => ?_)
  · skip
    refine lv_iconst (v := nI 0) hx hb d_M_isFree_15 (by decide) ?_
    refine lv_istore (lv' := [(4, .int (nI 0)), (0, .ref x), (1, .ref (ad 30)), (2, .int (nI t.length)), (3, .int but)]) hx hb d_M_isFree_16 hl (by decide) rfl (fun ls hl => ?_)
    refine lv_iconst (v := nI 0) hx hb d_M_isFree_18 (by decide) ?_
    refine lv_istore (lv' := [(5, .int (nI 0)), (4, .int (nI 0)), (0, .ref x), (1, .ref (ad 30)), (2, .int (nI t.length)), (3, .int but)]) hx hb d_M_isFree_19 hl (by decide) rfl (fun ls hl => ?_)
    rw [decide_eq_false c8]
    exact lp_M_isFree30 C0 hZ t cn NT ht htx hct hrep but _ (cn + 1) 0 false (A 34) (A 35) H locs (Nat.zero_le _) (by omega) (by rw [updA_id2]; exact hm) rfl ls (lv_sub hl [2, 3, 4, 5, 1, 0] rfl)
  · skip
    refine lv_iconst (v := nI 1) hx hb d_M_isFree_11 (by decide) ?_
    refine lv_goto (tgt := 16) hx hb d_M_isFree_12 (by decide) ?_
    refine lv_istore (lv' := [(4, .int (nI 1)), (0, .ref x), (1, .ref (ad 30)), (2, .int (nI t.length)), (3, .int but)]) hx hb d_M_isFree_16 hl (by decide) rfl (fun ls hl => ?_)
    refine lv_iconst (v := nI 0) hx hb d_M_isFree_18 (by decide) ?_
    refine lv_istore (lv' := [(5, .int (nI 0)), (4, .int (nI 1)), (0, .ref x), (1, .ref (ad 30)), (2, .int (nI t.length)), (3, .int but)]) hx hb d_M_isFree_19 hl (by decide) rfl (fun ls hl => ?_)
    rw [decide_eq_true c8]
    exact lp_M_isFree30 C0 hZ t cn NT ht htx hct hrep but _ (cn + 1) 0 true (A 34) (A 35) H locs (Nat.zero_le _) (by omega) (by rw [updA_id2]; exact hm) rfl ls (lv_sub hl [2, 3, 4, 5, 1, 0] rfl)
set_option maxHeartbeats 4000000 in
set_option maxRecDepth 100000 in
theorem lp_M_isFree31 {p : Program} {l : Launch} {e : Env} {s : State} {m : MethodId} {args : Array Value} {below : List Frame} {meth : Method} {c : Code} {g : gG} (C0 : cF g p s m args meth c b_M_isFree 6 "RegistryLogModel" (some .boolean)) (hZ : zK g s s.heap) {x : Nat} {ad : Nat → Nat} {F : Nat → Int32} {A : Nat → Nat → Int32} {B : Nat → Nat → Int64} (t : List Nat) (cn : Nat) (NT : Nat → List Nat) (ht : t.length ≤ 10) (htx : txt A 31 0 t) (hct : ∀ k, t.getD k 0 < 128) (hrep : repN F A cn NT) (but : Int32) (res : Bool) :
    ∀ (n i : Nat) (b0 : Bool) (f f2 : Nat → Int32) (H : Heap) (locs : List Loc), i ≤ cn → cn + 1 ≤ i + n → mS g s.heap H x ad F (updA (updA A 34 f) 35 f2) B locs → frM (A 19) t NT but (cn - i) i b0 = res → ∀ (ls : Array Slot), lv_has ls 6 [(0, .ref x), (1, .ref (ad 31)), (2, .int (nI t.length)), (3, .int but), (4, .int (bI b0)), (5, .int (nI i))] → W p l e (rmk 2 0 0 52) s m args below meth c H locs 0 0 (MQ below (qM g s.heap x ad (fun v F1 A1 B1 => v = some (.int (bI res)) ∧ F1 = F ∧ (∃ f f2, A1 = updA (updA A 34 f) 35 f2) ∧ B1 = B)) args s 0 0 (mN x ad)) (F0 m 21 ls []) := by
  obtain ⟨hx, hb, hml, hown, hts, hr, hlk, hK⟩ := id C0
  obtain ⟨hcn, hcn2, hnt⟩ := hrep
  intro n
  induction n with
  | zero => intro i b0 f f2 H locs h1 h2; exact absurd h2 (by omega)
  | succ n ih =>
    intro i b0 f f2 H locs hi hin hm hres ls hl
    refine lv_iload hx hb d_M_isFree_21 (lv_at hl 5 rfl) ?_
    refine lv_aload_n hx hb d_M_isFree_23 rfl (lv_at hl 0 rfl) ?_
    refine m_get hx hb hts hown hK hm 27 (by decide) (hts (.fieldLink "RegistryLogModel" 133 "RegistryLogModel" "names" "I") (in_4 (List.mem_of_getElem? (i := 236) rfl) rfl)) rfl (v := .int (nI cn)) (congrArg (fun z => some (Value.int z)) hcn) d_M_isFree_24 ?_
    refine n_ge (tgt := 76) (a := i) (b := cn) hx hb d_M_isFree_27 (by decide) (by omega) (by omega) (fun c27 => ?_) (fun c27 => ?_)
    · skip
      refine lv_iload hx hb d_M_isFree_76 (lv_at hl 4 rfl) ?_
      rw [show cn - i = 0 by omega, frM] at hres
      exact W.zret hx hb hr (by cases b0 <;> rfl) (fun t9 ht hW => ⟨_, _, _, _, rfl, by rw [ht]; exact ⟨hm.1, hm.2.1, hm.2.2.1, fun _ h => by cases h⟩, ⟨by rw [← hres], rfl, ⟨_, _, rfl⟩, rfl⟩⟩) hm.2.2.2 d_M_isFree_78 hlk
    · skip
      refine lv_iload hx hb d_M_isFree_30 (lv_at hl 4 rfl) ?_
      refine z_eq (tgt := 76) (v := b0) hx hb d_M_isFree_32 (by decide) (fun c32 => ?_) (fun c32 => ?_)
      · skip
        refine lv_iload hx hb d_M_isFree_76 (lv_at hl 4 rfl) ?_
        rw [c32, frM_f, ← c32] at hres
        exact W.zret hx hb hr (by cases b0 <;> rfl) (fun t9 ht hW => ⟨_, _, _, _, rfl, by rw [ht]; exact ⟨hm.1, hm.2.1, hm.2.2.1, fun _ h => by cases h⟩, ⟨by rw [← hres], rfl, ⟨_, _, rfl⟩, rfl⟩⟩) hm.2.2.2 d_M_isFree_78 hlk
      · skip
        refine lv_iload hx hb d_M_isFree_35 (lv_at hl 5 rfl) ?_
        refine lv_iload_n hx hb d_M_isFree_37 rfl (lv_at hl 3 rfl) ?_
        refine lv_icmp_eq (tgt := 63) hx hb d_M_isFree_38 (by decide) (fun c38 => ?_) (fun c38 => ?_)
        · skip
          refine lv_iconst (v := nI 1) hx hb d_M_isFree_63 (by decide) ?_
          refine lv_goto (tgt := 68) hx hb d_M_isFree_64 (by decide) ?_
          refine lv_istore (lv' := [(4, .int (nI 1)), (0, .ref x), (1, .ref (ad 31)), (2, .int (nI t.length)), (3, .int but), (5, .int (nI i))]) hx hb d_M_isFree_68 hl (by decide) rfl (fun ls hl => ?_)
          refine n_inc (a := i) (lv' := [(5, .int (nI (i + 1))), (4, .int (nI 1)), (0, .ref x), (1, .ref (ad 31)), (2, .int (nI t.length)), (3, .int but)]) hx hb d_M_isFree_70 hl (k := 5) rfl (by decide) rfl (fun ls hl => ?_)
          refine lv_goto (tgt := 21) hx hb d_M_isFree_73 (by decide) ?_
          have e8 : (decide (nI i = but) || (!decide (A 19 i = nI 1) || !nearM t (NT i))) = true := by rw [decide_eq_true c38]; rfl
          rw [show cn - i = (cn - (i + 1)) + 1 by omega, frM, c32, if_pos rfl, e8] at hres
          exact ih (i + 1) true _ _ H locs (by omega) (by omega) hm hres ls (lv_sub hl [2, 3, 4, 5, 1, 0] rfl)
        · skip
          refine lv_aload_n hx hb d_M_isFree_41 rfl (lv_at hl 0 rfl) ?_
          refine m_get hx hb hts hown hK hm 19 (by decide) (hts (.fieldLink "RegistryLogModel" 56 "RegistryLogModel" "nameState" "[I") (in_4 (List.mem_of_getElem? (i := 228) rfl) rfl)) rfl (v := .ref (ad 19)) rfl d_M_isFree_42 ?_
          refine lv_iload hx hb d_M_isFree_45 (lv_at hl 5 rfl) ?_
          refine m_ld hx hb hK hm 19 rfl i rfl (show i < 240 from by omega) d_M_isFree_47 ?_
          refine W.eq (g2 := F0 m 48 ls [.int (A 19 i)]) rfl ?_
          refine lv_iconst (v := nI 1) hx hb d_M_isFree_48 (by decide) ?_
          refine lv_icmp_ne (tgt := 63) hx hb d_M_isFree_49 (by decide) (fun c49 => ?_) (fun c49 => ?_)
          · skip
            refine lv_iconst (v := nI 1) hx hb d_M_isFree_63 (by decide) ?_
            refine lv_goto (tgt := 68) hx hb d_M_isFree_64 (by decide) ?_
            refine lv_istore (lv' := [(4, .int (nI 1)), (0, .ref x), (1, .ref (ad 31)), (2, .int (nI t.length)), (3, .int but), (5, .int (nI i))]) hx hb d_M_isFree_68 hl (by decide) rfl (fun ls hl => ?_)
            refine n_inc (a := i) (lv' := [(5, .int (nI (i + 1))), (4, .int (nI 1)), (0, .ref x), (1, .ref (ad 31)), (2, .int (nI t.length)), (3, .int but)]) hx hb d_M_isFree_70 hl (k := 5) rfl (by decide) rfl (fun ls hl => ?_)
            refine lv_goto (tgt := 21) hx hb d_M_isFree_73 (by decide) ?_
            have e8 : (decide (nI i = but) || (!decide (A 19 i = nI 1) || !nearM t (NT i))) = true := by rw [decide_eq_false c38, decide_eq_false c49]; rfl
            rw [show cn - i = (cn - (i + 1)) + 1 by omega, frM, c32, if_pos rfl, e8] at hres
            exact ih (i + 1) true _ _ H locs (by omega) (by omega) hm hres ls (lv_sub hl [2, 3, 4, 5, 1, 0] rfl)
          · skip
            refine lv_aload_n hx hb d_M_isFree_52 rfl (lv_at hl 0 rfl) ?_
            refine lv_aload_n hx hb d_M_isFree_53 rfl (lv_at hl 1 rfl) ?_
            refine lv_iload_n hx hb d_M_isFree_54 rfl (lv_at hl 2 rfl) ?_
            refine lv_iload hx hb d_M_isFree_55 (lv_at hl 5 rfl) ?_
            obtain ⟨hu10, hut, hus, hcu⟩ := hnt i (by omega)
            refine aM (rV (As := [.ref (ad 31), .int (nI t.length), .int (nI i)]) (rest := []) C0 (c_M_isNear31 l g _ x ad _ _ _ hm.1 t (NT i) i ht hu10 (by omega) htx hut hus hct hcu) (m_zK hZ hm) k_M_isFree_57 rfl rfl ⟨Nat.le_of_ble_eq_true rfl, Nat.le_of_ble_eq_true rfl⟩ (m_recv hK hm) rfl hl.1 rfl (Nat.le_of_ble_eq_true rfl) d_M_isFree_57 ⟨Nat.zero_le _, Nat.zero_le _⟩) hm (fun v F1 A1 B1 H locs hp hm => ?_)
            obtain ⟨rfl, eF, ⟨f3, f4, eA⟩, eB⟩ := hp
            rw [eF, eA, eB, updA4] at hm
            refine W.eq (g2 := F0 m 60 ls [.int (bI (nearM t (NT i)))]) rfl ?_
            refine z_ne (tgt := 67) (v := nearM t (NT i)) hx hb d_M_isFree_60 (by decide) (fun c60 => ?_) (fun c60 => ?_)
            · skip
              refine lv_iconst (v := nI 0) hx hb d_M_isFree_67 (by decide) ?_
              refine lv_istore (lv' := [(4, .int (nI 0)), (0, .ref x), (1, .ref (ad 31)), (2, .int (nI t.length)), (3, .int but), (5, .int (nI i))]) hx hb d_M_isFree_68 hl (by decide) rfl (fun ls hl => ?_)
              refine n_inc (a := i) (lv' := [(5, .int (nI (i + 1))), (4, .int (nI 0)), (0, .ref x), (1, .ref (ad 31)), (2, .int (nI t.length)), (3, .int but)]) hx hb d_M_isFree_70 hl (k := 5) rfl (by decide) rfl (fun ls hl => ?_)
              refine lv_goto (tgt := 21) hx hb d_M_isFree_73 (by decide) ?_
              have e8 : (decide (nI i = but) || (!decide (A 19 i = nI 1) || !nearM t (NT i))) = false := by rw [decide_eq_false c38, decide_eq_true c49, c60]; rfl
              rw [show cn - i = (cn - (i + 1)) + 1 by omega, frM, c32, if_pos rfl, e8] at hres
              exact ih (i + 1) false _ _ H locs (by omega) (by omega) hm hres ls (lv_sub hl [2, 3, 4, 5, 1, 0] rfl)
            · skip
              refine lv_iconst (v := nI 1) hx hb d_M_isFree_63 (by decide) ?_
              refine lv_goto (tgt := 68) hx hb d_M_isFree_64 (by decide) ?_
              refine lv_istore (lv' := [(4, .int (nI 1)), (0, .ref x), (1, .ref (ad 31)), (2, .int (nI t.length)), (3, .int but), (5, .int (nI i))]) hx hb d_M_isFree_68 hl (by decide) rfl (fun ls hl => ?_)
              refine n_inc (a := i) (lv' := [(5, .int (nI (i + 1))), (4, .int (nI 1)), (0, .ref x), (1, .ref (ad 31)), (2, .int (nI t.length)), (3, .int but)]) hx hb d_M_isFree_70 hl (k := 5) rfl (by decide) rfl (fun ls hl => ?_)
              refine lv_goto (tgt := 21) hx hb d_M_isFree_73 (by decide) ?_
              have e8 : (decide (nI i = but) || (!decide (A 19 i = nI 1) || !nearM t (NT i))) = true := by rw [decide_eq_false c38, decide_eq_true c49, c60]; rfl
              rw [show cn - i = (cn - (i + 1)) + 1 by omega, frM, c32, if_pos rfl, e8] at hres
              exact ih (i + 1) true _ _ H locs (by omega) (by omega) hm hres ls (lv_sub hl [2, 3, 4, 5, 1, 0] rfl)
set_option maxHeartbeats 4000000 in
set_option maxRecDepth 100000 in
theorem c_M_isFree31 (l : Launch) (g : gG) (H : Heap) (x : Nat) (ad : Nat → Nat) (F : Nat → Int32) (A : Nat → Nat → Int32) (B : Nat → Nat → Int64) (hm0 : mW g H x ad F A B) (t : List Nat) (cn : Nat) (NT : Nat → List Nat) (ht : t.length ≤ 10) (htx : txt A 31 0 t) (hct : ∀ k, t.getD k 0 < 128) (hrep : repN F A cn NT) (but : Int32) : Met l y_M_isFree (wC y_M_isFree b_M_isFree 6 (some .boolean)) (rmk 2 0 0 52) (pC g H [.ref x, .ref (ad 31), .int (nI t.length), .int but]) (qM g H x ad (fun v F1 A1 B1 => v = some (.int (bI (frM (A 19) t NT but cn 0 (decide (metA A 31 0 t.length cn 0 (-1) = -1))))) ∧ F1 = F ∧ (∃ f f2, A1 = updA (updA A 34 f) 35 f2) ∧ B1 = B)) 0 0 (mN x ad) := by
  refine mB (by decide) (Nat.le_of_ble_eq_true rfl) ?_
  intro p e s m below meth c ls C0 hH hZ hnm hl
  have C0 : cF g p s m _ meth c b_M_isFree 6 "RegistryLogModel" (some .boolean) := C0
  obtain ⟨hx, hb, hml, hown, hts, hr, hlk, hK⟩ := id C0
  subst hH
  have hl : lv_has ls 6 [(0, .ref x), (1, .ref (ad 31)), (2, .int (nI t.length)), (3, .int but)] := hl
  have hm := mS.rf hm0
  obtain ⟨hcn, hcn2, hnt⟩ := id hrep
  refine lv_aload_n hx hb d_M_isFree_0 rfl (lv_at hl 0 rfl) ?_
  refine lv_aload_n hx hb d_M_isFree_1 rfl (lv_at hl 1 rfl) ?_
  refine lv_iconst (v := nI 0) hx hb d_M_isFree_2 (by decide) ?_
  refine lv_iload_n hx hb d_M_isFree_3 rfl (lv_at hl 2 rfl) ?_
  refine aM (rV (As := [.ref (ad 31), .int (nI 0), .int (nI t.length)]) (rest := []) C0 (c_M_met l g _ x ad _ _ _ hm.1 31 0 t.length cn rfl ht (by show 0 + t.length ≤ 10; omega) hcn hcn2) (m_zK hZ hm) k_M_isFree_4 rfl rfl ⟨Nat.le_of_ble_eq_true rfl, Nat.le_of_ble_eq_true rfl⟩ (m_recv hK hm) rfl hl.1 rfl (Nat.le_of_ble_eq_true rfl) d_M_isFree_4 ⟨Nat.zero_le _, Nat.zero_le _⟩) hm (fun v F1 A1 B1 H locs hp hm => ?_)
  obtain ⟨rfl, eF, eA, eB⟩ := hp
  rw [eF, eA, eB] at hm
  refine W.eq (g2 := F0 m 7 ls [.int (metA A 31 0 t.length cn 0 (-1))]) rfl ?_
  refine lv_iconst (v := (-1)) hx hb d_M_isFree_7 (by decide) ?_
  refine lv_icmp_ne (tgt := 15) hx hb d_M_isFree_8 (by decide) (fun c8 => ?_) (fun c8 => ?_)
  · skip
    refine lv_iconst (v := nI 0) hx hb d_M_isFree_15 (by decide) ?_
    refine lv_istore (lv' := [(4, .int (nI 0)), (0, .ref x), (1, .ref (ad 31)), (2, .int (nI t.length)), (3, .int but)]) hx hb d_M_isFree_16 hl (by decide) rfl (fun ls hl => ?_)
    refine lv_iconst (v := nI 0) hx hb d_M_isFree_18 (by decide) ?_
    refine lv_istore (lv' := [(5, .int (nI 0)), (4, .int (nI 0)), (0, .ref x), (1, .ref (ad 31)), (2, .int (nI t.length)), (3, .int but)]) hx hb d_M_isFree_19 hl (by decide) rfl (fun ls hl => ?_)
    rw [decide_eq_false c8]
    exact lp_M_isFree31 C0 hZ t cn NT ht htx hct hrep but _ (cn + 1) 0 false (A 34) (A 35) H locs (Nat.zero_le _) (by omega) (by rw [updA_id2]; exact hm) rfl ls (lv_sub hl [2, 3, 4, 5, 1, 0] rfl)
  · skip
    refine lv_iconst (v := nI 1) hx hb d_M_isFree_11 (by decide) ?_
    refine lv_goto (tgt := 16) hx hb d_M_isFree_12 (by decide) ?_
    refine lv_istore (lv' := [(4, .int (nI 1)), (0, .ref x), (1, .ref (ad 31)), (2, .int (nI t.length)), (3, .int but)]) hx hb d_M_isFree_16 hl (by decide) rfl (fun ls hl => ?_)
    refine lv_iconst (v := nI 0) hx hb d_M_isFree_18 (by decide) ?_
    refine lv_istore (lv' := [(5, .int (nI 0)), (4, .int (nI 1)), (0, .ref x), (1, .ref (ad 31)), (2, .int (nI t.length)), (3, .int but)]) hx hb d_M_isFree_19 hl (by decide) rfl (fun ls hl => ?_)
    rw [decide_eq_true c8]
    exact lp_M_isFree31 C0 hZ t cn NT ht htx hct hrep but _ (cn + 1) 0 true (A 34) (A 35) H locs (Nat.zero_le _) (by omega) (by rw [updA_id2]; exact hm) rfl ls (lv_sub hl [2, 3, 4, 5, 1, 0] rfl)
theorem k_M_takes_63 : kV "RegistryLogModel" 119 "RegistryLogModel" y_M_isName b_M_isName 5 (some .boolean) 2 := ⟨(in_5 (List.mem_of_getElem? (i := 126) rfl) rfl), (in_5 (List.mem_of_getElem? (i := 128) rfl) rfl), (in_0 (List.mem_of_getElem? (i := 7) rfl) rfl), (in_1 (List.mem_of_getElem? (i := 22) rfl) rfl), (in_5 (List.mem_of_getElem? (i := 129) rfl) rfl), ⟨by decide, by decide, by decide +kernel⟩⟩
theorem k_M_takes_78 : kV "RegistryLogModel" 119 "RegistryLogModel" y_M_isName b_M_isName 5 (some .boolean) 2 := ⟨(in_5 (List.mem_of_getElem? (i := 126) rfl) rfl), (in_5 (List.mem_of_getElem? (i := 128) rfl) rfl), (in_0 (List.mem_of_getElem? (i := 7) rfl) rfl), (in_1 (List.mem_of_getElem? (i := 22) rfl) rfl), (in_5 (List.mem_of_getElem? (i := 129) rfl) rfl), ⟨by decide, by decide, by decide +kernel⟩⟩
set_option maxHeartbeats 4000000 in
set_option maxRecDepth 100000 in
theorem lp_M_takes1 {p : Program} {l : Launch} {e : Env} {s : State} {m : MethodId} {args : Array Value} {below : List Frame} {meth : Method} {c : Code} {g : gG} {R : Room} {Q : State → Prop} (C0 : cF g p s m args meth c b_M_takes 5 "RegistryLogModel" (some .boolean)) {x : Nat} {ad : Nat → Nat} {F : Nat → Int32} {A : Nat → Nat → Int32} {B : Nat → Nat → Int64} (bb : Bool) (nn cut : Nat) (hcut : cut ≤ 10) (K : ∀ (H : Heap) (locs : List Loc), mS g s.heap H x ad F (updA A 30 (va_cpy (A 1) (A 30) 0 0 cut)) B locs → ∀ (ls : Array Slot), lv_has ls 5 [(0, .ref x), (1, .int (bI bb)), (2, .int (nI nn)), (3, .int (nI cut)), (4, .int (nI cut))] → W p l e R s m args below meth c H locs 0 0 Q (F0 m 120 ls [])) :
    ∀ (n i : Nat) (H : Heap) (locs : List Loc), i ≤ cut → cut + 1 ≤ i + n → mS g s.heap H x ad F (updA A 30 (va_cpy (A 1) (A 30) 0 0 i)) B locs → ∀ (ls : Array Slot), lv_has ls 5 [(0, .ref x), (1, .int (bI bb)), (2, .int (nI nn)), (3, .int (nI cut)), (4, .int (nI i))] → W p l e R s m args below meth c H locs 0 0 Q (F0 m 94 ls []) := by
  obtain ⟨hx, hb, hml, hown, hts, hr, hlk, hK⟩ := id C0
  intro n
  induction n with
  | zero => intro i H locs h1 h2; exact absurd h2 (by omega)
  | succ n ih =>
    intro i H locs hi hin hm ls hl
    refine lv_iload hx hb d_M_takes_94 (lv_at hl 4 rfl) ?_
    refine lv_iload_n hx hb d_M_takes_96 rfl (lv_at hl 3 rfl) ?_
    refine n_ge (tgt := 120) (a := i) (b := cut) hx hb d_M_takes_97 (by decide) (by omega) (by omega) (fun c97 => ?_) (fun c97 => ?_)
    · skip
      have e9 : i = cut := by omega
      rw [e9] at hm hl
      exact K H locs hm ls (lv_sub hl [0, 1, 2, 3, 4] rfl)
    · skip
      refine lv_aload_n hx hb d_M_takes_100 rfl (lv_at hl 0 rfl) ?_
      refine m_get hx hb hts hown hK hm 30 (by decide) (hts (.fieldLink "RegistryLogModel" 80 "RegistryLogModel" "one" "[I") (in_4 (List.mem_of_getElem? (i := 239) rfl) rfl)) rfl (v := .ref (ad 30)) rfl d_M_takes_101 ?_
      refine lv_iload hx hb d_M_takes_104 (lv_at hl 4 rfl) ?_
      refine lv_aload_n hx hb d_M_takes_106 rfl (lv_at hl 0 rfl) ?_
      refine m_get hx hb hts hown hK hm 1 (by decide) (hts (.fieldLink "RegistryLogModel" 7 "RegistryLogModel" "text" "[I") (in_4 (List.mem_of_getElem? (i := 210) rfl) rfl)) rfl (v := .ref (ad 1)) rfl d_M_takes_107 ?_
      refine lv_iload hx hb d_M_takes_110 (lv_at hl 4 rfl) ?_
      refine m_ld hx hb hK hm 1 rfl (0 + i) (by rw [Nat.zero_add]) (show 0 + i < 24 from by omega) d_M_takes_112 ?_
      refine W.eq (g2 := F0 m 113 ls [.int (A 1 (0 + i)), .int (nI i), .ref (ad 30)]) rfl ?_
      refine m_st hx hb hK hm 30 rfl (0 + i) (by rw [Nat.zero_add]) (show 0 + i < 10 from by omega) d_M_takes_113 (fun H locs hm => ?_)
      have hm : mS g s.heap H x ad F (updA (updA A 30 (va_cpy (A 1) (A 30) 0 0 i)) 30 (upd (va_cpy (A 1) (A 30) 0 0 i) (0 + i) (A 1 (0 + i)))) B locs := hm
      refine n_inc (a := i) (lv' := [(4, .int (nI (i + 1))), (0, .ref x), (1, .int (bI bb)), (2, .int (nI nn)), (3, .int (nI cut))]) hx hb d_M_takes_114 hl (k := 4) rfl (by decide) rfl (fun ls hl => ?_)
      refine lv_goto (tgt := 94) hx hb d_M_takes_117 (by decide) ?_
      rw [updA2, cpy_s] at hm
      exact ih (i + 1) H locs (by omega) (by omega) hm ls (lv_sub hl [1, 2, 3, 4, 0] rfl)
set_option maxHeartbeats 4000000 in
set_option maxRecDepth 100000 in
theorem lp_M_takes2 {p : Program} {l : Launch} {e : Env} {s : State} {m : MethodId} {args : Array Value} {below : List Frame} {meth : Method} {c : Code} {g : gG} {R : Room} {Q : State → Prop} (C0 : cF g p s m args meth c b_M_takes 5 "RegistryLogModel" (some .boolean)) {x : Nat} {ad : Nat → Nat} {F : Nat → Int32} {A : Nat → Nat → Int32} {B : Nat → Nat → Int64} (bb : Bool) (nn cut n2 : Nat) (hn2 : n2 ≤ 10) (hc2 : cut + 1 + n2 ≤ 24) (h33 : F 33 = nI n2) (K : ∀ (H : Heap) (locs : List Loc), mS g s.heap H x ad F (updA A 31 (va_cpy (A 1) (A 31) (cut + 1) 0 n2)) B locs → ∀ (ls : Array Slot), lv_has ls 5 [(0, .ref x), (1, .int (bI bb)), (2, .int (nI nn)), (3, .int (nI cut)), (4, .int (nI n2))] → W p l e R s m args below meth c H locs 0 0 Q (F0 m 173 ls [])) :
    ∀ (n i : Nat) (H : Heap) (locs : List Loc), i ≤ n2 → n2 + 1 ≤ i + n → mS g s.heap H x ad F (updA A 31 (va_cpy (A 1) (A 31) (cut + 1) 0 i)) B locs → ∀ (ls : Array Slot), lv_has ls 5 [(0, .ref x), (1, .int (bI bb)), (2, .int (nI nn)), (3, .int (nI cut)), (4, .int (nI i))] → W p l e R s m args below meth c H locs 0 0 Q (F0 m 140 ls []) := by
  obtain ⟨hx, hb, hml, hown, hts, hr, hlk, hK⟩ := id C0
  intro n
  induction n with
  | zero => intro i H locs h1 h2; exact absurd h2 (by omega)
  | succ n ih =>
    intro i H locs hi hin hm ls hl
    refine lv_iload hx hb d_M_takes_140 (lv_at hl 4 rfl) ?_
    refine lv_aload_n hx hb d_M_takes_142 rfl (lv_at hl 0 rfl) ?_
    refine m_get hx hb hts hown hK hm 33 (by decide) (hts (.fieldLink "RegistryLogModel" 126 "RegistryLogModel" "twoSize" "I") (in_5 (List.mem_of_getElem? (i := 2) rfl) rfl)) rfl (v := .int (nI n2)) (congrArg (fun z => some (Value.int z)) h33) d_M_takes_143 ?_
    refine n_ge (tgt := 173) (a := i) (b := n2) hx hb d_M_takes_146 (by decide) (by omega) (by omega) (fun c146 => ?_) (fun c146 => ?_)
    · skip
      have e9 : i = n2 := by omega
      rw [e9] at hm hl
      exact K H locs hm ls (lv_sub hl [0, 1, 2, 3, 4] rfl)
    · skip
      refine lv_aload_n hx hb d_M_takes_149 rfl (lv_at hl 0 rfl) ?_
      refine m_get hx hb hts hown hK hm 31 (by decide) (hts (.fieldLink "RegistryLogModel" 83 "RegistryLogModel" "two" "[I") (in_5 (List.mem_of_getElem? (i := 0) rfl) rfl)) rfl (v := .ref (ad 31)) rfl d_M_takes_150 ?_
      refine lv_iload hx hb d_M_takes_153 (lv_at hl 4 rfl) ?_
      refine lv_aload_n hx hb d_M_takes_155 rfl (lv_at hl 0 rfl) ?_
      refine m_get hx hb hts hown hK hm 1 (by decide) (hts (.fieldLink "RegistryLogModel" 7 "RegistryLogModel" "text" "[I") (in_4 (List.mem_of_getElem? (i := 210) rfl) rfl)) rfl (v := .ref (ad 1)) rfl d_M_takes_156 ?_
      refine lv_iload_n hx hb d_M_takes_159 rfl (lv_at hl 3 rfl) ?_
      refine lv_iconst (v := nI 1) hx hb d_M_takes_160 (by decide) ?_
      refine n_iadd hx hb d_M_takes_161 ?_
      refine lv_iload hx hb d_M_takes_162 (lv_at hl 4 rfl) ?_
      refine n_iadd hx hb d_M_takes_164 ?_
      refine m_ld hx hb hK hm 1 rfl ((cut + 1) + i) rfl (show (cut + 1) + i < 24 from by omega) d_M_takes_165 ?_
      refine W.eq (g2 := F0 m 166 ls [.int (A 1 ((cut + 1) + i)), .int (nI i), .ref (ad 31)]) rfl ?_
      refine m_st hx hb hK hm 31 rfl (0 + i) (by rw [Nat.zero_add]) (show 0 + i < 10 from by omega) d_M_takes_166 (fun H locs hm => ?_)
      have hm : mS g s.heap H x ad F (updA (updA A 31 (va_cpy (A 1) (A 31) (cut + 1) 0 i)) 31 (upd (va_cpy (A 1) (A 31) (cut + 1) 0 i) (0 + i) (A 1 ((cut + 1) + i)))) B locs := hm
      refine n_inc (a := i) (lv' := [(4, .int (nI (i + 1))), (0, .ref x), (1, .int (bI bb)), (2, .int (nI nn)), (3, .int (nI cut))]) hx hb d_M_takes_167 hl (k := 4) rfl (by decide) rfl (fun ls hl => ?_)
      refine lv_goto (tgt := 140) hx hb d_M_takes_170 (by decide) ?_
      rw [updA2, cpy_s] at hm
      exact ih (i + 1) H locs (by omega) (by omega) hm ls (lv_sub hl [1, 2, 3, 4, 0] rfl)
theorem nameM_le {T : List Nat} {a b : Nat} (h : nameM T a b = true) : b - a ≤ 10 := by
  unfold nameM at h
  split at h
  · rename_i q; exact q.2.1
  · cases h
set_option maxHeartbeats 4000000 in
set_option maxRecDepth 100000 in
/-- takes(false) -/
theorem c_M_takes0 (l : Launch) (g : gG) (H : Heap) (x : Nat) (ad : Nat → Nat) (F : Nat → Int32) (A : Nat → Nat → Int32) (B : Nat → Nat → Int64) (hm0 : mW g H x ad F A B) (T : List Nat) (hT : ∀ k, k < T.length → A 1 k = nI (T.getD k 0)) (hc : ∀ k, T.getD k 0 < 128) (hT24 : T.length ≤ 24) (hty : F 2 = nI T.length) : Met l y_M_takes (wC y_M_takes b_M_takes 5 (some .boolean)) (rmk 2 0 0 44) (pC g H [.ref x, .int (bI false)]) (qM g H x ad (fun v F1 A1 B1 => if nameM T 0 T.length = true then (v = some (.int 1) ∧ F1 = upd (upd (upd F 2 (nI 0)) 32 (nI T.length)) 33 (nI 0) ∧ A1 = updA A 30 (va_cpy (A 1) (A 30) 0 0 T.length) ∧ B1 = B) else (v = some (.int 0) ∧ F1 = upd F 2 (nI 0) ∧ A1 = A ∧ B1 = B))) 0 0 (mN x ad) := by
  refine mB (by decide) (Nat.le_of_ble_eq_true rfl) ?_
  intro p e s m below meth c ls C0 hH hZ hnm hl
  have C0 : cF g p s m _ meth c b_M_takes 5 "RegistryLogModel" (some .boolean) := C0
  obtain ⟨hx, hb, hml, hown, hts, hr, hlk, hK⟩ := id C0
  subst hH
  have hl : lv_has ls 5 [(0, .ref x), (1, .int (bI false))] := hl
  have hm := mS.rf hm0
  refine lv_aload_n hx hb d_M_takes_0 rfl (lv_at hl 0 rfl) ?_
  refine m_get hx hb hts hown hK hm 2 (by decide) (hts (.fieldLink "RegistryLogModel" 112 "RegistryLogModel" "typed" "I") (in_4 (List.mem_of_getElem? (i := 211) rfl) rfl)) rfl (v := .int (nI T.length)) (congrArg (fun z => some (Value.int z)) hty) d_M_takes_1 ?_
  refine lv_istore_n (lv' := [(2, .int (nI T.length)), (0, .ref x), (1, .int (bI false))]) hx hb d_M_takes_4 rfl hl (by decide) rfl (fun ls hl => ?_)
  refine lv_aload_n hx hb d_M_takes_5 rfl (lv_at hl 1 rfl) ?_
  refine lv_iconst (v := nI 0) hx hb d_M_takes_6 (by decide) ?_
  refine m_put hx hb hts hown hK hm 2 (by decide) (hts (.fieldLink "RegistryLogModel" 112 "RegistryLogModel" "typed" "I") (in_4 (List.mem_of_getElem? (i := 211) rfl) rfl)) rfl rfl (v := nI 0) rfl rfl rfl rfl d_M_takes_7 (fun H locs hm => ?_)
  refine lv_iload_n hx hb d_M_takes_10 rfl (lv_at hl 0 rfl) ?_
  refine lv_istore_n (lv' := [(3, .int (nI T.length)), (2, .int (nI T.length)), (0, .ref x), (1, .int (bI false))]) hx hb d_M_takes_11 rfl hl (by decide) rfl (fun ls hl => ?_)
  have J : ∀ (ls : Array Slot), lv_has ls 5 [(0, .ref x), (1, .int (bI false)), (2, .int (nI T.length)), (3, .int (nI T.length))] → W p l e (rmk 2 0 0 44) s m ([.ref x, .int (bI false)] : List Value).toArray below meth c H locs 0 0 (MQ below (qM g s.heap x ad (fun v F1 A1 B1 => if nameM T 0 T.length = true then (v = some (.int 1) ∧ F1 = upd (upd (upd F 2 (nI 0)) 32 (nI T.length)) 33 (nI 0) ∧ A1 = updA A 30 (va_cpy (A 1) (A 30) 0 0 T.length) ∧ B1 = B) else (v = some (.int 0) ∧ F1 = upd F 2 (nI 0) ∧ A1 = A ∧ B1 = B))) ([.ref x, .int (bI false)] : List Value).toArray s 0 0 (mN x ad)) (F0 m 51 ls []) := by
    intro ls hl
    refine lv_iload_n hx hb d_M_takes_51 rfl (lv_at hl 1 rfl) ?_
    refine z_eq (tgt := 60) (v := false) hx hb d_M_takes_52 (by decide) (fun c52 => ?_) (fun c52 => ?_)
    · skip
      refine lv_aload_n hx hb d_M_takes_60 rfl (lv_at hl 0 rfl) ?_
      refine lv_iconst (v := nI 0) hx hb d_M_takes_61 (by decide) ?_
      refine lv_iload_n hx hb d_M_takes_62 rfl (lv_at hl 3 rfl) ?_
      refine aP (rV (As := [.int (nI 0), .int (nI T.length)]) (rest := []) C0 (c_M_isName l g _ x ad _ _ _ hm.1 T hT hc hT24 0 T.length (Nat.zero_le _) (Nat.le_refl _)) (m_zK hZ hm) k_M_takes_63 rfl rfl ⟨Nat.le_of_ble_eq_true rfl, Nat.le_of_ble_eq_true rfl⟩ (m_recv hK hm) rfl hl.1 rfl (Nat.le_of_ble_eq_true rfl) d_M_takes_63 ⟨Nat.zero_le _, Nat.zero_le _⟩) ?_
      intro v hv; subst hv
      refine W.eq (g2 := F0 m 66 ls [.int (bI (nameM T 0 T.length))]) rfl ?_
      refine z_eq (tgt := 84) (v := nameM T 0 T.length) hx hb d_M_takes_66 (by decide) (fun c66 => ?_) (fun c66 => ?_)
      · skip
        refine lv_iconst (v := nI 0) hx hb d_M_takes_84 (by decide) ?_
        exact W.zret hx hb hr rfl (fun t9 ht hW => ⟨_, _, _, _, rfl, by rw [ht]; exact ⟨hm.1, hm.2.1, hm.2.2.1, fun _ h => by cases h⟩, by (try dsimp only); rw [if_neg (by rw [c66]; decide)]; exact ⟨rfl, rfl, rfl, rfl⟩⟩) hm.2.2.2 d_M_takes_85 hlk
      · skip
        refine lv_iload_n hx hb d_M_takes_69 rfl (lv_at hl 1 rfl) ?_
        refine z_eq (tgt := 86) (v := false) hx hb d_M_takes_70 (by decide) (fun c70 => ?_) (fun c70 => ?_)
        · skip
          refine lv_aload_n hx hb d_M_takes_86 rfl (lv_at hl 0 rfl) ?_
          refine lv_iload_n hx hb d_M_takes_87 rfl (lv_at hl 3 rfl) ?_
          refine m_put hx hb hts hown hK hm 32 (by decide) (hts (.fieldLink "RegistryLogModel" 123 "RegistryLogModel" "oneSize" "I") (in_5 (List.mem_of_getElem? (i := 1) rfl) rfl)) rfl rfl (v := nI T.length) rfl rfl rfl rfl d_M_takes_88 (fun H locs hm => ?_)
          refine lv_iconst (v := nI 0) hx hb d_M_takes_91 (by decide) ?_
          refine lv_istore (lv' := [(4, .int (nI 0)), (0, .ref x), (1, .int (bI false)), (2, .int (nI T.length)), (3, .int (nI T.length))]) hx hb d_M_takes_92 hl (by decide) rfl (fun ls hl => ?_)
          have h10 := nameM_le c66
          refine lp_M_takes1 C0 (F := (upd (upd F 2 (nI 0)) 32 (nI T.length))) (A := A) false T.length T.length (by omega) (fun H locs hm ls hl => ?_) (T.length + 1) 0 H locs (Nat.zero_le _) (by omega) (by rw [cpy_0, updA_id]; exact hm) ls (lv_sub hl [1, 2, 3, 4, 0] rfl)
          refine lv_aload_n hx hb d_M_takes_120 rfl (lv_at hl 0 rfl) ?_
          refine lv_iload_n hx hb d_M_takes_121 rfl (lv_at hl 1 rfl) ?_
          refine z_eq (tgt := 133) (v := false) hx hb d_M_takes_122 (by decide) (fun c122 => ?_) (fun c122 => ?_)
          · skip
            refine lv_iconst (v := nI 0) hx hb d_M_takes_133 (by decide) ?_
            refine m_put hx hb hts hown hK hm 33 (by decide) (hts (.fieldLink "RegistryLogModel" 126 "RegistryLogModel" "twoSize" "I") (in_5 (List.mem_of_getElem? (i := 2) rfl) rfl)) rfl rfl (v := nI 0) rfl rfl rfl rfl d_M_takes_134 (fun H locs hm => ?_)
            refine lv_iconst (v := nI 0) hx hb d_M_takes_137 (by decide) ?_
            refine lv_istore (lv' := [(4, .int (nI 0)), (0, .ref x), (1, .int (bI false)), (2, .int (nI T.length)), (3, .int (nI T.length))]) hx hb d_M_takes_138 hl (by decide) rfl (fun ls hl => ?_)
            refine lv_iload hx hb d_M_takes_140 (lv_at hl 0 rfl) ?_
            refine lv_aload_n hx hb d_M_takes_142 rfl (lv_at hl 1 rfl) ?_
            refine m_get hx hb hts hown hK hm 33 (by decide) (hts (.fieldLink "RegistryLogModel" 126 "RegistryLogModel" "twoSize" "I") (in_5 (List.mem_of_getElem? (i := 2) rfl) rfl)) rfl (v := .int (nI 0)) rfl d_M_takes_143 ?_
            refine lv_icmp_ge (tgt := 173) hx hb d_M_takes_146 (by decide) (fun c146 => ?_) (fun c146 => ?_)
            · skip
              refine lv_iconst (v := nI 1) hx hb d_M_takes_173 (by decide) ?_
              exact W.zret hx hb hr rfl (fun t9 ht hW => ⟨_, _, _, _, rfl, by rw [ht]; exact ⟨hm.1, hm.2.1, hm.2.2.1, fun _ h => by cases h⟩, by (try dsimp only); rw [if_pos c66]; exact ⟨rfl, rfl, rfl, rfl⟩⟩) hm.2.2.2 d_M_takes_174 hlk
            · skip
              first | exact absurd c146 (by decide) | exact absurd (by decide) c146
          · skip
            first | exact absurd c122 (by decide) | exact absurd (by decide) c122
        · skip
          first | exact absurd c70 (by decide) | exact absurd (by decide) c70
    · skip
      first | exact absurd c52 (by decide) | exact absurd (by decide) c52
  refine lv_iload_n hx hb d_M_takes_12 rfl (lv_at hl 1 rfl) ?_
  refine lv_iconst (v := nI 1) hx hb d_M_takes_13 (by decide) ?_
  refine lv_isub hx hb d_M_takes_14 ?_
  refine lv_topi (fun x_1 ex_1 => ?_)
  refine lv_istore (lv' := [(4, .int x_1), (3, .int (nI T.length)), (2, .int (nI T.length)), (0, .ref x), (1, .int (bI false))]) hx hb d_M_takes_15 hl (by decide) rfl (fun ls hl => ?_)
  refine lv_iload hx hb d_M_takes_17 (lv_at hl 0 rfl) ?_
  refine lv_if_lt (tgt := 51) hx hb d_M_takes_19 (by decide) (fun c19 => ?_) (fun c19 => ?_)
  · skip
    exact J ls (lv_sub hl [3, 4, 2, 1] rfl)
  · skip
    refine lv_iload_n hx hb d_M_takes_22 rfl (lv_at hl 4 rfl) ?_
    refine z_eq (tgt := 51) (v := false) hx hb d_M_takes_23 (by decide) (fun c23 => ?_) (fun c23 => ?_)
    · skip
      exact J ls (lv_sub hl [3, 4, 2, 1] rfl)
    · skip
      first | exact absurd c23 (by decide) | exact absurd (by decide) c23
