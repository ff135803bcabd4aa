theorem fo_s {t : List Nat} {i : Nat} (h : i < t.length) : foldT (t.take (i + 1)) = if t.getD i 0 = 45 then foldT (t.take i) else foldT (t.take i) ++ [t.getD i 0] := by
  have e : t.take (i + 1) = t.take i ++ [t.getD i 0] := by
    rw [List.take_add_one, List.getD_eq_getElem?_getD, List.getElem?_eq_getElem h]; rfl
  rw [e, foldT, foldT, List.filter_append]
  by_cases q : t.getD i 0 = 45
  · rw [if_pos q, q]; simp
  · rw [if_neg q]
    congr 1
    exact List.filter_eq_self.mpr (fun c hc => by rw [List.mem_singleton] at hc; subst hc; simp only [Bool.not_eq_true', beq_eq_false_iff_ne, ne_eq]; exact q)
theorem fo_le (t : List Nat) (i : Nat) : (foldT (t.take i)).length ≤ i := Nat.le_trans (List.length_filter_le _ _) (by rw [List.length_take]; omega)
theorem fo_le2 (t : List Nat) : (foldT t).length ≤ t.length := List.length_filter_le _ _
theorem ap_lt {a : List Nat} {c q : Nat} (h : q < a.length) : (a ++ [c]).getD q 0 = a.getD q 0 := by
  rw [List.getD_eq_getElem?_getD, List.getD_eq_getElem?_getD, List.getElem?_append_left h]
theorem ap_eq {a : List Nat} {c : Nat} : (a ++ [c]).getD a.length 0 = c := by
  rw [List.getD_eq_getElem?_getD, List.getElem?_append_right (Nat.le_refl _), Nat.sub_self]; rfl
set_option maxHeartbeats 4000000 in
set_option maxRecDepth 100000 in
theorem lp_M_fold30 {p : Program} {l : Launch} {e : Env} {s : State} {m : MethodId} {args : Array Value} {below : List Frame} {meth : Method} {c : Code} {g : gG} (C0 : cF g p s m args meth c b_M_fold 6 "RegistryLogModel" (some .int)) {x : Nat} {ad : Nat → Nat} {F : Nat → Int32} {A : Nat → Nat → Int32} {B : Nat → Nat → Int64} (fr : Nat) (t : List Nat) (ht : t.length ≤ 10) (hfr : fr + t.length ≤ 10) (htx : txt A 30 fr t) (hc : ∀ k, t.getD k 0 < 128) :
    ∀ (n i : Nat) (f : Nat → Int32) (H : Heap) (locs : List Loc), i ≤ t.length → t.length + 1 ≤ i + n → mS g s.heap H x ad F (updA A 34 f) B locs → (∀ q, q < (foldT (t.take i)).length → f q = nI ((foldT (t.take i)).getD q 0)) → ∀ (ls : Array Slot), lv_has ls 6 [(0, .ref (ad 30)), (1, .int (nI fr)), (2, .int (nI t.length)), (3, .ref (ad 34)), (4, .int (nI ((foldT (t.take i)).length))), (5, .int (nI i))] → W p l e (rmk 0 0 0 0) s m args below meth c H locs 0 0 (MQ below (qM g s.heap x ad (fun v F1 A1 B1 => v = some (.int (nI (foldT t).length)) ∧ F1 = F ∧ (∃ f, A1 = updA A 34 f ∧ ∀ q, q < (foldT t).length → f q = nI ((foldT t).getD q 0)) ∧ B1 = B)) args s 0 0 (mN x ad)) (F0 m 6 ls []) := by
  obtain ⟨hx, hb, hml, hown, hts, hr, hlk, hK⟩ := id C0
  intro n
  induction n with
  | zero => intro i f H locs h1 h2; exact absurd h2 (by omega)
  | succ n ih =>
    intro i f H locs hi hin hm hf ls hl
    have hle := fo_le t i
    have hci := hc i
    refine lv_iload hx hb d_M_fold_6 (lv_at hl 5 rfl) ?_
    refine lv_iload_n hx hb d_M_fold_8 rfl (lv_at hl 2 rfl) ?_
    refine n_ge (tgt := 59) (a := i) (b := t.length) hx hb d_M_fold_9 (by decide) (by omega) (by omega) (fun c9 => ?_) (fun c9 => ?_)
    · skip
      refine lv_iload hx hb d_M_fold_59 (lv_at hl 4 rfl) ?_
      have e6 : t.take i = t := List.take_of_length_le (by omega)
      rw [e6] at hf
      exact W.iret hx hb hr (fun t9 ht hW => ⟨_, _, _, _, rfl, by rw [ht]; exact ⟨hm.1, hm.2.1, hm.2.2.1, fun _ h => by cases h⟩, ⟨by rw [e6], rfl, ⟨_, rfl, hf⟩, rfl⟩⟩) hm.2.2.2 d_M_fold_61 hlk
    · skip
      refine lv_aload_n hx hb d_M_fold_12 rfl (lv_at hl 3 rfl) ?_
      refine lv_iload hx hb d_M_fold_13 (lv_at hl 4 rfl) ?_
      refine lv_aload_n hx hb d_M_fold_15 rfl (lv_at hl 0 rfl) ?_
      refine lv_iload_n hx hb d_M_fold_16 rfl (lv_at hl 1 rfl) ?_
      refine lv_iload hx hb d_M_fold_17 (lv_at hl 5 rfl) ?_
      refine n_iadd hx hb d_M_fold_19 ?_
      refine m_ld hx hb hK hm 30 rfl (fr + i) rfl (show fr + i < 10 from by omega) d_M_fold_20 ?_
      refine W.eq (g2 := F0 m 21 ls [.int (A 30 (fr + i)), .int (nI ((foldT (t.take i)).length)), .ref (ad 34)]) rfl ?_
      refine W.eq (g2 := F0 m 21 ls [.int (nI (t.getD i 0)), .int (nI ((foldT (t.take i)).length)), .ref (ad 34)]) (by rw [htx i (by omega)]) ?_
      refine m_st hx hb hK hm 34 rfl ((foldT (t.take i)).length) rfl (show (foldT (t.take i)).length < 10 from by omega) d_M_fold_21 (fun H locs hm => ?_)
      have hm : mS g s.heap H x ad F (updA (updA A 34 f) 34 (upd (f) ((foldT (t.take i)).length) (nI (t.getD i 0)))) B locs := hm
      refine lv_iload hx hb d_M_fold_22 (lv_at hl 4 rfl) ?_
      refine lv_aload_n hx hb d_M_fold_24 rfl (lv_at hl 0 rfl) ?_
      refine lv_iload_n hx hb d_M_fold_25 rfl (lv_at hl 1 rfl) ?_
      refine lv_iload hx hb d_M_fold_26 (lv_at hl 5 rfl) ?_
      refine n_iadd hx hb d_M_fold_28 ?_
      refine m_ld hx hb hK hm 30 rfl (fr + i) rfl (show fr + i < 10 from by omega) d_M_fold_29 ?_
      refine W.eq (g2 := F0 m 30 ls [.int (A 30 (fr + i)), .int (nI ((foldT (t.take i)).length))]) rfl ?_
      refine W.eq (g2 := F0 m 30 ls [.int (nI (t.getD i 0)), .int (nI ((foldT (t.take i)).length))]) (by rw [htx i (by omega)]) ?_
      refine lv_bipush (v := nI 45) hx hb d_M_fold_30 (by decide) ?_
      refine n_ne (tgt := 39) (a := t.getD i 0) (b := 45) hx hb d_M_fold_32 (by decide) (by omega) (by omega) (fun c32 => ?_) (fun c32 => ?_)
      · skip
        refine lv_iconst (v := nI 1) hx hb d_M_fold_39 (by decide) ?_
        refine n_iadd hx hb d_M_fold_40 ?_
        refine lv_istore (lv' := [(4, .int (nI (((foldT (t.take i)).length) + 1))), (0, .ref (ad 30)), (1, .int (nI fr)), (2, .int (nI t.length)), (3, .ref (ad 34)), (5, .int (nI i))]) hx hb d_M_fold_41 hl (by decide) rfl (fun ls hl => ?_)
        rw [updA2] at hm
        have e8 : foldT (t.take (i + 1)) = foldT (t.take i) ++ [t.getD i 0] := by rw [fo_s c9, if_neg c32]
        have hf2 : ∀ q, q < (foldT (t.take (i + 1))).length → (upd f (foldT (t.take i)).length (nI (t.getD i 0))) q = nI ((foldT (t.take (i + 1))).getD q 0) := by
          rw [e8]; intro q hq; rw [List.length_append] at hq; simp only [List.length_cons, List.length_nil] at hq; rw [upd]
          by_cases z : q = (foldT (t.take i)).length
          · rw [if_pos z, z, ap_eq]
          · rw [if_neg z, ap_lt (by omega)]; exact hf q (by omega)
        have e7 : (foldT (t.take i)).length + 1 = (foldT (t.take (i + 1))).length := by rw [e8, List.length_append]; rfl
        rw [e7] at hl
        have hle2 := fo_le t (i + 1)
        refine lv_iload hx hb d_M_fold_43 (lv_at hl 0 rfl) ?_
        refine lv_aload_n hx hb d_M_fold_45 rfl (lv_at hl 4 rfl) ?_
        refine va_alen (D := g.1) hx hb hK.1 (hm.1.2.1 34 rfl) 0 4 rfl rfl (v := nI 10) rfl d_M_fold_46 ?_
        refine n_ne (tgt := 53) (a := (foldT (t.take (i + 1))).length) (b := 10) hx hb d_M_fold_47 (by decide) (by omega) (by omega) (fun c47 => ?_) (fun c47 => ?_)
        · skip
          refine n_inc (a := i) (lv' := [(5, .int (nI (i + 1))), (4, .int (nI ((foldT (t.take (i + 1))).length))), (0, .ref (ad 30)), (1, .int (nI fr)), (2, .int (nI t.length)), (3, .ref (ad 34))]) hx hb d_M_fold_53 hl (k := 5) rfl (by decide) rfl (fun ls hl => ?_)
          refine lv_goto (tgt := 6) hx hb d_M_fold_56 (by decide) ?_
          exact ih (i + 1) _ H locs (by omega) (by omega) hm hf2 ls (lv_sub hl [2, 3, 4, 5, 1, 0] rfl)
        · skip
          refine lv_iload hx hb d_M_fold_50 (lv_at hl 0 rfl) ?_
          have e6 : t.take (i + 1) = t := List.take_of_length_le (by omega)
          rw [e6] at hf2
          exact W.iret hx hb hr (fun t9 ht hW => ⟨_, _, _, _, rfl, by rw [ht]; exact ⟨hm.1, hm.2.1, hm.2.2.1, fun _ h => by cases h⟩, ⟨by rw [e6], rfl, ⟨_, rfl, hf2⟩, rfl⟩⟩) hm.2.2.2 d_M_fold_52 hlk
      · skip
        refine lv_iconst (v := nI 0) hx hb d_M_fold_35 (by decide) ?_
        refine lv_goto (tgt := 40) hx hb d_M_fold_36 (by decide) ?_
        refine n_iadd hx hb d_M_fold_40 ?_
        refine lv_istore (lv' := [(4, .int (nI (((foldT (t.take i)).length) + 0))), (0, .ref (ad 30)), (1, .int (nI fr)), (2, .int (nI t.length)), (3, .ref (ad 34)), (5, .int (nI i))]) hx hb d_M_fold_41 hl (by decide) rfl (fun ls hl => ?_)
        rw [updA2] at hm
        have e8 : foldT (t.take (i + 1)) = foldT (t.take i) := by rw [fo_s c9, if_pos c32]
        have hf2 : ∀ q, q < (foldT (t.take (i + 1))).length → (upd f (foldT (t.take i)).length (nI (t.getD i 0))) q = nI ((foldT (t.take (i + 1))).getD q 0) := by
          rw [e8]; intro q hq; rw [upd, if_neg (by omega)]; exact hf q hq
        have e7 : (foldT (t.take i)).length + 0 = (foldT (t.take (i + 1))).length := by rw [e8]; omega
        rw [e7] at hl
        have hle2 := fo_le t (i + 1)
        refine lv_iload hx hb d_M_fold_43 (lv_at hl 0 rfl) ?_
        refine lv_aload_n hx hb d_M_fold_45 rfl (lv_at hl 4 rfl) ?_
        refine va_alen (D := g.1) hx hb hK.1 (hm.1.2.1 34 rfl) 0 4 rfl rfl (v := nI 10) rfl d_M_fold_46 ?_
        refine n_ne (tgt := 53) (a := (foldT (t.take (i + 1))).length) (b := 10) hx hb d_M_fold_47 (by decide) (by omega) (by omega) (fun c47 => ?_) (fun c47 => ?_)
        · skip
          refine n_inc (a := i) (lv' := [(5, .int (nI (i + 1))), (4, .int (nI ((foldT (t.take (i + 1))).length))), (0, .ref (ad 30)), (1, .int (nI fr)), (2, .int (nI t.length)), (3, .ref (ad 34))]) hx hb d_M_fold_53 hl (k := 5) rfl (by decide) rfl (fun ls hl => ?_)
          refine lv_goto (tgt := 6) hx hb d_M_fold_56 (by decide) ?_
          exact ih (i + 1) _ H locs (by omega) (by omega) hm hf2 ls (lv_sub hl [2, 3, 4, 5, 1, 0] rfl)
        · skip
          refine lv_iload hx hb d_M_fold_50 (lv_at hl 0 rfl) ?_
          have e6 : t.take (i + 1) = t := List.take_of_length_le (by omega)
          rw [e6] at hf2
          exact W.iret hx hb hr (fun t9 ht hW => ⟨_, _, _, _, rfl, by rw [ht]; exact ⟨hm.1, hm.2.1, hm.2.2.1, fun _ h => by cases h⟩, ⟨by rw [e6], rfl, ⟨_, rfl, hf2⟩, rfl⟩⟩) hm.2.2.2 d_M_fold_52 hlk
set_option maxHeartbeats 4000000 in
set_option maxRecDepth 100000 in
theorem c_M_fold30 (l : Launch) (g : gG) (H : Heap) (x : Nat) (ad : Nat → Nat) (F : Nat → Int32) (A : Nat → Nat → Int32) (B : Nat → Nat → Int64) (hm0 : mW g H x ad F A B) (fr : Nat) (t : List Nat) (ht : t.length ≤ 10) (hfr : fr + t.length ≤ 10) (htx : txt A 30 fr t) (hc : ∀ k, t.getD k 0 < 128) : Met l y_M_fold (wC y_M_fold b_M_fold 6 (some .int)) (rmk 0 0 0 0) (pC g H [.ref (ad 30), .int (nI fr), .int (nI t.length), .ref (ad 34)]) (qM g H x ad (fun v F1 A1 B1 => v = some (.int (nI (foldT t).length)) ∧ F1 = F ∧ (∃ f, A1 = updA A 34 f ∧ ∀ q, q < (foldT t).length → f q = nI ((foldT t).getD q 0)) ∧ B1 = B)) 0 0 (mN x ad) := by
  refine mB (by decide) (Nat.le_of_ble_eq_true rfl) ?_
  intro p e s m below meth c ls C0 hH hZ hnm hl
  have C0 : cF g p s m _ meth c b_M_fold 6 "RegistryLogModel" (some .int) := C0
  obtain ⟨hx, hb, hml, hown, hts, hr, hlk, hK⟩ := id C0
  subst hH
  have hl : lv_has ls 6 [(0, .ref (ad 30)), (1, .int (nI fr)), (2, .int (nI t.length)), (3, .ref (ad 34))] := hl
  have hm := mS.rf hm0
  refine lv_iconst (v := nI 0) hx hb d_M_fold_0 (by decide) ?_
  refine lv_istore (lv' := [(4, .int (nI 0)), (0, .ref (ad 30)), (1, .int (nI fr)), (2, .int (nI t.length)), (3, .ref (ad 34))]) hx hb d_M_fold_1 hl (by decide) rfl (fun ls hl => ?_)
  refine lv_iconst (v := nI 0) hx hb d_M_fold_3 (by decide) ?_
  refine lv_istore (lv' := [(5, .int (nI 0)), (4, .int (nI 0)), (0, .ref (ad 30)), (1, .int (nI fr)), (2, .int (nI t.length)), (3, .ref (ad 34))]) hx hb d_M_fold_4 hl (by decide) rfl (fun ls hl => ?_)
  exact lp_M_fold30 C0 fr t ht hfr htx hc (t.length + 1) 0 (A 34) s.heap [] (Nat.zero_le _) (by omega) (by rw [updA_id]; exact hm) (fun q hq => absurd hq (by simp [foldT])) ls (lv_sub hl [2, 3, 4, 5, 1, 0] rfl)
set_option maxHeartbeats 4000000 in
set_option maxRecDepth 100000 in
theorem lp_M_fold31 {p : Program} {l : Launch} {e : Env} {s : State} {m : MethodId} {args : Array Value} {below : List Frame} {meth : Method} {c : Code} {g : gG} (C0 : cF g p s m args meth c b_M_fold 6 "RegistryLogModel" (some .int)) {x : Nat} {ad : Nat → Nat} {F : Nat → Int32} {A : Nat → Nat → Int32} {B : Nat → Nat → Int64} (fr : Nat) (t : List Nat) (ht : t.length ≤ 10) (hfr : fr + t.length ≤ 10) (htx : txt A 31 fr t) (hc : ∀ k, t.getD k 0 < 128) :
    ∀ (n i : Nat) (f : Nat → Int32) (H : Heap) (locs : List Loc), i ≤ t.length → t.length + 1 ≤ i + n → mS g s.heap H x ad F (updA A 34 f) B locs → (∀ q, q < (foldT (t.take i)).length → f q = nI ((foldT (t.take i)).getD q 0)) → ∀ (ls : Array Slot), lv_has ls 6 [(0, .ref (ad 31)), (1, .int (nI fr)), (2, .int (nI t.length)), (3, .ref (ad 34)), (4, .int (nI ((foldT (t.take i)).length))), (5, .int (nI i))] → W p l e (rmk 0 0 0 0) s m args below meth c H locs 0 0 (MQ below (qM g s.heap x ad (fun v F1 A1 B1 => v = some (.int (nI (foldT t).length)) ∧ F1 = F ∧ (∃ f, A1 = updA A 34 f ∧ ∀ q, q < (foldT t).length → f q = nI ((foldT t).getD q 0)) ∧ B1 = B)) args s 0 0 (mN x ad)) (F0 m 6 ls []) := by
  obtain ⟨hx, hb, hml, hown, hts, hr, hlk, hK⟩ := id C0
  intro n
  induction n with
  | zero => intro i f H locs h1 h2; exact absurd h2 (by omega)
  | succ n ih =>
    intro i f H locs hi hin hm hf ls hl
    have hle := fo_le t i
    have hci := hc i
    refine lv_iload hx hb d_M_fold_6 (lv_at hl 5 rfl) ?_
    refine lv_iload_n hx hb d_M_fold_8 rfl (lv_at hl 2 rfl) ?_
    refine n_ge (tgt := 59) (a := i) (b := t.length) hx hb d_M_fold_9 (by decide) (by omega) (by omega) (fun c9 => ?_) (fun c9 => ?_)
    · skip
      refine lv_iload hx hb d_M_fold_59 (lv_at hl 4 rfl) ?_
      have e6 : t.take i = t := List.take_of_length_le (by omega)
      rw [e6] at hf
      exact W.iret hx hb hr (fun t9 ht hW => ⟨_, _, _, _, rfl, by rw [ht]; exact ⟨hm.1, hm.2.1, hm.2.2.1, fun _ h => by cases h⟩, ⟨by rw [e6], rfl, ⟨_, rfl, hf⟩, rfl⟩⟩) hm.2.2.2 d_M_fold_61 hlk
    · skip
      refine lv_aload_n hx hb d_M_fold_12 rfl (lv_at hl 3 rfl) ?_
      refine lv_iload hx hb d_M_fold_13 (lv_at hl 4 rfl) ?_
      refine lv_aload_n hx hb d_M_fold_15 rfl (lv_at hl 0 rfl) ?_
      refine lv_iload_n hx hb d_M_fold_16 rfl (lv_at hl 1 rfl) ?_
      refine lv_iload hx hb d_M_fold_17 (lv_at hl 5 rfl) ?_
      refine n_iadd hx hb d_M_fold_19 ?_
      refine m_ld hx hb hK hm 31 rfl (fr + i) rfl (show fr + i < 10 from by omega) d_M_fold_20 ?_
      refine W.eq (g2 := F0 m 21 ls [.int (A 31 (fr + i)), .int (nI ((foldT (t.take i)).length)), .ref (ad 34)]) rfl ?_
      refine W.eq (g2 := F0 m 21 ls [.int (nI (t.getD i 0)), .int (nI ((foldT (t.take i)).length)), .ref (ad 34)]) (by rw [htx i (by omega)]) ?_
      refine m_st hx hb hK hm 34 rfl ((foldT (t.take i)).length) rfl (show (foldT (t.take i)).length < 10 from by omega) d_M_fold_21 (fun H locs hm => ?_)
      have hm : mS g s.heap H x ad F (updA (updA A 34 f) 34 (upd (f) ((foldT (t.take i)).length) (nI (t.getD i 0)))) B locs := hm
      refine lv_iload hx hb d_M_fold_22 (lv_at hl 4 rfl) ?_
      refine lv_aload_n hx hb d_M_fold_24 rfl (lv_at hl 0 rfl) ?_
      refine lv_iload_n hx hb d_M_fold_25 rfl (lv_at hl 1 rfl) ?_
      refine lv_iload hx hb d_M_fold_26 (lv_at hl 5 rfl) ?_
      refine n_iadd hx hb d_M_fold_28 ?_
      refine m_ld hx hb hK hm 31 rfl (fr + i) rfl (show fr + i < 10 from by omega) d_M_fold_29 ?_
      refine W.eq (g2 := F0 m 30 ls [.int (A 31 (fr + i)), .int (nI ((foldT (t.take i)).length))]) rfl ?_
      refine W.eq (g2 := F0 m 30 ls [.int (nI (t.getD i 0)), .int (nI ((foldT (t.take i)).length))]) (by rw [htx i (by omega)]) ?_
      refine lv_bipush (v := nI 45) hx hb d_M_fold_30 (by decide) ?_
      refine n_ne (tgt := 39) (a := t.getD i 0) (b := 45) hx hb d_M_fold_32 (by decide) (by omega) (by omega) (fun c32 => ?_) (fun c32 => ?_)
      · skip
        refine lv_iconst (v := nI 1) hx hb d_M_fold_39 (by decide) ?_
        refine n_iadd hx hb d_M_fold_40 ?_
        refine lv_istore (lv' := [(4, .int (nI (((foldT (t.take i)).length) + 1))), (0, .ref (ad 31)), (1, .int (nI fr)), (2, .int (nI t.length)), (3, .ref (ad 34)), (5, .int (nI i))]) hx hb d_M_fold_41 hl (by decide) rfl (fun ls hl => ?_)
        rw [updA2] at hm
        have e8 : foldT (t.take (i + 1)) = foldT (t.take i) ++ [t.getD i 0] := by rw [fo_s c9, if_neg c32]
        have hf2 : ∀ q, q < (foldT (t.take (i + 1))).length → (upd f (foldT (t.take i)).length (nI (t.getD i 0))) q = nI ((foldT (t.take (i + 1))).getD q 0) := by
          rw [e8]; intro q hq; rw [List.length_append] at hq; simp only [List.length_cons, List.length_nil] at hq; rw [upd]
          by_cases z : q = (foldT (t.take i)).length
          · rw [if_pos z, z, ap_eq]
          · rw [if_neg z, ap_lt (by omega)]; exact hf q (by omega)
        have e7 : (foldT (t.take i)).length + 1 = (foldT (t.take (i + 1))).length := by rw [e8, List.length_append]; rfl
        rw [e7] at hl
        have hle2 := fo_le t (i + 1)
        refine lv_iload hx hb d_M_fold_43 (lv_at hl 0 rfl) ?_
        refine lv_aload_n hx hb d_M_fold_45 rfl (lv_at hl 4 rfl) ?_
        refine va_alen (D := g.1) hx hb hK.1 (hm.1.2.1 34 rfl) 0 4 rfl rfl (v := nI 10) rfl d_M_fold_46 ?_
        refine n_ne (tgt := 53) (a := (foldT (t.take (i + 1))).length) (b := 10) hx hb d_M_fold_47 (by decide) (by omega) (by omega) (fun c47 => ?_) (fun c47 => ?_)
        · skip
          refine n_inc (a := i) (lv' := [(5, .int (nI (i + 1))), (4, .int (nI ((foldT (t.take (i + 1))).length))), (0, .ref (ad 31)), (1, .int (nI fr)), (2, .int (nI t.length)), (3, .ref (ad 34))]) hx hb d_M_fold_53 hl (k := 5) rfl (by decide) rfl (fun ls hl => ?_)
          refine lv_goto (tgt := 6) hx hb d_M_fold_56 (by decide) ?_
          exact ih (i + 1) _ H locs (by omega) (by omega) hm hf2 ls (lv_sub hl [2, 3, 4, 5, 1, 0] rfl)
        · skip
          refine lv_iload hx hb d_M_fold_50 (lv_at hl 0 rfl) ?_
          have e6 : t.take (i + 1) = t := List.take_of_length_le (by omega)
          rw [e6] at hf2
          exact W.iret hx hb hr (fun t9 ht hW => ⟨_, _, _, _, rfl, by rw [ht]; exact ⟨hm.1, hm.2.1, hm.2.2.1, fun _ h => by cases h⟩, ⟨by rw [e6], rfl, ⟨_, rfl, hf2⟩, rfl⟩⟩) hm.2.2.2 d_M_fold_52 hlk
      · skip
        refine lv_iconst (v := nI 0) hx hb d_M_fold_35 (by decide) ?_
        refine lv_goto (tgt := 40) hx hb d_M_fold_36 (by decide) ?_
        refine n_iadd hx hb d_M_fold_40 ?_
        refine lv_istore (lv' := [(4, .int (nI (((foldT (t.take i)).length) + 0))), (0, .ref (ad 31)), (1, .int (nI fr)), (2, .int (nI t.length)), (3, .ref (ad 34)), (5, .int (nI i))]) hx hb d_M_fold_41 hl (by decide) rfl (fun ls hl => ?_)
        rw [updA2] at hm
        have e8 : foldT (t.take (i + 1)) = foldT (t.take i) := by rw [fo_s c9, if_pos c32]
        have hf2 : ∀ q, q < (foldT (t.take (i + 1))).length → (upd f (foldT (t.take i)).length (nI (t.getD i 0))) q = nI ((foldT (t.take (i + 1))).getD q 0) := by
          rw [e8]; intro q hq; rw [upd, if_neg (by omega)]; exact hf q hq
        have e7 : (foldT (t.take i)).length + 0 = (foldT (t.take (i + 1))).length := by rw [e8]; omega
        rw [e7] at hl
        have hle2 := fo_le t (i + 1)
        refine lv_iload hx hb d_M_fold_43 (lv_at hl 0 rfl) ?_
        refine lv_aload_n hx hb d_M_fold_45 rfl (lv_at hl 4 rfl) ?_
        refine va_alen (D := g.1) hx hb hK.1 (hm.1.2.1 34 rfl) 0 4 rfl rfl (v := nI 10) rfl d_M_fold_46 ?_
        refine n_ne (tgt := 53) (a := (foldT (t.take (i + 1))).length) (b := 10) hx hb d_M_fold_47 (by decide) (by omega) (by omega) (fun c47 => ?_) (fun c47 => ?_)
        · skip
          refine n_inc (a := i) (lv' := [(5, .int (nI (i + 1))), (4, .int (nI ((foldT (t.take (i + 1))).length))), (0, .ref (ad 31)), (1, .int (nI fr)), (2, .int (nI t.length)), (3, .ref (ad 34))]) hx hb d_M_fold_53 hl (k := 5) rfl (by decide) rfl (fun ls hl => ?_)
          refine lv_goto (tgt := 6) hx hb d_M_fold_56 (by decide) ?_
          exact ih (i + 1) _ H locs (by omega) (by omega) hm hf2 ls (lv_sub hl [2, 3, 4, 5, 1, 0] rfl)
        · skip
          refine lv_iload hx hb d_M_fold_50 (lv_at hl 0 rfl) ?_
          have e6 : t.take (i + 1) = t := List.take_of_length_le (by omega)
          rw [e6] at hf2
          exact W.iret hx hb hr (fun t9 ht hW => ⟨_, _, _, _, rfl, by rw [ht]; exact ⟨hm.1, hm.2.1, hm.2.2.1, fun _ h => by cases h⟩, ⟨by rw [e6], rfl, ⟨_, rfl, hf2⟩, rfl⟩⟩) hm.2.2.2 d_M_fold_52 hlk
set_option maxHeartbeats 4000000 in
set_option maxRecDepth 100000 in
theorem c_M_fold31 (l : Launch) (g : gG) (H : Heap) (x : Nat) (ad : Nat → Nat) (F : Nat → Int32) (A : Nat → Nat → Int32) (B : Nat → Nat → Int64) (hm0 : mW g H x ad F A B) (fr : Nat) (t : List Nat) (ht : t.length ≤ 10) (hfr : fr + t.length ≤ 10) (htx : txt A 31 fr t) (hc : ∀ k, t.getD k 0 < 128) : Met l y_M_fold (wC y_M_fold b_M_fold 6 (some .int)) (rmk 0 0 0 0) (pC g H [.ref (ad 31), .int (nI fr), .int (nI t.length), .ref (ad 34)]) (qM g H x ad (fun v F1 A1 B1 => v = some (.int (nI (foldT t).length)) ∧ F1 = F ∧ (∃ f, A1 = updA A 34 f ∧ ∀ q, q < (foldT t).length → f q = nI ((foldT t).getD q 0)) ∧ B1 = B)) 0 0 (mN x ad) := by
  refine mB (by decide) (Nat.le_of_ble_eq_true rfl) ?_
  intro p e s m below meth c ls C0 hH hZ hnm hl
  have C0 : cF g p s m _ meth c b_M_fold 6 "RegistryLogModel" (some .int) := C0
  obtain ⟨hx, hb, hml, hown, hts, hr, hlk, hK⟩ := id C0
  subst hH
  have hl : lv_has ls 6 [(0, .ref (ad 31)), (1, .int (nI fr)), (2, .int (nI t.length)), (3, .ref (ad 34))] := hl
  have hm := mS.rf hm0
  refine lv_iconst (v := nI 0) hx hb d_M_fold_0 (by decide) ?_
  refine lv_istore (lv' := [(4, .int (nI 0)), (0, .ref (ad 31)), (1, .int (nI fr)), (2, .int (nI t.length)), (3, .ref (ad 34))]) hx hb d_M_fold_1 hl (by decide) rfl (fun ls hl => ?_)
  refine lv_iconst (v := nI 0) hx hb d_M_fold_3 (by decide) ?_
  refine lv_istore (lv' := [(5, .int (nI 0)), (4, .int (nI 0)), (0, .ref (ad 31)), (1, .int (nI fr)), (2, .int (nI t.length)), (3, .ref (ad 34))]) hx hb d_M_fold_4 hl (by decide) rfl (fun ls hl => ?_)
  exact lp_M_fold31 C0 fr t ht hfr htx hc (t.length + 1) 0 (A 34) s.heap [] (Nat.zero_le _) (by omega) (by rw [updA_id]; exact hm) (fun q hq => absurd hq (by simp [foldT])) ls (lv_sub hl [2, 3, 4, 5, 1, 0] rfl)
set_option maxHeartbeats 4000000 in
set_option maxRecDepth 100000 in
theorem lp_M_fold17 {p : Program} {l : Launch} {e : Env} {s : State} {m : MethodId} {args : Array Value} {below : List Frame} {meth : Method} {c : Code} {g : gG} (C0 : cF g p s m args meth c b_M_fold 6 "RegistryLogModel" (some .int)) {x : Nat} {ad : Nat → Nat} {F : Nat → Int32} {A : Nat → Nat → Int32} {B : Nat → Nat → Int64} (fr : Nat) (t : List Nat) (ht : t.length ≤ 10) (hfr : fr + t.length ≤ 2400) (htx : txt A 17 fr t) (hc : ∀ k, t.getD k 0 < 128) :
    ∀ (n i : Nat) (f : Nat → Int32) (H : Heap) (locs : List Loc), i ≤ t.length → t.length + 1 ≤ i + n → mS g s.heap H x ad F (updA A 35 f) B locs → (∀ q, q < (foldT (t.take i)).length → f q = nI ((foldT (t.take i)).getD q 0)) → ∀ (ls : Array Slot), lv_has ls 6 [(0, .ref (ad 17)), (1, .int (nI fr)), (2, .int (nI t.length)), (3, .ref (ad 35)), (4, .int (nI ((foldT (t.take i)).length))), (5, .int (nI i))] → W p l e (rmk 0 0 0 0) s m args below meth c H locs 0 0 (MQ below (qM g s.heap x ad (fun v F1 A1 B1 => v = some (.int (nI (foldT t).length)) ∧ F1 = F ∧ (∃ f, A1 = updA A 35 f ∧ ∀ q, q < (foldT t).length → f q = nI ((foldT t).getD q 0)) ∧ B1 = B)) args s 0 0 (mN x ad)) (F0 m 6 ls []) := by
  obtain ⟨hx, hb, hml, hown, hts, hr, hlk, hK⟩ := id C0
  intro n
  induction n with
  | zero => intro i f H locs h1 h2; exact absurd h2 (by omega)
  | succ n ih =>
    intro i f H locs hi hin hm hf ls hl
    have hle := fo_le t i
    have hci := hc i
    refine lv_iload hx hb d_M_fold_6 (lv_at hl 5 rfl) ?_
    refine lv_iload_n hx hb d_M_fold_8 rfl (lv_at hl 2 rfl) ?_
    refine n_ge (tgt := 59) (a := i) (b := t.length) hx hb d_M_fold_9 (by decide) (by omega) (by omega) (fun c9 => ?_) (fun c9 => ?_)
    · skip
      refine lv_iload hx hb d_M_fold_59 (lv_at hl 4 rfl) ?_
      have e6 : t.take i = t := List.take_of_length_le (by omega)
      rw [e6] at hf
      exact W.iret hx hb hr (fun t9 ht hW => ⟨_, _, _, _, rfl, by rw [ht]; exact ⟨hm.1, hm.2.1, hm.2.2.1, fun _ h => by cases h⟩, ⟨by rw [e6], rfl, ⟨_, rfl, hf⟩, rfl⟩⟩) hm.2.2.2 d_M_fold_61 hlk
    · skip
      refine lv_aload_n hx hb d_M_fold_12 rfl (lv_at hl 3 rfl) ?_
      refine lv_iload hx hb d_M_fold_13 (lv_at hl 4 rfl) ?_
      refine lv_aload_n hx hb d_M_fold_15 rfl (lv_at hl 0 rfl) ?_
      refine lv_iload_n hx hb d_M_fold_16 rfl (lv_at hl 1 rfl) ?_
      refine lv_iload hx hb d_M_fold_17 (lv_at hl 5 rfl) ?_
      refine n_iadd hx hb d_M_fold_19 ?_
      refine m_ld hx hb hK hm 17 rfl (fr + i) rfl (show fr + i < 2400 from by omega) d_M_fold_20 ?_
      refine W.eq (g2 := F0 m 21 ls [.int (A 17 (fr + i)), .int (nI ((foldT (t.take i)).length)), .ref (ad 35)]) rfl ?_
      refine W.eq (g2 := F0 m 21 ls [.int (nI (t.getD i 0)), .int (nI ((foldT (t.take i)).length)), .ref (ad 35)]) (by rw [htx i (by omega)]) ?_
      refine m_st hx hb hK hm 35 rfl ((foldT (t.take i)).length) rfl (show (foldT (t.take i)).length < 10 from by omega) d_M_fold_21 (fun H locs hm => ?_)
      have hm : mS g s.heap H x ad F (updA (updA A 35 f) 35 (upd (f) ((foldT (t.take i)).length) (nI (t.getD i 0)))) B locs := hm
      refine lv_iload hx hb d_M_fold_22 (lv_at hl 4 rfl) ?_
      refine lv_aload_n hx hb d_M_fold_24 rfl (lv_at hl 0 rfl) ?_
      refine lv_iload_n hx hb d_M_fold_25 rfl (lv_at hl 1 rfl) ?_
      refine lv_iload hx hb d_M_fold_26 (lv_at hl 5 rfl) ?_
      refine n_iadd hx hb d_M_fold_28 ?_
      refine m_ld hx hb hK hm 17 rfl (fr + i) rfl (show fr + i < 2400 from by omega) d_M_fold_29 ?_
      refine W.eq (g2 := F0 m 30 ls [.int (A 17 (fr + i)), .int (nI ((foldT (t.take i)).length))]) rfl ?_
      refine W.eq (g2 := F0 m 30 ls [.int (nI (t.getD i 0)), .int (nI ((foldT (t.take i)).length))]) (by rw [htx i (by omega)]) ?_
      refine lv_bipush (v := nI 45) hx hb d_M_fold_30 (by decide) ?_
      refine n_ne (tgt := 39) (a := t.getD i 0) (b := 45) hx hb d_M_fold_32 (by decide) (by omega) (by omega) (fun c32 => ?_) (fun c32 => ?_)
      · skip
        refine lv_iconst (v := nI 1) hx hb d_M_fold_39 (by decide) ?_
        refine n_iadd hx hb d_M_fold_40 ?_
        refine lv_istore (lv' := [(4, .int (nI (((foldT (t.take i)).length) + 1))), (0, .ref (ad 17)), (1, .int (nI fr)), (2, .int (nI t.length)), (3, .ref (ad 35)), (5, .int (nI i))]) hx hb d_M_fold_41 hl (by decide) rfl (fun ls hl => ?_)
        rw [updA2] at hm
        have e8 : foldT (t.take (i + 1)) = foldT (t.take i) ++ [t.getD i 0] := by rw [fo_s c9, if_neg c32]
        have hf2 : ∀ q, q < (foldT (t.take (i + 1))).length → (upd f (foldT (t.take i)).length (nI (t.getD i 0))) q = nI ((foldT (t.take (i + 1))).getD q 0) := by
          rw [e8]; intro q hq; rw [List.length_append] at hq; simp only [List.length_cons, List.length_nil] at hq; rw [upd]
          by_cases z : q = (foldT (t.take i)).length
          · rw [if_pos z, z, ap_eq]
          · rw [if_neg z, ap_lt (by omega)]; exact hf q (by omega)
        have e7 : (foldT (t.take i)).length + 1 = (foldT (t.take (i + 1))).length := by rw [e8, List.length_append]; rfl
        rw [e7] at hl
        have hle2 := fo_le t (i + 1)
        refine lv_iload hx hb d_M_fold_43 (lv_at hl 0 rfl) ?_
        refine lv_aload_n hx hb d_M_fold_45 rfl (lv_at hl 4 rfl) ?_
        refine va_alen (D := g.1) hx hb hK.1 (hm.1.2.1 35 rfl) 0 4 rfl rfl (v := nI 10) rfl d_M_fold_46 ?_
        refine n_ne (tgt := 53) (a := (foldT (t.take (i + 1))).length) (b := 10) hx hb d_M_fold_47 (by decide) (by omega) (by omega) (fun c47 => ?_) (fun c47 => ?_)
        · skip
          refine n_inc (a := i) (lv' := [(5, .int (nI (i + 1))), (4, .int (nI ((foldT (t.take (i + 1))).length))), (0, .ref (ad 17)), (1, .int (nI fr)), (2, .int (nI t.length)), (3, .ref (ad 35))]) hx hb d_M_fold_53 hl (k := 5) rfl (by decide) rfl (fun ls hl => ?_)
          refine lv_goto (tgt := 6) hx hb d_M_fold_56 (by decide) ?_
          exact ih (i + 1) _ H locs (by omega) (by omega) hm hf2 ls (lv_sub hl [2, 3, 4, 5, 1, 0] rfl)
        · skip
          refine lv_iload hx hb d_M_fold_50 (lv_at hl 0 rfl) ?_
          have e6 : t.take (i + 1) = t := List.take_of_length_le (by omega)
          rw [e6] at hf2
          exact W.iret hx hb hr (fun t9 ht hW => ⟨_, _, _, _, rfl, by rw [ht]; exact ⟨hm.1, hm.2.1, hm.2.2.1, fun _ h => by cases h⟩, ⟨by rw [e6], rfl, ⟨_, rfl, hf2⟩, rfl⟩⟩) hm.2.2.2 d_M_fold_52 hlk
      · skip
        refine lv_iconst (v := nI 0) hx hb d_M_fold_35 (by decide) ?_
        refine lv_goto (tgt := 40) hx hb d_M_fold_36 (by decide) ?_
        refine n_iadd hx hb d_M_fold_40 ?_
        refine lv_istore (lv' := [(4, .int (nI (((foldT (t.take i)).length) + 0))), (0, .ref (ad 17)), (1, .int (nI fr)), (2, .int (nI t.length)), (3, .ref (ad 35)), (5, .int (nI i))]) hx hb d_M_fold_41 hl (by decide) rfl (fun ls hl => ?_)
        rw [updA2] at hm
        have e8 : foldT (t.take (i + 1)) = foldT (t.take i) := by rw [fo_s c9, if_pos c32]
        have hf2 : ∀ q, q < (foldT (t.take (i + 1))).length → (upd f (foldT (t.take i)).length (nI (t.getD i 0))) q = nI ((foldT (t.take (i + 1))).getD q 0) := by
          rw [e8]; intro q hq; rw [upd, if_neg (by omega)]; exact hf q hq
        have e7 : (foldT (t.take i)).length + 0 = (foldT (t.take (i + 1))).length := by rw [e8]; omega
        rw [e7] at hl
        have hle2 := fo_le t (i + 1)
        refine lv_iload hx hb d_M_fold_43 (lv_at hl 0 rfl) ?_
        refine lv_aload_n hx hb d_M_fold_45 rfl (lv_at hl 4 rfl) ?_
        refine va_alen (D := g.1) hx hb hK.1 (hm.1.2.1 35 rfl) 0 4 rfl rfl (v := nI 10) rfl d_M_fold_46 ?_
        refine n_ne (tgt := 53) (a := (foldT (t.take (i + 1))).length) (b := 10) hx hb d_M_fold_47 (by decide) (by omega) (by omega) (fun c47 => ?_) (fun c47 => ?_)
        · skip
          refine n_inc (a := i) (lv' := [(5, .int (nI (i + 1))), (4, .int (nI ((foldT (t.take (i + 1))).length))), (0, .ref (ad 17)), (1, .int (nI fr)), (2, .int (nI t.length)), (3, .ref (ad 35))]) hx hb d_M_fold_53 hl (k := 5) rfl (by decide) rfl (fun ls hl => ?_)
          refine lv_goto (tgt := 6) hx hb d_M_fold_56 (by decide) ?_
          exact ih (i + 1) _ H locs (by omega) (by omega) hm hf2 ls (lv_sub hl [2, 3, 4, 5, 1, 0] rfl)
        · skip
          refine lv_iload hx hb d_M_fold_50 (lv_at hl 0 rfl) ?_
          have e6 : t.take (i + 1) = t := List.take_of_length_le (by omega)
          rw [e6] at hf2
          exact W.iret hx hb hr (fun t9 ht hW => ⟨_, _, _, _, rfl, by rw [ht]; exact ⟨hm.1, hm.2.1, hm.2.2.1, fun _ h => by cases h⟩, ⟨by rw [e6], rfl, ⟨_, rfl, hf2⟩, rfl⟩⟩) hm.2.2.2 d_M_fold_52 hlk
set_option maxHeartbeats 4000000 in
set_option maxRecDepth 100000 in
theorem c_M_fold17 (l : Launch) (g : gG) (H : Heap) (x : Nat) (ad : Nat → Nat) (F : Nat → Int32) (A : Nat → Nat → Int32) (B : Nat → Nat → Int64) (hm0 : mW g H x ad F A B) (fr : Nat) (t : List Nat) (ht : t.length ≤ 10) (hfr : fr + t.length ≤ 2400) (htx : txt A 17 fr t) (hc : ∀ k, t.getD k 0 < 128) : Met l y_M_fold (wC y_M_fold b_M_fold 6 (some .int)) (rmk 0 0 0 0) (pC g H [.ref (ad 17), .int (nI fr), .int (nI t.length), .ref (ad 35)]) (qM g H x ad (fun v F1 A1 B1 => v = some (.int (nI (foldT t).length)) ∧ F1 = F ∧ (∃ f, A1 = updA A 35 f ∧ ∀ q, q < (foldT t).length → f q = nI ((foldT t).getD q 0)) ∧ B1 = B)) 0 0 (mN x ad) := by
  refine mB (by decide) (Nat.le_of_ble_eq_true rfl) ?_
  intro p e s m below meth c ls C0 hH hZ hnm hl
  have C0 : cF g p s m _ meth c b_M_fold 6 "RegistryLogModel" (some .int) := C0
  obtain ⟨hx, hb, hml, hown, hts, hr, hlk, hK⟩ := id C0
  subst hH
  have hl : lv_has ls 6 [(0, .ref (ad 17)), (1, .int (nI fr)), (2, .int (nI t.length)), (3, .ref (ad 35))] := hl
  have hm := mS.rf hm0
  refine lv_iconst (v := nI 0) hx hb d_M_fold_0 (by decide) ?_
  refine lv_istore (lv' := [(4, .int (nI 0)), (0, .ref (ad 17)), (1, .int (nI fr)), (2, .int (nI t.length)), (3, .ref (ad 35))]) hx hb d_M_fold_1 hl (by decide) rfl (fun ls hl => ?_)
  refine lv_iconst (v := nI 0) hx hb d_M_fold_3 (by decide) ?_
  refine lv_istore (lv' := [(5, .int (nI 0)), (4, .int (nI 0)), (0, .ref (ad 17)), (1, .int (nI fr)), (2, .int (nI t.length)), (3, .ref (ad 35))]) hx hb d_M_fold_4 hl (by decide) rfl (fun ls hl => ?_)
  exact lp_M_fold17 C0 fr t ht hfr htx hc (t.length + 1) 0 (A 35) s.heap [] (Nat.zero_le _) (by omega) (by rw [updA_id]; exact hm) (fun q hq => absurd hq (by simp [foldT])) ls (lv_sub hl [2, 3, 4, 5, 1, 0] rfl)
theorem k_M_isNear_7 : kS "RegistryLogModel" 129 y_M_fold b_M_fold 6 (some .int) 4 := ⟨(in_5 (List.mem_of_getElem? (i := 163) rfl) rfl), (in_5 (List.mem_of_getElem? (i := 164) rfl) rfl), (in_1 (List.mem_of_getElem? (i := 22) rfl) rfl), (in_5 (List.mem_of_getElem? (i := 165) rfl) rfl), ⟨by decide, by decide, by decide +kernel⟩⟩
theorem k_M_isNear_30 : kS "RegistryLogModel" 129 y_M_fold b_M_fold 6 (some .int) 4 := ⟨(in_5 (List.mem_of_getElem? (i := 163) rfl) rfl), (in_5 (List.mem_of_getElem? (i := 164) rfl) rfl), (in_1 (List.mem_of_getElem? (i := 22) rfl) rfl), (in_5 (List.mem_of_getElem? (i := 165) rfl) rfl), ⟨by decide, by decide, by decide +kernel⟩⟩
def nearM (t u : List Nat) : Bool :=
  decide ((foldT t).length - cbS (foldT t) (foldT u) - cbS ((foldT t).drop (cbS (foldT t) (foldT u))).reverse ((foldT u).drop (cbS (foldT t) (foldT u))).reverse ≤ 1 ∧ (foldT u).length - cbS (foldT t) (foldT u) - cbS ((foldT t).drop (cbS (foldT t) (foldT u))).reverse ((foldT u).drop (cbS (foldT t) (foldT u))).reverse ≤ 1)
theorem cbS_le2 : ∀ (t u : List Nat), cbS t u ≤ u.length
  | [], u => by unfold cbS; exact Nat.zero_le _
  | x :: t, [] => by unfold cbS; exact Nat.zero_le _
  | x :: t, y :: u => by
    unfold cbS
    split
    · have := cbS_le2 t u; simp only [List.length_cons]; omega
    · exact Nat.zero_le _
theorem rd_at {t : List Nat} {s i : Nat} (h : i < t.length - s) : (t.drop s).reverse.getD i 0 = t.getD (t.length - 1 - i) 0 := by
  rw [rev_at (by rw [List.length_drop]; omega), List.length_drop, List.getD_eq_getElem?_getD, List.getD_eq_getElem?_getD, List.getElem?_drop]
  congr 2
  omega
set_option maxHeartbeats 4000000 in
set_option maxRecDepth 100000 in
theorem lp_M_isNear1 {p : Program} {l : Launch} {e : Env} {s : State} {m : MethodId} {args : Array Value} {below : List Frame} {meth : Method} {c : Code} {g : gG} {R : Room} {Q : State → Prop} (C0 : cF g p s m args meth c b_M_isNear 8 "RegistryLogModel" (some .boolean)) (hZ : zK g s s.heap) {x : Nat} {ad : Nat → Nat} {F : Nat → Int32} {A : Nat → Nat → Int32} {B : Nat → Nat → Int64} (a b : List Nat) (ha : a.length ≤ 10) (hb9 : b.length ≤ 10) (hca : ∀ k, a.getD k 0 < 128) (hcb : ∀ k, b.getD k 0 < 128) (h34 : ∀ q, q < a.length → A 34 q = nI (a.getD q 0)) (h35 : ∀ q, q < b.length → A 35 q = nI (b.getD q 0)) (jj : Nat) (v1 v2 v3 : Int32) (res : Nat) (K : ∀ (H : Heap) (locs : List Loc), mS g s.heap H x ad F A B locs → ∀ (ls : Array Slot), lv_has ls 8 [(0, .ref x), (1, .ref (ad jj)), (2, .int v2), (3, .int v3), (4, .int (nI a.length)), (5, .int (nI b.length)), (6, .int (nI res))] → W p l e R s m args below meth c H locs 0 0 Q (F0 m 75 ls [])) :
    ∀ (n i : Nat) (H : Heap) (locs : List Loc), i ≤ 10 → 10 + 1 ≤ i + n → mS g s.heap H x ad F A B locs → cbS (a.drop i) (b.drop i) + i = res → ∀ (ls : Array Slot), lv_has ls 8 [(0, .ref x), (1, .ref (ad jj)), (2, .int v2), (3, .int v3), (4, .int (nI a.length)), (5, .int (nI b.length)), (6, .int (nI i))] → W p l e R s m args below meth c H locs 0 0 Q (F0 m 38 ls []) := by
  obtain ⟨hx, hb, hml, hown, hts, hr, hlk, hK⟩ := id C0
  intro n
  induction n with
  | zero => intro i H locs h1 h2; exact absurd h2 (by omega)
  | succ n ih =>
    intro i H locs hi hin hm hres ls hl
    have hca1 := hca i
    have hcb1 := hcb i
    refine lv_iload hx hb d_M_isNear_38 (lv_at hl 6 rfl) ?_
    refine lv_iload hx hb d_M_isNear_40 (lv_at hl 4 rfl) ?_
    refine n_ge (tgt := 75) (a := i) (b := a.length) hx hb d_M_isNear_42 (by decide) (by omega) (by omega) (fun c42 => ?_) (fun c42 => ?_)
    · skip
      rw [cb_end (by omega)] at hres
      have e9 : i = res := by omega
      rw [e9] at hl
      exact K H locs hm ls (lv_sub hl [0, 1, 2, 3, 4, 5, 6] rfl)
    · skip
      refine lv_iload hx hb d_M_isNear_45 (lv_at hl 6 rfl) ?_
      refine lv_iload hx hb d_M_isNear_47 (lv_at hl 5 rfl) ?_
      refine n_ge (tgt := 75) (a := i) (b := b.length) hx hb d_M_isNear_49 (by decide) (by omega) (by omega) (fun c49 => ?_) (fun c49 => ?_)
      · skip
        rw [cb_end (by omega)] at hres
        have e9 : i = res := by omega
        rw [e9] at hl
        exact K H locs hm ls (lv_sub hl [0, 1, 2, 3, 4, 5, 6] rfl)
      · skip
        refine lv_aload_n hx hb d_M_isNear_52 rfl (lv_at hl 0 rfl) ?_
        refine m_get hx hb hts hown hK hm 34 (by decide) (hts (.fieldLink "RegistryLogModel" 86 "RegistryLogModel" "foldA" "[I") (in_5 (List.mem_of_getElem? (i := 3) rfl) rfl)) rfl (v := .ref (ad 34)) rfl d_M_isNear_53 ?_
        refine lv_iload hx hb d_M_isNear_56 (lv_at hl 6 rfl) ?_
        refine m_ld hx hb hK hm 34 rfl i rfl (show i < 10 from by omega) d_M_isNear_58 ?_
        refine W.eq (g2 := F0 m 59 ls [.int (nI (a.getD i 0))]) (by rw [h34 i (by omega)]) ?_
        refine lv_aload_n hx hb d_M_isNear_59 rfl (lv_at hl 0 rfl) ?_
        refine m_get hx hb hts hown hK hm 35 (by decide) (hts (.fieldLink "RegistryLogModel" 89 "RegistryLogModel" "foldB" "[I") (in_5 (List.mem_of_getElem? (i := 4) rfl) rfl)) rfl (v := .ref (ad 35)) rfl d_M_isNear_60 ?_
        refine lv_iload hx hb d_M_isNear_63 (lv_at hl 6 rfl) ?_
        refine m_ld hx hb hK hm 35 rfl i rfl (show i < 10 from by omega) d_M_isNear_65 ?_
        refine W.eq (g2 := F0 m 66 ls [.int (nI (b.getD i 0)), .int (nI (a.getD i 0))]) (by rw [h35 i (by omega)]) ?_
        refine n_ne (tgt := 75) (a := a.getD i 0) (b := b.getD i 0) hx hb d_M_isNear_66 (by decide) (by omega) (by omega) (fun c66 => ?_) (fun c66 => ?_)
        · skip
          rw [dropT c42, dropT c49, cbS, if_neg c66] at hres
          have e9 : i = res := by omega
          rw [e9] at hl
          exact K H locs hm ls (lv_sub hl [0, 1, 2, 3, 4, 5, 6] rfl)
        · skip
          refine n_inc (a := i) (lv' := [(6, .int (nI (i + 1))), (0, .ref x), (1, .ref (ad jj)), (2, .int v2), (3, .int v3), (4, .int (nI a.length)), (5, .int (nI b.length))]) hx hb d_M_isNear_69 hl (k := 6) rfl (by decide) rfl (fun ls hl => ?_)
          refine lv_goto (tgt := 38) hx hb d_M_isNear_72 (by decide) ?_
          rw [dropT c42, dropT c49, cbS, if_pos c66] at hres
          exact ih (i + 1) H locs (by omega) (by omega) hm (by omega) ls (lv_sub hl [1, 2, 3, 4, 5, 6, 0] rfl)
set_option maxHeartbeats 4000000 in
set_option maxRecDepth 100000 in
theorem lp_M_isNear2 {p : Program} {l : Launch} {e : Env} {s : State} {m : MethodId} {args : Array Value} {below : List Frame} {meth : Method} {c : Code} {g : gG} {R : Room} {Q : State → Prop} (C0 : cF g p s m args meth c b_M_isNear 8 "RegistryLogModel" (some .boolean)) (hZ : zK g s s.heap) {x : Nat} {ad : Nat → Nat} {F : Nat → Int32} {A : Nat → Nat → Int32} {B : Nat → Nat → Int64} (a b : List Nat) (ha : a.length ≤ 10) (hb9 : b.length ≤ 10) (hca : ∀ k, a.getD k 0 < 128) (hcb : ∀ k, b.getD k 0 < 128) (h34 : ∀ q, q < a.length → A 34 q = nI (a.getD q 0)) (h35 : ∀ q, q < b.length → A 35 q = nI (b.getD q 0)) (jj : Nat) (v1 v2 v3 : Int32) (sm res : Nat) (hsa : sm ≤ a.length) (hsb : sm ≤ b.length) (K : ∀ (H : Heap) (locs : List Loc), mS g s.heap H x ad F A B locs → ∀ (ls : Array Slot), lv_has ls 8 [(0, .ref x), (1, .ref (ad jj)), (2, .int v2), (3, .int v3), (4, .int (nI a.length)), (5, .int (nI b.length)), (6, .int (nI sm)), (7, .int (nI res))] → W p l e R s m args below meth c H locs 0 0 Q (F0 m 131 ls [])) :
    ∀ (n i : Nat) (H : Heap) (locs : List Loc), i ≤ 10 → 10 + 1 ≤ i + n → mS g s.heap H x ad F A B locs → cbS ((a.drop sm).reverse.drop i) ((b.drop sm).reverse.drop i) + i = res → ∀ (ls : Array Slot), lv_has ls 8 [(0, .ref x), (1, .ref (ad jj)), (2, .int v2), (3, .int v3), (4, .int (nI a.length)), (5, .int (nI b.length)), (6, .int (nI sm)), (7, .int (nI i))] → W p l e R s m args below meth c H locs 0 0 Q (F0 m 78 ls []) := by
  obtain ⟨hx, hb, hml, hown, hts, hr, hlk, hK⟩ := id C0
  intro n
  induction n with
  | zero => intro i H locs h1 h2; exact absurd h2 (by omega)
  | succ n ih =>
    intro i H locs hi hin hm hres ls hl
    have hca1 := hca (a.length - 1 - i)
    have hcb1 := hcb (b.length - 1 - i)
    refine lv_iload hx hb d_M_isNear_78 (lv_at hl 7 rfl) ?_
    refine lv_iload hx hb d_M_isNear_80 (lv_at hl 4 rfl) ?_
    refine lv_iload hx hb d_M_isNear_82 (lv_at hl 6 rfl) ?_
    refine n_isub hx hb (by omega) d_M_isNear_84 ?_
    refine n_ge (tgt := 131) (a := i) (b := a.length - sm) hx hb d_M_isNear_85 (by decide) (by omega) (by omega) (fun c85 => ?_) (fun c85 => ?_)
    · skip
      rw [cb_end (by rw [List.length_reverse, List.length_reverse, List.length_drop, List.length_drop]; omega)] at hres
      have e9 : i = res := by omega
      rw [e9] at hl
      exact K H locs hm ls (lv_sub hl [0, 1, 2, 3, 4, 5, 6, 7] rfl)
    · skip
      refine lv_iload hx hb d_M_isNear_88 (lv_at hl 7 rfl) ?_
      refine lv_iload hx hb d_M_isNear_90 (lv_at hl 5 rfl) ?_
      refine lv_iload hx hb d_M_isNear_92 (lv_at hl 6 rfl) ?_
      refine n_isub hx hb (by omega) d_M_isNear_94 ?_
      refine n_ge (tgt := 131) (a := i) (b := b.length - sm) hx hb d_M_isNear_95 (by decide) (by omega) (by omega) (fun c95 => ?_) (fun c95 => ?_)
      · skip
        rw [cb_end (by rw [List.length_reverse, List.length_reverse, List.length_drop, List.length_drop]; omega)] at hres
        have e9 : i = res := by omega
        rw [e9] at hl
        exact K H locs hm ls (lv_sub hl [0, 1, 2, 3, 4, 5, 6, 7] rfl)
      · skip
        refine lv_aload_n hx hb d_M_isNear_98 rfl (lv_at hl 0 rfl) ?_
        refine m_get hx hb hts hown hK hm 34 (by decide) (hts (.fieldLink "RegistryLogModel" 86 "RegistryLogModel" "foldA" "[I") (in_5 (List.mem_of_getElem? (i := 3) rfl) rfl)) rfl (v := .ref (ad 34)) rfl d_M_isNear_99 ?_
        refine lv_iload hx hb d_M_isNear_102 (lv_at hl 4 rfl) ?_
        refine lv_iconst (v := nI 1) hx hb d_M_isNear_104 (by decide) ?_
        refine n_isub hx hb (by omega) d_M_isNear_105 ?_
        refine lv_iload hx hb d_M_isNear_106 (lv_at hl 7 rfl) ?_
        refine n_isub hx hb (by omega) d_M_isNear_108 ?_
        refine m_ld hx hb hK hm 34 rfl ((a.length - 1) - i) rfl (show (a.length - 1) - i < 10 from by omega) d_M_isNear_109 ?_
        refine W.eq (g2 := F0 m 110 ls [.int (nI (a.getD (a.length - 1 - i) 0))]) (by rw [h34 (a.length - 1 - i) (by omega)]) ?_
        refine lv_aload_n hx hb d_M_isNear_110 rfl (lv_at hl 0 rfl) ?_
        refine m_get hx hb hts hown hK hm 35 (by decide) (hts (.fieldLink "RegistryLogModel" 89 "RegistryLogModel" "foldB" "[I") (in_5 (List.mem_of_getElem? (i := 4) rfl) rfl)) rfl (v := .ref (ad 35)) rfl d_M_isNear_111 ?_
        refine lv_iload hx hb d_M_isNear_114 (lv_at hl 5 rfl) ?_
        refine lv_iconst (v := nI 1) hx hb d_M_isNear_116 (by decide) ?_
        refine n_isub hx hb (by omega) d_M_isNear_117 ?_
        refine lv_iload hx hb d_M_isNear_118 (lv_at hl 7 rfl) ?_
        refine n_isub hx hb (by omega) d_M_isNear_120 ?_
        refine m_ld hx hb hK hm 35 rfl ((b.length - 1) - i) rfl (show (b.length - 1) - i < 10 from by omega) d_M_isNear_121 ?_
        refine W.eq (g2 := F0 m 122 ls [.int (nI (b.getD (b.length - 1 - i) 0)), .int (nI (a.getD (a.length - 1 - i) 0))]) (by rw [h35 (b.length - 1 - i) (by omega)]) ?_
        refine n_ne (tgt := 131) (a := a.getD (a.length - 1 - i) 0) (b := b.getD (b.length - 1 - i) 0) hx hb d_M_isNear_122 (by decide) (by omega) (by omega) (fun c122 => ?_) (fun c122 => ?_)
        · skip
          rw [dropT (t := (a.drop sm).reverse) (by rw [List.length_reverse, List.length_drop]; omega), dropT (t := (b.drop sm).reverse) (by rw [List.length_reverse, List.length_drop]; omega), cbS, rd_at (by omega), rd_at (by omega), if_neg c122] at hres
          have e9 : i = res := by omega
          rw [e9] at hl
          exact K H locs hm ls (lv_sub hl [0, 1, 2, 3, 4, 5, 6, 7] rfl)
        · skip
          refine n_inc (a := i) (lv' := [(7, .int (nI (i + 1))), (0, .ref x), (1, .ref (ad jj)), (2, .int v2), (3, .int v3), (4, .int (nI a.length)), (5, .int (nI b.length)), (6, .int (nI sm))]) hx hb d_M_isNear_125 hl (k := 7) rfl (by decide) rfl (fun ls hl => ?_)
          refine lv_goto (tgt := 78) hx hb d_M_isNear_128 (by decide) ?_
          rw [dropT (t := (a.drop sm).reverse) (by rw [List.length_reverse, List.length_drop]; omega), dropT (t := (b.drop sm).reverse) (by rw [List.length_reverse, List.length_drop]; omega), cbS, rd_at (by omega), rd_at (by omega), if_pos c122] at hres
          exact ih (i + 1) H locs (by omega) (by omega) hm (by omega) ls (lv_sub hl [1, 2, 3, 4, 5, 6, 7, 0] rfl)
theorem fo_c {t : List Nat} (h : ∀ k, t.getD k 0 < 128) : ∀ k, (foldT t).getD k 0 < 128 := by
  have hm : ∀ c ∈ t, c < 128 := fun c hc => by
    obtain ⟨i, hi, e⟩ := List.getElem_of_mem hc
    have := h i
    rw [List.getD_eq_getElem?_getD, List.getElem?_eq_getElem hi, Option.getD_some, e] at this
    exact this
  exact fun k => ch_lt (fun c hc => hm c (List.mem_filter.mp hc).1) k
set_option maxHeartbeats 4000000 in
set_option maxRecDepth 100000 in
theorem c_M_isNear30 (l : Launch) (g : gG) (H : Heap) (x : Nat) (ad : Nat → Nat) (F : Nat → Int32) (A : Nat → Nat → Int32) (B : Nat → Nat → Int64) (hm0 : mW g H x ad F A B) (t u : List Nat) (k : Nat) (ht : t.length ≤ 10) (hu : u.length ≤ 10) (hk : k < 240) (htx : txt A 30 0 t) (hut : txt A 17 (10 * k) u) (hus : A 18 k = nI u.length) (hct : ∀ k, t.getD k 0 < 128) (hcu : ∀ k, u.getD k 0 < 128) : Met l y_M_isNear (wC y_M_isNear b_M_isNear 8 (some .boolean)) (rmk 1 0 0 25) (pC g H [.ref x, .ref (ad 30), .int (nI t.length), .int (nI k)]) (qM g H x ad (fun v F1 A1 B1 => v = some (.int (bI (nearM t u))) ∧ F1 = F ∧ (∃ f f2, A1 = updA (updA A 34 f) 35 f2) ∧ B1 = B)) 0 0 (mN x ad) := by
  refine mB (by decide) (Nat.le_of_ble_eq_true rfl) ?_
  intro p e s m below meth c ls C0 hH hZ hnm hl
  have C0 : cF g p s m _ meth c b_M_isNear 8 "RegistryLogModel" (some .boolean) := C0
  obtain ⟨hx, hb, hml, hown, hts, hr, hlk, hK⟩ := id C0
  subst hH
  have hl : lv_has ls 8 [(0, .ref x), (1, .ref (ad 30)), (2, .int (nI t.length)), (3, .int (nI k))] := hl
  have hm := mS.rf hm0
  refine lv_aload_n hx hb d_M_isNear_0 rfl (lv_at hl 1 rfl) ?_
  refine lv_iconst (v := nI 0) hx hb d_M_isNear_1 (by decide) ?_
  refine lv_iload_n hx hb d_M_isNear_2 rfl (lv_at hl 2 rfl) ?_
  refine lv_aload_n hx hb d_M_isNear_3 rfl (lv_at hl 0 rfl) ?_
  refine m_get hx hb hts hown hK hm 34 (by decide) (hts (.fieldLink "RegistryLogModel" 86 "RegistryLogModel" "foldA" "[I") (in_5 (List.mem_of_getElem? (i := 3) rfl) rfl)) rfl (v := .ref (ad 34)) rfl d_M_isNear_4 ?_
  refine aM (rS (As := [.ref (ad 30), .int (nI 0), .int (nI t.length), .ref (ad 34)]) (rest := []) C0 (c_M_fold30 l g _ x ad _ _ _ hm.1 0 t ht (by omega) htx hct) (m_zK hZ hm) k_M_isNear_7 rfl rfl ⟨Nat.le_of_ble_eq_true rfl, Nat.le_of_ble_eq_true rfl⟩ rfl hl.1 rfl (Nat.le_of_ble_eq_true rfl) d_M_isNear_7 ⟨Nat.zero_le _, Nat.zero_le _⟩) hm (fun v F1 A1 B1 H locs hp hm => ?_)
  obtain ⟨rfl, eF, ⟨f, eA, hf⟩, eB⟩ := hp; rw [eF, eA, eB] at hm
  refine W.eq (g2 := F0 m 10 ls [.int (nI ((foldT t).length))]) rfl ?_
  refine lv_istore (lv' := [(4, .int (nI ((foldT t).length))), (0, .ref x), (1, .ref (ad 30)), (2, .int (nI t.length)), (3, .int (nI k))]) hx hb d_M_isNear_10 hl (by decide) rfl (fun ls hl => ?_)
  refine lv_aload_n hx hb d_M_isNear_12 rfl (lv_at hl 1 rfl) ?_
  refine m_get hx hb hts hown hK hm 17 (by decide) (hts (.fieldLink "RegistryLogModel" 50 "RegistryLogModel" "nameLetters" "[I") (in_4 (List.mem_of_getElem? (i := 226) rfl) rfl)) rfl (v := .ref (ad 17)) rfl d_M_isNear_13 ?_
  refine lv_bipush (v := nI 10) hx hb d_M_isNear_16 (by decide) ?_
  refine lv_iload_n hx hb d_M_isNear_18 rfl (lv_at hl 4 rfl) ?_
  refine n_imul hx hb d_M_isNear_19 ?_
  refine lv_aload_n hx hb d_M_isNear_20 rfl (lv_at hl 1 rfl) ?_
  refine m_get hx hb hts hown hK hm 18 (by decide) (hts (.fieldLink "RegistryLogModel" 53 "RegistryLogModel" "nameSize" "[I") (in_4 (List.mem_of_getElem? (i := 227) rfl) rfl)) rfl (v := .ref (ad 18)) rfl d_M_isNear_21 ?_
  refine lv_iload_n hx hb d_M_isNear_24 rfl (lv_at hl 4 rfl) ?_
  refine m_ld hx hb hK hm 18 rfl k rfl (show k < 240 from by omega) d_M_isNear_25 ?_
  refine W.eq (g2 := F0 m 26 ls [.int (A 18 k), .int (nI (10 * k)), .ref (ad 17)]) rfl ?_
  refine W.eq (g2 := F0 m 26 ls [.int (nI u.length), .int (nI (10 * k)), .ref (ad 17)]) (by rw [hus]) ?_
  refine lv_aload_n hx hb d_M_isNear_26 rfl (lv_at hl 1 rfl) ?_
  refine m_get hx hb hts hown hK hm 35 (by decide) (hts (.fieldLink "RegistryLogModel" 89 "RegistryLogModel" "foldB" "[I") (in_5 (List.mem_of_getElem? (i := 4) rfl) rfl)) rfl (v := .ref (ad 35)) rfl d_M_isNear_27 ?_
  refine aM (rS (As := [.ref (ad 17), .int (nI (10 * k)), .int (nI u.length), .ref (ad 35)]) (rest := []) C0 (c_M_fold17 l g _ x ad _ _ _ hm.1 (10 * k) u hu (by omega) hut hcu) (m_zK hZ hm) k_M_isNear_30 rfl rfl ⟨Nat.le_of_ble_eq_true rfl, Nat.le_of_ble_eq_true rfl⟩ rfl hl.1 rfl (Nat.le_of_ble_eq_true rfl) d_M_isNear_30 ⟨Nat.zero_le _, Nat.zero_le _⟩) hm (fun v F1 A1 B1 H locs hp hm => ?_)
  obtain ⟨rfl, eF, ⟨f2, eA, hf2⟩, eB⟩ := hp; rw [eF, eA, eB] at hm
  refine W.eq (g2 := F0 m 33 ls [.int (nI ((foldT u).length))]) rfl ?_
  refine lv_istore (lv' := [(5, .int (nI ((foldT u).length))), (4, .int (nI ((foldT t).length))), (0, .ref x), (1, .ref (ad 30)), (2, .int (nI t.length)), (3, .int (nI k))]) hx hb d_M_isNear_33 hl (by decide) rfl (fun ls hl => ?_)
  refine lv_iconst (v := nI 0) hx hb d_M_isNear_35 (by decide) ?_
  refine lv_istore (lv' := [(6, .int (nI 0)), (5, .int (nI ((foldT u).length))), (4, .int (nI ((foldT t).length))), (0, .ref x), (1, .ref (ad 30)), (2, .int (nI t.length)), (3, .int (nI k))]) hx hb d_M_isNear_36 hl (by decide) rfl (fun ls hl => ?_)
  have q1 := cbS_le (foldT t) (foldT u)
  have q2 := cbS_le2 (foldT t) (foldT u)
  have q3 := fo_le2 t
  have q4 := fo_le2 u
  refine lp_M_isNear1 C0 hZ (A := updA (updA A 34 f) 35 f2) (foldT t) (foldT u) (by have := fo_le2 t; omega) (by have := fo_le2 u; omega) (fo_c hct) (fo_c hcu) hf hf2 30 0 (nI t.length) (nI k) (cbS (foldT t) (foldT u)) (fun H locs hm ls hl => ?_) 11 0 H locs (by omega) (by omega) hm (by rw [List.drop_zero, List.drop_zero]; rfl) ls (lv_sub hl [3, 4, 5, 6, 2, 1, 0] rfl)
  refine lv_iconst (v := nI 0) hx hb d_M_isNear_75 (by decide) ?_
  refine lv_istore (lv' := [(7, .int (nI 0)), (0, .ref x), (1, .ref (ad 30)), (2, .int (nI t.length)), (3, .int (nI k)), (4, .int (nI ((foldT t).length))), (5, .int (nI ((foldT u).length))), (6, .int (nI (cbS (foldT t) (foldT u))))]) hx hb d_M_isNear_76 hl (by decide) rfl (fun ls hl => ?_)
  obtain ⟨sm, esm⟩ : ∃ sm, sm = cbS (foldT t) (foldT u) := ⟨_, rfl⟩
  have hne : nearM t u = decide ((foldT t).length - sm - cbS ((foldT t).drop sm).reverse ((foldT u).drop sm).reverse ≤ 1 ∧ (foldT u).length - sm - cbS ((foldT t).drop sm).reverse ((foldT u).drop sm).reverse ≤ 1) := by rw [nearM, ← esm]
  rw [← esm] at hl q1 q2
  have q5 := cbS_le ((foldT t).drop sm).reverse ((foldT u).drop sm).reverse
  have q6 := cbS_le2 ((foldT t).drop sm).reverse ((foldT u).drop sm).reverse
  rw [List.length_reverse, List.length_drop] at q5 q6
  refine lp_M_isNear2 C0 hZ (A := updA (updA A 34 f) 35 f2) (foldT t) (foldT u) (by have := fo_le2 t; omega) (by have := fo_le2 u; omega) (fo_c hct) (fo_c hcu) hf hf2 30 0 (nI t.length) (nI k) sm (cbS ((foldT t).drop sm).reverse ((foldT u).drop sm).reverse) q1 q2 (fun H locs hm ls hl => ?_) 11 0 H locs (by omega) (by omega) hm (by rw [List.drop_zero, List.drop_zero]; rfl) ls (lv_sub hl [1, 2, 3, 4, 5, 6, 7, 0] rfl)
  obtain ⟨bk, ebk⟩ : ∃ bk, bk = cbS ((foldT t).drop sm).reverse ((foldT u).drop sm).reverse := ⟨_, rfl⟩
  rw [← ebk] at hl hne q5 q6
  refine lv_iload hx hb d_M_isNear_131 (lv_at hl 4 rfl) ?_
  refine lv_iload hx hb d_M_isNear_133 (lv_at hl 6 rfl) ?_
  refine n_isub hx hb (by omega) d_M_isNear_135 ?_
  refine lv_iload hx hb d_M_isNear_136 (lv_at hl 7 rfl) ?_
  refine n_isub hx hb (by omega) d_M_isNear_138 ?_
  refine lv_iconst (v := nI 1) hx hb d_M_isNear_139 (by decide) ?_
  refine n_gt (tgt := 159) (a := (((foldT t).length) - sm) - bk) (b := 1) hx hb d_M_isNear_140 (by decide) (by omega) (by omega) (fun c140 => ?_) (fun c140 => ?_)
  · skip
    refine lv_iconst (v := nI 0) hx hb d_M_isNear_159 (by decide) ?_
    exact W.zret hx hb hr rfl (fun t9 ht hW => ⟨_, _, _, _, rfl, by rw [ht]; exact ⟨hm.1, hm.2.1, hm.2.2.1, fun _ h => by cases h⟩, ⟨by rw [hne, decide_eq_false (fun z => absurd z.1 (by omega))]; rfl, rfl, ⟨_, _, rfl⟩, rfl⟩⟩) hm.2.2.2 d_M_isNear_160 hlk
  · skip
    refine lv_iload hx hb d_M_isNear_143 (lv_at hl 5 rfl) ?_
    refine lv_iload hx hb d_M_isNear_145 (lv_at hl 6 rfl) ?_
    refine n_isub hx hb (by omega) d_M_isNear_147 ?_
    refine lv_iload hx hb d_M_isNear_148 (lv_at hl 7 rfl) ?_
    refine n_isub hx hb (by omega) d_M_isNear_150 ?_
    refine lv_iconst (v := nI 1) hx hb d_M_isNear_151 (by decide) ?_
    refine n_gt (tgt := 159) (a := (((foldT u).length) - sm) - bk) (b := 1) hx hb d_M_isNear_152 (by decide) (by omega) (by omega) (fun c152 => ?_) (fun c152 => ?_)
    · skip
      refine lv_iconst (v := nI 0) hx hb d_M_isNear_159 (by decide) ?_
      exact W.zret hx hb hr rfl (fun t9 ht hW => ⟨_, _, _, _, rfl, by rw [ht]; exact ⟨hm.1, hm.2.1, hm.2.2.1, fun _ h => by cases h⟩, ⟨by rw [hne, decide_eq_false (fun z => absurd z.2 (by omega))]; rfl, rfl, ⟨_, _, rfl⟩, rfl⟩⟩) hm.2.2.2 d_M_isNear_160 hlk
    · skip
      refine lv_iconst (v := nI 1) hx hb d_M_isNear_155 (by decide) ?_
      refine lv_goto (tgt := 160) hx hb d_M_isNear_156 (by decide) ?_
      exact W.zret hx hb hr rfl (fun t9 ht hW => ⟨_, _, _, _, rfl, by rw [ht]; exact ⟨hm.1, hm.2.1, hm.2.2.1, fun _ h => by cases h⟩, ⟨by rw [hne, decide_eq_true ⟨by omega, by omega⟩]; rfl, rfl, ⟨_, _, rfl⟩, rfl⟩⟩) hm.2.2.2 d_M_isNear_160 hlk
set_option maxHeartbeats 4000000 in
set_option maxRecDepth 100000 in
theorem c_M_isNear31 (l : Launch) (g : gG) (H : Heap) (x : Nat) (ad : Nat → Nat) (F : Nat → Int32) (A : Nat → Nat → Int32) (B : Nat → Nat → Int64) (hm0 : mW g H x ad F A B) (t u : List Nat) (k : Nat) (ht : t.length ≤ 10) (hu : u.length ≤ 10) (hk : k < 240) (htx : txt A 31 0 t) (hut : txt A 17 (10 * k) u) (hus : A 18 k = nI u.length) (hct : ∀ k, t.getD k 0 < 128) (hcu : ∀ k, u.getD k 0 < 128) : Met l y_M_isNear (wC y_M_isNear b_M_isNear 8 (some .boolean)) (rmk 1 0 0 25) (pC g H [.ref x, .ref (ad 31), .int (nI t.length), .int (nI k)]) (qM g H x ad (fun v F1 A1 B1 => v = some (.int (bI (nearM t u))) ∧ F1 = F ∧ (∃ f f2, A1 = updA (updA A 34 f) 35 f2) ∧ B1 = B)) 0 0 (mN x ad) := by
  refine mB (by decide) (Nat.le_of_ble_eq_true rfl) ?_
  intro p e s m below meth c ls C0 hH hZ hnm hl
  have C0 : cF g p s m _ meth c b_M_isNear 8 "RegistryLogModel" (some .boolean) := C0
  obtain ⟨hx, hb, hml, hown, hts, hr, hlk, hK⟩ := id C0
  subst hH
  have hl : lv_has ls 8 [(0, .ref x), (1, .ref (ad 31)), (2, .int (nI t.length)), (3, .int (nI k))] := hl
  have hm := mS.rf hm0
  refine lv_aload_n hx hb d_M_isNear_0 rfl (lv_at hl 1 rfl) ?_
  refine lv_iconst (v := nI 0) hx hb d_M_isNear_1 (by decide) ?_
  refine lv_iload_n hx hb d_M_isNear_2 rfl (lv_at hl 2 rfl) ?_
  refine lv_aload_n hx hb d_M_isNear_3 rfl (lv_at hl 0 rfl) ?_
  refine m_get hx hb hts hown hK hm 34 (by decide) (hts (.fieldLink "RegistryLogModel" 86 "RegistryLogModel" "foldA" "[I") (in_5 (List.mem_of_getElem? (i := 3) rfl) rfl)) rfl (v := .ref (ad 34)) rfl d_M_isNear_4 ?_
  refine aM (rS (As := [.ref (ad 31), .int (nI 0), .int (nI t.length), .ref (ad 34)]) (rest := []) C0 (c_M_fold31 l g _ x ad _ _ _ hm.1 0 t ht (by omega) htx hct) (m_zK hZ hm) k_M_isNear_7 rfl rfl ⟨Nat.le_of_ble_eq_true rfl, Nat.le_of_ble_eq_true rfl⟩ rfl hl.1 rfl (Nat.le_of_ble_eq_true rfl) d_M_isNear_7 ⟨Nat.zero_le _, Nat.zero_le _⟩) hm (fun v F1 A1 B1 H locs hp hm => ?_)
  obtain ⟨rfl, eF, ⟨f, eA, hf⟩, eB⟩ := hp; rw [eF, eA, eB] at hm
  refine W.eq (g2 := F0 m 10 ls [.int (nI ((foldT t).length))]) rfl ?_
  refine lv_istore (lv' := [(4, .int (nI ((foldT t).length))), (0, .ref x), (1, .ref (ad 31)), (2, .int (nI t.length)), (3, .int (nI k))]) hx hb d_M_isNear_10 hl (by decide) rfl (fun ls hl => ?_)
  refine lv_aload_n hx hb d_M_isNear_12 rfl (lv_at hl 1 rfl) ?_
  refine m_get hx hb hts hown hK hm 17 (by decide) (hts (.fieldLink "RegistryLogModel" 50 "RegistryLogModel" "nameLetters" "[I") (in_4 (List.mem_of_getElem? (i := 226) rfl) rfl)) rfl (v := .ref (ad 17)) rfl d_M_isNear_13 ?_
  refine lv_bipush (v := nI 10) hx hb d_M_isNear_16 (by decide) ?_
  refine lv_iload_n hx hb d_M_isNear_18 rfl (lv_at hl 4 rfl) ?_
  refine n_imul hx hb d_M_isNear_19 ?_
  refine lv_aload_n hx hb d_M_isNear_20 rfl (lv_at hl 1 rfl) ?_
  refine m_get hx hb hts hown hK hm 18 (by decide) (hts (.fieldLink "RegistryLogModel" 53 "RegistryLogModel" "nameSize" "[I") (in_4 (List.mem_of_getElem? (i := 227) rfl) rfl)) rfl (v := .ref (ad 18)) rfl d_M_isNear_21 ?_
  refine lv_iload_n hx hb d_M_isNear_24 rfl (lv_at hl 4 rfl) ?_
  refine m_ld hx hb hK hm 18 rfl k rfl (show k < 240 from by omega) d_M_isNear_25 ?_
  refine W.eq (g2 := F0 m 26 ls [.int (A 18 k), .int (nI (10 * k)), .ref (ad 17)]) rfl ?_
  refine W.eq (g2 := F0 m 26 ls [.int (nI u.length), .int (nI (10 * k)), .ref (ad 17)]) (by rw [hus]) ?_
  refine lv_aload_n hx hb d_M_isNear_26 rfl (lv_at hl 1 rfl) ?_
  refine m_get hx hb hts hown hK hm 35 (by decide) (hts (.fieldLink "RegistryLogModel" 89 "RegistryLogModel" "foldB" "[I") (in_5 (List.mem_of_getElem? (i := 4) rfl) rfl)) rfl (v := .ref (ad 35)) rfl d_M_isNear_27 ?_
  refine aM (rS (As := [.ref (ad 17), .int (nI (10 * k)), .int (nI u.length), .ref (ad 35)]) (rest := []) C0 (c_M_fold17 l g _ x ad _ _ _ hm.1 (10 * k) u hu (by omega) hut hcu) (m_zK hZ hm) k_M_isNear_30 rfl rfl ⟨Nat.le_of_ble_eq_true rfl, Nat.le_of_ble_eq_true rfl⟩ rfl hl.1 rfl (Nat.le_of_ble_eq_true rfl) d_M_isNear_30 ⟨Nat.zero_le _, Nat.zero_le _⟩) hm (fun v F1 A1 B1 H locs hp hm => ?_)
  obtain ⟨rfl, eF, ⟨f2, eA, hf2⟩, eB⟩ := hp; rw [eF, eA, eB] at hm
  refine W.eq (g2 := F0 m 33 ls [.int (nI ((foldT u).length))]) rfl ?_
  refine lv_istore (lv' := [(5, .int (nI ((foldT u).length))), (4, .int (nI ((foldT t).length))), (0, .ref x), (1, .ref (ad 31)), (2, .int (nI t.length)), (3, .int (nI k))]) hx hb d_M_isNear_33 hl (by decide) rfl (fun ls hl => ?_)
  refine lv_iconst (v := nI 0) hx hb d_M_isNear_35 (by decide) ?_
  refine lv_istore (lv' := [(6, .int (nI 0)), (5, .int (nI ((foldT u).length))), (4, .int (nI ((foldT t).length))), (0, .ref x), (1, .ref (ad 31)), (2, .int (nI t.length)), (3, .int (nI k))]) hx hb d_M_isNear_36 hl (by decide) rfl (fun ls hl => ?_)
  have q1 := cbS_le (foldT t) (foldT u)
  have q2 := cbS_le2 (foldT t) (foldT u)
  have q3 := fo_le2 t
  have q4 := fo_le2 u
  refine lp_M_isNear1 C0 hZ (A := updA (updA A 34 f) 35 f2) (foldT t) (foldT u) (by have := fo_le2 t; omega) (by have := fo_le2 u; omega) (fo_c hct) (fo_c hcu) hf hf2 31 0 (nI t.length) (nI k) (cbS (foldT t) (foldT u)) (fun H locs hm ls hl => ?_) 11 0 H locs (by omega) (by omega) hm (by rw [List.drop_zero, List.drop_zero]; rfl) ls (lv_sub hl [3, 4, 5, 6, 2, 1, 0] rfl)
  refine lv_iconst (v := nI 0) hx hb d_M_isNear_75 (by decide) ?_
  refine lv_istore (lv' := [(7, .int (nI 0)), (0, .ref x), (1, .ref (ad 31)), (2, .int (nI t.length)), (3, .int (nI k)), (4, .int (nI ((foldT t).length))), (5, .int (nI ((foldT u).length))), (6, .int (nI (cbS (foldT t) (foldT u))))]) hx hb d_M_isNear_76 hl (by decide) rfl (fun ls hl => ?_)
  obtain ⟨sm, esm⟩ : ∃ sm, sm = cbS (foldT t) (foldT u) := ⟨_, rfl⟩
  have hne : nearM t u = decide ((foldT t).length - sm - cbS ((foldT t).drop sm).reverse ((foldT u).drop sm).reverse ≤ 1 ∧ (foldT u).length - sm - cbS ((foldT t).drop sm).reverse ((foldT u).drop sm).reverse ≤ 1) := by rw [nearM, ← esm]
  rw [← esm] at hl q1 q2
  have q5 := cbS_le ((foldT t).drop sm).reverse ((foldT u).drop sm).reverse
  have q6 := cbS_le2 ((foldT t).drop sm).reverse ((foldT u).drop sm).reverse
  rw [List.length_reverse, List.length_drop] at q5 q6
  refine lp_M_isNear2 C0 hZ (A := updA (updA A 34 f) 35 f2) (foldT t) (foldT u) (by have := fo_le2 t; omega) (by have := fo_le2 u; omega) (fo_c hct) (fo_c hcu) hf hf2 31 0 (nI t.length) (nI k) sm (cbS ((foldT t).drop sm).reverse ((foldT u).drop sm).reverse) q1 q2 (fun H locs hm ls hl => ?_) 11 0 H locs (by omega) (by omega) hm (by rw [List.drop_zero, List.drop_zero]; rfl) ls (lv_sub hl [1, 2, 3, 4, 5, 6, 7, 0] rfl)
  obtain ⟨bk, ebk⟩ : ∃ bk, bk = cbS ((foldT t).drop sm).reverse ((foldT u).drop sm).reverse := ⟨_, rfl⟩
  rw [← ebk] at hl hne q5 q6
  refine lv_iload hx hb d_M_isNear_131 (lv_at hl 4 rfl) ?_
  refine lv_iload hx hb d_M_isNear_133 (lv_at hl 6 rfl) ?_
  refine n_isub hx hb (by omega) d_M_isNear_135 ?_
  refine lv_iload hx hb d_M_isNear_136 (lv_at hl 7 rfl) ?_
  refine n_isub hx hb (by omega) d_M_isNear_138 ?_
  refine lv_iconst (v := nI 1) hx hb d_M_isNear_139 (by decide) ?_
  refine n_gt (tgt := 159) (a := (((foldT t).length) - sm) - bk) (b := 1) hx hb d_M_isNear_140 (by decide) (by omega) (by omega) (fun c140 => ?_) (fun c140 => ?_)
  · skip
    refine lv_iconst (v := nI 0) hx hb d_M_isNear_159 (by decide) ?_
    exact W.zret hx hb hr rfl (fun t9 ht hW => ⟨_, _, _, _, rfl, by rw [ht]; exact ⟨hm.1, hm.2.1, hm.2.2.1, fun _ h => by cases h⟩, ⟨by rw [hne, decide_eq_false (fun z => absurd z.1 (by omega))]; rfl, rfl, ⟨_, _, rfl⟩, rfl⟩⟩) hm.2.2.2 d_M_isNear_160 hlk
  · skip
    refine lv_iload hx hb d_M_isNear_143 (lv_at hl 5 rfl) ?_
    refine lv_iload hx hb d_M_isNear_145 (lv_at hl 6 rfl) ?_
    refine n_isub hx hb (by omega) d_M_isNear_147 ?_
    refine lv_iload hx hb d_M_isNear_148 (lv_at hl 7 rfl) ?_
    refine n_isub hx hb (by omega) d_M_isNear_150 ?_
    refine lv_iconst (v := nI 1) hx hb d_M_isNear_151 (by decide) ?_
    refine n_gt (tgt := 159) (a := (((foldT u).length) - sm) - bk) (b := 1) hx hb d_M_isNear_152 (by decide) (by omega) (by omega) (fun c152 => ?_) (fun c152 => ?_)
    · skip
      refine lv_iconst (v := nI 0) hx hb d_M_isNear_159 (by decide) ?_
      exact W.zret hx hb hr rfl (fun t9 ht hW => ⟨_, _, _, _, rfl, by rw [ht]; exact ⟨hm.1, hm.2.1, hm.2.2.1, fun _ h => by cases h⟩, ⟨by rw [hne, decide_eq_false (fun z => absurd z.2 (by omega))]; rfl, rfl, ⟨_, _, rfl⟩, rfl⟩⟩) hm.2.2.2 d_M_isNear_160 hlk
    · skip
      refine lv_iconst (v := nI 1) hx hb d_M_isNear_155 (by decide) ?_
      refine lv_goto (tgt := 160) hx hb d_M_isNear_156 (by decide) ?_
      exact W.zret hx hb hr rfl (fun t9 ht hW => ⟨_, _, _, _, rfl, by rw [ht]; exact ⟨hm.1, hm.2.1, hm.2.2.1, fun _ h => by cases h⟩, ⟨by rw [hne, decide_eq_true ⟨by omega, by omega⟩]; rfl, rfl, ⟨_, _, rfl⟩, rfl⟩⟩) hm.2.2.2 d_M_isNear_160 hlk
