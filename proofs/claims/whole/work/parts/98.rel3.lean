/-! mirrors, and what is asked of a ledger -/
section RL3
variable {F F1 : Nat → Int32} {A A1 : Nat → Nat → Int32} {B B1 : Nat → Nat → Int64} {rows : List Rw} {mir : Nat → List Rw} {T : List Nat} {f f2 : Nat → Int64} {k k2 : Nat}
/-- a ledger's rows where only the sums and the counts have changed -/
theorem refR_11 {w : Nat} {ml : List Rw} (h : refR A w ml) (hne : ∀ j, j ≠ 11 → j ≠ 12 → A1 j = A j) (h12 : A1 12 w = A 12 w) (h11 : ∀ j, j < ml.length → A1 11 (120 * w + j) = A 11 (120 * w + j)) : refR A1 w ml := by
  refine ⟨h.1, h12.trans h.2.1, fun j hj => ?_⟩
  obtain ⟨q3, q4, ql, q7, q9, ql2, q8, q10, q5, q6, q11, qk, qc, qc2⟩ := h.2.2 j hj
  unfold txt at q9 q10 ⊢
  rw [hne 3 (by decide) (by decide), hne 4 (by decide) (by decide), hne 5 (by decide) (by decide), hne 6 (by decide) (by decide), hne 7 (by decide) (by decide), hne 8 (by decide) (by decide), hne 9 (by decide) (by decide), hne 10 (by decide) (by decide), h11 j hj]
  exact ⟨q3, q4, ql, q7, q9, ql2, q8, q10, q5, q6, q11, qk, qc, qc2⟩
theorem foA_n2 {q c0 n j : Nat} (h1 : j ≠ 11) (h2 : j ≠ 12) : foA A q c0 n j = A j := by
  unfold foA updA; rw [if_neg h2, if_neg h1]
theorem foA_11 {q c0 n : Nat} : foA A q c0 n 11 = va_cpy (A 11) (A 11) (480 + c0) (120 * q + c0) n := by
  unfold foA updA; rw [if_neg (by decide), if_pos rfl]
theorem foA_12 {q c0 n : Nat} : foA A q c0 n 12 = upd (A 12) q (nI (c0 + n)) := by
  unfold foA updA; rw [if_pos rfl]
theorem getD_app {α : Type} {l m : List α} {d : α} {j : Nat} : (l ++ m).getD j d = if j < l.length then l.getD j d else m.getD (j - l.length) d := by
  by_cases e : j < l.length
  · rw [if_pos e, List.getD_eq_getElem?_getD, List.getD_eq_getElem?_getD, List.getElem?_append_left e]
  · rw [if_neg e, List.getD_eq_getElem?_getD, List.getD_eq_getElem?_getD, List.getElem?_append_right (by omega)]
theorem fo_aI (h : aI A rows mir) {q n : Nat} (hq : q < 4) (hn : (mir q).length + n ≤ rows.length) : aI (foA A q (mir q).length n) rows (miU mir q (mir q ++ (rows.drop (mir q).length).take n)) := by
  have h120 := h.1.1
  have hL : (mir q ++ (rows.drop (mir q).length).take n).length = (mir q).length + n := by rw [List.length_append, List.length_take, List.length_drop]; omega
  refine ⟨refR_11 h.1 (fun j a b => foA_n2 a b) ?_ (fun j hj => ?_), fun w hw => ?_, fun j hj => by rw [foA_n2 (by decide) (by decide)]; exact h.2.2 j hj⟩
  · rw [foA_12, upd_ne (by omega)]
  · rw [foA_11, cpy_out (by omega)]
  · unfold miU
    by_cases e : w = q
    · subst e
      rw [if_pos rfl]
      refine ⟨⟨by omega, by rw [foA_12, upd_at, hL], fun j hj => ?_⟩, by omega⟩
      rw [hL] at hj
      rw [getD_app]
      by_cases e : j < (mir w).length
      · rw [if_pos e]
        obtain ⟨q3, q4, ql, q7, q9, ql2, q8, q10, q5, q6, q11, qk, qc, qc2⟩ := (h.2.1 w hw).1.2.2 j e
        unfold txt at q9 q10 ⊢
        rw [foA_n2 (j := 3) (by decide) (by decide), foA_n2 (j := 4) (by decide) (by decide), foA_n2 (j := 5) (by decide) (by decide), foA_n2 (j := 6) (by decide) (by decide), foA_n2 (j := 7) (by decide) (by decide), foA_n2 (j := 8) (by decide) (by decide), foA_n2 (j := 9) (by decide) (by decide), foA_n2 (j := 10) (by decide) (by decide), foA_11, cpy_out (by omega)]
        exact ⟨q3, q4, ql, q7, q9, ql2, q8, q10, q5, q6, q11, qk, qc, qc2⟩
      · rw [if_neg e]
        obtain ⟨t, rfl⟩ : ∃ t, j = (mir w).length + t := ⟨j - (mir w).length, by omega⟩
        have ht : t < n := by omega
        rw [Nat.add_sub_cancel_left, show ((rows.drop (mir w).length).take n).getD t noRw = rows.getD ((mir w).length + t) noRw from by rw [List.getD_eq_getElem?_getD, List.getElem?_take_of_lt ht, List.getElem?_drop, List.getD_eq_getElem?_getD]]
        obtain ⟨q3, q4, ql, q7, q9, ql2, q8, q10, q5, q6, q11, qk, qc, qc2⟩ := h.1.2.2 ((mir w).length + t) (by omega)
        unfold txt at q9 q10 ⊢
        rw [foA_n2 (j := 3) (by decide) (by decide), foA_n2 (j := 4) (by decide) (by decide), foA_n2 (j := 5) (by decide) (by decide), foA_n2 (j := 6) (by decide) (by decide), foA_n2 (j := 7) (by decide) (by decide), foA_n2 (j := 8) (by decide) (by decide), foA_n2 (j := 9) (by decide) (by decide), foA_n2 (j := 10) (by decide) (by decide), foA_11, show 120 * w + ((mir w).length + t) = 120 * w + (mir w).length + t by omega, cpy_in ht, show 480 + (mir w).length + t = 120 * 4 + ((mir w).length + t) by omega]
        exact ⟨q3, q4, ql, q7, q9, ql2, q8, q10, q5, q6, q11, qk, qc, qc2⟩
    · rw [if_neg e]
      have hm := h.2.1 w hw
      exact ⟨refR_11 hm.1 (fun j a b => foA_n2 a b) (by rw [foA_12, upd_ne e]) (fun j hj => by rw [foA_11, cpy_out (by omega)]), hm.2⟩
theorem OKR_fo (h : OKR rows mir) {q n : Nat} (hq : q < 4) (hn : (mir q).length + n ≤ rows.length) : OKR rows (miU mir q (mir q ++ (rows.drop (mir q).length).take n)) := by
  refine ⟨h.1, fun w hw => ?_⟩
  unfold miU
  by_cases e : w = q
  · subst e
    rw [if_pos rfl]
    have hL : (mir w ++ (rows.drop (mir w).length).take n).length = (mir w).length + n := by rw [List.length_append, List.length_take, List.length_drop]; omega
    refine ⟨?_, by omega⟩
    unfold mirOk
    rw [hL, List.take_add, List.map_append, List.map_append]
    congr 1
    exact (h.2 w hw).1
  · rw [if_neg e]; exact h.2 w hw
theorem sp_aI (h : aI A rows mir) {q j1 : Nat} {sm : Int32} (hq : q < 4) (hj1 : j1 < (mir q).length) (hk : rk ((mir q).getD j1 noRw) = 0) {R1 : Rw} (hR : R1 = (rk ((mir q).getD j1 noRw), rp ((mir q).getD j1 noRw), rn ((mir q).getD j1 noRw), ra ((mir q).getD j1 noRw), r2 ((mir q).getD j1 noRw), sm, ro ((mir q).getD j1 noRw))) : aI (updA A 11 (upd (A 11) (120 * q + j1) sm)) rows (miU mir q ((mir q).set j1 R1)) := by
  have h120 := h.1.1
  have hne : ∀ j, j ≠ 11 → updA A 11 (upd (A 11) (120 * q + j1) sm) j = A j := fun j hj => by unfold updA; rw [if_neg hj]
  have h11 : updA A 11 (upd (A 11) (120 * q + j1) sm) 11 = upd (A 11) (120 * q + j1) sm := by unfold updA; rw [if_pos rfl]
  have hml := (h.2.1 q hq).2
  refine ⟨refR_11 h.1 (fun j a b => hne j a) (by rw [hne 12 (by decide)]) (fun j hj => by rw [h11, upd_ne (by omega)]), fun w hw => ?_, fun j hj => by rw [hne 6 (by decide)]; exact h.2.2 j hj⟩
  unfold miU
  have hm := h.2.1 w hw
  by_cases e : w = q
  · subst e
    rw [if_pos rfl]
    refine ⟨⟨by rw [List.length_set]; omega, by rw [List.length_set, hne 12 (by decide)]; exact hm.1.2.1, fun j hj => ?_⟩, by rw [List.length_set]; exact hm.2⟩
    rw [List.length_set] at hj
    rw [getD_set hj]
    obtain ⟨q3, q4, ql, q7, q9, ql2, q8, q10, q5, q6, q11, qk, qc, qc2⟩ := hm.1.2.2 j hj
    unfold txt at q9 q10 ⊢
    rw [hne 3 (by decide), hne 4 (by decide), hne 5 (by decide), hne 6 (by decide), hne 7 (by decide), hne 8 (by decide), hne 9 (by decide), hne 10 (by decide), h11]
    by_cases e : j = j1
    · subst e
      rw [if_pos rfl, upd_at]
      subst hR
      exact ⟨q3, q4, ql, q7, q9, ql2, q8, q10, q5, fun z => absurd hk z, rfl, qk, qc, qc2⟩
    · rw [if_neg e, upd_ne (by omega)]
      exact ⟨q3, q4, ql, q7, q9, ql2, q8, q10, q5, q6, q11, qk, qc, qc2⟩
  · rw [if_neg e]
    exact ⟨refR_11 hm.1 (fun j a b => hne j a) (by rw [hne 12 (by decide)]) (fun j hj => by rw [h11, upd_ne (by omega)]), hm.2⟩
theorem OKR_sp (h : OKR rows mir) {q j1 : Nat} {sm : Int32} (hq : q < 4) (hj1 : j1 < (mir q).length) (hk : rk ((mir q).getD j1 noRw) = 0) {R1 : Rw} (hR : R1 = (rk ((mir q).getD j1 noRw), rp ((mir q).getD j1 noRw), rn ((mir q).getD j1 noRw), ra ((mir q).getD j1 noRw), r2 ((mir q).getD j1 noRw), sm, ro ((mir q).getD j1 noRw))) : OKR rows (miU mir q ((mir q).set j1 R1)) := by
  refine ⟨h.1, fun w hw => ?_⟩
  unfold miU
  by_cases e : w = q
  · subst e
    rw [if_pos rfl, List.length_set]
    refine ⟨?_, (h.2 w hw).2⟩
    unfold mirOk
    rw [List.length_set]
    refine Eq.trans ?_ (h.2 w hw).1
    have hkey : keyR R1 = keyR ((mir w).getD j1 noRw) := by
      subst hR
      unfold keyR
      show (_, _, _, _, _, (if rk ((mir w).getD j1 noRw) = 0 then 0 else sm), _) = (_, _, _, _, _, (if rk ((mir w).getD j1 noRw) = 0 then 0 else _), _)
      rw [if_pos hk, if_pos hk]
    rw [List.map_set, hkey]
    apply List.ext_getElem?
    intro j
    rw [List.getElem?_set]
    by_cases z : j1 = j
    · subst z
      rw [if_pos rfl, if_pos (by rw [List.length_map]; exact hj1), List.getElem?_map, List.getElem?_eq_getElem hj1, List.getD_eq_getElem?_getD, List.getElem?_eq_getElem hj1]
      rfl
    · rw [if_neg z]
  · rw [if_neg e]; exact h.2 w hw
theorem OKR_ap (h : OKR rows mir) {r : Rw} (hr : okR rows r) : OKR (rows ++ [r]) mir := by
  refine ⟨(accL_ap _ _ _).mpr ⟨h.1, by rw [List.nil_append]; exact hr⟩, fun q hq => ⟨?_, by have := (h.2 q hq).2; rw [List.length_append]; omega⟩⟩
  unfold mirOk
  rw [List.take_append_of_le_length (h.2 q hq).2]
  exact (h.2 q hq).1
theorem sp_eq (h : RF F A B rows mir T f k f2 k2) (q i : Int32) : spS A q i = decide (rk (atS (mirS mir q) i) = 0) := by
  unfold spS
  rw [decide_eq_decide]
  unfold mirS
  by_cases e : 0 ≤ q ∧ q < 4
  · have hq := i4_lt e
    have hm := RF_m h _ hq
    have h120 := (RF_c h).2
    rw [if_pos e]
    unfold atS
    by_cases e2 : 0 ≤ i ∧ i < nI (mir q.toNatClampNeg).length
    · obtain ⟨a, ha, z⟩ := nI_of (Int32.not_lt.mpr e2.1)
      subst z
      have hj := (nI_ltI ha (by omega)).mp e2.2
      rw [if_pos e2, nI_clamp ha, ← ((h.1.2.1 _ hq).1.2.2 a hj).1]
      exact ⟨fun z => z.2.2.2.2, fun z => ⟨e.1, e.2, e2.1, by rw [hm.1]; exact e2.2, z⟩⟩
    · rw [if_neg e2]
      exact ⟨fun z => absurd ⟨z.2.2.1, by rw [← hm.1]; exact z.2.2.2.1⟩ e2, fun z => absurd z (by decide)⟩
  · rw [if_neg e]
    exact ⟨fun z => absurd ⟨z.1, z.2.1⟩ e, fun z => by rw [atS, if_neg (fun y => absurd (Int32.lt_of_le_of_lt y.1 y.2) (by decide))] at z; exact absurd z (by decide)⟩
end RL3
section RL4
variable {ml : List Rw} {tb : Tb} {og : List Nat} {T : List Nat}
theorem ask_n (hT : nameS T = false) (ot : Option Tb) : askT ot T = none := by
  unfold askT; rw [nameM_S, hT]; rfl
theorem ask_cases (I : InvR ml tb og) (hnm : ∀ r ∈ ml, nameS (ra r) = true) : (askT (some tb) T = none ∧ oS T ml (-1) = -1) ∨ ∃ k, askT (some tb) T = some (tb, k) ∧ k < tb.1.length ∧ (nmT tb k).2.1 = 1 ∧ oS T ml (-1) = nI (og.getD (nmT tb k).2.2 0) := by
  cases hT : nameS T with
  | false => exact Or.inl ⟨ask_n hT _, oS_bad hT ml hnm⟩
  | true =>
    unfold askT
    rw [nameM_S, hT, if_pos rfl]
    cases hm : mtT tb T with
    | none => left; exact ⟨by show (match mtT tb T with | none => none | some k => _) = none; rw [hm], I.os_none hm⟩
    | some k =>
      have hk := mtT_txt hm
      by_cases hs : (nmT tb k).2.1 = 1
      · right
        exact ⟨k, by show (match mtT tb T with | none => none | some k => if knT tb k = true then some (tb, k) else none) = _; rw [hm]; show (if knT tb k = true then _ else _) = _; exact if_pos (show knT tb k = true from decide_eq_true hs), hk.1, hs, I.os_1 hm hs⟩
      · left
        exact ⟨by show (match mtT tb T with | none => none | some k => if knT tb k = true then some (tb, k) else none) = _; rw [hm]; show (if knT tb k = true then _ else _) = _; exact if_neg (show ¬ knT tb k = true from fun z => hs (of_decide_eq_true z)), I.os_2 hm hs⟩
theorem fou_eq (I : InvR ml tb og) (hnm : ∀ r ∈ ml, nameS (ra r) = true) : foudT (askT (some tb) T) = rp (atS ml (oS T ml (-1))) := by
  rcases ask_cases (T := T) I hnm with ⟨h1, h2⟩ | ⟨k, h1, h2, h3, h4⟩
  · rw [h1, h2, atS_m1]; rfl
  · rw [h1, h4, I.at_og (I.nmo k h2).1]; rfl
theorem has_eq (I : InvR ml tb og) (hnm : ∀ r ∈ ml, nameS (ra r) = true) (w : Int32) : hasT (askT (some tb) T) w = (decide (0 ≤ w ∧ w < 8) && hsS ml (oS T ml (-1)) w) := by
  rcases ask_cases (T := T) I hnm with ⟨h1, h2⟩ | ⟨k, h1, h2, h3, h4⟩
  · rw [h1, h2, I.hs_m1, Bool.and_false]; rfl
  · rw [h1, h4]
    show (isP w && hrT tb k w) = (isP w && _)
    cases hp : isP w with
    | false => rfl
    | true => rw [I.hr_T h2 h3 hp]
theorem ver_eq (I : InvR ml tb og) (hnm : ∀ r ∈ ml, nameS (ra r) = true) (v : Int32) : verT (vaT (askT (some tb) T) v) = (if pubS (oS T ml (-1)) v ml 0 = -1 then 0 else if ynS (oS T ml (-1)) v ml false = true then 2 else 1) ∧ sumT (vaT (askT (some tb) T) v) = (if pubS (oS T ml (-1)) v ml 0 = -1 then 0 else r3 (atS ml (pubS (oS T ml (-1)) v ml 0))) := by
  have h120 := I.len
  rcases ask_cases (T := T) I hnm with ⟨h1, h2⟩ | ⟨k, h1, h2, h3, h4⟩
  · rw [h1, h2, fr_pub v 0 I.ro_m1, if_pos rfl, if_pos rfl]; exact ⟨rfl, rfl⟩
  · rw [h1, h4]
    have hp := I.pu _ (I.nmo k h2).1 v
    unfold vaT
    cases hv : vtT tb (nmT tb k).2.2 v with
    | none =>
      rw [(hp.1 hv).1, if_pos rfl, if_pos rfl]
      constructor
      · show verT (match vtT tb (nmT tb k).2.2 v with | none => none | some j => some (tb, j)) = 0
        rw [hv]; rfl
      · show sumT (match vtT tb (nmT tb k).2.2 v with | none => none | some j => some (tb, j)) = 0
        rw [hv]; rfl
    | some j =>
      obtain ⟨z, z1, z2, z3, z4, z5⟩ := hp.2 j hv
      rw [z2, if_neg (nI_m1 (by omega)), if_neg (nI_m1 (by omega)), z5, atS_in z1 h120, z3]
      constructor
      · show verT (match vtT tb (nmT tb k).2.2 v with | none => none | some j => some (tb, j)) = _
        rw [hv]
        show 1 + (veT tb j).2.2.2 = _
        rcases z4 with e | e <;> rw [e] <;> decide
      · show sumT (match vtT tb (nmT tb k).2.2 v with | none => none | some j => some (tb, j)) = _
        rw [hv]; rfl
end RL4
