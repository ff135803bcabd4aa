/-! WHAT THE REFERENCE ANSWERS, over the tables -/
theorem lo_bt {α : Type} {f1 f : Nat → α} (h : bt f1 f) : lo f1 f := fun k hk => h k (Or.inl hk)
theorem lo_tr {α : Type} {a b c : Nat → α} (h : lo a b) (h2 : lo b c) : lo a c := fun k hk => (h k hk).trans (h2 k hk)
theorem lo_hi {F : Nat → Int32} {k : Nat} {v : Int32} (h : 17 ≤ k) : lo (upd F k v) F := fun q hq => upd_ne (by omega)
theorem lo_hA {A : Nat → Nat → Int32} {k : Nat} {f : Nat → Int32} (h : 17 ≤ k) : lo (updA A k f) A := fun q hq => by rw [updA, if_neg (by omega)]
theorem refR_lo {A1 A : Nat → Nat → Int32} {w : Nat} {rows : List Rw} (h : lo A1 A) (hr : refR A w rows) : refR A1 w rows := by
  refine ⟨hr.1, by rw [h 12 (by omega)]; exact hr.2.1, fun j hj => ?_⟩
  have := hr.2.2 j hj
  unfold txt at *
  rw [h 3 (by omega), h 4 (by omega), h 7 (by omega), h 9 (by omega), h 8 (by omega), h 10 (by omega), h 5 (by omega), h 6 (by omega), h 11 (by omega)]
  exact this
/-- the log and the mirrors -/
def aI (A : Nat → Nat → Int32) (rows : List Rw) (mir : Nat → List Rw) : Prop := refR A 4 rows ∧ (∀ q, q < 4 → refR A q (mir q) ∧ (mir q).length ≤ rows.length) ∧ ∀ j, j < rows.length → A 6 j = r3 (rows.getD j noRw)
theorem aI_lo {A1 A : Nat → Nat → Int32} {rows : List Rw} {mir : Nat → List Rw} (h : lo A1 A) (ha : aI A rows mir) : aI A1 rows mir := ⟨refR_lo h ha.1, fun q hq => ⟨refR_lo h (ha.2.1 q hq).1, (ha.2.1 q hq).2⟩, fun j hj => by rw [h 6 (by decide)]; exact ha.2.2 j hj⟩
theorem wr_old {A : Nat → Nat → Int32} {w r n1 n2 : Nat} {mr : List Rw} {k0 p0 a0 b0 : Int32} (h : refR A w mr) (hl : mr.length ≤ r) (hw : w < 4) : refR (wrA A r k0 p0 a0 b0 n1 n2) w mr := by
  have h0 := h.1
  refine ⟨h.1, ?_, fun j hj => ?_⟩
  · show upd (A 12) 4 _ w = _
    rw [upd_ne (by omega)]; exact h.2.1
  · obtain ⟨q3, q4, ql, q7, q9, ql2, q8, q10, q5, q6, q11, qk, qc, qc2⟩ := h.2.2 j hj
    refine ⟨?_, ?_, ql, ?_, fun k hk => ?_, ql2, ?_, fun k hk => ?_, ?_, fun z => ?_, ?_, qk, qc, qc2⟩
    · show upd (A 3) r _ j = _; rw [upd_ne (by omega)]; exact q3
    · show upd (A 4) r _ j = _; rw [upd_ne (by omega)]; exact q4
    · show upd (A 7) r _ j = _; rw [upd_ne (by omega)]; exact q7
    · show va_cpy (A 30) (A 9) 0 (10 * r) n1 (10 * j + k) = _; rw [cpy_out (by omega)]; exact q9 k hk
    · show upd (A 8) r _ j = _; rw [upd_ne (by omega)]; exact q8
    · show va_cpy (A 31) (A 10) 0 (10 * r) n2 (10 * j + k) = _; rw [cpy_out (by omega)]; exact q10 k hk
    · show upd (A 5) r _ j = _; rw [upd_ne (by omega)]; exact q5
    · show upd (A 6) r _ j = _; rw [upd_ne (by omega)]; exact q6 z
    · show upd (A 11) (480 + r) _ (120 * w + j) = _; rw [upd_ne (by omega)]; exact q11
theorem wr_log {A : Nat → Nat → Int32} {rows : List Rw} {k0 p0 a0 b0 o : Int32} {t u : List Nat} (h : refR A 4 rows) (hl : rows.length < 120) (ht : txt A 30 0 t) (ht10 : t.length ≤ 10) (hc : ∀ c, t.getD c 0 < 128) (hu : txt A 31 0 (uu (k0, p0, t, u, a0, b0, o))) (hu10 : (uu (k0, p0, t, u, a0, b0, o)).length ≤ 10) (hc2 : ∀ c, (uu (k0, p0, t, u, a0, b0, o)).getD c 0 < 128) (hk : k0 = 0 ∨ k0 = 1 ∨ k0 = 2 ∨ k0 = 3) : refR (wrA A rows.length k0 p0 a0 b0 t.length (uu (k0, p0, t, u, a0, b0, o)).length) 4 (rows ++ [(k0, p0, t, u, a0, b0, o)]) := by
  generalize hr : ((k0, p0, t, u, a0, b0, o) : Rw) = r at *
  have e1 : k0 = rk r := by rw [← hr]
  have e2 : p0 = rp r := by rw [← hr]
  have e3 : t = rn r := by rw [← hr]
  have e5 : a0 = r2 r := by rw [← hr]
  have e6 : b0 = r3 r := by rw [← hr]
  refine ⟨by rw [List.length_append]; simp; omega, ?_, fun j hj => ?_⟩
  · show upd (A 12) 4 _ 4 = _
    rw [upd_at, List.length_append]; rfl
  · rw [List.length_append] at hj
    have hj : j < rows.length + 1 := hj
    by_cases e : j = rows.length
    · subst e
      rw [getD_ap2]
      refine ⟨?_, ?_, by rw [← e3]; exact ht10, ?_, fun k hk => ?_, hu10, ?_, fun k hk => ?_, ?_, fun z => ?_, ?_, by rw [← e1]; exact hk, by rw [← e3]; exact hc, hc2⟩
      · show upd (A 3) rows.length k0 rows.length = _; rw [upd_at]; exact e1
      · show upd (A 4) rows.length p0 rows.length = _; rw [upd_at]; exact e2
      · show upd (A 7) rows.length _ rows.length = _; rw [upd_at, e3]
      · show va_cpy (A 30) (A 9) 0 (10 * rows.length) t.length (10 * rows.length + k) = _
        rw [← e3] at hk ⊢; rw [cpy_in hk]; exact ht k hk
      · show upd (A 8) rows.length _ rows.length = _; rw [upd_at]
      · show va_cpy (A 31) (A 10) 0 (10 * rows.length) _ (10 * rows.length + k) = _
        rw [cpy_in hk]; exact hu k hk
      · show upd (A 5) rows.length a0 rows.length = _; rw [upd_at]; exact e5
      · show upd (A 6) rows.length b0 rows.length = _; rw [upd_at]; exact e6
      · show upd (A 11) (480 + rows.length) b0 (120 * 4 + rows.length) = _; rw [show 120 * 4 + rows.length = 480 + rows.length by omega, upd_at]; exact e6
    · rw [getD_ap (by omega)]
      obtain ⟨q3, q4, ql, q7, q9, ql2, q8, q10, q5, q6, q11, qk, qc, qc2⟩ := h.2.2 j (by omega)
      refine ⟨?_, ?_, ql, ?_, fun k hk => ?_, ql2, ?_, fun k hk => ?_, ?_, fun z => ?_, ?_, qk, qc, qc2⟩
      · show upd (A 3) _ _ j = _; rw [upd_ne (by omega)]; exact q3
      · show upd (A 4) _ _ j = _; rw [upd_ne (by omega)]; exact q4
      · show upd (A 7) _ _ j = _; rw [upd_ne (by omega)]; exact q7
      · show va_cpy (A 30) (A 9) 0 (10 * rows.length) _ (10 * j + k) = _; rw [cpy_out (by omega)]; exact q9 k hk
      · show upd (A 8) _ _ j = _; rw [upd_ne (by omega)]; exact q8
      · show va_cpy (A 31) (A 10) 0 (10 * rows.length) _ (10 * j + k) = _; rw [cpy_out (by omega)]; exact q10 k hk
      · show upd (A 5) _ _ j = _; rw [upd_ne (by omega)]; exact q5
      · show upd (A 6) _ _ j = _; rw [upd_ne (by omega)]; exact q6 z
      · show upd (A 11) (480 + rows.length) _ (120 * 4 + j) = _; rw [upd_ne (by omega)]; exact q11
theorem wr_aI {A : Nat → Nat → Int32} {rows : List Rw} {mir : Nat → List Rw} {k0 p0 a0 b0 o : Int32} {t u : List Nat} {n2 : Nat} (h : aI A rows mir) (hl : rows.length < 120) (ht : txt A 30 0 t) (ht10 : t.length ≤ 10) (hc : ∀ c, t.getD c 0 < 128) (hu : txt A 31 0 (uu (k0, p0, t, u, a0, b0, o))) (hn2 : n2 = (uu (k0, p0, t, u, a0, b0, o)).length) (hu10 : n2 ≤ 10) (hc2 : ∀ c, (uu (k0, p0, t, u, a0, b0, o)).getD c 0 < 128) (hk : k0 = 0 ∨ k0 = 1 ∨ k0 = 2 ∨ k0 = 3) : aI (wrA A rows.length k0 p0 a0 b0 t.length n2) (rows ++ [(k0, p0, t, u, a0, b0, o)]) mir := by
  subst hn2
  refine ⟨wr_log h.1 hl ht ht10 hc hu hu10 hc2 hk, fun q hq => ⟨wr_old (h.2.1 q hq).1 (h.2.1 q hq).2 hq, by have := (h.2.1 q hq).2; rw [List.length_append]; omega⟩, fun j hj => ?_⟩
  rw [List.length_append] at hj
  have hj : j < rows.length + 1 := hj
  by_cases e : j = rows.length
  · subst e
    rw [getD_ap2]
    show upd (A 6) rows.length b0 rows.length = _
    rw [upd_at]
  · rw [getD_ap (by omega)]
    show upd (A 6) _ _ j = _
    rw [upd_ne (by omega)]
    exact h.2.2 j (by omega)
theorem ok_ref {A : Nat → Nat → Int32} {w : Nat} {rows : List Rw} {tb : Tb} (h : refR A w rows) (ht : foT rows = some tb) : okT tb rows.length := by
  have := okT_th rows ([], [], []) tb 0 ⟨by simp, by simp, by simp, fun k hk => absurd hk (by simp), fun k hk => absurd hk (by simp)⟩ ht (fun r hr => by
    obtain ⟨j, hj, e⟩ := List.getElem_of_mem hr
    obtain ⟨q3, q4, ql, q7, q9, ql2, q8, q10, q5, q6, q11, qk, qc, qc2⟩ := h.2.2 j hj
    rw [show rows.getD j noRw = r from by rw [List.getD_eq_getElem?_getD, List.getElem?_eq_getElem hj, e]; rfl] at *
    exact ⟨ql, qc, fun z => by have e9 : uu r = ra r := if_pos z; rw [← e9]; exact ⟨ql2, qc2⟩, qk⟩)
  rw [Nat.zero_add] at this
  exact this
def knT (tb : Tb) (k : Nat) : Bool := decide ((nmT tb k).2.1 = 1)
def fdT (tb : Tb) (k : Nat) (w : Int32) : Bool := decide ((nmT tb k).2.1 = 1 ∧ (owT tb (nmT tb k).2.2).1 = w)
def hrT (tb : Tb) (k : Nat) (w : Int32) : Bool := decide ((nmT tb k).2.1 = 1 ∧ ((owT tb (nmT tb k).2.2).1 = w ∨ rbit (owT tb (nmT tb k).2.2).2 w.toNatClampNeg = true))
def freT (tb : Tb) (t : List Nat) (but : Int32) : Bool := frM (fun k => (nmT tb k).2.1) t (fun k => (nmT tb k).1) but tb.1.length 0 (decide (mtT tb t = none))
theorem frM_c {S S2 : Nat → Int32} {t : List Nat} {NT : Nat → List Nat} {but : Int32} : ∀ (n k : Nat) (b : Bool), (∀ q, k ≤ q → q < k + n → S q = S2 q) → frM S t NT but n k b = frM S2 t NT but n k b
  | 0, _, _, _ => rfl
  | n + 1, k, b, h => by
    rw [frM, frM]
    cases b
    · rfl
    · rw [if_pos rfl, if_pos rfl, h k (Nat.le_refl _) (by omega)]
      exact frM_c n (k + 1) _ (fun q h1 h2 => h q (by omega) (by omega))
theorem repN_T {F : Nat → Int32} {A : Nat → Nat → Int32} {tb : Tb} {i : Nat} (hT : repT F A tb) (ho : okT tb i) (hi : i ≤ 120) : repN F A tb.1.length (fun k => (nmT tb k).1) := ⟨hT.1, by have := ho.1; omega, fun k hk => ⟨(ho.2.2.2.1 k hk).1, (hT.2.2.2.1 k hk).2.1, (hT.2.2.2.1 k hk).1, (ho.2.2.2.1 k hk).2.1⟩⟩
theorem free_T {F : Nat → Int32} {A : Nat → Nat → Int32} {tb : Tb} {i j : Nat} {t : List Nat} {but : Int32} (hT : repT F A tb) (ho : okT tb i) (hi : i ≤ 120) (ht : txt A j 0 t) (hl : t.length ≤ 10) (hc : ∀ c, t.getD c 0 < 128) : frM (A 19) t (fun k => (nmT tb k).1) but tb.1.length 0 (decide (metA A j 0 t.length tb.1.length 0 (-1) = -1)) = freT tb t but := by
  have e : decide (metA A j 0 t.length tb.1.length 0 (-1) = -1) = decide (mtT tb t = none) := by
    rw [decide_eq_decide, metA_T hT ho ht hl hc]
    rcases hm : mtT tb t with _ | k
    · exact ⟨fun _ => rfl, fun _ => rfl⟩
    · have := mtT_lt hm
      have := ho.1
      exact ⟨fun z => absurd z (oI_c (by omega)), fun z => by cases z⟩
  rw [e, freT]
  exact frM_c _ _ _ (fun q _ h2 => (hT.2.2.2.1 q (by omega)).2.2.1)
def isP (p : Int32) : Bool := decide (0 ≤ p ∧ p < 8)
def isV (v : Int32) : Bool := decide (0 ≤ v ∧ v < 1000)
/-- what a call answers: 0 a row, 1 or 2 a refusal -/
def endC (bad may : Bool) (n : Nat) : Nat := if bad then 1 else if may && !decide (n = 120) then 0 else 2
def pubT (tb : Tb) (t : List Nat) (who v : Int32) : Bool :=
  match mtT tb t with
  | none => freT tb t (-1)
  | some k => hrT tb k who && decide (vtT tb (nmT tb k).2.2 v = none)
def yanT (tb : Tb) (t : List Nat) (who v : Int32) (on : Bool) : Bool :=
  match mtT tb t with
  | none => false
  | some k => hrT tb k who && (match vtT tb (nmT tb k).2.2 v with
    | none => false
    | some j => decide (bI (decide ((veT tb j).2.2.2 = 1)) ≠ bI on))
def graT (tb : Tb) (t : List Nat) (who other : Int32) (on : Bool) : Bool :=
  match mtT tb t with
  | none => false
  | some k => fdT tb k who && (decide (other ≠ who) && decide (bI (hrT tb k other) ≠ bI on))
def movT (tb : Tb) (t u : List Nat) (who : Int32) : Bool :=
  match mtT tb t with
  | none => false
  | some k => fdT tb k who && freT tb u (nI k)
