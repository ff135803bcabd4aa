/-! the ledger that is asked; what a refusal is on both sides -/
section RL5
variable {rows : List Rw} {mir : Nat → List Rw} {T : List Nat}
def tbL (l : List Rw) : Tb := (foT l).getD ([], [], [])
theorem inv_log (h : OKR rows mir) : ∃ og, InvR rows (tbL rows) og ∧ foT rows = some (tbL rows) := by
  obtain ⟨tb, og, I⟩ := Inv_acc _ rows rfl h.1
  have e : tbL rows = tb := by unfold tbL; rw [I.fo]; rfl
  rw [e]
  exact ⟨og, I, I.fo⟩
theorem inv_mir (h : OKR rows mir) {q : Nat} (hq : q < 4) : ∃ og, InvR (mir q) (tbL (mir q)) og ∧ foT (mir q) = some (tbL (mir q)) := by
  obtain ⟨tb, og, I⟩ := mirOk_inv h.1 (h.2 q hq).1
  have e : tbL (mir q) = tb := by unfold tbL; rw [I.fo]; rfl
  rw [e]
  exact ⟨og, I, I.fo⟩
theorem nm_log (h : OKR rows mir) : ∀ r ∈ rows, nameS (ra r) = true := fun r hr => (accL_nm rows [] h.1 r hr).2
theorem nm_mir (h : OKR rows mir) {q : Nat} (hq : q < 4) : ∀ r ∈ mir q, nameS (ra r) = true := fun r hr => (accL_nm (mir q) [] (accL_k (accL_take rows [] (mir q).length h.1) (h.2 q hq).1.symm) r hr).2
/-- what is asked of a ledger, in one -/
theorem asks (h : OKR rows mir) (i : Int32) : (foudT (askT (asW (tbL rows) (fun q => tbL (mir q)) i) T) = rp (atS (ledS rows mir i) (oS T (ledS rows mir i) (-1)))) ∧
    (∀ w, hasT (askT (asW (tbL rows) (fun q => tbL (mir q)) i) T) w = (decide (0 ≤ w ∧ w < 8) && hsS (ledS rows mir i) (oS T (ledS rows mir i) (-1)) w)) ∧
    (∀ v, verT (vaT (askT (asW (tbL rows) (fun q => tbL (mir q)) i) T) v) = (if pubS (oS T (ledS rows mir i) (-1)) v (ledS rows mir i) 0 = -1 then 0 else if ynS (oS T (ledS rows mir i) (-1)) v (ledS rows mir i) false = true then 2 else 1)) ∧
    ∀ v, sumT (vaT (askT (asW (tbL rows) (fun q => tbL (mir q)) i) T) v) = (if pubS (oS T (ledS rows mir i) (-1)) v (ledS rows mir i) 0 = -1 then 0 else r3 (atS (ledS rows mir i) (pubS (oS T (ledS rows mir i) (-1)) v (ledS rows mir i) 0))) := by
  unfold asW ledS mirS
  by_cases e : i = -1
  · rw [if_pos e, if_pos e]
    obtain ⟨og, I, -⟩ := inv_log h
    exact ⟨fou_eq I (nm_log h), fun w => has_eq I (nm_log h) w, fun v => (ver_eq I (nm_log h) v).1, fun v => (ver_eq I (nm_log h) v).2⟩
  · rw [if_neg e, if_neg e]
    by_cases e2 : 0 ≤ i ∧ i < 4
    · rw [if_pos e2, if_pos e2]
      obtain ⟨og, I, -⟩ := inv_mir h (i4_lt e2)
      exact ⟨fou_eq I (nm_mir h (i4_lt e2)), fun w => has_eq I (nm_mir h (i4_lt e2)) w, fun v => (ver_eq I (nm_mir h (i4_lt e2)) v).1, fun v => (ver_eq I (nm_mir h (i4_lt e2)) v).2⟩
    · rw [if_neg e2, if_neg e2]
      have ha : askT none T = none := by unfold askT; split <;> rfl
      rw [ha]
      refine ⟨by rw [show oS T [] (-1) = -1 from rfl, atS_m1]; rfl, fun w => ?_, fun v => ?_, fun v => ?_⟩
      · show false = _
        rw [show hsS [] (oS T [] (-1)) w = false from by rw [show oS T [] (-1) = -1 from rfl, hsS, decide_eq_false (fun z => z.1 rfl)]; rfl, Bool.and_false]
      · rw [if_pos (show pubS (oS T [] (-1)) v [] 0 = -1 from rfl)]; rfl
      · rw [if_pos (show pubS (oS T [] (-1)) v [] 0 = -1 from rfl)]; rfl
theorem cd_pub (h : OKR rows mir) {who v : Int32} : endC (!(nameM T 0 T.length && (isP who && isV v))) (pubT (tbL rows) T who v) rows.length = endC (!(nameS T && (decide (0 ≤ who ∧ who < 8) && decide (0 ≤ v ∧ v < 1000)))) (pubC rows T who v) rows.length := by
  obtain ⟨og, I, -⟩ := inv_log h
  rw [nameM_S]
  show endC (!(nameS T && (isP who && isV v))) _ _ = endC (!(nameS T && (isP who && isV v))) _ _
  cases hp : isP who with
  | false => rw [Bool.false_and, Bool.and_false]; rfl
  | true => rw [I.pub_eq hp]
theorem cd_yan (h : OKR rows mir) {who v : Int32} {on : Bool} : endC (!(nameM T 0 T.length && (isP who && isV v))) (yanT (tbL rows) T who v on) rows.length = endC (!(nameS T && (decide (0 ≤ who ∧ who < 8) && decide (0 ≤ v ∧ v < 1000)))) (yanC rows T who v on) rows.length := by
  obtain ⟨og, I, -⟩ := inv_log h
  rw [nameM_S]
  show endC (!(nameS T && (isP who && isV v))) _ _ = endC (!(nameS T && (isP who && isV v))) _ _
  cases hp : isP who with
  | false => rw [Bool.false_and, Bool.and_false]; rfl
  | true => rw [I.yan_eq hp]
theorem cd_gra (h : OKR rows mir) {who v : Int32} {on : Bool} : endC (!(nameM T 0 T.length && (isP who && isP v))) (graT (tbL rows) T who v on) rows.length = endC (!(nameS T && (decide (0 ≤ who ∧ who < 8) && decide (0 ≤ v ∧ v < 8)))) (graC rows T who v on) rows.length := by
  obtain ⟨og, I, -⟩ := inv_log h
  rw [nameM_S]
  show endC (!(nameS T && (isP who && isP v))) _ _ = endC (!(nameS T && (isP who && isP v))) _ _
  cases hp : isP who with
  | false => rw [Bool.false_and, Bool.and_false]; rfl
  | true =>
    cases hq : isP v with
    | false => rw [Bool.and_false, Bool.and_false]; rfl
    | true => rw [I.gra_eq hp hq]
theorem cd_mov (h : OKR rows mir) {who : Int32} : endC (!((decide (cutM T < T.length) && (nameM T 0 (cutM T) && nameM T (cutM T + 1) T.length)) && isP who)) (movT (tbL rows) (T.take (cutM T)) (T.drop (cutM T + 1)) who) rows.length = endC (!((decide (cutM T < T.length) && (nameS (T.take (cutM T)) && nameS (T.drop (cutM T + 1)))) && decide (0 ≤ who ∧ who < 8))) (movC rows (T.take (cutM T)) (T.drop (cutM T + 1)) who) rows.length := by
  obtain ⟨og, I, -⟩ := inv_log h
  show endC (!(_ && isP who)) _ _ = endC (!(_ && isP who)) _ _
  cases hp : isP who with
  | false => rw [Bool.and_false, Bool.and_false]; rfl
  | true =>
    rw [I.mov_eq hp]
    by_cases hc : cutM T < T.length
    · rw [nameM_cut T 0 (cutM T) (Nat.zero_le _) (by omega), nameM_cut T (cutM T + 1) T.length (by omega) (Nat.le_refl _), List.drop_zero, List.take_of_length_le (Nat.le_refl T.length)]
    · rw [decide_eq_false hc, Bool.false_and, Bool.false_and, Bool.false_and, Bool.false_and]
theorem endC_0 {bad may : Bool} {n : Nat} (h : endC bad may n = 0) : bad = false ∧ may = true ∧ n ≠ 120 := by
  unfold endC at h
  cases bad with
  | true => rw [if_pos rfl] at h; cases h
  | false =>
    rw [if_neg (by decide)] at h
    cases may with
    | false => rw [Bool.false_and, if_neg (by decide)] at h; cases h
    | true =>
      refine ⟨rfl, rfl, fun z => ?_⟩
      rw [decide_eq_true z] at h
      cases h
theorem not_f {a : Bool} (h : (!a) = false) : a = true := by cases a <;> first | rfl | cases h
theorem ok_pub (hl : rows.length ≤ 120) {who v sm og0 : Int32} (hog : (if oS T rows (-1) = -1 then nI rows.length else oS T rows (-1)) = og0) (h : endC (!(nameS T && (decide (0 ≤ who ∧ who < 8) && decide (0 ≤ v ∧ v < 1000)))) (pubC rows T who v) rows.length = 0) : okR rows (0, who, T, T, v, sm, og0) := by
  obtain ⟨h1, h2, h3⟩ := endC_0 h
  obtain ⟨a, b⟩ := and2 (not_f h1)
  obtain ⟨b, c⟩ := and2 b
  exact ⟨by omega, b, ⟨a, a⟩, Or.inl ⟨rfl, rfl, h2, hog.symm⟩⟩
theorem ok_yan (hl : rows.length ≤ 120) {who v og0 : Int32} {on : Bool} (hog : oS T rows (-1) = og0) (h : endC (!(nameS T && (decide (0 ≤ who ∧ who < 8) && decide (0 ≤ v ∧ v < 1000)))) (yanC rows T who v on) rows.length = 0) : okR rows (1, who, T, T, v, bI on, og0) := by
  obtain ⟨h1, h2, h3⟩ := endC_0 h
  obtain ⟨a, b⟩ := and2 (not_f h1)
  obtain ⟨b, c⟩ := and2 b
  exact ⟨by omega, b, ⟨a, a⟩, Or.inr (Or.inl ⟨rfl, rfl, hog.symm, on, rfl, h2⟩)⟩
theorem ok_gra (hl : rows.length ≤ 120) {who v og0 : Int32} {on : Bool} (hog : oS T rows (-1) = og0) (h : endC (!(nameS T && (decide (0 ≤ who ∧ who < 8) && decide (0 ≤ v ∧ v < 8)))) (graC rows T who v on) rows.length = 0) : okR rows (2, who, T, T, v, bI on, og0) := by
  obtain ⟨h1, h2, h3⟩ := endC_0 h
  obtain ⟨a, b⟩ := and2 (not_f h1)
  obtain ⟨b, c⟩ := and2 b
  exact ⟨by omega, b, ⟨a, a⟩, Or.inr (Or.inr (Or.inl ⟨rfl, rfl, c, hog.symm, on, rfl, h2⟩))⟩
theorem ok_mov (hl : rows.length ≤ 120) {who og0 : Int32} {t u : List Nat} {c : Bool} (hog : oS t rows (-1) = og0) (h : endC (!((c && (nameS t && nameS u)) && decide (0 ≤ who ∧ who < 8))) (movC rows t u who) rows.length = 0) : okR rows (3, who, t, u, -1, 0, og0) := by
  obtain ⟨h1, h2, h3⟩ := endC_0 h
  obtain ⟨a, b⟩ := and2 (not_f h1)
  obtain ⟨a, d⟩ := and2 a
  obtain ⟨d, e⟩ := and2 d
  exact ⟨by omega, b, ⟨d, e⟩, Or.inr (Or.inr (Or.inr ⟨rfl, hog.symm, h2⟩))⟩
end RL5
