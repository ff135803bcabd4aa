theorem en_gT {args : Array Value} {s : State} (hlw : ∀ w ∈ lw_tbl, w.before args s = true) : ∀ w ∈ gT, w.before args s = true := fun w hw => by
  rcases List.mem_append.mp hw with h | h
  · exact hlw w (List.mem_filter.mp h).1
  · rcases List.mem_cons.mp h with h | h
    · subst h; exact sel_priv (C := "java/lang/StringBuilder") (y := ⟨"java/lang/AbstractStringBuilder", "ensureCapacityInternal", "(I)V"⟩) (z := ⟨"java/lang/AbstractStringBuilder", "isLatin1", "()Z"⟩) ⟨by decide, by decide⟩ rfl (hlw _ (at_1 (List.mem_of_getElem? (i := 177) rfl))) (hlw _ (at_1 (List.mem_of_getElem? (i := 140) rfl))) (hlw _ (at_1 (List.mem_of_getElem? (i := 141) rfl)))
    · rcases List.mem_cons.mp h with h | h
      · subst h; exact sel_priv (C := "java/lang/StringBuilder") (y := ⟨"java/lang/AbstractStringBuilder", "newCapacity", "(I)I"⟩) (z := ⟨"java/lang/AbstractStringBuilder", "isLatin1", "()Z"⟩) ⟨by decide, by decide⟩ rfl (hlw _ (at_1 (List.mem_of_getElem? (i := 177) rfl))) (hlw _ (at_1 (List.mem_of_getElem? (i := 144) rfl))) (hlw _ (at_1 (List.mem_of_getElem? (i := 145) rfl)))
      · exact absurd h List.not_mem_nil
theorem en_cl {args : Array Value} {s : State} (hlw : ∀ w ∈ lw_tbl, w.before args s = true) : ∃ D : va_G, ∀ (c : Nat) (q : vw_C), cls_[c]? = some q → u_Kn s q.1 q.2.1 q.2.2 (D.1 c) (D.2 c) := by
  have hg := en_gT hlw
  have h : ∀ c : Nat, ∃ d : ClassId × (Nat → Nat), ∀ q : vw_C, cls_[c]? = some q → u_Kn s q.1 q.2.1 q.2.2 d.1 d.2 := by
    intro c
    match c with
    | 0 =>
      obtain ⟨cC, iS, h9⟩ := u_known (C := R_X) (T := F_X) (N := 6) (n := 6) hg i_X (hlw _ (at_1 (List.mem_of_getElem? (i := 27) rfl)))
      exact ⟨(cC, iS), fun q hq => by cases hq; exact h9⟩
    | 1 =>
      obtain ⟨cC, iS, h9⟩ := u_known (C := R_L) (T := F_L) (N := 3) (n := 3) hg i_L (hlw _ (at_1 (List.mem_of_getElem? (i := 68) rfl)))
      exact ⟨(cC, iS), fun q hq => by cases hq; exact h9⟩
    | 2 =>
      obtain ⟨cC, iS, h9⟩ := u_known (C := R_N) (T := F_N) (N := 2) (n := 2) hg i_N (hlw _ (at_1 (List.mem_of_getElem? (i := 74) rfl)))
      exact ⟨(cC, iS), fun q hq => by cases hq; exact h9⟩
    | 3 =>
      obtain ⟨cC, iS, h9⟩ := u_known (C := R_U) (T := F_U) (N := 3) (n := 3) hg i_U (hlw _ (at_2 (List.mem_of_getElem? (i := 233) rfl)))
      exact ⟨(cC, iS), fun q hq => by cases hq; exact h9⟩
    | 4 =>
      obtain ⟨cC, iS, h9⟩ := u_known (C := R_R) (T := F_R) (N := 8) (n := 8) hg i_R (hlw _ (at_2 (List.mem_of_getElem? (i := 166) rfl)))
      exact ⟨(cC, iS), fun q hq => by cases hq; exact h9⟩
    | 5 =>
      obtain ⟨cC, iS, h9⟩ := u_known (C := R_H) (T := F_H) (N := 2) (n := 2) hg i_H (hlw _ (at_3 (List.mem_of_getElem? (i := 135) rfl)))
      exact ⟨(cC, iS), fun q hq => by cases hq; exact h9⟩
    | 6 =>
      obtain ⟨cC, iS, h9⟩ := u_known (C := R_S) (T := F_S) (N := 4) (n := 4) hg i_S (hlw _ (at_1 (List.mem_of_getElem? (i := 212) rfl)))
      exact ⟨(cC, iS), fun q hq => by cases hq; exact h9⟩
    | 7 =>
      obtain ⟨cC, iS, h9⟩ := u_known (C := R_B) (T := F_B) (N := 4) (n := 4) hg i_B (hlw _ (at_1 (List.mem_of_getElem? (i := 35) rfl)))
      exact ⟨(cC, iS), fun q hq => by cases hq; exact h9⟩
    | 8 =>
      obtain ⟨cC, iS, h9⟩ := u_known (C := R_M) (T := F_M) (N := 46) (n := 46) hg i_M (hlw _ (at_4 (List.mem_of_getElem? (i := 204) rfl)))
      exact ⟨(cC, iS), fun q hq => by cases hq; exact h9⟩
    | c + 9 => exact ⟨(0, fun _ => 0), fun q hq => by cases hq⟩
  obtain ⟨D, hD⟩ := Classical.axiomOfChoice h
  exact ⟨(fun c => (D c).1, fun c => (D c).2), hD⟩
theorem en_arr {args : Array Value} {s : State} {ty : FieldType} (h : (Cond.arrayClass ty).before args s = true) : ∃ cA, ArrOfT s cA ty ∧ s.vm.findClass ("[" ++ ty.toString) = some cA ∧ ∃ kA comp, s.vm.classes[cA]? = some kA ∧ kA.kind = .array comp ty := by
  obtain ⟨cA, kA, comp, h1, h2, h3⟩ := Cond.arrayClass_spec h
  exact ⟨cA, fun n z => ⟨fun k h => (by cases h), kA, h2, comp, h3⟩, h1, kA, comp, h2, h3⟩
theorem en_arq {args : Array Value} {s : State} {C : String} (h : (Cond.arrayOver (.object C)).before args s = true) : ∃ cA, ArrOfT s cA (.object C) ∧ va_RA s cA (.object C) := by
  obtain ⟨comp, cA, kA, h1, h2, h3, h4, h5⟩ := Cond.arrayOver_spec h
  exact ⟨cA, fun n z => ⟨fun k h => (by cases h), kA, h3, comp, h4⟩, kA, comp, h3, h4, h1, h5⟩
theorem en_ref {args : Array Value} {s : State} {own : String} {k : Nat} (h : (Cond.exactly (.string own k) "java/lang/String").before args s = true) : ∃ a : Nat, (Term.string own k).eval args s none [] s = some (.ref a) := by
  obtain ⟨a, c, cA, kA, q1, -⟩ := Cond.exactly_spec (args := args) (first := s) (o := none) (s := s) (idx := []) (t := .string own k) (cls := "java/lang/String") h
  exact ⟨a, q1⟩
theorem en_eq {args : Array Value} {s : State} {t u : Term} {a b : Nat} (h : (Cond.eq t u).before args s = true) (ht : t.eval args s none [] s = some (.ref a)) (hu : u.eval args s none [] s = some (.ref b)) : a = b := by
  simp only [Cond.before, Cond.holds, Cond.value, ht, hu] at h
  simpa using h
theorem en_len {args : Array Value} {s : State} {t : Term} {v : Nat} (ht : t.eval args s none [] s = some (.ref v)) (h : (Term.length t).eval args s none [] s = some (.int 0)) : ∃ cell, s.arrayAt? v = some cell ∧ cell.slots.size = 0 := by
  simp only [Term.eval, ht, Option.bind_eq_bind, Option.bind_some, Option.bind_eq_some_iff] at h
  obtain ⟨cell, hc, h⟩ := h
  refine ⟨cell, hc, ?_⟩
  by_cases hn : cell.slots.size < 2 ^ 31
  · rw [if_pos hn] at h
    have h2 : nI cell.slots.size = nI 0 := by
      have h3 := Option.some.inj h
      injection h3 with h4
    exact (nI_eq hn (by decide)).mp h2
  · rw [if_neg hn] at h; cases h
theorem en_str {args : Array Value} {s : State} {D : va_G} {own : String} {k : Nat} (hD : ∀ (c : Nat) (q : vw_C), cls_[c]? = some q → u_Kn s q.1 q.2.1 q.2.2 (D.1 c) (D.2 c))
    (hex : (Cond.exactly (.string own k) "java/lang/String").before args s = true) (hco : (Cond.eq (.field (.string own k) "java/lang/String" "coder" "B") (.int 0)).before args s = true)
    (har : (Cond.arrayOf (.field (.string own k) "java/lang/String" "value" "[B") .byte).before args s = true) (hle : (Cond.eq (.length (.field (.string own k) "java/lang/String" "value" "[B")) (.int 0)).before args s = true) :
    ∃ (a v : Nat) (cell c2 : Cell), (Term.string own k).eval args s none [] s = some (.ref a) ∧ s.heap[a]? = some cell ∧ cell.vm.isStatics = false ∧ cell.vm ≠ .unknown ∧ cell.cls = D.1 6 ∧ cell.slots[D.2 6 0]? = some (.ref v) ∧ cell.slots[D.2 6 1]? = some (.int 0) ∧ s.heap[v]? = some c2 ∧ c2.vm.isStatics = false ∧ c2.vm ≠ .unknown ∧ c2.slots.size = 0 ∧ ∃ kA comp, s.vm.classes[c2.cls]? = some kA ∧ kA.kind = .array comp .byte := by
  obtain ⟨hsl, hcA, -⟩ := hD 6 _ rfl
  obtain ⟨a, c, cell, kA, q1, q2, q3, q4, q5, q6, -⟩ := Cond.exactly_spec (args := args) (first := s) (o := none) (s := s) (idx := []) (t := .string own k) (cls := "java/lang/String") hex
  obtain ⟨cf0, kf0, fi0, fd0, i0, j0⟩ := hsl 0 (by decide)
  obtain ⟨cf1, kf1, fi1, fd1, i1, j1⟩ := hsl 1 (by decide)
  have hv : ∃ v : Nat, (Term.field (.string own k) "java/lang/String" "value" "[B").eval args s none [] s = some (.ref v) := by
    cases hv : (Term.field (.string own k) "java/lang/String" "value" "[B").eval args s none [] s with
    | none => exfalso; have h9 := va_eqt hle; rw [Term.eval, hv] at h9; simp at h9
    | some w =>
      cases w with
      | ref v => exact ⟨v, rfl⟩
      | _ => exfalso; have h9 := va_eqt hle; rw [Term.eval, hv] at h9; simp at h9
  obtain ⟨v, hv⟩ := hv
  obtain ⟨-, c0, g2, g3, g4, -, g6⟩ := Term.field_spec i0 q1 hv
  obtain ⟨-, c1, k2, k3, k4, -, k6⟩ := Term.field_spec i1 q1 (va_eqt hco)
  cases q3.symm.trans g2
  cases q3.symm.trans k2
  obtain ⟨c2, hc2, hz⟩ := en_len hv (va_eqt hle)
  obtain ⟨m1, m2, m3, -⟩ := State.arrayAt?_spec hc2
  have hcls : cell.cls = D.1 6 := by rw [q6]; exact Option.some.inj (q2.symm.trans hcA)
  refine ⟨a, v, cell, c2, q1, q3, q5, g3, hcls, by rw [← j0]; exact g6, by rw [← j1]; exact k6, m1, m3, m2, hz, ?_⟩
  simp only [Cond.before, Cond.holds, Cond.value, hv, m1] at har
  cases hk : s.vm.classes[c2.cls]? with
  | none => simp [hk] at har
  | some kB =>
    simp [hk] at har
    cases hkind : kB.kind with
    | array comp ty => rw [hkind] at har; simp at har; exact ⟨kB, comp, rfl, by rw [hkind, har.2.2]⟩
    | _ => rw [hkind] at har; simp at har
theorem en_nC {args : Array Value} {s : State} (h : (Cond.not (.castable "java/lang/IllegalStateException" "java/lang/IllegalArgumentException")).before args s = true) (h1 : (Cond.castable "java/lang/IllegalStateException" "java/lang/IllegalStateException").before args s = true) (h2 : (Cond.castable "java/lang/IllegalArgumentException" "java/lang/IllegalArgumentException").before args s = true) : nC s := by
  obtain ⟨c1, -, f1, -, -⟩ := Cond.castable_spec h1
  obtain ⟨c2, -, f2, -, -⟩ := Cond.castable_spec h2
  refine ⟨c1, c2, f1, f2, ?_⟩
  simp only [Cond.before, Cond.holds, Cond.value, f1, f2] at h
  simpa using h
theorem en_tZ {args : Array Value} {s : State} {n d : String} {A : Nat → Prop} (hl : (Cond.laysStatic "java/lang/Throwable" n d).before args s = true) (h : (Cond.isRef (.static "java/lang/Throwable" n d)).before args s = true) (hA : ∀ a : Nat, a < s.heap.size → ¬ A a) : tZ n d A s s.heap := by
  obtain ⟨c, k, i, f, a, cell, hc, hi, hst, ha, hcell, hs, hcls, hlt, hty⟩ := Cond.laysStatic_spec hl
  have hv : ∃ v : Value, (Term.static "java/lang/Throwable" n d).eval args s none [] s = some v ∧ v.isRef = true := by
    cases hv : (Term.static "java/lang/Throwable" n d).eval args s none [] s with
    | none => simp [Cond.before, Cond.holds, Cond.value, hv] at h
    | some w =>
      simp only [Cond.before, Cond.holds, Cond.value, hv] at h
      cases w with
      | null => exact ⟨_, rfl, rfl⟩
      | ref t => exact ⟨_, rfl, rfl⟩
      | _ => simp at h
  obtain ⟨v, hv, hr⟩ := hv
  obtain ⟨-, a', cell', ha', hcell', -, hslot⟩ := Term.static_spec hi hv
  cases ha.symm.trans ha'
  cases hcell.symm.trans hcell'
  exact ⟨c, k, i, f, a, cell, v, hc, hi, hst, ha, hty, hcell, hs, hcls, hlt, hslot, hr, hA a (Array.getElem?_eq_some_iff.mp hcell).1⟩
