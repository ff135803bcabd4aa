/-! the tables against the program's scans -/
theorem mtL_ap (t : List Nat) : ∀ (l : List Nm) (e : Nm) (k : Nat) (r : Option Nat), mtL t (l ++ [e]) k r = if e.1 = t then some (k + l.length) else mtL t l k r
  | [], e, k, r => rfl
  | d :: l, e, k, r => by
    rw [List.cons_append, mtL, mtL_ap t l e, mtL, List.length_cons, show k + 1 + l.length = k + (l.length + 1) by omega]
theorem mtL_map (t : List Nat) : ∀ (l l2 : List Nm) (k : Nat) (r : Option Nat), l.map (·.1) = l2.map (·.1) → mtL t l k r = mtL t l2 k r
  | [], [], _, _, _ => rfl
  | [], _ :: _, _, _, h => by cases h
  | _ :: _, [], _, _, h => by cases h
  | a :: l, b :: l2, k, r, h => by
    rw [List.map_cons, List.map_cons] at h
    have h1 := (List.cons.inj h).1
    rw [mtL, mtL, h1]
    exact mtL_map t l l2 _ _ (List.cons.inj h).2
theorem vtL_ap (o : Nat) (v : Int32) : ∀ (l : List Ve) (e : Ve) (k : Nat) (r : Option Nat), vtL o v (l ++ [e]) k r = if e.1 = o ∧ e.2.1 = v then some (k + l.length) else vtL o v l k r
  | [], e, k, r => rfl
  | d :: l, e, k, r => by
    rw [List.cons_append, vtL, vtL_ap o v l e, vtL, List.length_cons, show k + 1 + l.length = k + (l.length + 1) by omega]
theorem vtL_map (o : Nat) (v : Int32) : ∀ (l l2 : List Ve) (k : Nat) (r : Option Nat), l.map (fun e => (e.1, e.2.1)) = l2.map (fun e => (e.1, e.2.1)) → vtL o v l k r = vtL o v l2 k r
  | [], [], _, _, _ => rfl
  | [], _ :: _, _, _, h => by cases h
  | _ :: _, [], _, _, h => by cases h
  | a :: l, b :: l2, k, r, h => by
    rw [List.map_cons, List.map_cons] at h
    have h1 := (List.cons.inj h).1
    have h3 := congrArg Prod.fst h1
    have h4 := congrArg Prod.snd h1
    rw [vtL, vtL, show a.1 = b.1 from h3, show a.2.1 = b.2.1 from h4]
    exact vtL_map o v l l2 _ _ (List.cons.inj h).2
theorem mtL_txt (t : List Nat) : ∀ (l : List Nm) (k : Nat) (r : Option Nat) (j : Nat), mtL t l k r = some j → r = some j ∨ ∃ q, q < l.length ∧ j = k + q ∧ (l.getD q ([], 0, 0)).1 = t
  | [], k, r, j, h => Or.inl h
  | e :: l, k, r, j, h => by
    rw [mtL] at h
    rcases mtL_txt t l (k + 1) _ j h with q | ⟨q, q1, q2, q3⟩
    · by_cases he : e.1 = t
      · rw [if_pos he] at q
        exact Or.inr ⟨0, by rw [List.length_cons]; omega, by have := Option.some.inj q; omega, he⟩
      · rw [if_neg he] at q; exact Or.inl q
    · exact Or.inr ⟨q + 1, by rw [List.length_cons]; omega, by omega, q3⟩
theorem vtL_txt (o : Nat) (v : Int32) : ∀ (l : List Ve) (k : Nat) (r : Option Nat) (j : Nat), vtL o v l k r = some j → r = some j ∨ ∃ q, q < l.length ∧ j = k + q ∧ (l.getD q (0, 0, 0, 0)).1 = o ∧ (l.getD q (0, 0, 0, 0)).2.1 = v
  | [], k, r, j, h => Or.inl h
  | e :: l, k, r, j, h => by
    rw [vtL] at h
    rcases vtL_txt o v l (k + 1) _ j h with q | ⟨q, q1, q2, q3⟩
    · by_cases he : e.1 = o ∧ e.2.1 = v
      · rw [if_pos he] at q
        exact Or.inr ⟨0, by rw [List.length_cons]; omega, by have := Option.some.inj q; omega, he⟩
      · rw [if_neg he] at q; exact Or.inl q
    · exact Or.inr ⟨q + 1, by rw [List.length_cons]; omega, by omega, q3⟩
theorem mtT_txt {tb : Tb} {t : List Nat} {k : Nat} (h : mtT tb t = some k) : k < tb.1.length ∧ (nmT tb k).1 = t := by
  rcases mtL_txt t tb.1 0 none k h with q | ⟨q, q1, q2, q3⟩
  · cases q
  · rw [Nat.zero_add] at q2; subst q2; exact ⟨q1, q3⟩
theorem vtT_txt {tb : Tb} {o : Nat} {v : Int32} {k : Nat} (h : vtT tb o v = some k) : k < tb.2.2.length ∧ (veT tb k).1 = o ∧ (veT tb k).2.1 = v := by
  rcases vtL_txt o v tb.2.2 0 none k h with q | ⟨q, q1, q2, q3⟩
  · cases q
  · rw [Nat.zero_add] at q2; subst q2; exact ⟨q1, q3⟩
theorem mtL_some (t : List Nat) : ∀ (l : List Nm) (k : Nat) (r : Option Nat), (r ≠ none ∨ ∃ e ∈ l, e.1 = t) → mtL t l k r ≠ none
  | [], k, r, h => by
    rcases h with h | ⟨e, h, _⟩
    · exact h
    · cases h
  | d :: l, k, r, h => by
    rw [mtL]
    refine mtL_some t l _ _ ?_
    rcases h with h | ⟨e, h, h2⟩
    · left; split
      · exact fun z => by cases z
      · exact h
    · rcases List.mem_cons.mp h with q | q
      · subst q; left; rw [if_pos h2]; exact fun z => by cases z
      · exact Or.inr ⟨e, q, h2⟩
def gS (t : List Nat) (l : List Rw) : Bool := l.any (fun r => decide (rk r = 3 ∧ rn r = t))
theorem gS_ap (t : List Nat) (l : List Rw) (r : Rw) : gS t (l ++ [r]) = (gS t l || decide (rk r = 3 ∧ rn r = t)) := by
  unfold gS; rw [List.any_append]; simp
theorem oS_ap (t : List Nat) : ∀ (l : List Rw) (r : Rw) (o : Int32), oS t (l ++ [r]) o = if gS t l = true then -1 else if rk r = 3 ∧ rn r = t then -1 else if ra r = t then ro r else oS t l o
  | [], r, o => by
    rw [List.nil_append, oS, oS, oS]
    rfl
  | d :: l, r, o => by
    rw [List.cons_append, oS, oS]
    by_cases h : rk d = 3 ∧ rn d = t
    · rw [if_pos h, if_pos (by unfold gS; rw [List.any_cons, decide_eq_true h]; rfl)]
    · rw [if_neg h, if_neg h, oS_ap t l r]
      have : gS t (d :: l) = gS t l := by unfold gS; rw [List.any_cons, decide_eq_false h]; rfl
      rw [this]
theorem hrS_ap (o q : Int32) : ∀ (l : List Rw) (r : Rw) (b : Bool), hrS o q (l ++ [r]) b = if rk r = 2 ∧ ro r = o ∧ r2 r = q then decide (r3 r = 1) else hrS o q l b
  | [], r, b => rfl
  | d :: l, r, b => by rw [List.cons_append, hrS, hrS_ap o q l r, hrS]
theorem ynS_ap (o v : Int32) : ∀ (l : List Rw) (r : Rw) (b : Bool), ynS o v (l ++ [r]) b = if rk r = 1 ∧ ro r = o ∧ r2 r = v then decide (r3 r = 1) else ynS o v l b
  | [], r, b => rfl
  | d :: l, r, b => by rw [List.cons_append, ynS, ynS_ap o v l r, ynS]
theorem pubS_ap (o v : Int32) : ∀ (l : List Rw) (r : Rw) (i : Nat), i + l.length < 2 ^ 31 → pubS o v (l ++ [r]) i = if pubS o v l i = -1 then (if rk r = 0 ∧ ro r = o ∧ r2 r = v then nI (i + l.length) else -1) else pubS o v l i
  | [], r, i, _ => by
    rw [List.nil_append, pubS, pubS, pubS, if_pos rfl]
    rfl
  | d :: l, r, i, h => by
    rw [List.length_cons] at h
    rw [List.cons_append, pubS, pubS]
    by_cases q : rk d = 0 ∧ ro d = o ∧ r2 d = v
    · rw [if_pos q, if_pos q, if_neg (nI_m1 (by omega))]
    · rw [if_neg q, if_neg q, pubS_ap o v l r (i + 1) (by omega), List.length_cons, show i + 1 + l.length = i + (l.length + 1) by omega]
theorem freeS_iff (t : List Nat) (mine : Int32) (all : List Rw) : ∀ (l : List Rw), freeS t mine all l = true ↔ ∀ r ∈ l, ra r ≠ t ∧ ¬ (ro r ≠ mine ∧ nearS (ra r) t = true ∧ oS (ra r) all (-1) ≠ -1)
  | [] => ⟨fun _ r h => (by cases h), fun _ => rfl⟩
  | r :: l => by
    rw [freeS, List.forall_mem_cons, ← freeS_iff t mine all l]
    by_cases h1 : ra r = t
    · rw [if_pos h1]; exact ⟨fun z => (by cases z), fun z => absurd h1 z.1.1⟩
    · rw [if_neg h1]
      by_cases h2 : ro r ≠ mine ∧ nearS (ra r) t = true ∧ oS (ra r) all (-1) ≠ -1
      · rw [if_pos h2]; exact ⟨fun z => (by cases z), fun z => absurd h2 z.1.2⟩
      · rw [if_neg h2]; exact ⟨fun z => ⟨⟨h1, h2⟩, z⟩, fun z => z.2⟩
theorem frM_iff (S : Nat → Int32) (t : List Nat) (NT : Nat → List Nat) (but : Int32) : ∀ (n k : Nat) (b : Bool), frM S t NT but n k b = true ↔ b = true ∧ ∀ q, k ≤ q → q < k + n → nI q = but ∨ ¬ S q = nI 1 ∨ nearM t (NT q) = false
  | 0, k, b => ⟨fun h => ⟨h, fun q h1 h2 => absurd h2 (by omega)⟩, fun h => h.1⟩
  | n + 1, k, b => by
    cases b
    · exact ⟨fun h => (by cases h), fun h => (by cases h.1)⟩
    · rw [frM, if_pos rfl, frM_iff S t NT but n (k + 1)]
      constructor
      · rintro ⟨h1, h2⟩
        refine ⟨rfl, fun q q1 q2 => ?_⟩
        by_cases e : q = k
        · subst e
          rw [Bool.or_eq_true, Bool.or_eq_true] at h1
          rcases h1 with h | h | h
          · exact Or.inl (of_decide_eq_true h)
          · exact Or.inr (Or.inl (by simpa using h))
          · exact Or.inr (Or.inr (by simpa using h))
        · exact h2 q (by omega) (by omega)
      · rintro ⟨-, h2⟩
        refine ⟨?_, fun q q1 q2 => h2 q (by omega) (by omega)⟩
        rcases h2 k (Nat.le_refl _) (by omega) with h | h | h
        · rw [decide_eq_true h]; rfl
        · rw [decide_eq_false h]; simp
        · rw [h]; simp
theorem thT_ap : ∀ (l : List Rw) (tb : Tb) (r : Rw), thT tb (l ++ [r]) = (thT tb l).bind (fun t => stT t r)
  | [], tb, r => by
    rw [List.nil_append, thT, thT]
    show (stT tb r).bind (fun t => some t) = stT tb r
    cases stT tb r <;> rfl
  | d :: l, tb, r => by
    rw [List.cons_append, thT, thT]
    cases h : stT tb d with
    | none => rfl
    | some t => exact thT_ap l t r
theorem foT_ap {l : List Rw} {tb : Tb} (h : foT l = some tb) (r : Rw) : foT (l ++ [r]) = stT tb r := by
  unfold foT at h ⊢
  rw [thT_ap, h]
  rfl
