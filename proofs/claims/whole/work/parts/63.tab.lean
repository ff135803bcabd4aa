/-! THE REFERENCE'S TABLES as lists: names (text, state, owner), owners (founder, rights), versions (owner, number, sum, yanked) -/
abbrev Nm : Type := List Nat × Int32 × Nat
abbrev Ow : Type := Int32 × Int32
abbrev Ve : Type := Nat × Int32 × Int32 × Int32
abbrev Tb : Type := List Nm × List Ow × List Ve
def nmT (tb : Tb) (k : Nat) : Nm := tb.1.getD k ([], 0, 0)
def owT (tb : Tb) (k : Nat) : Ow := tb.2.1.getD k (0, 0)
def veT (tb : Tb) (k : Nat) : Ve := tb.2.2.getD k (0, 0, 0, 0)
def oI : Option Nat → Int32
  | none => -1
  | some k => nI k
/-- the last place of a text among the names -/
def mtL (t : List Nat) : List Nm → Nat → Option Nat → Option Nat
  | [], _, r => r
  | e :: l, k, r => mtL t l (k + 1) (if e.1 = t then some k else r)
def vtL (o : Nat) (v : Int32) : List Ve → Nat → Option Nat → Option Nat
  | [], _, r => r
  | e :: l, k, r => vtL o v l (k + 1) (if e.1 = o ∧ e.2.1 = v then some k else r)
def mtT (tb : Tb) (t : List Nat) : Option Nat := mtL t tb.1 0 none
def vtT (tb : Tb) (o : Nat) (v : Int32) : Option Nat := vtL o v tb.2.2 0 none
def bitS (p : Int32) : Int32 := 1 <<< (p &&& 31)
def rgS (r p f : Int32) : Int32 := if f = 1 then r ||| bitS p else r &&& (bitS p ^^^ (-1))
/-- what a row does to the tables -/
def stT (tb : Tb) (r : Rw) : Option Tb :=
  match mtT tb (rn r) with
  | none => if rk r = 0 then some (tb.1 ++ [(rn r, 1, tb.2.1.length)], tb.2.1 ++ [(rp r, 0)], tb.2.2 ++ [(tb.2.1.length, r2 r, r3 r, 0)]) else none
  | some k =>
    if rk r = 0 then some (tb.1, tb.2.1, tb.2.2 ++ [((nmT tb k).2.2, r2 r, r3 r, 0)])
    else if rk r = 1 then
      (match vtT tb (nmT tb k).2.2 (r2 r) with
       | none => none
       | some j => some (tb.1, tb.2.1, tb.2.2.set j ((veT tb j).1, (veT tb j).2.1, (veT tb j).2.2.1, r3 r)))
    else if rk r = 2 then some (tb.1, tb.2.1.set (nmT tb k).2.2 ((owT tb (nmT tb k).2.2).1, rgS (owT tb (nmT tb k).2.2).2 (r2 r) (r3 r)), tb.2.2)
    else some (tb.1.set k ((nmT tb k).1, 2, (nmT tb k).2.2) ++ [(ra r, 1, (nmT tb k).2.2)], tb.2.1, tb.2.2)
def thT : Tb → List Rw → Option Tb
  | tb, [] => some tb
  | tb, r :: l => (stT tb r).bind (fun t => thT t l)
def foT (rows : List Rw) : Option Tb := thT ([], [], []) rows
/-- the tables as the reference holds them -/
def repT (F : Nat → Int32) (A : Nat → Nat → Int32) (tb : Tb) : Prop :=
  F 27 = nI tb.1.length ∧ F 28 = nI tb.2.1.length ∧ F 29 = nI tb.2.2.length ∧
  (∀ k, k < tb.1.length → A 18 k = nI (nmT tb k).1.length ∧ txt A 17 (10 * k) (nmT tb k).1 ∧ A 19 k = (nmT tb k).2.1 ∧ A 20 k = nI (nmT tb k).2.2) ∧
  (∀ k, k < tb.2.1.length → A 21 k = (owT tb k).1 ∧ A 22 k = (owT tb k).2) ∧
  (∀ k, k < tb.2.2.length → A 23 k = nI (veT tb k).1 ∧ A 24 k = (veT tb k).2.1 ∧ A 25 k = (veT tb k).2.2.1 ∧ A 26 k = (veT tb k).2.2.2)
def okT (tb : Tb) (i : Nat) : Prop := tb.1.length ≤ 2 * i ∧ tb.2.1.length ≤ i ∧ tb.2.2.length ≤ i ∧
  (∀ k, k < tb.1.length → (nmT tb k).1.length ≤ 10 ∧ (∀ c, (nmT tb k).1.getD c 0 < 128) ∧ (nmT tb k).2.2 < tb.2.1.length) ∧ ∀ k, k < tb.2.2.length → (veT tb k).1 < tb.2.1.length
theorem mtL_lt (t : List Nat) : ∀ (l : List Nm) (k : Nat) (r : Option Nat) (j : Nat), (∀ q, r = some q → q < k) → mtL t l k r = some j → j < k + l.length
  | [], k, r, j, h, e => h j e
  | x :: l, k, r, j, h, e => by
    rw [mtL] at e
    have := mtL_lt t l (k + 1) _ j (fun q hq => by
      split at hq
      · cases hq; omega
      · have := h q hq; omega) e
    rw [List.length_cons]; omega
theorem vtL_lt (o : Nat) (v : Int32) : ∀ (l : List Ve) (k : Nat) (r : Option Nat) (j : Nat), (∀ q, r = some q → q < k) → vtL o v l k r = some j → j < k + l.length
  | [], k, r, j, h, e => h j e
  | x :: l, k, r, j, h, e => by
    rw [vtL] at e
    have := vtL_lt o v l (k + 1) _ j (fun q hq => by
      split at hq
      · cases hq; omega
      · have := h q hq; omega) e
    rw [List.length_cons]; omega
theorem mtT_lt {tb : Tb} {t : List Nat} {k : Nat} (h : mtT tb t = some k) : k < tb.1.length := by
  have := mtL_lt t tb.1 0 none k (fun q hq => by cases hq) h
  omega
theorem vtT_lt {tb : Tb} {o : Nat} {v : Int32} {k : Nat} (h : vtT tb o v = some k) : k < tb.2.2.length := by
  have := vtL_lt o v tb.2.2 0 none k (fun q hq => by cases hq) h
  omega
theorem getD_ap {α : Type} {l : List α} {x d : α} {k : Nat} (h : k < l.length) : (l ++ [x]).getD k d = l.getD k d := by
  rw [List.getD_eq_getElem?_getD, List.getD_eq_getElem?_getD, List.getElem?_append_left h]
theorem getD_ap2 {α : Type} {l : List α} {x d : α} : (l ++ [x]).getD l.length d = x := by
  rw [List.getD_eq_getElem?_getD, List.getElem?_append_right (Nat.le_refl _), Nat.sub_self]; rfl
theorem getD_set {α : Type} {l : List α} {x d : α} {k j : Nat} (h : k < l.length) : (l.set j x).getD k d = if k = j then x else l.getD k d := by
  rw [List.getD_eq_getElem?_getD, List.getD_eq_getElem?_getD, List.getElem?_set]
  by_cases e : j = k
  · subst e; rw [if_pos rfl, if_pos h, if_pos rfl]; rfl
  · rw [if_neg e, if_neg (fun z => e z.symm)]
/-- one text against another, as the reference compares them -/
theorem eqP_i {A : Nat → Nat → Int32} {k j fr : Nat} {t u : List Nat} (hs : A 18 k = nI u.length) (hu : txt A 17 (10 * k) u) (ht : txt A j fr t) (hl : u.length < 2 ^ 31) (hl2 : t.length < 2 ^ 31) (hc : ∀ c, u.getD c 0 < 128) (hc2 : ∀ c, t.getD c 0 < 128) : ∀ i, i ≤ t.length → (eqP A k j fr t.length i = true ↔ u.length = t.length ∧ ∀ q, q < i → u.getD q 0 = t.getD q 0)
  | 0, _ => by
    rw [eqP, decide_eq_true_iff, hs, nI_eq hl hl2]
    exact ⟨fun h => ⟨h, fun q hq => by omega⟩, fun h => h.1⟩
  | i + 1, hi => by
    rw [eqP, Bool.and_eq_true, decide_eq_true_iff, eqP_i hs hu ht hl hl2 hc hc2 i (by omega)]
    constructor
    · rintro ⟨⟨h1, h2⟩, h3⟩
      refine ⟨h1, fun q hq => ?_⟩
      by_cases e : q = i
      · subst e
        rw [hu q (by omega), ht q (by omega)] at h3
        exact (nI_eq (by have := hc q; omega) (by have := hc2 q; omega)).mp h3
      · exact h2 q (by omega)
    · rintro ⟨h1, h2⟩
      refine ⟨⟨h1, fun q hq => h2 q (by omega)⟩, ?_⟩
      rw [hu i (by omega), ht i (by omega), h2 i (by omega)]
theorem list_getD {t u : List Nat} (h : u.length = t.length) (h2 : ∀ q, q < t.length → u.getD q 0 = t.getD q 0) : u = t := by
  refine List.ext_getElem h (fun q hq hq2 => ?_)
  have := h2 q hq2
  rw [List.getD_eq_getElem?_getD, List.getD_eq_getElem?_getD, List.getElem?_eq_getElem hq, List.getElem?_eq_getElem hq2] at this
  exact this
theorem eqP_t {A : Nat → Nat → Int32} {k j fr : Nat} {t u : List Nat} (hs : A 18 k = nI u.length) (hu : txt A 17 (10 * k) u) (ht : txt A j fr t) (hl : u.length < 2 ^ 31) (hl2 : t.length < 2 ^ 31) (hc : ∀ c, u.getD c 0 < 128) (hc2 : ∀ c, t.getD c 0 < 128) : eqP A k j fr t.length t.length = decide (u = t) := by
  have := eqP_i hs hu ht hl hl2 hc hc2 t.length (Nat.le_refl _)
  by_cases e : u = t
  · rw [decide_eq_true e, this]; subst e; exact ⟨rfl, fun _ _ => rfl⟩
  · rw [decide_eq_false e, Bool.eq_false_iff]
    exact fun z => e (list_getD (this.mp z).1 (this.mp z).2)
theorem met_mt {A : Nat → Nat → Int32} {j fr : Nat} {t : List Nat} : ∀ (l : List Nm) (k : Nat) (r : Option Nat), (∀ q, q < l.length → eqP A (k + q) j fr t.length t.length = decide ((l.getD q ([], 0, 0)).1 = t)) → metA A j fr t.length l.length k (oI r) = oI (mtL t l k r)
  | [], k, r, _ => rfl
  | x :: l, k, r, h => by
    rw [List.length_cons, metA, mtL]
    have h0 := h 0 (by simp)
    rw [Nat.add_zero] at h0
    rw [h0]
    have e : (if decide (((x :: l).getD 0 ([], 0, 0)).1 = t) = true then nI k else oI r) = oI (if x.1 = t then some k else r) := by
      show (if decide (x.1 = t) = true then nI k else oI r) = _
      by_cases e : x.1 = t
      · rw [if_pos (decide_eq_true e), if_pos e]; rfl
      · rw [if_neg (fun z => e (of_decide_eq_true z)), if_neg e]
    rw [e]
    refine met_mt l (k + 1) _ (fun q hq => ?_)
    have := h (q + 1) (by rw [List.length_cons]; omega)
    rw [show k + (q + 1) = k + 1 + q by omega] at this
    exact this
theorem metA_T {F : Nat → Int32} {A : Nat → Nat → Int32} {tb : Tb} {i j fr : Nat} {t : List Nat} (hT : repT F A tb) (ho : okT tb i) (ht : txt A j fr t) (hl : t.length ≤ 10) (hc : ∀ c, t.getD c 0 < 128) : metA A j fr t.length tb.1.length 0 (-1) = oI (mtT tb t) :=
  met_mt tb.1 0 none (fun q hq => by
    rw [Nat.zero_add]
    obtain ⟨h1, h2, h3, h4⟩ := hT.2.2.2.1 q hq
    obtain ⟨o1, o2, o3⟩ := ho.2.2.2.1 q hq
    exact eqP_t (u := (nmT tb q).1) h1 h2 ht (by omega) (by omega) o2 hc)
theorem va_vt {A : Nat → Nat → Int32} {o : Nat} {v : Int32} : ∀ (l : List Ve) (k : Nat) (r : Option Nat), (∀ q, q < l.length → (A 23 (k + q) = nI o ↔ (l.getD q (0, 0, 0, 0)).1 = o) ∧ A 24 (k + q) = (l.getD q (0, 0, 0, 0)).2.1) → vaL A (nI o) v l.length k (oI r) = oI (vtL o v l k r)
  | [], k, r, _ => rfl
  | x :: l, k, r, h => by
    rw [List.length_cons, vaL, vtL]
    have h0 := h 0 (by simp)
    rw [Nat.add_zero] at h0
    have e : (if A 23 k = nI o ∧ A 24 k = v then nI k else oI r) = oI (if x.1 = o ∧ x.2.1 = v then some k else r) := by
      have e9 : (A 23 k = nI o ∧ A 24 k = v) ↔ (x.1 = o ∧ x.2.1 = v) := by rw [h0.1, h0.2]; exact Iff.rfl
      by_cases e : x.1 = o ∧ x.2.1 = v
      · rw [if_pos e, if_pos (e9.mpr e)]; rfl
      · rw [if_neg e, if_neg (fun z => e (e9.mp z))]
    rw [e]
    refine va_vt l (k + 1) _ (fun q hq => ?_)
    have := h (q + 1) (by rw [List.length_cons]; omega)
    rw [show k + (q + 1) = k + 1 + q by omega] at this
    exact this
theorem vaL_T {F : Nat → Int32} {A : Nat → Nat → Int32} {tb : Tb} {i o : Nat} {v : Int32} (hT : repT F A tb) (ho : okT tb i) (hi : i ≤ 120) (hoo : o < 2 ^ 31) : vaL A (nI o) v tb.2.2.length 0 (-1) = oI (vtT tb o v) :=
  va_vt tb.2.2 0 none (fun q hq => by
    rw [Nat.zero_add]
    obtain ⟨h1, h2, h3, h4⟩ := hT.2.2.2.2.2 q hq
    have := ho.2.2.2.2 q hq
    have := ho.2.1
    exact ⟨by rw [h1]; exact nI_eq (by show (veT tb q).1 < _; omega) hoo, h2⟩)
/-! what the stores do to them -/
theorem upd_at (f : Nat → Int32) (k : Nat) (v : Int32) : upd f k v k = v := by rw [upd, if_pos rfl]
theorem upd_ne {f : Nat → Int32} {k j : Nat} {v : Int32} (h : j ≠ k) : upd f k v j = f j := by rw [upd, if_neg h]
theorem cpy_in {f g9 : Nat → Int32} {so d n k : Nat} (h : k < n) : va_cpy f g9 so d n (d + k) = f (so + k) := by
  unfold va_cpy
  rw [if_pos (by omega)]
  congr 1
  omega
theorem cpy_out {f g9 : Nat → Int32} {so d n q : Nat} (h : ¬ (d ≤ q ∧ q < d + n)) : va_cpy f g9 so d n q = g9 q := by
  unfold va_cpy
  rw [if_neg h]
/-- a new version -/
theorem repT_ve {F : Nat → Int32} {A : Nat → Nat → Int32} {N : List Nm} {O : List Ow} {V : List Ve} {o : Nat} {a b c : Int32} (h : repT F A (N, O, V)) : repT (upd F 29 (nI (V.length + 1))) (updA (updA (updA (updA A 23 (upd (A 23) V.length (nI o))) 24 (upd (A 24) V.length a)) 25 (upd (A 25) V.length b)) 26 (upd (A 26) V.length c)) (N, O, V ++ [(o, a, b, c)]) := by
  obtain ⟨h1, h2, h3, h4, h5, h6⟩ := h
  refine ⟨h1, h2, by show nI (V.length + 1) = _; rw [show (N, O, V ++ [(o, a, b, c)]).2.2.length = V.length + 1 from by simp], h4, h5, fun k hk => ?_⟩
  show upd (A 23) V.length (nI o) k = _ ∧ upd (A 24) V.length a k = _ ∧ upd (A 25) V.length b k = _ ∧ upd (A 26) V.length c k = _
  have hk : k < V.length + 1 := by simpa using hk
  by_cases e : k = V.length
  · subst e
    rw [upd_at, upd_at, upd_at, upd_at, veT, show (N, O, V ++ [(o, a, b, c)]).2.2 = V ++ [(o, a, b, c)] from rfl, getD_ap2]
    exact ⟨rfl, rfl, rfl, rfl⟩
  · rw [upd_ne e, upd_ne e, upd_ne e, upd_ne e, veT, show (N, O, V ++ [(o, a, b, c)]).2.2 = V ++ [(o, a, b, c)] from rfl, getD_ap (by omega)]
    exact h6 k (by show k < V.length; omega)
theorem repT_ow {F : Nat → Int32} {A : Nat → Nat → Int32} {N : List Nm} {O : List Ow} {V : List Ve} {a b : Int32} (h : repT F A (N, O, V)) : repT (upd F 28 (nI (O.length + 1))) (updA (updA A 21 (upd (A 21) O.length a)) 22 (upd (A 22) O.length b)) (N, O ++ [(a, b)], V) := by
  obtain ⟨h1, h2, h3, h4, h5, h6⟩ := h
  refine ⟨h1, by show nI (O.length + 1) = _; rw [show (N, O ++ [(a, b)], V).2.1.length = O.length + 1 from by simp], h3, h4, fun k hk => ?_, h6⟩
  show upd (A 21) O.length a k = _ ∧ upd (A 22) O.length b k = _
  have hk : k < O.length + 1 := by simpa using hk
  by_cases e : k = O.length
  · subst e
    rw [upd_at, upd_at, owT, show (N, O ++ [(a, b)], V).2.1 = O ++ [(a, b)] from rfl, getD_ap2]
    exact ⟨rfl, rfl⟩
  · rw [upd_ne e, upd_ne e, owT, show (N, O ++ [(a, b)], V).2.1 = O ++ [(a, b)] from rfl, getD_ap (by omega)]
    exact h5 k (by show k < O.length; omega)
theorem repT_me {F : Nat → Int32} {A : Nat → Nat → Int32} {N : List Nm} {O : List Ow} {V : List Ve} {j fr o : Nat} {t : List Nat} (h : repT F A (N, O, V)) (ht : txt A j fr t) (hl : t.length ≤ 10) (hN : ∀ k, k < N.length → (nmT (N, O, V) k).1.length ≤ 10) : repT (upd F 27 (nI (N.length + 1))) (updA (updA (updA (updA A 18 (upd (A 18) N.length (nI t.length))) 17 (va_cpy (A j) (A 17) fr (10 * N.length) t.length)) 19 (upd (A 19) N.length (nI 1))) 20 (upd (A 20) N.length (nI o))) (N ++ [(t, 1, o)], O, V) := by
  obtain ⟨h1, h2, h3, h4, h5, h6⟩ := h
  refine ⟨by show nI (N.length + 1) = nI (N ++ [(t, (1 : Int32), o)]).length; rw [List.length_append]; rfl, h2, h3, fun k hk => ?_, h5, h6⟩
  show upd (A 18) N.length (nI t.length) k = _ ∧ (∀ q, q < _ → va_cpy (A j) (A 17) fr (10 * N.length) t.length (10 * k + q) = _) ∧ upd (A 19) N.length (nI 1) k = _ ∧ upd (A 20) N.length (nI o) k = _
  have hk : k < N.length + 1 := by simpa using hk
  by_cases e : k = N.length
  · subst e
    rw [upd_at, upd_at, upd_at, nmT, show (N ++ [(t, 1, o)], O, V).1 = N ++ [(t, 1, o)] from rfl, getD_ap2]
    refine ⟨rfl, fun q hq => ?_, rfl, rfl⟩
    rw [cpy_in hq]
    exact ht q hq
  · rw [upd_ne e, upd_ne e, upd_ne e, nmT, show (N ++ [(t, 1, o)], O, V).1 = N ++ [(t, 1, o)] from rfl, getD_ap (by omega)]
    obtain ⟨q1, q2, q3, q4⟩ := h4 k (by show k < N.length; omega)
    have := hN k (by omega)
    refine ⟨q1, fun q hq => ?_, q3, q4⟩
    have hq : q < (nmT (N, O, V) k).1.length := hq
    rw [cpy_out (by omega)]
    exact q2 q hq
theorem repT_yk {F : Nat → Int32} {A : Nat → Nat → Int32} {N : List Nm} {O : List Ow} {V : List Ve} {j : Nat} {f : Int32} (h : repT F A (N, O, V)) : repT F (updA A 26 (upd (A 26) j f)) (N, O, V.set j ((veT (N, O, V) j).1, (veT (N, O, V) j).2.1, (veT (N, O, V) j).2.2.1, f)) := by
  obtain ⟨h1, h2, h3, h4, h5, h6⟩ := h
  refine ⟨h1, h2, by rw [h3]; simp, h4, h5, fun k hk => ?_⟩
  have hk : k < V.length := by simpa using hk
  show A 23 k = _ ∧ A 24 k = _ ∧ A 25 k = _ ∧ upd (A 26) j f k = _
  have q := h6 k hk
  rw [veT, show (N, O, V.set j ((veT (N, O, V) j).1, (veT (N, O, V) j).2.1, (veT (N, O, V) j).2.2.1, f)).2.2 = V.set j ((veT (N, O, V) j).1, (veT (N, O, V) j).2.1, (veT (N, O, V) j).2.2.1, f) from rfl, getD_set hk]
  by_cases e : k = j
  · subst e
    rw [if_pos rfl, upd_at]
    exact ⟨q.1, q.2.1, q.2.2.1, rfl⟩
  · rw [if_neg e, upd_ne e]; exact q
theorem repT_rg {F : Nat → Int32} {A : Nat → Nat → Int32} {N : List Nm} {O : List Ow} {V : List Ve} {j : Nat} {f : Int32} (h : repT F A (N, O, V)) : repT F (updA A 22 (upd (A 22) j f)) (N, O.set j ((owT (N, O, V) j).1, f), V) := by
  obtain ⟨h1, h2, h3, h4, h5, h6⟩ := h
  refine ⟨h1, by rw [h2]; simp, h3, h4, fun k hk => ?_, h6⟩
  have hk : k < O.length := by simpa using hk
  show A 21 k = _ ∧ upd (A 22) j f k = _
  have q := h5 k hk
  rw [owT, show (N, O.set j ((owT (N, O, V) j).1, f), V).2.1 = O.set j ((owT (N, O, V) j).1, f) from rfl, getD_set hk]
  by_cases e : k = j
  · subst e
    rw [if_pos rfl, upd_at]
    exact ⟨q.1, rfl⟩
  · rw [if_neg e, upd_ne e]; exact q
theorem repT_gn {F : Nat → Int32} {A : Nat → Nat → Int32} {N : List Nm} {O : List Ow} {V : List Ve} {j : Nat} (h : repT F A (N, O, V)) : repT F (updA A 19 (upd (A 19) j (nI 2))) (N.set j ((nmT (N, O, V) j).1, 2, (nmT (N, O, V) j).2.2), O, V) := by
  obtain ⟨h1, h2, h3, h4, h5, h6⟩ := h
  refine ⟨by rw [h1]; simp, h2, h3, fun k hk => ?_, h5, h6⟩
  have hk : k < N.length := by simpa using hk
  show A 18 k = _ ∧ (∀ q, q < _ → A 17 (10 * k + q) = _) ∧ upd (A 19) j (nI 2) k = _ ∧ A 20 k = _
  have q := h4 k hk
  rw [nmT, show (N.set j ((nmT (N, O, V) j).1, 2, (nmT (N, O, V) j).2.2), O, V).1 = N.set j ((nmT (N, O, V) j).1, 2, (nmT (N, O, V) j).2.2) from rfl, getD_set hk]
  by_cases e : k = j
  · subst e
    rw [if_pos rfl, upd_at]
    exact ⟨q.1, q.2.1, rfl, q.2.2.2⟩
  · rw [if_neg e, upd_ne e]; exact q
/-! the tables stay good -/
theorem ok_nm {N : List Nm} {O : List Ow} {V : List Ve} {i o : Nat} {t : List Nat} {s0 : Int32} (h : okT (N, O, V) i) (hl : t.length ≤ 10) (hc : ∀ c, t.getD c 0 < 128) (ho : o < O.length) : ∀ k, k < (N ++ [(t, s0, o)]).length → ((N ++ [(t, s0, o)]).getD k ([], 0, 0)).1.length ≤ 10 ∧ (∀ c, ((N ++ [(t, s0, o)]).getD k ([], 0, 0)).1.getD c 0 < 128) ∧ ((N ++ [(t, s0, o)]).getD k ([], 0, 0)).2.2 < O.length := by
  intro k hk
  have hk : k < N.length + 1 := by simpa using hk
  by_cases e : k = N.length
  · subst e; rw [getD_ap2]; exact ⟨hl, hc, ho⟩
  · rw [getD_ap (by omega)]; exact h.2.2.2.1 k (by show k < N.length; omega)
theorem okT_st {tb tb2 : Tb} {r : Rw} {i : Nat} (h : okT tb i) (hs : stT tb r = some tb2) (h1 : (rn r).length ≤ 10) (h2 : ∀ c, (rn r).getD c 0 < 128) (h3 : rk r = 3 → (ra r).length ≤ 10 ∧ ∀ c, (ra r).getD c 0 < 128) (h4 : rk r = 0 ∨ rk r = 1 ∨ rk r = 2 ∨ rk r = 3) : okT tb2 (i + 1) := by
  obtain ⟨N, O, V⟩ := tb
  have g0 := h
  obtain ⟨g1, g2, g3, g4, g5⟩ := g0
  have g1 : N.length ≤ 2 * i := g1
  have g2 : O.length ≤ i := g2
  have g3 : V.length ≤ i := g3
  rw [stT] at hs
  rcases hm : mtT (N, O, V) (rn r) with _ | k
  · rw [hm] at hs
    by_cases e : rk r = 0
    · simp only [if_pos e] at hs
      cases hs
      refine ⟨by simp; omega, by simp; omega, by simp; omega, fun k hk => ?_, fun k hk => ?_⟩
      · have hk : k < N.length + 1 := by simpa using hk
        show ((N ++ [(rn r, 1, O.length)]).getD k ([], 0, 0)).1.length ≤ 10 ∧ (∀ c, ((N ++ [(rn r, 1, O.length)]).getD k ([], 0, 0)).1.getD c 0 < 128) ∧ ((N ++ [(rn r, 1, O.length)]).getD k ([], 0, 0)).2.2 < (O ++ [(rp r, 0)]).length
        by_cases e2 : k = N.length
        · subst e2; rw [getD_ap2]; exact ⟨h1, h2, by simp⟩
        · rw [getD_ap (by omega)]
          obtain ⟨q1, q2, q3⟩ := g4 k (by show k < N.length; omega)
          have q3 : (N.getD k ([], 0, 0)).2.2 < O.length := q3
          exact ⟨q1, q2, by rw [List.length_append]; omega⟩
      · have hk : k < V.length + 1 := by simpa using hk
        show ((V ++ [(O.length, r2 r, r3 r, 0)]).getD k (0, 0, 0, 0)).1 < (O ++ [(rp r, 0)]).length
        by_cases e2 : k = V.length
        · subst e2; rw [getD_ap2]; simp
        · rw [getD_ap (by omega)]
          have q3 : (V.getD k (0, 0, 0, 0)).1 < O.length := g5 k (by show k < V.length; omega)
          rw [List.length_append]; omega
    · simp only [if_neg e] at hs; cases hs
  · rw [hm] at hs
    have hk := mtT_lt hm
    obtain ⟨q1, q2, q3⟩ := g4 k hk
    by_cases e : rk r = 0
    · simp only [if_pos e] at hs
      cases hs
      refine ⟨by show N.length ≤ _; omega, by show O.length ≤ _; omega, by simp; omega, g4, fun j hj => ?_⟩
      have hj : j < V.length + 1 := by simpa using hj
      show ((V ++ [((nmT (N, O, V) k).2.2, r2 r, r3 r, 0)]).getD j (0, 0, 0, 0)).1 < O.length
      by_cases e2 : j = V.length
      · subst e2; rw [getD_ap2]; exact q3
      · rw [getD_ap (by omega)]; exact g5 j (by show j < V.length; omega)
    · simp only [if_neg e] at hs
      by_cases e1 : rk r = 1
      · simp only [if_pos e1] at hs
        rcases hv : vtT (N, O, V) (nmT (N, O, V) k).2.2 (r2 r) with _ | j
        · rw [hv] at hs; cases hs
        · rw [hv] at hs
          cases hs
          refine ⟨by show N.length ≤ _; omega, by show O.length ≤ _; omega, by simp; omega, g4, fun q hq => ?_⟩
          have hq : q < V.length := by simpa using hq
          show ((V.set j _).getD q (0, 0, 0, 0)).1 < O.length
          rw [getD_set hq]
          by_cases e2 : q = j
          · rw [if_pos e2, ← e2]; exact g5 q hq
          · rw [if_neg e2]; exact g5 q hq
      · simp only [if_neg e1] at hs
        by_cases e2 : rk r = 2
        · simp only [if_pos e2] at hs
          cases hs
          refine ⟨by show N.length ≤ _; omega, by simp; omega, by show V.length ≤ _; omega, fun q hq => ?_, fun q hq => ?_⟩
          · have := g4 q hq; exact ⟨this.1, this.2.1, by show _ < (O.set _ _).length; rw [List.length_set]; exact this.2.2⟩
          · have := g5 q hq; show _ < (O.set _ _).length; rw [List.length_set]; exact this
        · simp only [if_neg e2] at hs
          cases hs
          have e3 : rk r = 3 := by rcases h4 with z | z | z | z; exact absurd z e; exact absurd z e1; exact absurd z e2; exact z
          refine ⟨by simp; omega, by show O.length ≤ _; omega, by show V.length ≤ _; omega, fun q hq => ?_, g5⟩
          have hq : q < N.length + 1 := by simpa using hq
          generalize hE : (((nmT (N, O, V) k).1, 2, (nmT (N, O, V) k).2.2) : Nm) = E
          rw [nmT]
          show ((N.set k E ++ [(ra r, 1, (nmT (N, O, V) k).2.2)]).getD q ([], 0, 0)).1.length ≤ 10 ∧ (∀ c, ((N.set k E ++ [(ra r, 1, (nmT (N, O, V) k).2.2)]).getD q ([], 0, 0)).1.getD c 0 < 128) ∧ ((N.set k E ++ [(ra r, 1, (nmT (N, O, V) k).2.2)]).getD q ([], 0, 0)).2.2 < O.length
          by_cases e4 : q = N.length
          · rw [show q = (N.set k E).length from by rw [List.length_set]; exact e4, getD_ap2]
            exact ⟨(h3 e3).1, (h3 e3).2, q3⟩
          · rw [getD_ap (by rw [List.length_set]; omega), getD_set (by omega)]
            by_cases e5 : q = k
            · rw [if_pos e5, ← hE]; exact ⟨q1, q2, q3⟩
            · rw [if_neg e5]; exact g4 q (by show q < N.length; omega)
theorem okT_th : ∀ (l : List Rw) (tb tb2 : Tb) (i : Nat), okT tb i → thT tb l = some tb2 → (∀ r ∈ l, (rn r).length ≤ 10 ∧ (∀ c, (rn r).getD c 0 < 128) ∧ (rk r = 3 → (ra r).length ≤ 10 ∧ ∀ c, (ra r).getD c 0 < 128) ∧ (rk r = 0 ∨ rk r = 1 ∨ rk r = 2 ∨ rk r = 3)) → okT tb2 (i + l.length)
  | [], tb, tb2, i, h, e, _ => by cases e; exact h
  | r :: l, tb, tb2, i, h, e, hl => by
    rw [thT] at e
    rcases hs : stT tb r with _ | t
    · rw [hs] at e; cases e
    · rw [hs] at e
      obtain ⟨a, b, c, d⟩ := hl r (List.mem_cons_self)
      have := okT_th l t tb2 (i + 1) (okT_st h hs a b c d) e (fun q hq => hl q (List.mem_cons_of_mem _ hq))
      rw [List.length_cons, show i + (l.length + 1) = i + 1 + l.length by omega]; exact this
