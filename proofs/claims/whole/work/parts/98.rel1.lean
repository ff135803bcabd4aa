/-! THE TWO SIDES: what the reference holds, by the program's values -/
def RF (F : Nat → Int32) (A : Nat → Nat → Int32) (B : Nat → Nat → Int64) (rows : List Rw) (mir : Nat → List Rw) (T : List Nat) (f : Nat → Int64) (k : Nat) (f2 : Nat → Int64) (k2 : Nat) : Prop :=
  aI A rows mir ∧ (F 2 = nI T.length ∧ ∀ i, i < T.length → A 1 i = nI (T.getD i 0)) ∧ (F 15 = nI k ∧ (∀ i, i < k → B 13 i = f i) ∧ k ≤ 16) ∧ (F 16 = nI k2 ∧ (∀ i, i < k2 → B 14 i = f2 i) ∧ k2 ≤ 16)
/-- the program's rows: they came one behind the other; the mirrors are first rows of the log -/
def OKR (rows : List Rw) (mir : Nat → List Rw) : Prop := accL [] rows ∧ ∀ q, q < 4 → mirOk rows (mir q) ∧ (mir q).length ≤ rows.length
section RL1
variable {F F1 : Nat → Int32} {A A1 : Nat → Nat → Int32} {B B1 : Nat → Nat → Int64} {rows : List Rw} {mir : Nat → List Rw} {T : List Nat} {f f2 : Nat → Int64} {k k2 : Nat}
theorem RF_of (h : RF F A B rows mir T f k f2 k2) (hF : F1 2 = F 2 ∧ F1 15 = F 15 ∧ F1 16 = F 16) (hA : lo A1 A) (hB : B1 13 = B 13 ∧ B1 14 = B 14) : RF F1 A1 B1 rows mir T f k f2 k2 := by
  obtain ⟨h1, ⟨h2, h3⟩, ⟨h4, h5, h6⟩, h7, h8, h9⟩ := h
  exact ⟨aI_lo hA h1, ⟨hF.1.trans h2, fun i hi => by rw [hA 1 (by decide)]; exact h3 i hi⟩, ⟨hF.2.1.trans h4, fun i hi => by rw [hB.1]; exact h5 i hi, h6⟩, hF.2.2.trans h7, fun i hi => by rw [hB.2]; exact h8 i hi, h9⟩
theorem RF_0 (h : RF F A B rows mir T f k f2 k2) {v : Int32} : RF (upd F 0 v) A B rows mir T f k f2 k2 := RF_of h ⟨upd_ne (by decide), upd_ne (by decide), upd_ne (by decide)⟩ (lo_rf A) ⟨rfl, rfl⟩
theorem hdB_k (B : Nat → Nat → Int64) (b1 b2 : Nat → Int64) : hdB B b1 b2 13 = B 13 ∧ hdB B b1 b2 14 = B 14 := ⟨hdB_lo B b1 b2 13 (by decide), hdB_lo B b1 b2 14 (by decide)⟩
theorem RF_c (h : RF F A B rows mir T f k f2 k2) : A 12 4 = nI rows.length ∧ rows.length ≤ 120 := ⟨h.1.1.2.1, h.1.1.1⟩
theorem RF_m (h : RF F A B rows mir T f k f2 k2) : ∀ j, j < 4 → A 12 j = nI (mir j).length ∧ (mir j).length ≤ rows.length := fun j hj => ⟨(h.1.2.1 j hj).1.2.1, (h.1.2.1 j hj).2⟩
theorem refR_n {w : Nat} {ml : List Rw} (hne : ∀ j, j ≠ 1 → A1 j = A j) (h : refR A w ml) : refR A1 w ml := by
  refine ⟨h.1, by rw [hne 12 (by decide)]; exact h.2.1, fun j hj => ?_⟩
  obtain ⟨q3, q4, ql, q7, q9, ql2, q8, q10, q5, q6, q11, qk, qc, qc2⟩ := h.2.2 j hj
  unfold txt at q9 q10 ⊢
  rw [hne 3 (by decide), hne 4 (by decide), hne 5 (by decide), hne 6 (by decide), hne 7 (by decide), hne 8 (by decide), hne 9 (by decide), hne 10 (by decide), hne 11 (by decide)]
  exact ⟨q3, q4, ql, q7, q9, ql2, q8, q10, q5, q6, q11, qk, qc, qc2⟩
theorem aI_1 (hne : ∀ j, j ≠ 1 → A1 j = A j) (h : aI A rows mir) : aI A1 rows mir := ⟨refR_n hne h.1, fun q hq => ⟨refR_n hne (h.2.1 q hq).1, (h.2.1 q hq).2⟩, fun j hj => by rw [hne 6 (by decide)]; exact h.2.2 j hj⟩
abbrev TTr (rows : List Rw) (j : Nat) : List Nat := rn (rows.getD j noRw)
abbrev UUr (rows : List Rw) (j : Nat) : List Nat := uu (rows.getD j noRw)
theorem rep_of {w : Nat} (h : refR A w rows) : repR A rows.length (TTr rows) (UUr rows) := ⟨h.1, fun j hj => by
  obtain ⟨q3, q4, ql, q7, q9, ql2, q8, q10, q5, q6, q11, qk, qc, qc2⟩ := h.2.2 j hj
  exact ⟨ql, ql2, q7, q8, q9, q10, by rw [q3]; exact qk⟩⟩
theorem kd_n {r : Rw} (h : rk r = 0 ∨ rk r = 1 ∨ rk r = 2 ∨ rk r = 3) : ¬ rk r = -1 := by
  rcases h with h | h | h | h <;> rw [h] <;> decide
theorem dg_eq {w : Nat} {ml : List Rw} (h : refR A w ml) {TT UU : Nat → List Nat} {j : Nat} (hj : j < ml.length) (hT : TT j = TTr ml j) (hU : UU j = UUr ml j) : dgA A w TT UU j = dS ml j := by
  obtain ⟨q3, q4, ql, q7, q9, ql2, q8, q10, q5, q6, q11, qk, qc, qc2⟩ := h.2.2 j hj
  unfold dgA dS dgM
  rw [digS, if_neg (kd_n qk), hS, q3, q4, q5, q11, hT, hU]
  by_cases e : rk (ml.getD j noRw) = 3
  · show (if rk (ml.getD j noRw) = 3 then _ else _) = (if rk (ml.getD j noRw) = 3 then _ else _)
    rw [if_pos e, if_pos e]
    show mixT _ (uu (ml.getD j noRw)) = _
    unfold uu
    rw [if_pos e]
  · show (if rk (ml.getD j noRw) = 3 then _ else _) = (if rk (ml.getD j noRw) = 3 then _ else _)
    rw [if_neg e, if_neg e]
    by_cases e0 : rk (ml.getD j noRw) = 0
    · rw [if_pos e0]
    · rw [if_neg e0, q6 e0]
theorem key_f {a b : Rw} (h : keyR a = keyR b) : rk a = rk b ∧ rp a = rp b ∧ rn a = rn b ∧ ra a = ra b ∧ r2 a = r2 b ∧ ro a = ro b ∧ (¬ rk a = 0 → r3 a = r3 b) := by
  have h1 : rk a = rk b := congrArg (fun z : Rw => z.1) (a₁ := keyR a) (a₂ := keyR b) h
  refine ⟨h1, congrArg (fun z : Rw => z.2.1) (a₁ := keyR a) (a₂ := keyR b) h, congrArg (fun z : Rw => z.2.2.1) (a₁ := keyR a) (a₂ := keyR b) h, congrArg (fun z : Rw => z.2.2.2.1) (a₁ := keyR a) (a₂ := keyR b) h, congrArg (fun z : Rw => z.2.2.2.2.1) (a₁ := keyR a) (a₂ := keyR b) h, congrArg (fun z : Rw => z.2.2.2.2.2.2) (a₁ := keyR a) (a₂ := keyR b) h, fun z => ?_⟩
  have h6 : (if rk a = 0 then 0 else r3 a) = (if rk b = 0 then 0 else r3 b) := congrArg (fun z : Rw => z.2.2.2.2.2.1) (a₁ := keyR a) (a₂ := keyR b) h
  rw [if_neg z, if_neg (by rw [← h1]; exact z)] at h6
  exact h6
theorem mir_key {ml : List Rw} (h : mirOk rows ml) (hl : ml.length ≤ rows.length) {j : Nat} (hj : j < ml.length) : keyR (ml.getD j noRw) = keyR (rows.getD j noRw) := by
  have h1 := congrArg (fun l : List Rw => l[j]?) h
  simp only [List.getElem?_map, List.getElem?_take_of_lt hj, List.getElem?_eq_getElem hj, List.getElem?_eq_getElem (Nat.lt_of_lt_of_le hj hl), Option.map_some, Option.some.injEq] at h1
  rw [List.getD_eq_getElem?_getD, List.getD_eq_getElem?_getD, List.getElem?_eq_getElem hj, List.getElem?_eq_getElem (Nat.lt_of_lt_of_le hj hl)]
  exact h1
theorem dg_mir (h : RF F A B rows mir T f k f2 k2) (ho : OKR rows mir) {q : Nat} (hq : q < 4) {j : Nat} (hj : j < (mir q).length) : dgA A q (TTr rows) (UUr rows) j = dS (mir q) j := by
  have hk := key_f (mir_key (ho.2 q hq).1 (ho.2 q hq).2 hj)
  refine dg_eq (h.1.2.1 q hq).1 hj hk.2.2.1.symm ?_
  show uu _ = uu _
  unfold uu
  rw [hk.1, hk.2.2.2.1]
theorem dg_log (h : RF F A B rows mir T f k f2 k2) {j : Nat} (hj : j < rows.length) : dgA A 4 (TTr rows) (UUr rows) j = dS rows j := dg_eq h.1.1 hj rfl rfl
theorem row_eq (h : RF F A B rows mir T f k f2 k2) (i what : Int32) : rowS (atS rows i) what = mRow A rows.length i what := by
  unfold atS mRow
  by_cases e : 0 ≤ i ∧ i < nI rows.length
  · obtain ⟨n, hn, z⟩ := nI_of (Int32.not_lt.mpr e.1)
    subst z
    have hj := (nI_ltI hn (by have := (RF_c h).2; omega)).mp e.2
    obtain ⟨q3, q4, ql, q7, q9, ql2, q8, q10, q5, q6, q11, qk, qc, qc2⟩ := h.1.1.2.2 n hj
    rw [if_pos e, if_pos e, nI_clamp hn]
    rw [q3, q4, q5, h.1.2.2 n hj]
    rfl
  · rw [if_neg e, if_neg e]; unfold rowS noRw; simp
theorem dig_eq (h : RF F A B rows mir T f k f2 k2) (i : Int32) : digS (atS rows i) = if 0 ≤ i ∧ i < nI rows.length then dgA A 4 (TTr rows) (UUr rows) i.toNatClampNeg else 0 := by
  unfold atS
  by_cases e : 0 ≤ i ∧ i < nI rows.length
  · obtain ⟨n, hn, z⟩ := nI_of (Int32.not_lt.mpr e.1)
    subst z
    have hj := (nI_ltI hn (by have := (RF_c h).2; omega)).mp e.2
    rw [if_pos e, if_pos e, nI_clamp hn, dg_log h hj]; rfl
  · rw [if_neg e, if_neg e]; decide
theorem head_eq (h : RF F A B rows mir T f k f2 k2) (n : Int32) : headS rows n = if 0 ≤ n ∧ n ≤ nI rows.length then hdS (dgA A 4 (TTr rows) (UUr rows)) 0 n.toNatClampNeg else 0 := by
  unfold headS
  by_cases e : 0 ≤ n ∧ n ≤ nI rows.length
  · obtain ⟨m, hm, z⟩ := nI_of (Int32.not_lt.mpr e.1)
    subst z
    have hj := (nI_leI hm (by have := (RF_c h).2; omega)).mp e.2
    rw [if_pos e, nI_clamp hm]
    by_cases e1 : m = 0
    · subst e1; rw [if_neg (fun z => absurd z.1 (by decide)), hdS_0]
    · rw [if_pos ⟨show nI 1 ≤ nI m from (nI_leI (by decide) hm).mpr (by omega), e.2⟩]
      exact hd_c m 0 (fun j _ h2 => (dg_log h (by omega)).symm)
  · rw [if_neg e, if_neg (fun z => e ⟨Int32.le_trans (by decide) z.1, z.2⟩)]
theorem get_eq {g1 g2 : Nat → Int64} {n : Nat} (hn : n ≤ 16) (h : ∀ i, i < n → g1 i = g2 i) (i : Int32) : mGet g1 n i = getS g2 n i := by
  unfold mGet getS
  by_cases e : 0 ≤ i ∧ i < nI n
  · obtain ⟨m, hm, z⟩ := nI_of (Int32.not_lt.mpr e.1)
    subst z
    rw [if_pos e, if_pos e, nI_clamp hm, h m ((nI_ltI hm (by omega)).mp e.2)]
  · rw [if_neg e, if_neg e]
theorem prS_eq {d1 d2 : Nat → Int64} {n : Nat} (h : ∀ j, j < n → d1 j = d2 j) {L : List St3} (hL : ∀ x ∈ L, x.1 + x.2.1 ≤ n) : prS d1 L = prS d2 L := by
  unfold prS
  refine List.map_congr_left (fun x hx => ?_)
  have := hL x (List.mem_reverse.mp hx)
  exact hd_c _ _ (fun j _ h2 => h j (by omega))
theorem ap_c2 {d1 d2 e1 e2 : Nat → Int64} : ∀ (k i : Nat), (∀ j, i ≤ j → j < i + k → d1 j = e1 j ∧ d2 j = e2 j) → apF d1 d2 k i = apF e1 e2 k i
  | 0, _, _ => rfl
  | k + 1, i, h => by
    have h0 := h i (Nat.le_refl _) (by omega)
    rw [apF, apF, h0.1, h0.2, ap_c2 k (i + 1) (fun j a b => h j (by omega) (by omega))]
theorem iiL_c {g1 g2 : Nat → Int64} : ∀ (L : List St3) (q : Nat) (h : Int64), (∀ j, q ≤ j → j < q + L.length → g1 j = g2 j) → iiL g1 L q h = iiL g2 L q h
  | [], _, _, _ => rfl
  | x :: L, q, h, hh => by
    rw [iiL, iiL, hh q (Nat.le_refl _) (by rw [List.length_cons]; omega)]
    exact iiL_c L (q + 1) _ (fun j a b => hh j (by omega) (by rw [List.length_cons]; omega))
theorem igL_c {g1 g2 : Nat → Int64} : ∀ (L : List St3) (q : Nat) (a b : Int64), (∀ j, q ≤ j → j < q + L.length → g1 j = g2 j) → igL g1 L q a b = igL g2 L q a b
  | [], _, _, _, _ => rfl
  | x :: L, q, a, b, hh => by
    rw [igL, igL, hh q (Nat.le_refl _) (by rw [List.length_cons]; omega)]
    exact igL_c L (q + 1) _ _ (fun j c d => hh j (by omega) (by rw [List.length_cons]; omega))
theorem getS_n {g2 : Nat → Int64} {n j : Nat} (hn : n ≤ 16) (hj : j < n) : getS g2 n (nI j) = g2 j := by
  unfold getS
  rw [if_pos ⟨nI_pos' (by omega), nI_lt hj (by omega)⟩, nI_clamp (by omega)]
end RL1
