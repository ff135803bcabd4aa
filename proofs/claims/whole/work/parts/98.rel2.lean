/-! what each call does to the two sides -/
section RL2
variable {F F1 : Nat → Int32} {A A1 : Nat → Nat → Int32} {B B1 : Nat → Nat → Int64} {rows : List Rw} {mir : Nat → List Rw} {T : List Nat} {f f2 : Nat → Int64} {k k2 : Nat}
theorem ii_eq (h : RF F A B rows mir T f k f2 k2) (i n : Int32) (dg h0 : Int64) : iiC f2 k2 i n dg h0 = iiS (B 14) k2 i n dg h0 := by
  unfold iiC iiS
  have h16 := h.2.2.2.2.2
  have hB := h.2.2.2.2.1
  by_cases e : 0 ≤ i ∧ i < n ∧ n ≤ 120
  · have h1 : 1 ≤ n := by
      obtain ⟨a, ha, z⟩ := nI_of (Int32.not_lt.mpr e.1)
      obtain ⟨b, hb, y⟩ := nI_of (x := n) (fun w => absurd (Int32.lt_of_le_of_lt e.1 e.2.1) (Int32.not_lt.mpr (Int32.le_of_lt w)))
      subst z; subst y
      have := (nI_ltI ha hb).mp e.2.1
      exact (show nI 1 ≤ nI b from (nI_leI (by decide) hb).mpr (by omega))
    rw [if_pos e, if_pos ⟨⟨h1, e.2.2⟩, e.1, e.2.1⟩, Nat.zero_add]
    generalize hL : (gdR false 7 0 n.toNatClampNeg i.toNatClampNeg true).1 = L
    by_cases el : L.length = k2
    · rw [decide_eq_true el, Bool.and_true, Bool.true_and, iiL_c (g1 := fun j => getS f2 k2 (nI j)) (g2 := B 14) L.reverse 0 dg (fun j _ hj => by
        rw [List.length_reverse] at hj
        show getS f2 k2 (nI j) = _
        rw [getS_n h16 (by omega)]; exact (hB j (by omega)).symm)]
    · rw [decide_eq_false el, Bool.and_false, Bool.false_and]
  · rw [if_neg e, if_neg (fun z => e ⟨z.2.1, z.2.2, z.1.2⟩)]
theorem ig_eq (h : RF F A B rows mir T f k f2 k2) (i n : Int32) (h1 h2 : Int64) : igC f2 k2 i n h1 h2 = igS (B 14) k2 i n h1 h2 := by
  unfold igC igS
  have h16 := h.2.2.2.2.2
  have hB := h.2.2.2.2.1
  by_cases e : 1 ≤ i ∧ i ≤ n ∧ n ≤ 120
  · rw [if_pos e, if_pos ⟨⟨Int32.le_trans e.1 e.2.1, e.2.2⟩, e.1, e.2.1⟩]
    generalize hR : gdR true 7 0 n.toNatClampNeg i.toNatClampNeg true = R
    show _ = (if R.2.2.2.2 = true then _ else _)
    have hg : ∀ j, j < k2 → (fun j => getS f2 k2 (nI j)) j = B 14 j := fun j hj => by
      show getS f2 k2 (nI j) = _
      rw [getS_n h16 hj]; exact (hB j hj).symm
    unfold hgV hgN
    by_cases w : R.2.2.2.2 = true
    · simp only [if_pos w]
      by_cases el : R.1.length + 0 = k2
      · rw [igL_c (g1 := fun j => getS f2 k2 (nI j)) (g2 := B 14) R.1.reverse 0 h1 h1 (fun j _ hj => by rw [List.length_reverse] at hj; exact hg j (by omega)), decide_eq_true el, decide_eq_true (show 0 + (R.1.length + 0) = k2 by omega), Bool.and_true, Bool.true_and]
      · rw [decide_eq_false el, decide_eq_false (show ¬ 0 + (R.1.length + 0) = k2 by omega), Bool.and_false, Bool.and_false, Bool.false_and]
    · simp only [if_neg w]
      by_cases el : R.1.length + 1 = k2
      · have e0 := hg 0 (by omega)
        rw [igL_c (g1 := fun j => getS f2 k2 (nI j)) (g2 := B 14) R.1.reverse (0 + 1) _ _ (fun j _ hj => by rw [List.length_reverse] at hj; exact hg j (by omega))]
        have e0 : getS f2 k2 (nI 0) = B 14 0 := e0
        rw [e0, decide_eq_true el, decide_eq_true (show 0 + (R.1.length + 1) = k2 by omega), Bool.and_true, Bool.true_and]
      · rw [decide_eq_false el, decide_eq_false (show ¬ 0 + (R.1.length + 1) = k2 by omega), Bool.and_false, Bool.and_false, Bool.false_and]
  · rw [if_neg e, if_neg (fun z => e ⟨z.2.1, z.2.2, z.1.2⟩)]
theorem in_rg {i n : Int32} {cnt : Nat} (hc : cnt ≤ 120) (h0 : 0 ≤ i) (h1 : i ≤ n) (h2 : n ≤ nI cnt) : ∃ a b, i = nI a ∧ n = nI b ∧ a ≤ b ∧ b ≤ cnt ∧ i.toNatClampNeg = a ∧ n.toNatClampNeg = b := by
  obtain ⟨a, ha, z⟩ := nI_of (Int32.not_lt.mpr h0)
  obtain ⟨b, hb, y⟩ := nI_of (x := n) (Int32.not_lt.mpr (Int32.le_trans h0 h1))
  subst z; subst y
  exact ⟨a, b, rfl, rfl, (nI_leI ha hb).mp h1, (nI_leI hb (by omega)).mp h2, nI_clamp ha, nI_clamp hb⟩
theorem prI_eq (h : RF F A B rows mir T f k f2 k2) {i n : Int32} (e : 0 ≤ i ∧ i < n ∧ n ≤ nI rows.length) : prS (dgA A 4 (TTr rows) (UUr rows)) (gdR false 7 0 n.toNatClampNeg i.toNatClampNeg true).1 = prS (dS rows) (gdR false 7 0 n.toNatClampNeg i.toNatClampNeg true).1 := by
  obtain ⟨a, b, z, y, hab, hbc, z2, y2⟩ := in_rg (RF_c h).2 e.1 (Int32.le_of_lt e.2.1) e.2.2
  have hlt : a < b := by
    have := e.2.1
    rw [z, y] at this
    exact (nI_ltI (by have := (RF_c h).2; omega) (by have := (RF_c h).2; omega)).mp this
  rw [z2, y2]
  refine prS_eq (n := rows.length) (fun j hj => dg_log h hj) (fun x hx => ?_)
  have := gdR_in false 7 0 b a true (by omega) (fun w => by cases w) x hx
  omega
theorem prG_eq (h : RF F A B rows mir T f k f2 k2) {i n : Int32} (e : 1 ≤ i ∧ i ≤ n ∧ n ≤ nI rows.length) : ((if (gdR true 7 0 n.toNatClampNeg i.toNatClampNeg true).2.2.2.2 then [] else [hdS (dgA A 4 (TTr rows) (UUr rows)) (gdR true 7 0 n.toNatClampNeg i.toNatClampNeg true).2.1 (gdR true 7 0 n.toNatClampNeg i.toNatClampNeg true).2.2.1]) ++ prS (dgA A 4 (TTr rows) (UUr rows)) (gdR true 7 0 n.toNatClampNeg i.toNatClampNeg true).1) = grL (dS rows) (gdR true 7 0 n.toNatClampNeg i.toNatClampNeg true) := by
  obtain ⟨a, b, z, y, hab, hbc, z2, y2⟩ := in_rg (RF_c h).2 (Int32.le_trans (by decide) e.1) e.2.1 e.2.2
  have hge : 1 ≤ a := by
    have := e.1
    rw [z] at this
    exact (nI_leI (by decide) (by have := (RF_c h).2; omega)).mp (show nI 1 ≤ nI a from this)
  rw [z2, y2]
  unfold grL
  rw [prS_eq (n := rows.length) (fun j hj => dg_log h hj) (fun x hx => by have := gdR_in true 7 0 b a true (by omega) (fun _ => hge) x hx; omega)]
  congr 1
  split
  · rfl
  · congr 1
    have := gdR_rest true 7 0 b a true (by omega) (fun _ => hge)
    exact hd_c _ _ (fun j _ hj => dg_log h (by omega))
/-- a proof has been made -/
theorem psh_at : ∀ (L : List Int64) (f : Nat → Int64) (k j : Nat), j < L.length → psh f k L (k + j) = L.getD j 0
  | [], _, _, _, h => absurd h (Nat.not_lt_zero _)
  | x :: L, f, k, 0, _ => by
    rw [psh]
    have : ∀ (L : List Int64) (f : Nat → Int64) (k q : Nat), q < k → psh f k L q = f q := by
      intro L
      induction L with
      | nil => intro f k q _; rfl
      | cons y L ih => intro f k q hq; rw [psh, ih _ _ _ (by omega)]; unfold vp_updL; rw [if_neg (by omega)]
    rw [this _ _ _ _ (by omega)]
    unfold vp_updL
    rw [Nat.add_zero, if_pos rfl]
    rfl
  | x :: L, f, k, j + 1, h => by
    rw [psh, show k + (j + 1) = k + 1 + j by omega, psh_at L _ (k + 1) j (by rw [List.length_cons] at h; omega)]
    rfl
theorem RF_pr (h : RF F A B rows mir T f k f2 k2) {P : List Int64} (hP : P.length ≤ 16) (hF : lo F1 (upd (upd (upd F 0 (nI 0)) 15 (nI 0)) 15 (nI P.length))) (hA : lo A1 A) (hB : prB B1 B P) : RF F1 A1 B1 rows mir T (psh f 0 P) P.length f2 k2 := by
  obtain ⟨h1, ⟨h2, h3⟩, -, h7, h8, h9⟩ := h
  refine ⟨aI_lo hA h1, ⟨?_, fun i hi => by rw [hA 1 (by decide)]; exact h3 i hi⟩, ⟨?_, fun i hi => ?_, hP⟩, ?_, fun i hi => ?_, h9⟩
  · rw [hF 2 (by decide), upd_ne (by decide), upd_ne (by decide), upd_ne (by decide)]; exact h2
  · rw [hF 15 (by decide), upd_at]
  · rw [hB.2 i hi]
    have := psh_at P f 0 i hi
    rw [Nat.zero_add] at this
    exact this.symm
  · rw [hF 16 (by decide), upd_ne (by decide), upd_ne (by decide), upd_ne (by decide)]; exact h7
  · rw [hB.1 14 (by decide) (by decide)]; exact h8 i hi
theorem RF_p0 (h : RF F A B rows mir T f k f2 k2) : RF (upd (upd F 0 (nI 0)) 15 (nI 0)) A B rows mir T f 0 f2 k2 := by
  obtain ⟨h1, ⟨h2, h3⟩, -, h7, h8, h9⟩ := h
  refine ⟨h1, ⟨?_, h3⟩, ⟨upd_at _ _ _, fun i hi => absurd hi (Nat.not_lt_zero _), Nat.zero_le _⟩, ?_, h8, h9⟩
  · rw [upd_ne (by decide), upd_ne (by decide)]; exact h2
  · rw [upd_ne (by decide), upd_ne (by decide)]; exact h7
/-- the hand is empty -/
theorem RF_h0 (h : RF F A B rows mir T f k f2 k2) (hF : lo F1 (upd (upd F 0 (nI 0)) 16 (nI 0))) (hA : lo A1 A) : RF F1 A1 B rows mir T f k f2 0 := by
  obtain ⟨h1, ⟨h2, h3⟩, ⟨h4, h5, h6⟩, -⟩ := h
  refine ⟨aI_lo hA h1, ⟨?_, fun i hi => by rw [hA 1 (by decide)]; exact h3 i hi⟩, ⟨?_, h5, h6⟩, ?_, fun i hi => absurd hi (Nat.not_lt_zero _), Nat.zero_le _⟩
  · rw [hF 2 (by decide), upd_ne (by decide), upd_ne (by decide)]; exact h2
  · rw [hF 15 (by decide), upd_ne (by decide), upd_ne (by decide)]; exact h4
  · rw [hF 16 (by decide), upd_at]
theorem RF_tk (h : RF F A B rows mir T f k f2 k2) {y : Int64} (hk : k2 < 16) : RF (upd (upd F 0 (nI 0)) 16 (nI (k2 + 1))) A (updB B 14 (vp_updL (B 14) k2 y)) rows mir T f k (vp_updL f2 k2 y) (k2 + 1) := by
  obtain ⟨h1, ⟨h2, h3⟩, ⟨h4, h5, h6⟩, h7, h8, h9⟩ := h
  refine ⟨h1, ⟨?_, h3⟩, ⟨?_, fun i hi => ?_, h6⟩, upd_at _ _ _, fun i hi => ?_, hk⟩
  · rw [upd_ne (by decide), upd_ne (by decide)]; exact h2
  · rw [upd_ne (by decide), upd_ne (by decide)]; exact h4
  · unfold updB; rw [if_neg (by decide)]; exact h5 i hi
  · unfold updB; rw [if_pos rfl]
    unfold vp_updL
    by_cases e : i = k2
    · rw [if_pos e, if_pos e]
    · rw [if_neg e, if_neg e]; exact h8 i (by omega)
/-- the typed text -/
theorem RF_ty (h : RF F A B rows mir T f k f2 k2) {cc : Nat} (hn : T.length < 24) : RF (upd (upd F 0 (nI 0)) 2 (nI (T.length + 1))) (updA A 1 (upd (A 1) T.length (nI cc))) B rows mir (T ++ [cc]) f k f2 k2 := by
  obtain ⟨h1, ⟨h2, h3⟩, ⟨h4, h5, h6⟩, h7, h8, h9⟩ := h
  have hne : ∀ j, j ≠ 1 → updA A 1 (upd (A 1) T.length (nI cc)) j = A j := fun j hj => by unfold updA; rw [if_neg hj]
  refine ⟨aI_1 hne h1, ⟨by rw [upd_at, List.length_append]; rfl, fun i hi => ?_⟩, ⟨?_, h5, h6⟩, ?_, h8, h9⟩
  · show updA A 1 _ 1 i = _
    unfold updA
    rw [if_pos rfl]
    rw [List.length_append] at hi
    have hi : i < T.length + 1 := hi
    by_cases e : i = T.length
    · rw [e, upd_at, getD_ap2]
    · rw [upd_ne e, getD_ap (by omega)]; exact h3 i (by omega)
  · rw [upd_ne (by decide), upd_ne (by decide)]; exact h4
  · rw [upd_ne (by decide), upd_ne (by decide)]; exact h7
/-- the text has been taken -/
theorem RF_tt (h : RF F A B rows mir T f k f2 k2) (hF : lo F1 (upd (upd F 0 (nI 0)) 2 (nI 0))) (hA : lo A1 A) : RF F1 A1 B rows mir [] f k f2 k2 := by
  obtain ⟨h1, ⟨h2, h3⟩, ⟨h4, h5, h6⟩, h7, h8, h9⟩ := h
  refine ⟨aI_lo hA h1, ⟨?_, fun i hi => absurd hi (Nat.not_lt_zero _)⟩, ⟨?_, h5, h6⟩, ?_, h8, h9⟩
  · rw [hF 2 (by decide), upd_at]; rfl
  · rw [hF 15 (by decide), upd_ne (by decide), upd_ne (by decide)]; exact h4
  · rw [hF 16 (by decide), upd_ne (by decide), upd_ne (by decide)]; exact h7
/-- a row has come, or none -/
theorem RF_wr (h : RF F A B rows mir T f k f2 k2) {cd : Nat} {rows2 : List Rw} (hF : lo F1 (upd (upd F 2 (nI 0)) 0 (nI cd))) (ha : aI A1 rows2 mir) : RF F1 A1 B rows2 mir [] f k f2 k2 := by
  obtain ⟨h1, ⟨h2, h3⟩, ⟨h4, h5, h6⟩, h7, h8, h9⟩ := h
  refine ⟨ha, ⟨?_, fun i hi => absurd hi (Nat.not_lt_zero _)⟩, ⟨?_, h5, h6⟩, ?_, h8, h9⟩
  · rw [hF 2 (by decide), upd_ne (by decide), upd_at]; rfl
  · rw [hF 15 (by decide), upd_ne (by decide), upd_ne (by decide)]; exact h4
  · rw [hF 16 (by decide), upd_ne (by decide), upd_ne (by decide)]; exact h7
end RL2
