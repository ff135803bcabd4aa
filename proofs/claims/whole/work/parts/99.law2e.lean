section LD
variable {F F1 : Nat → Int32} {A A1 : Nat → Nat → Int32} {B B1 : Nat → Nat → Int64} {rows : List Rw} {mir : Nat → List Rw} {T : List Nat} {f f2 : Nat → Int64} {k k2 : Nat} {v : Option Value}
theorem RF_A (h : RF F A B rows mir T f k f2 k2) {mir2 : Nat → List Rw} (ha : aI A1 rows mir2) (h1 : A1 1 = A 1) : RF (upd F 0 (nI 0)) A1 B rows mir2 T f k f2 k2 := by
  obtain ⟨-, ⟨h2, h3⟩, h4, h5⟩ := RF_0 (v := nI 0) h
  exact ⟨ha, ⟨h2, fun i hi => by rw [h1]; exact h3 i hi⟩, h4, h5⟩
theorem t_fo (h : RF F A B rows mir T f k f2 k2) {q1 n1 : Nat} (hq : q1 < 4) (hn : n1 < 2 ^ 31) (hp : if 0 ≤ nI q1 ∧ nI q1 < 4 ∧ 0 ≤ nI n1 then (v = some (.int (nI (min (nI n1).toNatClampNeg (rows.length - (mir (nI q1).toNatClampNeg).length)))) ∧ F1 = upd F 0 (nI 0) ∧ A1 = foA A (nI q1).toNatClampNeg (mir (nI q1).toNatClampNeg).length (min (nI n1).toNatClampNeg (rows.length - (mir (nI q1).toNatClampNeg).length)) ∧ B1 = B) else (v = some (.int (-1)) ∧ F1 = upd F 0 (nI 0) ∧ A1 = A ∧ B1 = B)) : v = some (.int (nI (min n1 (rows.length - (mir q1).length)))) ∧ RF F1 A1 B1 rows (miU mir q1 (mir q1 ++ (rows.drop (mir q1).length).take (min n1 (rows.length - (mir q1).length)))) T f k f2 k2 := by
  rw [if_pos ⟨nI_pos' (by omega), (nI_ltI (by omega) (by decide)).mpr hq, nI_pos' hn⟩, nI_clamp hn, nI_clamp (show q1 < 2 ^ 31 by omega)] at hp
  obtain ⟨rfl, rfl, rfl, rfl⟩ := hp
  have hm := (RF_m h q1 hq).2
  exact ⟨rfl, RF_A h (fo_aI h.1 hq (by omega)) (foA_n2 (by decide) (by decide))⟩
theorem t_fo0 (h : RF F A B rows mir T f k f2 k2) {q n : Int32} {X9 : Prop} (hb : decide (0 ≤ q ∧ q < 4) = false ∨ n < 0) (hp : if 0 ≤ q ∧ q < 4 ∧ 0 ≤ n then X9 else (v = some (.int (-1)) ∧ F1 = upd F 0 (nI 0) ∧ A1 = A ∧ B1 = B)) : v = some (.int (-1)) ∧ RF F1 A1 B1 rows mir T f k f2 k2 := by
  rw [if_neg (fun z => hb.elim (fun y => of_decide_eq_false y ⟨z.1, z.2.1⟩) (fun y => absurd y (Int32.not_lt.mpr z.2.2)))] at hp
  obtain ⟨rfl, rfl, rfl, rfl⟩ := hp
  exact ⟨rfl, RF_0 h⟩
theorem sp_rg (h : RF F A B rows mir T f k f2 k2) {q i : Int32} (hk : rk (atS (mirS mir q) i) = 0) : ∃ q1 j1, q = nI q1 ∧ q1 < 4 ∧ i = nI j1 ∧ j1 < (mir q1).length ∧ rk ((mir q1).getD j1 noRw) = 0 := by
  have h120 := (RF_c h).2
  unfold mirS at hk
  by_cases e : 0 ≤ q ∧ q < 4
  · obtain ⟨q1, hq1, z⟩ := nI_of (Int32.not_lt.mpr e.1)
    have h4 := i4_lt e
    subst z
    rw [nI_clamp hq1] at h4
    rw [if_pos e, nI_clamp hq1] at hk
    have hm := (RF_m h q1 h4).2
    unfold atS at hk
    by_cases e2 : 0 ≤ i ∧ i < nI (mir q1).length
    · obtain ⟨j1, hj1, z⟩ := nI_of (Int32.not_lt.mpr e2.1)
      subst z
      rw [if_pos e2, nI_clamp hj1] at hk
      exact ⟨q1, j1, rfl, h4, rfl, (nI_ltI hj1 (by omega)).mp e2.2, hk⟩
    · rw [if_neg e2] at hk; exact absurd hk (by decide)
  · rw [if_neg e, atS, if_neg (fun y => absurd (Int32.lt_of_le_of_lt y.1 y.2) (by decide))] at hk
    exact absurd hk (by decide)
theorem t_sp (h : RF F A B rows mir T f k f2 k2) {q1 j1 : Nat} {sm : Int32} (hq : q1 < 4) (hj : j1 < (mir q1).length) (hk : rk ((mir q1).getD j1 noRw) = 0) {R1 : Rw} (hR : R1 = (rk ((mir q1).getD j1 noRw), rp ((mir q1).getD j1 noRw), rn ((mir q1).getD j1 noRw), ra ((mir q1).getD j1 noRw), r2 ((mir q1).getD j1 noRw), sm, ro ((mir q1).getD j1 noRw))) (hs : rk (atS (mirS mir (nI q1)) (nI j1)) = 0) (hp : if spS A (nI q1) (nI j1) = true then (v = some (.int 1) ∧ F1 = upd F 0 (nI 0) ∧ A1 = updA A 11 (upd (A 11) (120 * (nI q1).toNatClampNeg + (nI j1).toNatClampNeg) sm) ∧ B1 = B) else (v = some (.int 0) ∧ F1 = upd F 0 (nI 0) ∧ A1 = A ∧ B1 = B)) : v = some (.int 1) ∧ RF F1 A1 B1 rows (miU mir q1 ((mir q1).set j1 R1)) T f k f2 k2 := by
  have hm := (RF_m h q1 hq).2
  have h120 := (RF_c h).2
  rw [sp_eq h, if_pos (decide_eq_true hs), nI_clamp (by omega), nI_clamp (by omega)] at hp
  obtain ⟨rfl, rfl, rfl, rfl⟩ := hp
  exact ⟨rfl, RF_A h (sp_aI h.1 hq hj hk hR) (by unfold updA; rw [if_neg (by decide)])⟩
theorem t_sp0 (h : RF F A B rows mir T f k f2 k2) {q i : Int32} {X9 : Prop} (hs : ¬ rk (atS (mirS mir q) i) = 0) (hp : if spS A q i = true then X9 else (v = some (.int 0) ∧ F1 = upd F 0 (nI 0) ∧ A1 = A ∧ B1 = B)) : v = some (.int 0) ∧ RF F1 A1 B1 rows mir T f k f2 k2 := by
  rw [sp_eq h, decide_eq_false hs, if_neg (by decide)] at hp
  obtain ⟨rfl, rfl, rfl, rfl⟩ := hp
  exact ⟨rfl, RF_0 h⟩
end LD
