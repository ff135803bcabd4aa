/-! for move: parts of a text -/
theorem hC_tr {N : Nat → Prop} {H0 H H1 : Heap} (h : hC N H0 H) (h2 : hC no_ H H1) : hC N H0 H1 := ⟨Nat.le_trans h.1 h2.1, fun q a b => (h2.2 q (Nat.lt_of_lt_of_le a h.1) (fun z => z)).trans (h.2 q a b)⟩
theorem sub_pS {P : Nat → Prop} {g : gG} {H1 : Heap} {a a2 so to0 n : Nat} {t : List Nat} (hE : pS P g H1 (g.2.2.2 1) []) (h : (so = 0 ∧ to0 = t.length ∧ a2 = a) ∨ (so = to0 ∧ a2 = g.2.2.2 1) ∨ ∃ w2, n ≤ a2 ∧ n ≤ w2 ∧ sS g H1 a2 w2 ((t.drop so).take (to0 - so))) (hno : ¬ (so = 0 ∧ to0 = t.length)) (hP : ∀ q, n ≤ q → P q) : pS P g H1 a2 ((t.drop so).take (to0 - so)) := by
  rcases h with h | ⟨h1, h2⟩ | ⟨w2, h1, h2, h3⟩
  · exact absurd ⟨h.1, h.2.1⟩ hno
  · rw [h2, h1, Nat.sub_self, List.take_zero]; exact hE
  · exact sS_pS h3 (hP _ h1) (hP _ h2)
theorem ob_st {g : gG} {H : Heap} {a ci : Nat} {fs : List Value} (h : ob g H a ci fs) : ∀ cell, H[a]? = some cell → cell.vm.isStatics = false := fun cell hc => by
  obtain ⟨r, h1, cell2, q1, q2, q3, q4⟩ := h 0 _ rfl
  cases hc.symm.trans q1
  rw [q3]; rfl
theorem ar_st {g : gG} {H : Heap} {t a : Nat} {x : vp_A} (h : ar g t H a x) : ∀ cell, H[a]? = some cell → cell.vm.isStatics = false := fun cell hc => by
  cases hc.symm.trans (ar_eq h)
  rcases x with ⟨n, f | f | f | f | f⟩ <;> rfl
theorem cX_st {Z : Nat → Prop} {g : gG} {H : Heap} {x : Nat} {ad : Nat → Nat} {ms nm nw : Nat} {rows : List Rw} {mir : Nat → List Rw} {T : List Nat} {f f2 : Nat → Int64} {k q k2 q2 : Nat} (h : cX Z g H x ad ms nm nw rows mir T f k q f2 k2 q2) : ∀ a, NX ad a → ∀ cell, H[a]? = some cell → cell.vm.isStatics = false := fun a ha => by
  obtain ⟨j, hj, z⟩ := ha
  subst z
  obtain ⟨-, ⟨n9, f9, hG0, hG1, -⟩, hM, hP, hH, ⟨mb, cap, fb, hS0, hS1, -⟩, hT⟩ := h
  have e : j = 0 ∨ j = 1 ∨ j = 2 ∨ j = 3 ∨ (4 ≤ j ∧ j < 8) ∨ (8 ≤ j ∧ j < 12) ∨ j = 12 ∨ j = 13 ∨ j = 14 ∨ j = 15 := by omega
  rcases e with e | e | e | e | e | e | e | e | e | e
  · subst e; exact ob_st hS0
  · subst e; exact ar_st hS1
  · subst e; exact ob_st hG0
  · subst e; exact ar_st hG1
  · obtain ⟨n8, f8, h0, h1, -⟩ := hM (j - 4) (by omega)
    rw [show 4 + (j - 4) = j by omega] at h0
    exact ob_st h0
  · obtain ⟨n8, f8, h0, h1, -⟩ := hM (j - 8) (by omega)
    rw [show 8 + (j - 8) = j by omega] at h1
    exact ar_st h1
  · subst e; exact ob_st hP.1
  · subst e; exact ar_st hP.2.1
  · subst e; exact ob_st hH.1
  · subst e; exact ar_st hH.2.1
theorem PX_U {Z : Nat → Prop} {ad : Nat → Nat} {v2 n a : Nat} (h : PX Z ad a) (hv : v2 = ad 1 ∨ n ≤ v2) (ha : a < n) : PX Z (adU ad v2) a := ⟨fun j hj => by
  by_cases e : j = 1
  · subst e
    rw [adU_1]
    rcases hv with q | q
    · rw [q]; exact h.1 1 (by decide)
    · omega
  · rw [adU_n e]; exact h.1 j hj, h.2⟩
