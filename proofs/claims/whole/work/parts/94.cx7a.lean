/-! the object's making: cells that don't change: older ones of PE, new ones but for those of ML -/
def PZ (PE : Nat → Prop) (n0 : Nat) (ML : List Nat) : Nat → Prop := fun q => (PE q ∨ n0 ≤ q) ∧ ∀ m ∈ ML, q ≠ m
theorem PZ_c {PE : Nat → Prop} {n0 a q : Nat} {ML : List Nat} (h : PZ PE n0 ML a) (hq : a ≠ q) : PZ PE n0 (q :: ML) a := ⟨h.1, fun m hm => by
  rcases List.mem_cons.mp hm with z | z
  · rw [z]; exact hq
  · exact h.2 m z⟩
theorem PZ_x {PE : Nat → Prop} {n0 a x : Nat} {ML : List Nat} (hPE : ∀ q, PE q → q < n0 ∧ q ≠ x) (hx : x < n0) (h : PZ PE n0 ML a) : a ≠ x := h.1.elim (fun z => (hPE a z).2) (fun z => by omega)
/-- a ledger just made -/
theorem PZ_l {PE : Nat → Prop} {g : gG} {H : Heap} {n0 n1 a w : Nat} {ML : List Nat} (h : pL (fun q => (n1 ≤ q ∧ q ≠ w) ∨ PE q) g H a w []) (h0 : n0 ≤ n1) (hPE : ∀ q, PE q → q < n0) (hML : ∀ m ∈ ML, n0 ≤ m ∧ m < n1) (hw : n1 ≤ w) : pL (PZ PE n0 (w :: ML)) g H a w [] := pL_mv h rfl rfl (fun q h1 h2 => ⟨rfl, by
  rcases h1 with z | z
  · exact ⟨Or.inr (by omega), fun m hm => by
      rcases List.mem_cons.mp hm with y | y
      · rw [y]; exact z.2
      · have := hML m y; omega⟩
  · exact ⟨Or.inl z, fun m hm => by
      have := hPE q z
      rcases List.mem_cons.mp hm with y | y
      · omega
      · have := hML m y; omega⟩⟩)
/-- its cells that change -/
def adF (sb sv lg lw : Nat) (am wm : Nat → Nat) (pr pv hd hv : Nat) : Nat → Nat := fun j => if j = 0 then sb else if j = 1 then sv else if j = 2 then lg else if j = 3 then lw else if j < 8 then am (j - 4) else if j < 12 then wm (j - 8) else if j = 12 then pr else if j = 13 then pv else if j = 14 then hd else hv
def f4 (a b c d : Nat) : Nat → Nat := fun j => if j = 0 then a else if j = 1 then b else if j = 2 then c else d
