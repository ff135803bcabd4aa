/-! THE CLASS'S CELLS THAT NEVER CHANGE, all in P: strings, names, rows; a ledger (a, w: the cells of it that change) -/
def pS (P : Nat → Prop) (g : gG) (H : Heap) (a : Nat) (t : List Nat) : Prop := ∃ v, P a ∧ P v ∧ sO g H a v ∧ bA g H v t.length (ch t) ∧ (∀ c ∈ t, c < 128) ∧ t.length ≤ 100
def pN (P : Nat → Prop) (g : gG) (H : Heap) (a : Nat) (t : List Nat) : Prop := ∃ sa fa, P a ∧ ob g H a 2 [.ref sa, .ref fa] ∧ pS P g H sa t ∧ pS P g H fa (foldT t)
def pR (P : Nat → Prop) (g : gG) (H : Heap) (a : Nat) (r : Rw) : Prop := ∃ na nb, P a ∧ ob g H a 4 [.int (rk r), .int (rp r), .ref na, .ref nb, .int (r2 r), .int (r3 r), .int (ro r), .long (digS r)] ∧ pN P g H na (rn r) ∧ pN P g H nb (ra r)
def pL (P : Nat → Prop) (g : gG) (H : Heap) (a w : Nat) (rows : List Rw) : Prop := ∃ n f, ob g H a 1 [.ref w, .ref n, .int (nI rows.length)] ∧ ar g 2 H w (120, .inr (.inr (.inr (.inr f)))) ∧ pR P g H n noRw ∧ rows.length ≤ 120 ∧ ∀ i, i < rows.length → ∃ r, f i = some r ∧ pR P g H r (rows.getD i noRw)
section PM
variable {P P' : Nat → Prop} {g : gG} {H H1 : Heap} {a w : Nat} {t : List Nat} {r : Rw} {rows : List Rw}
theorem pS_mv (h : pS P g H a t) (hm : ∀ q, P q → q < H.size → H1[q]? = H[q]? ∧ P' q) : pS P' g H1 a t := by
  obtain ⟨v, h1, h2, h3, h4, h5⟩ := h
  have k1 := hm a h1 (sO_lt h3)
  have k2 := hm v h2 (bA_lt h4)
  exact ⟨v, k1.2, k2.2, sO_kept h3 k1.1, bA_kept h4 k2.1, h5⟩
theorem pN_mv (h : pN P g H a t) (hm : ∀ q, P q → q < H.size → H1[q]? = H[q]? ∧ P' q) : pN P' g H1 a t := by
  obtain ⟨sa, fa, h1, h2, h3, h4⟩ := h
  have k1 := hm a h1 (ob_lt h2)
  exact ⟨sa, fa, k1.2, ob_kept h2 k1.1, pS_mv h3 hm, pS_mv h4 hm⟩
theorem pR_mv (h : pR P g H a r) (hm : ∀ q, P q → q < H.size → H1[q]? = H[q]? ∧ P' q) : pR P' g H1 a r := by
  obtain ⟨na, nb, h1, h2, h3, h4⟩ := h
  have k1 := hm a h1 (ob_lt h2)
  exact ⟨na, nb, k1.2, ob_kept h2 k1.1, pN_mv h3 hm, pN_mv h4 hm⟩
theorem pL_mv (h : pL P g H a w rows) (ha : H1[a]? = H[a]?) (hw : H1[w]? = H[w]?) (hm : ∀ q, P q → q < H.size → H1[q]? = H[q]? ∧ P' q) : pL P' g H1 a w rows := by
  obtain ⟨n, f, h1, h2, h3, h4, h5⟩ := h
  exact ⟨n, f, ob_kept h1 ha, ar_kept h2 hw, pR_mv h3 hm, h4, fun i hi => by obtain ⟨q, q1, q2⟩ := h5 i hi; exact ⟨q, q1, pR_mv q2 hm⟩⟩
theorem pS_isS (h : pS P g H a t) : isS g H a t := by
  obtain ⟨v, h1, h2, h3, h4, h5⟩ := h
  exact ⟨v, h3, h4, h5⟩
theorem pN_isN (h : pN P g H a t) : isN g H a t := by
  obtain ⟨sa, fa, h1, h2, h3, h4⟩ := h
  exact ⟨sa, fa, h2, pS_isS h3, pS_isS h4⟩
theorem pR_isR (h : pR P g H a r) : isR g H a r := by
  obtain ⟨na, nb, h1, h2, h3, h4⟩ := h
  exact ⟨na, nb, h2, pN_isN h3, pN_isN h4⟩
theorem pL_isL (h : pL P g H a w rows) : isL g H a rows := by
  obtain ⟨n, f, h1, h2, h3, h4, h5⟩ := h
  exact ⟨w, n, f, h1, h2, pR_isR h3, h4, fun i hi => by obtain ⟨q, q1, q2⟩ := h5 i hi; exact ⟨q, q1, pR_isR q2⟩⟩
theorem pL_lt (h : pL P g H a w rows) : a < H.size ∧ w < H.size := by
  obtain ⟨n, f, h1, h2, -⟩ := h
  exact ⟨ob_lt h1, ar_lt h2⟩
theorem sS_pS {v : Nat} (h : sS g H a v t) (ha : P a) (hv : P v) : pS P g H a t := by
  obtain ⟨h1, ⟨f, h2, h3, -⟩, h4, h5⟩ := h
  exact ⟨v, ha, hv, h1, bA_ext (ar_bA h2) h3, mem_getD h4, by omega⟩
/-- the cells of the same heap, in another set -/
theorem pS_P (h : pS P g H a t) (hm : ∀ q, P q → q < H.size → P' q) : pS P' g H a t := pS_mv h (fun q h1 h2 => ⟨rfl, hm q h1 h2⟩)
theorem pN_P (h : pN P g H a t) (hm : ∀ q, P q → q < H.size → P' q) : pN P' g H a t := pN_mv h (fun q h1 h2 => ⟨rfl, hm q h1 h2⟩)
theorem pR_P (h : pR P g H a r) (hm : ∀ q, P q → q < H.size → P' q) : pR P' g H a r := pR_mv h (fun q h1 h2 => ⟨rfl, hm q h1 h2⟩)
end PM
theorem pS_getD {P : Nat → Prop} {g : gG} {H : Heap} {a : Nat} {t : List Nat} (h : pS P g H a t) : ∀ c, t.getD c 0 < 128 := fun c => by
  obtain ⟨v, h1, h2, h3, h4, h5, h6⟩ := h
  rw [List.getD_eq_getElem?_getD]
  rcases hx : t[c]? with _ | x
  · decide
  · exact h5 x (List.mem_of_getElem? hx)
