/-! THE CLASS'S STATE: names, rows, ledgers, numbers, as mathematical values and as cells -/
/-- MIX, as the machine computes it -/
def mixS (h x : Int64) : Int64 := (h ^^^ x) * (-7046029254386353131) ^^^ (((h ^^^ x) * (-7046029254386353131)).toUInt64 >>> ((29 : Int32).toInt64.toUInt64 &&& Int64.toUInt64 63)).toInt64
def joinS (a b : Int64) : Int64 := mixS (mixS 1 a) b
def mixT (h : Int64) : List Nat → Int64
  | [] => h
  | c :: t => mixT (mixS h (nI c).toInt64) t
/-- a row: kind, person, name, the name after it, second, third, origin -/
abbrev Rw : Type := Int32 × Int32 × List Nat × List Nat × Int32 × Int32 × Int32
abbrev rk (r : Rw) : Int32 := r.1
abbrev rp (r : Rw) : Int32 := r.2.1
abbrev rn (r : Rw) : List Nat := r.2.2.1
abbrev ra (r : Rw) : List Nat := r.2.2.2.1
abbrev r2 (r : Rw) : Int32 := r.2.2.2.2.1
abbrev r3 (r : Rw) : Int32 := r.2.2.2.2.2.1
abbrev ro (r : Rw) : Int32 := r.2.2.2.2.2.2
def hS (r : Rw) : Int64 :=
  let h := mixS (mixT (mixS (mixS 0 (rk r).toInt64) (rp r).toInt64) (rn r)) 256
  if rk r = 3 then mixT h (ra r) else mixS (mixS h (r2 r).toInt64) (r3 r).toInt64
def digS (r : Rw) : Int64 := if rk r = -1 then 0 else hS r
def noRw : Rw := (-1, -1, [], [], -1, -1, -1)
def foldT (t : List Nat) : List Nat := t.filter (fun c => !(c == 45))
def isN (g : gG) (H : Heap) (a : Nat) (t : List Nat) : Prop := ∃ sa fa, ob g H a 2 [.ref sa, .ref fa] ∧ isS g H sa t ∧ isS g H fa (foldT t)
def isR (g : gG) (H : Heap) (a : Nat) (r : Rw) : Prop := ∃ na nb, ob g H a 4 [.int (rk r), .int (rp r), .ref na, .ref nb, .int (r2 r), .int (r3 r), .int (ro r), .long (digS r)] ∧ isN g H na (rn r) ∧ isN g H nb (ra r)
def isL (g : gG) (H : Heap) (a : Nat) (rows : List Rw) : Prop := ∃ w n f, ob g H a 1 [.ref w, .ref n, .int (nI rows.length)] ∧ ar g 2 H w (120, .inr (.inr (.inr (.inr f)))) ∧ isR g H n noRw ∧ rows.length ≤ 120 ∧ ∀ i, i < rows.length → ∃ r, f i = some r ∧ isR g H r (rows.getD i noRw)
/-- the row at i, or none -/
def atS (rows : List Rw) (i : Int32) : Rw := if 0 ≤ i ∧ i < nI rows.length then rows.getD i.toNatClampNeg noRw else noRw
theorem atS_in {rows : List Rw} {k : Nat} (h : k < rows.length) (hr : rows.length ≤ 120) : atS rows (nI k) = rows.getD k noRw := by
  have h1 : 0 ≤ nI k := nI_pos' (by omega)
  have h2 : nI k < nI rows.length := nI_lt h (by omega)
  rw [atS, if_pos ⟨h1, h2⟩, nI_clamp (by omega)]
/-- a list of numbers in a Numbers object: its values, how many were asked for -/
def isU (g : gG) (H : Heap) (a v : Nat) (f : Nat → Int64) (k q : Nat) : Prop := ob g H a 3 [.ref v, .int (nI k), .int (nI q)] ∧ ar g 1 H v (16, .inr (.inl f)) ∧ k ≤ 16 ∧ q ≤ 1000
def getS (f : Nat → Int64) (k : Nat) (i : Int32) : Int64 := if 0 ≤ i ∧ i < nI k then f i.toNatClampNeg else 0
/-- the greatest power of two below n -/
def fpL : Nat → Nat → Nat → Nat
  | 0, _, k => k
  | b + 1, n, k => if 2 * k < n ∧ 2 * k < 120 then fpL b n (2 * k) else k
def fpS (n : Nat) : Nat := fpL 8 n 1
