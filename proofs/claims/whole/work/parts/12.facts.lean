/-! FACTS OF CELLS: an object with its fields, an array, a String, its bytes; the rows that read them -/
abbrev ob (g : gG) (H : Heap) (a ci : Nat) (fs : List Value) : Prop := va_P g.1 cls_ [(a, .inr (ci, fs))] H
abbrev ar (g : gG) (t : Nat) (H : Heap) (a : Nat) (x : vp_A) : Prop := va_P g.1 cls_ [(a, .inl (g.2.1 t, x))] H
/-- a String: its bytes' address, coder 0 (a constant is one too) -/
def sO (g : gG) (H : Heap) (a v : Nat) : Prop := ∃ cell : Cell, H[a]? = some cell ∧ cell.vm.isStatics = false ∧ cell.vm ≠ .unknown ∧ cell.cls = g.1.1 6 ∧ cell.slots[g.1.2 6 0]? = some (.ref v) ∧ cell.slots[g.1.2 6 1]? = some (.int 0)
def bA (g : gG) (H : Heap) (v n : Nat) (f : Nat → Int32) : Prop := ∃ cell : Cell, H[v]? = some cell ∧ cell.vm.isStatics = false ∧ cell.vm ≠ .unknown ∧ (cell.cls = g.2.1 0 ∨ cell.cls = g.2.1 6) ∧ cell.slots.size = n ∧ ∀ j, j < n → cell.slots[j]? = some (.int (f j))
abbrev ch (t : List Nat) : Nat → Int32 := fun j => nI (t.getD j 0)
/-- a String with the text t -/
def isS (g : gG) (H : Heap) (a : Nat) (t : List Nat) : Prop := ∃ v, sO g H a v ∧ bA g H v t.length (ch t) ∧ (∀ c ∈ t, c < 128) ∧ t.length ≤ 100
theorem bA.arr {g : gG} {H : Heap} {v n : Nat} {f : Nat → Int32} {U : State} (h : bA g H v n f) (hK : bK g U) : ∃ cell : Cell, H[v]? = some cell ∧ cell.vm ≠ .unknown ∧ U.isArrayOf cell .byte ∧ cell.slots.size = n ∧ ∀ j, j < n → cell.slots[j]? = some (.int (f j)) := by
  obtain ⟨cell, h1, h2, h3, h4, h5, h6⟩ := h
  obtain ⟨kA, comp, k1, k2⟩ := hK _ h4
  exact ⟨cell, h1, h3, ⟨fun k e => (by rw [e] at h2; cases h2), kA, k1, comp, k2⟩, h5, h6⟩
section F0s
variable {p : Program} {l : Launch} {e : Env} {R : Room} {s : State} {m : MethodId} {args : Array Value} {below : List Frame} {meth : Method} {c : Code} {H : Heap} {locs : List Loc} {cells slots : Nat} {Q : State → Prop}
variable {cc : ByteArray} {pc : Nat} {ls : Array Slot} {rest : List Value} {g : gG} {a : Nat}
def sV (v : Nat) : Nat → Value
  | 0 => .ref v
  | _ => .int 0
theorem s_get (hexec : p.tables.exec = Jvm.exec) (hb : c.code = cc) {own : String} {index v : Nat} (hts : ∀ w ∈ gT, w.before args s = true) (hown : s.vm.findClass own = some m.cls) (hK : kK g s) (f : sO g H a v) (k : Nat) (hk : k < 2) (hlink : (Cond.fieldLink own index "java/lang/String" (F_S k).2.1 (F_S k).2.2.1).before args s = true) (hdg : decode cc pc = .ok (.getfield index, 3))
    (kk : W p l e R s m args below meth c H locs cells slots Q (F0 m (pc + 3) ls (sV v k :: rest))) : W p l e R s m args below meth c H locs cells slots Q (F0 m pc ls (.ref a :: rest)) := by
  obtain ⟨cell, h1, h2, h3, h4, h5, h6⟩ := f
  obtain ⟨hS, hfc, kC, hkC, hkind⟩ := hK.1.1 6 _ rfl
  have hk4 : k < 4 := by omega
  obtain ⟨cf, kf, fi, f, hi, hsl⟩ := hS k hk4
  have hr : (F_S k).1 = "java/lang/String" := by rcases (show k = 0 ∨ k = 1 by omega) with rfl | rfl <;> rfl
  refine W.getf hexec hb hown hlink (by rw [← hr]; exact hi) (u_facts hfc hkC (u_lays hts i_S hk4) hi).1 h1 h3 (v := sV v k) ?_ rfl rfl hdg kk
  rw [hsl]
  rcases (show k = 0 ∨ k = 1 by omega) with rfl | rfl
  · exact h5
  · exact h6
theorem b_len (hexec : p.tables.exec = Jvm.exec) (hb : c.code = cc) {n : Nat} {f : Nat → Int32} (hK : kK g s) (h : bA g H a n f) (hdg : decode cc pc = .ok (.arraylength, 1))
    (kk : W p l e R s m args below meth c H locs cells slots Q (F0 m (pc + 1) ls (.int (nI n) :: rest))) : W p l e R s m args below meth c H locs cells slots Q (F0 m pc ls (.ref a :: rest)) := by
  obtain ⟨cell, h1, h2, h3, h4, h5⟩ := h.arr hK.2.2.2.1
  exact W.alen (n := nI n) hexec hb h1 h3 (by rw [h4]; rfl) rfl rfl hdg kk
theorem b_ld (hexec : p.tables.exec = Jvm.exec) (hb : c.code = cc) {n : Nat} {f : Nat → Int32} (hK : kK g s) (h : bA g H a n f) {i : Int32} (hin : vp_in i n) (hdg : decode cc pc = .ok (.baload, 1))
    (kk : W p l e R s m args below meth c H locs cells slots Q (F0 m (pc + 1) ls (.int (f i.toNatClampNeg) :: rest))) : W p l e R s m args below meth c H locs cells slots Q (F0 m pc ls (.int i :: .ref a :: rest)) := by
  obtain ⟨cell, h1, h2, h3, h4, h5⟩ := h.arr hK.2.2.2.1
  exact W.bald hexec hb h1 h3 h2 (by rw [h4]; exact hin) (h5 _ (Nat.not_le.mp fun q => hin (Or.inr q))) rfl rfl hdg kk
/-- a cell's own class, for a call -/
theorem ob_recv {ci : Nat} {fs : List Value} {q : vw_C} (hK : kK g s) (h : ob g H a ci fs) (hc : cls_[ci]? = some q) : ∃ cell : Cell, H[a]? = some cell ∧ cell.vm.isStatics = false ∧ s.vm.findClass q.1 = some cell.cls := va_recv hK.1 h hc (q0 := 0) rfl
theorem s_recv {v : Nat} (hK : kK g s) (h : sO g H a v) : ∃ cell : Cell, H[a]? = some cell ∧ cell.vm.isStatics = false ∧ s.vm.findClass "java/lang/String" = some cell.cls := by
  obtain ⟨cell, h1, h2, h3, h4, h5, h6⟩ := h
  exact ⟨cell, h1, h2, by rw [h4]; exact (hK.1.1 6 _ rfl).2.1⟩
end F0s
theorem ch_c : ∀ c, c < 128 → (((nI c) &&& 255).toUInt32 % 65536).toInt32 = nI c ∧ narrow .char (.int (nI c)) = .int (nI c) := by decide +kernel
