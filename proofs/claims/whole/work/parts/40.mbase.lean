/-! THE REFERENCE'S CELLS: one object, its arrays; what it holds as functions: F its numbers, A its int (and boolean) arrays, B its long arrays, by the fields' places -/
section HW
variable {p : Program} {l : Launch} {e : Env} {R : Room} {s : State} {m : MethodId} {args : Array Value} {below : List Frame} {meth : Method} {c : Code} {H : Heap} {locs : List Loc} {cells slots : Nat} {Q : State → Prop}
variable {cc : ByteArray} {pc : Nat} {ls : Array Slot} {rest : List Value} {g : gG} {a : Nat}
/-- putfield, with all that stays said -/
theorem h_put (hexec : p.tables.exec = Jvm.exec) (hb : c.code = cc) {own ref C : String} {T : u_T} {N ci index : Nat} (hts : ∀ w ∈ gT, w.before args s = true) (hin : ∀ w ∈ u_ws C T N, w ∈ gT) (ty0 : Nat → FieldType) (hty : ∀ k, k < N → parseFieldDescriptor (T k).2.2.1 = some (ty0 k)) (hnm : ∀ a, a < N → ∀ b, b < N → a ≠ b → (T a).2.1 ≠ (T b).2.1) (hown : s.vm.findClass own = some m.cls) (hK : kK g s) {fs : List Value} (f0 : ob g H a ci fs) (hc : cls_[ci]? = some (C, T, N)) (k : Nat) (hk : k < N) (hlink : (Cond.fieldLink own index ref (T k).2.1 (T k).2.2.1).before args s = true) (hsame : ∀ x, s.fieldFound? (T k).1 (T k).2.1 (T k).2.2.1 = some x → s.fieldFound? ref (T k).2.1 (T k).2.2.1 = some x) (hfin : (T k).2.2.2 = false) {ty : FieldType} {v : Value} (hd : parseFieldDescriptor (T k).2.2.1 = some ty) (hn : narrow ty v = v) (hfit : fits ty v = true) (hl : k < fs.length)
    (hdg : decode cc pc = .ok (.putfield index, 3)) (kk : ∀ (H1 : Heap) (j : Nat), ob g H1 a ci (fs.set k v) → H1.size = H.size → (∀ q : Nat, q ≠ a → H1[q]? = H[q]?) → W p l e R s m args below meth c H1 (locs ++ [⟨a, j⟩]) cells slots Q (F0 m (pc + 3) ls rest)) : W p l e R s m args below meth c H locs cells slots Q (F0 m pc ls (v :: .ref a :: rest)) := by
  have hap := va_apart (own := own) hts hin ty0 hty hnm hK.1 hc
  obtain ⟨r, h1, cell, q1, q2, q3, q4⟩ := f0 0 _ rfl
  have hr : r = (C, T, N) := Option.some.inj (h1.symm.trans hc)
  subst hr
  obtain ⟨hS, hfc, kC, hkC, hkind⟩ := hK.1.1 ci _ hc
  obtain ⟨cf, kf, fi, f, hi, hsl⟩ := hS k hk
  have hlay := hts _ (hin _ (u_in_lay hk))
  unfold u_lay at hlay
  rw [if_neg (by rw [hfin]; decide)] at hlay
  have hst := (u_facts hfc hkC (u_lays hts hin hk) hi).1
  have h6 := u_store hfc hkC hkind hlay hi hd hn hfit
  refine W.putK hexec hb (f := f) ⟨hown, hlink, ⟨_, _, _, hsame _ hi⟩, hst⟩ (by rw [q2]; exact h6) q1 q3 (by rw [hsl]; exact k2_hasslot (q4 k hk)) rfl rfl hdg fun H' e1 e2 e3 => ?_
  rw [hsl] at e1
  refine kk H' f.slot (fun i q hq => ?_) e2 e3
  have hz : i = 0 := by have := (List.getElem?_eq_some_iff.mp hq).1; simp at this; omega
  subst hz
  cases hq
  exact ⟨_, hc, t_OB.to (V := updV (vp_V fs) k v) ⟨_, e1, q2, q3, t_set q4 hap hk v⟩ (fun j _ => vp_updV_set hl v j)⟩
theorem ar_eq {t : Nat} {x : vp_A} (h : ar g t H a x) : H[a]? = some (vp_cell (g.2.1 t) x) := h 0 _ rfl
theorem ar_of {t : Nat} {x : vp_A} (h : H[a]? = some (vp_cell (g.2.1 t) x)) : ar g t H a x := fun i q hq => by
  have hz : i = 0 := by have := (List.getElem?_eq_some_iff.mp hq).1; simp at this; omega
  subst hz
  cases hq
  exact h
theorem h_iast (hexec : p.tables.exec = Jvm.exec) (hb : c.code = cc) (hK : kK g s) {n : Nat} {f : Nat → Int32} (h : ar g 4 H a (n, .inl f)) {i : Int32} {x : Int32} (k : Nat) (hi : i = nI k) (hk : k < n) (hn : n < 2 ^ 31) (hdg : decode cc pc = .ok (.iastore, 1))
    (kk : ∀ (H1 : Heap) (j : Nat), ar g 4 H1 a (n, .inl (upd f k x)) → H1.size = H.size → (∀ q : Nat, q ≠ a → H1[q]? = H[q]?) → W p l e R s m args below meth c H1 (locs ++ [⟨a, j⟩]) cells slots Q (F0 m (pc + 1) ls rest)) : W p l e R s m args below meth c H locs cells slots Q (F0 m pc ls (.int x :: .int i :: .ref a :: rest)) := by
  subst hi
  have hc : (nI k).toNatClampNeg = k := nI_clamp (by omega)
  refine W.iast hexec hb (ar_eq h) ((hK.1.2 4 _ rfl).1 n (fun j => .int (f j))) (fun q => by cases q) (by show ¬ (nI k < 0 ∨ (arrV _ _ _).slots.size ≤ _); rw [arrV_size]; exact nI_in hk hn) rfl rfl hdg fun H1 e z oq => ?_
  refine kk H1 _ (ar_of ?_) z oq
  rw [e, hc, vp_cell_i, vp_cell_i, arrV_store]
  congr 2
  funext q
  by_cases hq : q = k
  · subst hq; simp [updV, upd]
  · simp [updV, upd, hq]
theorem h_zast (hexec : p.tables.exec = Jvm.exec) (hb : c.code = cc) (hK : kK g s) {n : Nat} {f : Nat → Int32} (h : ar g 5 H a (n, .inl f)) {i : Int32} {b : Bool} (k : Nat) (hi : i = nI k) (hk : k < n) (hn : n < 2 ^ 31) (hdg : decode cc pc = .ok (.bastore, 1))
    (kk : ∀ (H1 : Heap) (j : Nat), ar g 5 H1 a (n, .inl (upd f k (bI b))) → H1.size = H.size → (∀ q : Nat, q ≠ a → H1[q]? = H[q]?) → W p l e R s m args below meth c H1 (locs ++ [⟨a, j⟩]) cells slots Q (F0 m (pc + 1) ls rest)) : W p l e R s m args below meth c H locs cells slots Q (F0 m pc ls (.int (bI b) :: .int i :: .ref a :: rest)) := by
  subst hi
  have hc : (nI k).toNatClampNeg = k := nI_clamp (by omega)
  refine W.zast hexec hb (ar_eq h) ((hK.1.2 5 _ rfl).1 n (fun j => .int (f j))) (fun q => by cases q) (by show ¬ (nI k < 0 ∨ (arrV _ _ _).slots.size ≤ _); rw [arrV_size]; exact nI_in hk hn) rfl rfl hdg fun H1 e z oq => ?_
  refine kk H1 _ (ar_of ?_) z oq
  rw [e, hc, vp_cell_i, vp_cell_i, arrV_store]
  congr 2
  funext q
  by_cases hq : q = k
  · subst hq; cases b <;> simp [updV, upd, bI] <;> rfl
  · simp [updV, upd, hq]
theorem h_last (hexec : p.tables.exec = Jvm.exec) (hb : c.code = cc) (hK : kK g s) {n : Nat} {f : Nat → Int64} (h : ar g 1 H a (n, .inr (.inl f))) {i : Int32} {x : Int64} (k : Nat) (hi : i = nI k) (hk : k < n) (hn : n < 2 ^ 31) (hdg : decode cc pc = .ok (.lastore, 1))
    (kk : ∀ (H1 : Heap) (j : Nat), ar g 1 H1 a (n, .inr (.inl (vp_updL f k x))) → H1.size = H.size → (∀ q : Nat, q ≠ a → H1[q]? = H[q]?) → W p l e R s m args below meth c H1 (locs ++ [⟨a, j⟩]) cells slots Q (F0 m (pc + 1) ls rest)) : W p l e R s m args below meth c H locs cells slots Q (F0 m pc ls (.long x :: .int i :: .ref a :: rest)) := by
  subst hi
  have hc : (nI k).toNatClampNeg = k := nI_clamp (by omega)
  refine W.last hexec hb (ar_eq h) ((hK.1.2 1 _ rfl).1 n (fun j => .long (f j))) (fun q => by cases q) (by show ¬ (nI k < 0 ∨ (arrV _ _ _).slots.size ≤ _); rw [arrV_size]; exact nI_in hk hn) rfl rfl hdg fun H1 e z oq => ?_
  refine kk H1 _ (ar_of ?_) z oq
  rw [e, hc, vp_cell_l, vp_cell_l, arrV_store]
  congr 2
  funext q
  by_cases hq : q = k
  · subst hq; simp [updV, vp_updL]
  · simp [updV, vp_updL, hq]
theorem ob_kept {ci : Nat} {fs : List Value} {H1 : Heap} (h : ob g H a ci fs) (hq : H1[a]? = H[a]?) : ob g H1 a ci fs := va_P.kept h (fun k q hk => by
  have hz : k = 0 := by have := (List.getElem?_eq_some_iff.mp hk).1; simp at this; omega
  subst hz; cases hk; exact hq)
theorem ar_kept {t : Nat} {x : vp_A} {H1 : Heap} (h : ar g t H a x) (hq : H1[a]? = H[a]?) : ar g t H1 a x := ar_of (hq.trans (ar_eq h))
end HW
def mF (ad : Nat → Nat) (F : Nat → Int32) : List Value := [.int (F 0), .ref (ad 1), .int (F 2), .ref (ad 3), .ref (ad 4), .ref (ad 5), .ref (ad 6), .ref (ad 7), .ref (ad 8), .ref (ad 9), .ref (ad 10), .ref (ad 11), .ref (ad 12), .ref (ad 13), .ref (ad 14), .int (F 15), .int (F 16), .ref (ad 17), .ref (ad 18), .ref (ad 19), .ref (ad 20), .ref (ad 21), .ref (ad 22), .ref (ad 23), .ref (ad 24), .ref (ad 25), .ref (ad 26), .int (F 27), .int (F 28), .int (F 29), .ref (ad 30), .ref (ad 31), .int (F 32), .int (F 33), .ref (ad 34), .ref (ad 35), .ref (ad 36), .ref (ad 37), .ref (ad 38), .ref (ad 39), .ref (ad 40), .int (F 41), .int (F 42), .int (F 43), .int (F 44), .int (F 45)]
/-- a field's kind: 0 a number, 1 an int array, 2 a long array, 3 a boolean array -/
def mK (j : Nat) : Nat := ([0, 1, 0, 1, 1, 1, 1, 1, 1, 1, 1, 1, 1, 2, 2, 0, 0, 1, 1, 1, 1, 1, 1, 1, 1, 1, 1, 0, 0, 0, 1, 1, 0, 0, 1, 1, 2, 2, 1, 1, 3, 0, 0, 0, 0, 0] : List Nat).getD j 0
def mLen (j : Nat) : Nat := ([0, 24, 0, 120, 120, 120, 120, 120, 120, 1200, 1200, 600, 5, 16, 16, 0, 0, 2400, 240, 240, 240, 120, 120, 120, 120, 120, 120, 0, 0, 0, 10, 10, 0, 0, 10, 10, 128, 8, 16, 16, 16, 0, 0, 0, 0, 0] : List Nat).getD j 0
def mN (x : Nat) (ad : Nat → Nat) (q : Nat) : Prop := q = x ∨ ∃ j, mK j ≠ 0 ∧ q = ad j
def updA (A : Nat → Nat → Int32) (j : Nat) (f : Nat → Int32) : Nat → Nat → Int32 := fun k => if k = j then f else A k
def updB (B : Nat → Nat → Int64) (j : Nat) (f : Nat → Int64) : Nat → Nat → Int64 := fun k => if k = j then f else B k
def mW (g : gG) (H : Heap) (x : Nat) (ad : Nat → Nat) (F : Nat → Int32) (A : Nat → Nat → Int32) (B : Nat → Nat → Int64) : Prop :=
  ob g H x 8 (mF ad F) ∧ (∀ j, mK j = 1 → ar g 4 H (ad j) (mLen j, .inl (A j))) ∧ (∀ j, mK j = 2 → ar g 1 H (ad j) (mLen j, .inr (.inl (B j)))) ∧ (∀ j, mK j = 3 → ar g 5 H (ad j) (mLen j, .inl (A j))) ∧
  (∀ i j, mK i ≠ 0 → mK j ≠ 0 → ad i = ad j → i = j) ∧ (∀ j, mK j ≠ 0 → x ≠ ad j) ∧ ∀ q, mN x ad q → g.2.2.1 ≤ q
/-- since H0 nothing but the reference's cells has changed, and no cell came -/
def mS (g : gG) (H0 H : Heap) (x : Nat) (ad : Nat → Nat) (F : Nat → Int32) (A : Nat → Nat → Int32) (B : Nat → Nat → Int64) (locs : List Loc) : Prop :=
  mW g H x ad F A B ∧ H.size = H0.size ∧ (∀ q, ¬ mN x ad q → H[q]? = H0[q]?) ∧ ∀ q ∈ locs, mN x ad q.base
theorem mS.rf {g : gG} {H : Heap} {x : Nat} {ad : Nat → Nat} {F : Nat → Int32} {A : Nat → Nat → Int32} {B : Nat → Nat → Int64} (h : mW g H x ad F A B) : mS g H H x ad F A B [] := ⟨h, rfl, fun _ _ => rfl, fun _ h => by cases h⟩
/-- a contract's end, of a method of the reference -/
def qM (g : gG) (H : Heap) (x : Nat) (ad : Nat → Nat) (P : Option Value → (Nat → Int32) → (Nat → Nat → Int32) → (Nat → Nat → Int64) → Prop) : Array Value → State → Outcome → State → Prop := fun _ _ o t => ∃ v F A B, o = .returned v ∧ mS g H t.heap x ad F A B [] ∧ P v F A B
theorem mK_lt {j : Nat} (h : mK j ≠ 0) : j < 46 := by
  rcases Nat.lt_or_ge j 46 with q | q
  · exact q
  · exact absurd (by unfold mK; rw [List.getD_eq_getElem?_getD, List.getElem?_eq_none (by simpa using q)]; rfl) h
theorem mLen_lt (j : Nat) : mLen j < 2 ^ 31 := by
  rcases Nat.lt_or_ge j 46 with q | q
  · revert j; decide +kernel
  · unfold mLen; rw [List.getD_eq_getElem?_getD, List.getElem?_eq_none (by simpa using q)]; decide
section MW
variable {p : Program} {l : Launch} {e : Env} {R : Room} {s : State} {m : MethodId} {args : Array Value} {below : List Frame} {meth : Method} {c : Code} {H H0 : Heap} {locs : List Loc} {cells slots : Nat} {Q : State → Prop}
variable {cc : ByteArray} {pc : Nat} {ls : Array Slot} {rest : List Value} {g : gG} {x : Nat} {ad : Nat → Nat} {F : Nat → Int32} {A : Nat → Nat → Int32} {B : Nat → Nat → Int64}
theorem m_put (hexec : p.tables.exec = Jvm.exec) (hb : c.code = cc) (hts : ∀ w ∈ gT, w.before args s = true) (hown : s.vm.findClass "RegistryLogModel" = some m.cls) (hK : kK g s) (h : mS g H0 H x ad F A B locs) {index : Nat} (k : Nat) (hk : k < 46) (hlink : (Cond.fieldLink "RegistryLogModel" index "RegistryLogModel" (F_M k).2.1 (F_M k).2.2.1).before args s = true) (hr : (F_M k).1 = "RegistryLogModel") (hfin : (F_M k).2.2.2 = false) {ty : FieldType} {v : Int32} (hd : parseFieldDescriptor (F_M k).2.2.1 = some ty) (hn : narrow ty (.int v) = .int v) (hfit : fits ty (.int v) = true) (hset : (mF ad F).set k (.int v) = mF ad (upd F k v))
    (hdg : decode cc pc = .ok (.putfield index, 3)) (kk : ∀ (H1 : Heap) (locs1 : List Loc), mS g H0 H1 x ad (upd F k v) A B locs1 → W p l e R s m args below meth c H1 locs1 cells slots Q (F0 m (pc + 3) ls rest)) : W p l e R s m args below meth c H locs cells slots Q (F0 m pc ls (.int v :: .ref x :: rest)) := by
  obtain ⟨⟨w1, w2, w3, w4, w5, w6, w7⟩, hz, hq, hlo⟩ := h
  refine h_put (ci := 8) (C := R_M) (T := F_M) (N := 46) hexec hb hts i_M t_M t_M_ok n_M hown hK w1 rfl k hk hlink (fun y hy => by rw [← hr]; exact hy) hfin hd hn hfit (by exact hk) hdg (fun H1 j f1 z oq => ?_)
  rw [hset] at f1
  refine kk H1 _ ⟨⟨f1, fun j hj => ar_kept (w2 j hj) (oq _ (fun z => w6 j (by rw [hj]; decide) z.symm)), fun j hj => ar_kept (w3 j hj) (oq _ (fun z => w6 j (by rw [hj]; decide) z.symm)), fun j hj => ar_kept (w4 j hj) (oq _ (fun z => w6 j (by rw [hj]; decide) z.symm)), w5, w6, w7⟩, z.trans hz, fun q h9 => (oq q (fun z => h9 (Or.inl z))).trans (hq q h9), fun q h9 => ?_⟩
  rcases List.mem_append.mp h9 with h8 | h8
  · exact hlo q h8
  · rw [List.mem_singleton.mp h8]; exact Or.inl rfl
theorem m_ld (hexec : p.tables.exec = Jvm.exec) (hb : c.code = cc) (hK : kK g s) (h : mS g H0 H x ad F A B locs) (j : Nat) (hj : mK j = 1) {i : Int32} (k : Nat) (hi : i = nI k) (hk : k < mLen j) (hdg : decode cc pc = .ok (.iaload, 1))
    (kk : W p l e R s m args below meth c H locs cells slots Q (F0 m (pc + 1) ls (.int (A j k) :: rest))) : W p l e R s m args below meth c H locs cells slots Q (F0 m pc ls (.int i :: .ref (ad j) :: rest)) := by
  have hl := mLen_lt j
  refine va_iald (D := g.1) hexec hb hK.1 (h.1.2.1 j hj) 0 4 rfl rfl (by rw [hi]; exact vp_in_nI hk hl) hdg ?_
  rw [hi, nI_clamp (by omega)]
  exact kk
theorem m_ldl (hexec : p.tables.exec = Jvm.exec) (hb : c.code = cc) (hK : kK g s) (h : mS g H0 H x ad F A B locs) (j : Nat) (hj : mK j = 2) {i : Int32} (k : Nat) (hi : i = nI k) (hk : k < mLen j) (hdg : decode cc pc = .ok (.laload, 1))
    (kk : W p l e R s m args below meth c H locs cells slots Q (F0 m (pc + 1) ls (.long (B j k) :: rest))) : W p l e R s m args below meth c H locs cells slots Q (F0 m pc ls (.int i :: .ref (ad j) :: rest)) := by
  have hl := mLen_lt j
  refine va_lald (D := g.1) hexec hb hK.1 (h.1.2.2.1 j hj) 0 1 rfl rfl (by rw [hi]; exact vp_in_nI hk hl) hdg ?_
  rw [hi, nI_clamp (by omega)]
  exact kk
theorem m_ldz (hexec : p.tables.exec = Jvm.exec) (hb : c.code = cc) (hK : kK g s) (h : mS g H0 H x ad F A B locs) (j : Nat) (hj : mK j = 3) {i : Int32} (k : Nat) (hi : i = nI k) (hk : k < mLen j) (hdg : decode cc pc = .ok (.baload, 1))
    (kk : W p l e R s m args below meth c H locs cells slots Q (F0 m (pc + 1) ls (.int (A j k) :: rest))) : W p l e R s m args below meth c H locs cells slots Q (F0 m pc ls (.int i :: .ref (ad j) :: rest)) := by
  have hl := mLen_lt j
  refine va_zald (D := g.1) hexec hb hK.1 (h.1.2.2.2.1 j hj) 0 5 rfl rfl (by rw [hi]; exact vp_in_nI hk hl) hdg ?_
  rw [hi, nI_clamp (by omega)]
  exact kk
theorem m_st (hexec : p.tables.exec = Jvm.exec) (hb : c.code = cc) (hK : kK g s) (h : mS g H0 H x ad F A B locs) (j : Nat) (hj : mK j = 1) {i v : Int32} (k : Nat) (hi : i = nI k) (hk : k < mLen j) (hdg : decode cc pc = .ok (.iastore, 1))
    (kk : ∀ (H1 : Heap) (locs1 : List Loc), mS g H0 H1 x ad F (updA A j (upd (A j) k v)) B locs1 → W p l e R s m args below meth c H1 locs1 cells slots Q (F0 m (pc + 1) ls rest)) : W p l e R s m args below meth c H locs cells slots Q (F0 m pc ls (.int v :: .int i :: .ref (ad j) :: rest)) := by
  obtain ⟨⟨w1, w2, w3, w4, w5, w6, w7⟩, hz, hq, hlo⟩ := h
  refine h_iast hexec hb hK (w2 j hj) k hi hk (mLen_lt j) hdg (fun H1 j9 f1 z oq => ?_)
  have hj0 : mK j ≠ 0 := by rw [hj]; decide
  refine kk H1 _ ⟨⟨ob_kept w1 (oq _ (w6 j hj0)), fun i hi2 => ?_, fun i hi2 => ar_kept (w3 i hi2) (oq _ (fun z => by have := w5 i j (by rw [hi2]; decide) hj0 z; subst this; rw [hj] at hi2; cases hi2)), fun i hi2 => ?_, w5, w6, w7⟩, z.trans hz, fun q h9 => (oq q (fun z => h9 (Or.inr ⟨j, hj0, z⟩))).trans (hq q h9), fun q h9 => ?_⟩
  · by_cases e : i = j
    · subst e; rw [updA, if_pos rfl]; exact f1
    · rw [updA, if_neg e]; exact ar_kept (w2 i hi2) (oq _ (fun z => e (w5 i j (by rw [hi2]; decide) hj0 z)))
  · have e : i ≠ j := fun z => by subst z; rw [hj] at hi2; cases hi2
    rw [updA, if_neg e]; exact ar_kept (w4 i hi2) (oq _ (fun z => e (w5 i j (by rw [hi2]; decide) hj0 z)))
  · rcases List.mem_append.mp h9 with h8 | h8
    · exact hlo q h8
    · rw [List.mem_singleton.mp h8]; exact Or.inr ⟨j, hj0, rfl⟩
theorem m_stz (hexec : p.tables.exec = Jvm.exec) (hb : c.code = cc) (hK : kK g s) (h : mS g H0 H x ad F A B locs) (j : Nat) (hj : mK j = 3) {i : Int32} {b : Bool} (k : Nat) (hi : i = nI k) (hk : k < mLen j) (hdg : decode cc pc = .ok (.bastore, 1))
    (kk : ∀ (H1 : Heap) (locs1 : List Loc), mS g H0 H1 x ad F (updA A j (upd (A j) k (bI b))) B locs1 → W p l e R s m args below meth c H1 locs1 cells slots Q (F0 m (pc + 1) ls rest)) : W p l e R s m args below meth c H locs cells slots Q (F0 m pc ls (.int (bI b) :: .int i :: .ref (ad j) :: rest)) := by
  obtain ⟨⟨w1, w2, w3, w4, w5, w6, w7⟩, hz, hq, hlo⟩ := h
  refine h_zast hexec hb hK (w4 j hj) k hi hk (mLen_lt j) hdg (fun H1 j9 f1 z oq => ?_)
  have hj0 : mK j ≠ 0 := by rw [hj]; decide
  refine kk H1 _ ⟨⟨ob_kept w1 (oq _ (w6 j hj0)), fun i hi2 => ?_, fun i hi2 => ar_kept (w3 i hi2) (oq _ (fun z => by have := w5 i j (by rw [hi2]; decide) hj0 z; subst this; rw [hj] at hi2; cases hi2)), fun i hi2 => ?_, w5, w6, w7⟩, z.trans hz, fun q h9 => (oq q (fun z => h9 (Or.inr ⟨j, hj0, z⟩))).trans (hq q h9), fun q h9 => ?_⟩
  · have e : i ≠ j := fun z => by subst z; rw [hj] at hi2; cases hi2
    rw [updA, if_neg e]; exact ar_kept (w2 i hi2) (oq _ (fun z => e (w5 i j (by rw [hi2]; decide) hj0 z)))
  · by_cases e : i = j
    · subst e; rw [updA, if_pos rfl]; exact f1
    · rw [updA, if_neg e]; exact ar_kept (w4 i hi2) (oq _ (fun z => e (w5 i j (by rw [hi2]; decide) hj0 z)))
  · rcases List.mem_append.mp h9 with h8 | h8
    · exact hlo q h8
    · rw [List.mem_singleton.mp h8]; exact Or.inr ⟨j, hj0, rfl⟩
theorem m_stl (hexec : p.tables.exec = Jvm.exec) (hb : c.code = cc) (hK : kK g s) (h : mS g H0 H x ad F A B locs) (j : Nat) (hj : mK j = 2) {i : Int32} {v : Int64} (k : Nat) (hi : i = nI k) (hk : k < mLen j) (hdg : decode cc pc = .ok (.lastore, 1))
    (kk : ∀ (H1 : Heap) (locs1 : List Loc), mS g H0 H1 x ad F A (updB B j (vp_updL (B j) k v)) locs1 → W p l e R s m args below meth c H1 locs1 cells slots Q (F0 m (pc + 1) ls rest)) : W p l e R s m args below meth c H locs cells slots Q (F0 m pc ls (.long v :: .int i :: .ref (ad j) :: rest)) := by
  obtain ⟨⟨w1, w2, w3, w4, w5, w6, w7⟩, hz, hq, hlo⟩ := h
  refine h_last hexec hb hK (w3 j hj) k hi hk (mLen_lt j) hdg (fun H1 j9 f1 z oq => ?_)
  have hj0 : mK j ≠ 0 := by rw [hj]; decide
  refine kk H1 _ ⟨⟨ob_kept w1 (oq _ (w6 j hj0)), fun i hi2 => ar_kept (w2 i hi2) (oq _ (fun z => by have := w5 i j (by rw [hi2]; decide) hj0 z; subst this; rw [hj] at hi2; cases hi2)), fun i hi2 => ?_, fun i hi2 => ar_kept (w4 i hi2) (oq _ (fun z => by have := w5 i j (by rw [hi2]; decide) hj0 z; subst this; rw [hj] at hi2; cases hi2)), w5, w6, w7⟩, z.trans hz, fun q h9 => (oq q (fun z => h9 (Or.inr ⟨j, hj0, z⟩))).trans (hq q h9), fun q h9 => ?_⟩
  · by_cases e : i = j
    · subst e; rw [updB, if_pos rfl]; exact f1
    · rw [updB, if_neg e]; exact ar_kept (w3 i hi2) (oq _ (fun z => e (w5 i j (by rw [hi2]; decide) hj0 z)))
  · rcases List.mem_append.mp h9 with h8 | h8
    · exact hlo q h8
    · rw [List.mem_singleton.mp h8]; exact Or.inr ⟨j, hj0, rfl⟩
theorem m_recv (hK : kK g s) (h : mS g H0 H x ad F A B locs) : ∃ cell : Cell, H[x]? = some cell ∧ cell.vm.isStatics = false ∧ s.vm.findClass "RegistryLogModel" = some cell.cls := ob_recv (ci := 8) (q := (R_M, F_M, 46)) hK h.1.1 rfl
theorem m_zK {U : State} (hZ : zK g U H0) (h : mS g H0 H x ad F A B locs) : zK g U H := hZ.kept (fun a _ h9 => h.2.2.1 a (fun z => h9 (h.1.2.2.2.2.2.2 a z)))
/-- behind a call of a method of the reference -/
theorem aM {a : Array Value} {st0 : List Value} {P : Option Value → (Nat → Int32) → (Nat → Nat → Int32) → (Nat → Nat → Int64) → Prop} (hr : va_Run p l e R s m args below meth c H locs cells slots 0 0 (F0 m pc ls st0) rest (qM g H x ad P a) (mN x ad)) (h : mS g H0 H x ad F A B locs)
    (kk : ∀ (v : Option Value) (F1 : Nat → Int32) (A1 : Nat → Nat → Int32) (B1 : Nat → Nat → Int64) (H1 : Heap) (locs1 : List Loc), P v F1 A1 B1 → mS g H0 H1 x ad F1 A1 B1 locs1 → W p l e R s m args below meth c H1 locs1 cells slots Q (F0 m (pc + 3) ls (v.toList ++ rest))) : W p l e R s m args below meth c H locs cells slots Q (F0 m pc ls st0) := by
  intro T hT X
  obtain ⟨v, st₀, t, T', L, h0, X', hL, e1, e2, ⟨v', F1, A1, B1, hv, hm, hp⟩, st⟩ := hr T hT X
  cases hv
  rw [← e1] at hm
  obtain ⟨t2, a1, b1⟩ := kk v F1 A1 B1 T'.heap (locs ++ L) hp ⟨hm.1, hm.2.1.trans h.2.1, fun q hq => (hm.2.2.1 q hq).trans (h.2.2.1 q hq), fun q hq => by
    rcases List.mem_append.mp hq with h8 | h8
    · exact h.2.2.2 q h8
    · exact hL q h8⟩ T' rfl X'
  exact ⟨t2, st t2 a1, b1⟩
end MW
