/-! CALLS: a private method of the builder's superclass, a super call, an overridden method; the frame of what is written -/
theorem sel_priv {C : String} {y z : MethodName} {s : State} {args : Array Value} (hy : y.cls ≠ "java/lang/invoke/MethodHandle" ∧ y.cls ≠ "java/lang/invoke/VarHandle") (hz : z.cls = y.cls) (hs : (Cond.selects C z z).before args s = true) (hpriv : (Cond.privateMethod y).before args s = true) (hinst : (Cond.instanceMethod y).before args s = true) : (Cond.selects C y y).before args s = true := by
  obtain ⟨c2, r2, m2, q1, q2, q3, q4, kP, hkP, hkPi⟩ := Cond.selects_spec hs
  obtain ⟨mk, methM, hnamed, hmethM, -, -⟩ := Cond.instanceMethod_spec hinst
  have hfound : s.methodFound? y.cls y.name y.desc = some mk := State.methodFound?_of_named hnamed hy
  have hcls : mk.cls = m2.cls := by
    have h1 := findClass_of_methodNamed hnamed
    have h2 := findClass_of_methodNamed q3
    rw [hz] at h2
    exact Option.some.inj (h1.symm.trans h2)
  have hsel : selectMethod {} s.vm c2 mk = .method mk := selectMethod_private hmethM (Cond.privateMethod_at hpriv mk methM hnamed hmethM)
  simp only [Cond.before, Cond.holds, Cond.value, q1, hfound, hnamed, hsel, hcls, hkP]
  simp [hkPi]
def y_lat : MethodName := ⟨"java/lang/AbstractStringBuilder", "isLatin1", "()Z"⟩
theorem lat_in : Cond.selects "java/lang/StringBuilder" y_lat y_lat ∈ gT := (in_1 (List.mem_of_getElem? (i := 177) rfl) rfl)
def kU (own : String) (i : Nat) (y : MethodName) (b : ByteArray) (mL : Nat) (r : Option FieldType) (n : Nat) : Prop :=
  Cond.methodLink own i y ∈ gT ∧ Cond.sameMethod y.cls y.cls y.name y.desc ∈ gT ∧ Cond.superclass own y.cls ∈ gT ∧ Cond.instanceMethod y ∈ gT ∧ Cond.initialized y.cls ∈ gT ∧ Cond.code y b mL r ∈ gT ∧ y.name ≠ "<init>" ∧ yOk y n
def kO (own : String) (i : Nat) (C : String) (x y : MethodName) (b : ByteArray) (mL : Nat) (r : Option FieldType) (b0 : ByteArray) (m0 : Nat) (r0 : Option FieldType) (n : Nat) : Prop :=
  Cond.methodLink own i x ∈ gT ∧ Cond.sameMethod x.cls x.cls x.name x.desc ∈ gT ∧ Cond.instanceMethod x ∈ gT ∧ Cond.selects C x y ∈ gT ∧ Cond.instanceMethod y ∈ gT ∧ Cond.initialized y.cls ∈ gT ∧ Cond.code y b mL r ∈ gT ∧ Cond.code x b0 m0 r0 ∈ gT ∧ yOk x n
section B1
variable {p : Program} {l : Launch} {e : Env} {R : Room} {s : State} {m : MethodId} {args : Array Value} {below : List Frame} {meth : Method} {c : Code} {H H0 H1 : Heap} {locs L : List Loc} {cells slots : Nat} {Q : State → Prop} {N N' : Nat → Prop}
variable {x y : MethodName} {bytes cc b0 : ByteArray} {maxL nL mc ms n index m0 : Nat} {ret r0 r9 : Option FieldType} {rm : Room} {Qc : Array Value → State → Outcome → State → Prop} {free : Addr → Prop} {own C : String} {b : Addr} {As rest : List Value} {g : gG} {pc : Nat} {ls : Array Slot} {st0 : List Value}
theorem rU {ci : Nat} {q : vw_C} (C0 : cF g p s m args meth c cc nL own r0) (hM : Met l y (wC y bytes maxL ret) rm (pC g H (.ref b :: As)) Qc mc ms free) (hZ : zK g s H) (k : kU own index y bytes maxL ret n)
    (hrc : rm.cells = mc) (hrs : rm.slots = ms) (hR : rm.frames + 1 ≤ R.frames ∧ 8 + (maxL + 11) + rm.locals ≤ R.locals)
    (hc : cls_[ci]? = some q) (hb : ∃ cellB : Cell, H[b]? = some cellB ∧ cellB.vm.isStatics = false ∧ s.vm.findClass q.1 = some cellB.cls)
    (hn : As.length = n) (hsize : ls.size = nL) (hst : st0 = As.reverse ++ .ref b :: rest) (hW : (rest.map fun v => v.category).sum ≤ 8) (hdg : decode cc pc = .ok (.invokespecial index, 3)) (hf : cells + mc ≤ R.cells ∧ slots + ms ≤ R.slots) :
    va_Run p l e R s m args below meth c H locs cells slots mc ms (F0 m pc ls st0) rest (Qc (Value.ref b :: As).toArray) free := by
  obtain ⟨hx, hbb, hml, hown, hts, hr, hlk, hK⟩ := C0
  obtain ⟨k1, k2, k3, k4, k5, k7, k8, k6⟩ := k
  refine va_runSU (C := q.1) (hK.1.1 ci q hc).2 ⟨hx, hbb, hml, hown, hts⟩ hM (va_cwSU (ws' := gT) n hts ?_ rfl hrc hrs ⟨k8, k6.2.2⟩ hR) ⟨pC_blind, hb, fun U hU hW => ⟨rfl, hU, kK.warm hW hK, zK.moved hW.alike hZ⟩⟩ rfl hn hsize hst (lv_room hW) hdg hf
  intro w hw
  rcases List.mem_append.mp hw with h | h
  · have : w ∈ gT := by
      simp only [List.mem_cons, List.not_mem_nil, or_false] at h
      rcases h with h | h | h | h | h <;> subst h <;> assumption
    exact ⟨this, good_of_word (gT_good _ this)⟩
  · exact tb_wC k7 w h
theorem rO (C0 : cF g p s m args meth c cc nL own r0) (hM : Met l y (wC y bytes maxL ret) rm (pC g H (.ref b :: As)) Qc mc ms free) (hZ : zK g s H) (k : kO own index C x y bytes maxL ret b0 m0 r9 n)
    (hrc : rm.cells = mc) (hrs : rm.slots = ms) (hR : rm.frames + 1 ≤ R.frames ∧ 8 + (maxL + 11) + rm.locals ≤ R.locals)
    (hb : ∃ cellB : Cell, H[b]? = some cellB ∧ cellB.vm.isStatics = false ∧ s.vm.findClass C = some cellB.cls)
    (hn : As.length = n) (hsize : ls.size = nL) (hst : st0 = As.reverse ++ .ref b :: rest) (hW : (rest.map fun v => v.category).sum ≤ 8) (hdg : decode cc pc = .ok (.invokevirtual index, 3)) (hf : cells + mc ≤ R.cells ∧ slots + ms ≤ R.slots) :
    va_Run p l e R s m args below meth c H locs cells slots mc ms (F0 m pc ls st0) rest (Qc (Value.ref b :: As).toArray) free := by
  obtain ⟨hx, hbb, hml, hown, hts, hr, hlk, hK⟩ := C0
  obtain ⟨k1, k2, k3, k4, k5, k7, k8, k9, k6⟩ := k
  refine va_runU (owner := x.cls) ⟨hx, hbb, hml, hown, hts⟩ hM (va_cwO (ws' := gT) n hts ?_ rfl hrc hrs k9 k6 hR) ⟨pC_blind, hb, fun U hU hW => ⟨rfl, hU, kK.warm hW hK, zK.moved hW.alike hZ⟩⟩ rfl hn hsize hst (lv_room hW) hdg hf
  intro w hw
  rcases List.mem_append.mp hw with h | h
  · have : w ∈ gT := by
      simp only [List.mem_cons, List.not_mem_nil, or_false] at h
      rcases h with h | h | h | h | h | h <;> subst h <;> assumption
    exact ⟨this, good_of_word (gT_good _ this)⟩
  · exact tb_wC k8 w h
/-- the frame -/
theorem hS_rf : va_S (fW H N) H H [] := va_S.rf
theorem hS_hC (h : va_S (fW H0 N) H0 H locs) : hC N H0 H := ⟨h.1, fun q h1 h2 => h.2.1 q h1 (fun z => z.elim h2 (fun z => absurd z (Nat.not_le.mpr h1)))⟩
theorem hS_call (h : va_S (fW H0 N) H0 H locs) (hc : hC N' H H1) (hL : ∀ q ∈ L, fW H N' q.base) (hN : ∀ q, N' q → fW H0 N q) : va_S (fW H0 N) H0 H1 (locs ++ L) := by
  refine ⟨Nat.le_trans h.1 hc.1, fun q h1 h2 => ?_, fun q hq => ?_⟩
  · rw [hc.2 q (Nat.lt_of_lt_of_le h1 h.1) (fun z => h2 (hN q z))]
    exact h.2.1 q h1 h2
  · rcases List.mem_append.mp hq with h9 | h9
    · exact h.2.2 q h9
    · rcases hL q h9 with z | z
      · exact hN _ z
      · exact Or.inr (Nat.le_trans h.1 z)
theorem zK_S {U : State} (hZ : zK g U H0) (h : va_S (fW H0 N) H0 H locs) (hN : ∀ q, N q → g.2.2.1 ≤ q) : zK g U H := hZ.kept (fun a h1 h2 => h.2.1 a h1 (fun z => z.elim (fun z => h2 (hN a z)) (fun z => absurd z (Nat.not_le.mpr h1))))
theorem hC_at (h : hC N H H1) {a : Nat} (ha : a < H.size) (hn : ¬ N a) : H1[a]? = H[a]? := h.2 a ha hn
end B1
