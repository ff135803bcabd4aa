/-! AN EXCEPTION THAT IS CAUGHT, by its kind: two rows over the call, the names of the kinds perhaps not yet looked up -/
theorem x_go {Q : Handler → Pre} {E : CtlPost} {e : Env} {d : Bool} {acts : List Action} {S : State} {f : JFrame} {a : Addr} {x : ExceptionTableEntry} {t : List ExceptionTableEntry} {c : ClassId} {cell : Cell} (hx : covers x f.pc = true) (h0 : x.catchType ≠ 0)
    (hl : S.vm.ClassLinks e.platform f.method.cls x.catchType c) (hcell : S.heap[a]? = some cell) (hobj : ∀ k, cell.vm ≠ .statics k) (hk : ∃ k, S.vm.classes[cell.cls]? = some k) (hc : ∃ k, S.vm.classes[c]? = some k) :
    wp (findHandler.go f a (x :: t)) Q E e d acts S ↔ if S.vm.assignable cell.cls c = true then Q (.found x.handlerPc) d acts (S.setVm (S.vm.noted f.method.cls x.catchType (.cls c))) else wp (findHandler.go f a t) Q E e d acts (S.setVm (S.vm.noted f.method.cls x.catchType (.cls c))) := by
  simp only [covers] at hx
  obtain ⟨ha, ht⟩ := (resolveClass_links e.toSetting hl).op (op := VmOp.resolveClass f.method.cls x.catchType) rfl
  have hal : S.vm.Alike (S.vm.noted f.method.cls x.catchType (.cls c)) := (Vm.Alike.refl S.vm).noted _ _ _
  obtain ⟨k1, hk1⟩ := hk
  obtain ⟨k2, hk2⟩ := hc
  obtain ⟨k3, hk3, -⟩ := hal.2.2 _ _ hk1
  obtain ⟨k4, hk4, -⟩ := hal.2.2 _ _ hk2
  have hq : (S.vm.noted f.method.cls x.catchType (.cls c)).assignable cell.cls c = S.vm.assignable cell.cls c := hal.assignable ..
  cases hfit : S.vm.assignable cell.cls c <;> rw [hfit] at hq <;> simp [findHandler.go, hx, h0, ha, ht, hcell, hobj, hk3, hk4, hq, VmOp.dirties, VmOp.acts]
theorem x_steps {tb : Tables} {e : Env} {T target : State} {fr : JFrame} {c : Code} {below : List Frame} {a : Addr} (h : At T fr.method c below) {pc : Nat} {vm' : Vm}
    (hf : ∀ (Q : Handler → Pre) (E : CtlPost) (d : Bool) (acts : List Action), wp (findHandler fr a) Q E e d acts ((T.setTop fr).pushFrame (.throwing a)) ↔ Q (.found pc) d acts (((T.setTop fr).pushFrame (.throwing a)).setVm vm'))
    (hr : Steps tb e below ((T.setVm vm').setTop { fr with pc := pc, stack := [.ref a] }) target) : Steps tb e below ((T.setTop fr).pushFrame (.throwing a)) target := by
  obtain ⟨h1, h2⟩ := h.throwing a
  refine Steps.head h1 h2 ?_
  have hst : (stepThrowing e ((T.setTop fr).pushFrame (.throwing a)) a (.java fr :: T.frames.tail)).Is ((((T.setTop fr).pushFrame (.throwing a)).setVm vm').setFrames (.java { fr with pc := pc, stack := [.ref a] } :: T.frames.tail)) [] := by
    simp only [stepThrowing, searchFrame, vmDo]
    generalize hg : Sem.go _ e false [] _ = res
    obtain ⟨as, rfl, ha⟩ := Sem.eq_ok_of hg (a := Handler.found pc) (s' := ((T.setTop fr).pushFrame (.throwing a)).setVm vm') (acts' := []) (by simp [hf _ _ _ _])
    exact ⟨rfl, ha⟩
  rw [stepThread_throwing (frames_entered h.top _), hst.1]
  obtain ⟨g₀, hg⟩ := Option.isSome_iff_exists.mp h.top
  obtain ⟨r, hr9⟩ := State.topJava?_eq_some.mp hg
  have hr' : (T.setVm vm').frames = .java g₀ :: r := hr9
  have hsf : ∀ (u : State) (F G : List Frame), ((u.setFrames F).setVm vm').setFrames G = (u.setVm vm').setFrames G := fun u F G => by
    rw [show (u.setFrames F).setVm vm' = (u.setVm vm').setFrames F from rfl, State.setFrames_setFrames]
  rw [State.setTop_of_frames _ hr'] at hr
  rw [hr9, List.tail_cons, State.pushFrame, hsf, State.setTop_of_frames _ hr9, hsf]
  exact hr
section CT
variable {p : Program} {l : Launch} {e : Env} {R : Room} {s : State} {m : MethodId} {args : Array Value} {below : List Frame} {meth : Method} {c : Code} {H : Heap} {locs : List Loc} {cells slots : Nat} {Q : State → Prop}
variable {cc : ByteArray} {nL pc : Nat} {r0 : Option FieldType} {g : gG} {ls : Array Slot} {st0 : List Value} {own : String}
theorem two_rows {L : List ExceptionTableEntry} {n p1 p2 : Nat} (h : L.map (fun h => (h.startPc, h.endPc, h.handlerPc, h.catchType)) = [(0, n, p1, 13), (0, n, p2, 15)]) : ∃ a b, L = [a, b] ∧ a.startPc = 0 ∧ a.endPc = n ∧ a.handlerPc = p1 ∧ a.catchType = 13 ∧ b.startPc = 0 ∧ b.endPc = n ∧ b.handlerPc = p2 ∧ b.catchType = 15 := by
  rcases L with _ | ⟨a, _ | ⟨b, _ | ⟨d, L⟩⟩⟩
  · simp at h
  · simp at h
  · simp only [List.map_cons, List.map_nil, List.cons.injEq, Prod.mk.injEq, and_true] at h
    exact ⟨a, b, rfl, h.1.1, h.1.2.1, h.1.2.2.1, h.1.2.2.2, h.2.1, h.2.2.1, h.2.2.2.1, h.2.2.2.2⟩
  · simp at h
/-- what the two rows ask of the tables -/
theorem ct_links (hown : s.vm.findClass own = some m.cls) {e : Env} (hpl : e.platform.magicAccessors = ({} : Platform).magicAccessors) {name : String} {ix : Nat} (hlink : (Cond.classLink own ix name).before args s = true) {U : State} (hW : s.WarmedH U.vm) :
    ∃ c1, s.vm.findClass name = some c1 ∧ U.vm.ClassLinks e.platform m.cls ix c1 ∧ (∃ k, U.vm.classes[c1]? = some k) ∧ s.WarmedH (U.vm.noted m.cls ix (.cls c1)) := by
  obtain ⟨c1, hc1, hcl⟩ := Cond.classLink_spec hown hlink e.platform hpl
  obtain ⟨dk, _, _, kt, hd, _, _, _, _, hkt, _, hopen⟩ := hcl.here
  obtain ⟨kt', hkt', -⟩ := hW.alike.2.2 _ _ hkt
  exact ⟨c1, hc1, hW.classLinks hcl, ⟨kt', hkt'⟩, hW.noted hd hopen (State.rightAt_cls hcl)⟩
/-- IllegalArgumentException: the first row -/
theorem WX.c1 (C0 : cF g p s m args meth c cc nL own r0) {x : Addr} (hx : exc iaE s H x) {n p1 p2 : Nat} (hrows : c.exceptionTable.toList.map (fun h => (h.startPc, h.endPc, h.handlerPc, h.catchType)) = [(0, n, p1, 13), (0, n, p2, 15)]) (hpc : pc < n) (hl1 : Cond.classLink own 13 iaE ∈ gT)
    (kk : W p l e R s m args below meth c H locs cells slots Q (F0 m p1 ls [.ref x])) : WX p l e R s m args below meth c H locs cells slots Q (F0 m pc ls st0) x := by
  intro T hT X
  obtain ⟨hxx, hb, hml, hown, hts, hr, hlk, hK⟩ := C0
  obtain ⟨cell, hcell, hvm, hcls⟩ := hx
  obtain ⟨a, b, hL, a1, a2, a3, a4, b1, b2, b3, b4⟩ := two_rows hrows
  have hpl : e.platform.magicAccessors = ({} : Platform).magicAccessors := by rw [X.admits.platform]
  obtain ⟨c1, hc1, hcl, hk1, hW1⟩ := ct_links (U := T) hown hpl (hts _ hl1) X.warmed
  cases hcls.symm.trans hc1
  have hN := hK.2.2.2.2.2.2.2.2.2.1
  obtain ⟨c3, c4, h3, h4, hfit⟩ := Cond.castable_spec (va_Nw.use (A := args) rfl (hN.1 _ (List.mem_of_getElem? (i := 1) rfl)))
  cases hcls.symm.trans h3
  cases hcls.symm.trans h4
  obtain ⟨t, t1, t2⟩ := kk (T.setVm (T.vm.noted m.cls 13 (.cls cell.cls))) hT (X.noted hW1)
  refine ⟨t, x_steps X.here (fun Q E d acts => ?_) t1, t2⟩
  rw [Jvm.W.findHandler_eq (meth := meth) (code := c) X.method' X.code, hL, x_go (S := (T.setTop (F0 m pc ls st0)).pushFrame (.throwing x)) (f := F0 m pc ls st0) (a := x) (c := cell.cls) (cell := cell) (by simp [a1, a2]; exact hpc) (by rw [a4]; decide) (by rw [a4]; exact hcl) (by show T.heap[x]? = _; rw [hT]; exact hcell) (fun k z => by rw [hvm] at z; cases z) hk1 hk1, if_pos (by show T.vm.assignable _ _ = true; rw [X.warmed.alike.assignable]; exact hfit), a3, a4]
  rfl
/-- IllegalStateException: the second row -/
theorem WX.c2 (C0 : cF g p s m args meth c cc nL own r0) {x : Addr} (hx : exc isE s H x) {n p1 p2 : Nat} (hrows : c.exceptionTable.toList.map (fun h => (h.startPc, h.endPc, h.handlerPc, h.catchType)) = [(0, n, p1, 13), (0, n, p2, 15)]) (hpc : pc < n) (hl1 : Cond.classLink own 13 iaE ∈ gT) (hl2 : Cond.classLink own 15 isE ∈ gT)
    (kk : W p l e R s m args below meth c H locs cells slots Q (F0 m p2 ls [.ref x])) : WX p l e R s m args below meth c H locs cells slots Q (F0 m pc ls st0) x := by
  intro T hT X
  obtain ⟨hxx, hb, hml, hown, hts, hr, hlk, hK⟩ := C0
  obtain ⟨cell, hcell, hvm, hcls⟩ := hx
  obtain ⟨a, b, hL, a1, a2, a3, a4, b1, b2, b3, b4⟩ := two_rows hrows
  have hpl : e.platform.magicAccessors = ({} : Platform).magicAccessors := by rw [X.admits.platform]
  obtain ⟨c1, hc1, hcl, hk1, hW1⟩ := ct_links (U := T) hown hpl (hts _ hl1) X.warmed
  obtain ⟨c2, hc2, hcl2, hk2, hW2⟩ := ct_links (U := T.setVm (T.vm.noted m.cls 13 (.cls c1))) hown hpl (hts _ hl2) hW1
  cases hcls.symm.trans hc2
  have hN := hK.2.2.2.2.2.2.2.2.2.1
  obtain ⟨c3, c4, h3, h4, hfit⟩ := Cond.castable_spec (va_Nw.use (A := args) rfl (hN.1 _ (List.mem_of_getElem? (i := 2) rfl)))
  cases hcls.symm.trans h3
  cases hcls.symm.trans h4
  obtain ⟨n1, n2, n3, n4, hno⟩ := hK.2.2.2.2.2.2.2.2.2.2
  cases hcls.symm.trans n3
  cases hc1.symm.trans n4
  obtain ⟨k5, hk5⟩ := hk2
  obtain ⟨k6, hk6, -⟩ := ((X.warmed.alike.symm.trans hW1.alike).symm).2.2 _ _ hk5
  obtain ⟨t, t1, t2⟩ := kk (T.setVm ((T.setVm (T.vm.noted m.cls 13 (.cls c1))).vm.noted m.cls 15 (.cls cell.cls))) hT (X.noted hW2)
  refine ⟨t, x_steps X.here (fun Q E d acts => ?_) t1, t2⟩
  rw [Jvm.W.findHandler_eq (meth := meth) (code := c) X.method' X.code, hL, x_go (S := (T.setTop (F0 m pc ls st0)).pushFrame (.throwing x)) (f := F0 m pc ls st0) (a := x) (c := c1) (cell := cell) (by simp [a1, a2]; exact hpc) (by rw [a4]; decide) (by rw [a4]; exact hcl) (by show T.heap[x]? = _; rw [hT]; exact hcell) (fun k z => by rw [hvm] at z; cases z) ⟨k6, hk6⟩ hk1, if_neg (by show ¬ T.vm.assignable _ _ = true; rw [X.warmed.alike.assignable, hno]; decide)]
  rw [x_go (S := ((T.setTop (F0 m pc ls st0)).pushFrame (.throwing x)).setVm (((T.setTop (F0 m pc ls st0)).pushFrame (.throwing x)).vm.noted (F0 m pc ls st0).method.cls a.catchType (.cls c1))) (f := F0 m pc ls st0) (a := x) (c := cell.cls) (cell := cell) (by simp [b1, b2]; exact hpc) (by rw [b4]; decide) (by rw [a4, b4]; exact hcl2) (by show T.heap[x]? = _; rw [hT]; exact hcell) (fun k z => by rw [hvm] at z; cases z) ⟨k5, by rw [a4]; exact hk5⟩ ⟨k5, by rw [a4]; exact hk5⟩, if_pos (by rw [a4]; show (T.vm.noted _ _ _).assignable _ _ = true; rw [hW1.alike.assignable]; exact hfit), b3, a4, b4]
  rfl
end CT
