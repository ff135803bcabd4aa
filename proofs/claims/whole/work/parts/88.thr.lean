/-! METHODS THAT THROW -/
/-- an exception of kind cls at x -/
def exc (cls : String) (U : State) (H : Heap) (x : Addr) : Prop := ∃ cell : Cell, H[x]? = some cell ∧ cell.vm = .none ∧ U.vm.findClass cls = some cell.cls
def FEx (first : State) (t : State) (L : List Loc) (k n : Nat) : Prop := first.WarmedH t.vm ∧ first.sameButNew ({ t with vm := first.vm } : State) L k n
/-- a method that throws: cells outside of N that were there are as they were -/
def qX (H : Heap) (N : Nat → Prop) (cls : String) (P : Heap → Prop) : State → Addr → Heap → Prop := fun st x H1 => H.size ≤ x ∧ exc cls st H1 x ∧ hC N H H1 ∧ P H1
def MetX (l : Launch) (y : MethodName) (ws : List Cond) (rm : Room) (Pc : Array Value → State → Prop) (Qx : State → Addr → Heap → Prop) (mc ms : Nat) (free : Addr → Prop) : Prop :=
  MetFree l y (headSpec ws rm) Pc (fun _ _ _ _ _ => True) (fun _ st o t => ∃ x, o = .threw x ∧ Qx st x t.heap ∧ ∃ L, FEx st t L mc ms ∧ ∀ q ∈ L, free q.base)
def MX (below : List Frame) (Qx : State → Addr → Heap → Prop) (s : State) (mc ms : Nat) (free : Addr → Prop) : State → Prop := fun t => ∃ x, t.status = .running ∧ Ended t below (.threw x) ∧ Qx s x t.heap ∧ ∃ L, FEx s t L mc ms ∧ ∀ q ∈ L, free q.base
section TH0
variable {p : Program} {l : Launch} {e : Env} {R : Room} {s : State} {m : MethodId} {args : Array Value} {below : List Frame} {meth : Method} {c : Code} {H : Heap} {locs : List Loc} {cells slots : Nat} {Q : State → Prop}
theorem mX {g : gG} {y : MethodName} {cc : ByteArray} {maxL : Nat} {ret : Option FieldType} {rm : Room} {As : List Value} {Qx : State → Addr → Heap → Prop} {mc ms : Nat} {free : Addr → Prop}
    (hy : plainName y.cls = true) (hn : (lg_sl As).length ≤ maxL)
    (body : ∀ p e s m below meth c (ls : Array Slot), cF g p s m As.toArray meth c cc maxL y.cls ret → s.heap = H → zK g s H → (∀ x ∈ c.exceptionTable.toList, False) → lv_has ls maxL (lv_args 0 As) → W p l e rm s m As.toArray below meth c H [] 0 0 (MX below Qx s mc ms free) (F0 m 0 ls [])) :
    MetX l y (wC y cc maxL ret) rm (pC g H As) Qx mc ms free := by
  refine MetFree.of_bodyS (code := cc) (maxLocals := maxL) (ret := ret) hy ?_ ?_
  · intro args s m h hn
    obtain ⟨meth, c, h1, h2, h3, h4, h5, h6, -, -⟩ := Cond.code_spec hn (atoms_spec (ws := wC y cc maxL ret) h _ List.mem_cons_self)
    exact ⟨meth, c, h1, h2, h3, h4, h5, h6⟩
  · intro p e s m args below meth c s₁ B hml hv _
    obtain ⟨rfl, hH, hK, hZ⟩ := hv
    have hts := atoms_spec (ws := wC y cc maxL ret) B.pre
    have hl := lv_entry As (n := maxL) hn
    have hno := B.noHandlers (hts _ List.mem_cons_self)
    have hh0 : s₁.heap = H := by rw [B.state]; exact hH
    have hw := body p e s m below meth c _ ⟨B.exec, B.bytes, hml, findClass_of_methodNamed B.named, fun w hw => hts w (List.mem_cons_of_mem _ hw), B.returns, B.notSynchronized, hK⟩ hH hZ (fun x hx => by
      have e9 : c.exceptionTable = #[] := Array.isEmpty_iff.mp hno
      rw [e9] at hx
      cases hx) hl
    obtain ⟨t, a1, x, b1, b2, b3, L, b4, b5⟩ := hw s₁ hh0 (Stand.of_body B)
    rw [lg_entry_eq]
    exact ⟨t, .threw x, a1, b1, b2, x, rfl, b3, L, b4, b5⟩
/-- a frame over which an exception hangs -/
def WX (p : Program) (l : Launch) (e : Env) (R : Room) (s : State) (m : MethodId) (args : Array Value) (below : List Frame) (meth : Method) (c : Code) (H : Heap) (locs : List Loc) (cells slots : Nat) (Q : State → Prop) (g : JFrame) (x : Addr) : Prop :=
  ∀ T : State, T.heap = H → Stand p l e R s m args below meth c T locs cells slots → ∃ t, Steps p.tables e below ((T.setTop g).pushFrame (.throwing x)) t ∧ Q t
/-- it goes through a method that catches nothing -/
theorem WX.out {Qx : State → Addr → Heap → Prop} {free : Addr → Prop} {x : Addr} (hno : ∀ y ∈ c.exceptionTable.toList, False) (hq : Qx s x H) (hf : ∀ q ∈ locs, free q.base) {pc : Nat} {ls : Array Slot} {st0 : List Value} (hlocks : meth.locks = false) :
    WX p l e R s m args below meth c H locs cells slots (MX below Qx s cells slots free) (F0 m pc ls st0) x := by
  intro T hT X
  obtain ⟨a1, a2, a3, a4, a5⟩ := X.leaveThrown x (g := F0 m pc ls st0) rfl rfl rfl (fun y hy => (hno y hy).elim) hlocks
  exact ⟨_, a1, x, a2, a3, by show Qx s x T.heap; rw [hT]; exact hq, locs, ⟨a4, a5⟩, hf⟩
theorem WX.widen {x : Addr} {g : JFrame} {k n : Nat} (h1 : cells ≤ k) (h2 : slots ≤ n) (h : WX p l e R s m args below meth c H locs k n Q g x) : WX p l e R s m args below meth c H locs cells slots Q g x := by
  intro T hT X
  exact h T hT { X with same := X.same.mono h1 h2 }
end TH0
section TH1
variable {p : Program} {l : Launch} {e : Env} {R : Room} {s : State} {m : MethodId} {args : Array Value} {below : List Frame} {meth : Method} {c : Code} {H : Heap} {locs : List Loc} {cells slots : Nat} {Q : State → Prop}
variable {y : MethodName} {bytes cc : ByteArray} {maxL nL mc ms n index : Nat} {ret r0 : Option FieldType} {rm : Room} {Qx : State → Addr → Heap → Prop} {free : Addr → Prop} {own C : String} {b : Addr} {As rest : List Value} {g : gG} {pc : Nat} {ls : Array Slot} {st0 : List Value}
/-- behind the call of a method that throws -/
theorem xBack {U : State} (hM : MetX l y (wC y bytes maxL ret) rm (pC g H As) Qx mc ms free) (X : Stand p l e R s m args below meth c U locs cells slots) (hU : U.heap = H) {fr : JFrame} (hg : fr.method = m) (hsize : fr.locals.size = c.maxLocals) {ig : Instr} {len : Nat} (hdg : decode c.code fr.pc = .ok (ig, len))
    (hW : 2 * fr.monitorRoom + (fr.stack.map fun v => v.category).sum ≤ 8) {mk : MethodId} (hn : U.methodNamed? y = some mk) (hts : ∀ w ∈ wC y bytes maxL ret, w.before As.toArray U = true) (hini : (Cond.initialized y.cls).before As.toArray U = true)
    (hR : rm.frames + 1 ≤ R.frames ∧ 8 + (maxL + 11) + rm.locals ≤ R.locals) (hrc : rm.cells = mc) (hrs : rm.slots = ms) (hf : cells + mc ≤ R.cells ∧ slots + ms ≤ R.slots) (hK : kK g U) (hZ : zK g U H) :
    ∃ (x : Addr) (B : State) (L : List Loc) (st : State), Stand p l e R s m args below meth c B (locs ++ L) (cells + mc) (slots + ms) ∧ st.vm = U.vm ∧ Qx st x B.heap ∧ (∀ q ∈ L, free q.base) ∧ Steps p.tables e below (doInvoke e (U.setTop fr) [] mk As.toArray).1 ((B.setTop fr).pushFrame (.throwing x)) := by
  subst hg
  obtain ⟨methY, cY, hmY, hcY, -, hlY, -, -, -, -⟩ := Cond.code_spec hn (hts _ List.mem_cons_self)
  obtain ⟨kY, hkY, -⟩ := className_of_methodNamed hn
  have hiY : kY.init = .initialized := Cond.initialized_spec (findClass_of_methodNamed hn) hkY hini
  have hA : At U fr.method c below := X.here
  have hap : (headSpec (wC y bytes maxL ret) rm).appliesLoose y e.platform (U.calling fr mk As.toArray) = true :=
    Spec.appliesLoose_calling (g := fr) hA hdg hn hkY hiY (X.room_calling (g := fr) (R' := rm) hsize hmY hcY hR.1 (by rw [hlY]; omega) (by rw [hrc]; exact hf.1) (by rw [hrs]; exact hf.2)) (atoms_intro hts)
  obtain ⟨mid, hmid⟩ := hA.above
  have hfr : (U.setTop fr).frames = (.java fr :: mid) ++ below := by rw [State.frames_setTop' fr hA.top, hmid]; rfl
  obtain ⟨o, t, hsteps, -, hend, hq⟩ := Steps.callFree hM p X.admits X.cas X.clock (acts := []) hfr hap (pC_blind _ _ fr mk ⟨rfl, hU, hK, hZ⟩) trivial
  have hq : ∃ x, o = .threw x ∧ Qx (U.calling fr mk As.toArray) x t.heap ∧ ∃ L, FEx (U.calling fr mk As.toArray) t L mc ms ∧ ∀ q ∈ L, free q.base := hq
  obtain ⟨x, rfl, hQ, L, ⟨hWt, e2, q2, q3, q4, q5, q6⟩, hL⟩ := hq
  rw [State.frames_setTop' fr hA.top] at hend
  have hft : t.frames = .throwing x :: .java fr :: U.frames.tail := hend
  have hWU : U.WarmedH t.vm := hWt
  obtain ⟨g₀, hg0⟩ := Option.isSome_iff_exists.mp hA.top
  obtain ⟨r, hr⟩ := State.topJava?_eq_some.mp hg0
  have e3 : t = ({ (U.calling fr mk As.toArray).setFrames t.frames with heap := t.heap, slotsUsed := t.slotsUsed } : State).setVm t.vm := by
    have : t = ({ t with vm := (U.calling fr mk As.toArray).vm } : State).setVm t.vm := rfl
    rw [e2] at this
    exact this
  have ht : t = ((({ U with heap := t.heap, slotsUsed := t.slotsUsed } : State).setVm t.vm).setTop fr).pushFrame (.throwing x) := by
    have hr' : (({ U with heap := t.heap, slotsUsed := t.slotsUsed } : State).setVm t.vm).frames = .java g₀ :: r := hr
    refine e3.trans ?_
    rw [hft, State.calling_eq hA.top, State.setFrames_setFrames, State.pushFrame, State.frames_setTop _ hr', State.setTop_of_frames _ hr', State.setFrames_setFrames, hr]
    rfl
  have hsame : U.sameButNew ({ U with heap := t.heap, slotsUsed := t.slotsUsed } : State) L mc ms := by
    refine ⟨?_, q2, q3, q4, q5, q6⟩
    obtain ⟨t9, ht9, -⟩ := State.frames_cons hr
    show ({ U with heap := t.heap, slotsUsed := t.slotsUsed } : State) = { U.setFrames U.frames with heap := t.heap, slotsUsed := t.slotsUsed }
    rw [State.setFrames_self ht9]
  refine ⟨x, (({ U with heap := t.heap, slotsUsed := t.slotsUsed } : State).setVm t.vm), L, U.calling fr mk As.toArray, ⟨X.admits, X.cas, X.clock, X.frames, X.room, X.hears, X.method, X.code, (X.here.setHeapUsed t.heap t.slotsUsed).setVm hWU.alike, X.tail, State.WarmedH.trans X.warmed hWU, X.limits, X.bytes, X.same.trans (hsame.setVm s.vm)⟩, rfl, hQ, hL, ?_⟩
  rw [← ht]
  exact hsteps
/-- a static method that throws is called -/
theorem rSX (C0 : cF g p s m args meth c cc nL own r0) (hM : MetX l y (wC y bytes maxL ret) rm (pC g H As) Qx mc ms free) (hZ : zK g s H) (k : kS own index y bytes maxL ret n)
    (hrc : rm.cells = mc) (hrs : rm.slots = ms) (hR : rm.frames + 1 ≤ R.frames ∧ 8 + (maxL + 11) + rm.locals ≤ R.locals)
    (hn : As.length = n) (hsize : ls.size = nL) (hst : st0 = As.reverse ++ rest) (hW : (rest.map fun v => v.category).sum ≤ 8) (hdg : decode cc pc = .ok (.invokestatic index, 3)) (hf : cells + mc ≤ R.cells ∧ slots + ms ≤ R.slots)
    (kk : ∀ (x : Addr) (H1 : Heap) (L : List Loc) (st : State), s.WarmedH st.vm → Qx st x H1 → (∀ q ∈ L, free q.base) → WX p l e R s m args below meth c H1 (locs ++ L) (cells + mc) (slots + ms) Q (F0 m pc ls rest) x) : W p l e R s m args below meth c H locs cells slots Q (F0 m pc ls st0) := by
  intro T hT X
  obtain ⟨hx, hbb, hml, hown, hts, hr, hlk, hK⟩ := C0
  obtain ⟨k1, k2, k4, k5, ⟨k6, k7, k8⟩⟩ := k
  have hG := tb_wC k5
  obtain ⟨mk, hnamed⟩ := Cond.code_named (hts _ k5)
  obtain ⟨methM, cM, hmethM, hcM, -, hlM, -, -, -, hsigM⟩ := Cond.code_spec hnamed (hts _ k5)
  have hstatic := Cond.static_spec hnamed hmethM (hts _ k2)
  obtain ⟨kP, hkP, -⟩ := className_of_methodNamed hnamed
  have hinitP := Cond.initialized_spec (findClass_of_methodNamed hnamed) hkP (hts _ k4)
  have hlen : As.length = methM.sig.parameters.length := by
    rw [hsigM] at k8
    rw [hn]
    exact (Option.some.inj k8).symm
  obtain ⟨vm₁, X₁, hstep₁⟩ := X.invokestatic hx hown (hts _ k1) hnamed hmethM hstatic hkP hinitP ⟨k6, k7⟩ (g := F0 m pc ls st0) rfl (argsL := As) (rest := rest) hlen hst (by rw [hbb]; exact hdg)
  obtain ⟨x, B, L, st, XB, hvm, hQ, hL, hs⟩ := xBack hM X₁ hT (fr := F0 m pc ls rest) rfl (by rw [hml]; exact hsize) (by rw [hbb]; exact hdg) (lv_room hW) (X₁.named hnamed) (fun w hw => word_at X₁.warmed (hG w hw).2 (hts w (hG w hw).1)) (word_at X₁.warmed (good_of_word (gT_good _ k4)) (hts _ k4)) hR hrc hrs hf (kK.warm X₁.warmed hK) (zK.moved X₁.warmed.alike hZ)
  obtain ⟨t, a1, a2⟩ := kk x B.heap L st (by rw [hvm]; exact X₁.warmed) hQ hL B rfl XB
  exact ⟨t, hstep₁ _ fun acts => by rw [doInvoke_state]; exact hs.trans a1, a2⟩
/-- a method of an object that throws is called -/
theorem rVX (C0 : cF g p s m args meth c cc nL own r0) (hM : MetX l y (wC y bytes maxL ret) rm (pC g H (.ref b :: As)) Qx mc ms free) (hZ : zK g s H) (k : kV own index C y bytes maxL ret n)
    (hrc : rm.cells = mc) (hrs : rm.slots = ms) (hR : rm.frames + 1 ≤ R.frames ∧ 8 + (maxL + 11) + rm.locals ≤ R.locals)
    (hb : ∃ cellB : Cell, H[b]? = some cellB ∧ cellB.vm.isStatics = false ∧ s.vm.findClass C = some cellB.cls)
    (hn : As.length = n) (hsize : ls.size = nL) (hst : st0 = As.reverse ++ .ref b :: rest) (hW : (rest.map fun v => v.category).sum ≤ 8) (hdg : decode cc pc = .ok (.invokevirtual index, 3)) (hf : cells + mc ≤ R.cells ∧ slots + ms ≤ R.slots)
    (kk : ∀ (x : Addr) (H1 : Heap) (L : List Loc) (st : State), s.WarmedH st.vm → Qx st x H1 → (∀ q ∈ L, free q.base) → WX p l e R s m args below meth c H1 (locs ++ L) (cells + mc) (slots + ms) Q (F0 m pc ls rest) x) : W p l e R s m args below meth c H locs cells slots Q (F0 m pc ls st0) := by
  intro T hT X
  obtain ⟨hx, hbb, hml, hown, hts, hr, hlk, hK⟩ := C0
  obtain ⟨k1, k2, k3, k4, k5, ⟨k6, k7, k8⟩⟩ := k
  have hG := tb_wC k5
  obtain ⟨cellB, hcell, hobj, hcls⟩ := hb
  obtain ⟨mk, methM, hnamed, hmethM, hstM, habM⟩ := Cond.instanceMethod_spec (hts _ k2)
  obtain ⟨methM', cM, hmethM', -, -, -, -, -, -, hsigM⟩ := Cond.code_spec hnamed (hts _ k5)
  cases hmethM.symm.trans hmethM'
  obtain ⟨c2, r2, m2, q1, q2, q3, q4, kP, hkP, hkPi⟩ := Cond.selects_spec (hts _ k3)
  cases hcls.symm.trans q1
  cases (State.methodFound?_of_named hnamed ⟨k6, k7⟩).symm.trans q2
  cases hnamed.symm.trans q3
  have hselP : selectMethod e.platform s.vm cellB.cls mk = .method mk := by rw [Launch.admits_selectMethod X.admits]; exact q4
  have hlen : As.length = methM.sig.parameters.length := by
    rw [hsigM] at k8
    rw [hn]
    exact (Option.some.inj k8).symm
  obtain ⟨vm₁, X₁, hstep₁⟩ := X.invokevirtual hx hown (hts _ k1) hnamed hmethM hstM hkP hkPi ⟨k6, k7⟩ (a := b) (cell := cellB) (by rw [hT]; exact hcell)
    (fun z h => by rw [h] at hobj; cases hobj) hselP hmethM habM hkP hkPi (g := F0 m pc ls st0) rfl (argsL := As) (rest := rest) hlen hst (by rw [hbb]; exact hdg)
  obtain ⟨x, B, L, st, XB, hvm, hQ, hL, hs⟩ := xBack hM X₁ hT (fr := F0 m pc ls rest) rfl (by rw [hml]; exact hsize) (by rw [hbb]; exact hdg) (lv_room hW) (X₁.named hnamed) (fun w hw => word_at X₁.warmed (hG w hw).2 (hts w (hG w hw).1)) (word_at X₁.warmed (good_of_word (gT_good _ k4)) (hts _ k4)) hR hrc hrs hf (kK.warm X₁.warmed hK) (zK.moved X₁.warmed.alike hZ)
  obtain ⟨t, a1, a2⟩ := kk x B.heap L st (by rw [hvm]; exact X₁.warmed) hQ hL B rfl XB
  exact ⟨t, hstep₁ _ fun acts => by rw [doInvoke_state]; exact hs.trans a1, a2⟩
end TH1
section TH2
variable {p : Program} {l : Launch} {e : Env} {R : Room} {s : State} {m : MethodId} {args : Array Value} {below : List Frame} {meth : Method} {c : Code} {T0 : State} {locs : List Loc} {cells slots : Nat}
set_option maxHeartbeats 4000000 in
/-- new X(msg) over a fresh cell, then athrow: the heap is the same but for that cell -/
theorem thrW (X : Stand p l e R s m args below meth c T0 locs cells slots) (hexec : p.tables.exec = Jvm.exec) (htr : e.platform.stackTraces = false) {own cls : String} {names : List String} {ic : Nat}
    (hown : s.vm.findClass own = some m.cls) (hcls : Bundle.fit cls = true) (hnames : ∀ n ∈ names, Bundle.fit n = true) (h : ∀ w ∈ Bundle.ownAtoms own ic cls names, w.before args s = true)
    (hlocs : ∀ q ∈ locs, ∀ cell, s.heap[q.base]? = some cell → cell.vm.isStatics = false) {a : Addr} {cX : ClassId} {kX : Class} (hfX : s.vm.findClass cls = some cX) (hkX : s.vm.classes[cX]? = some kX) (hcell : T0.heap[a]? = some (freshCell cX kX)) (hnew : s.heap.size ≤ a)
    {msg : Value} (hmsg : msg.isRef = true) {fr : JFrame} (hg : fr.method = m) (hsize : fr.locals.size = c.maxLocals) (hlocked : fr.locked = none) (hentered : fr.entered = []) {rest : List Value} (hstack : fr.stack = msg :: .ref a :: .ref a :: rest)
    (hd6 : decode c.code fr.pc = .ok (.invokespecial ic, 3)) (hd9 : decode c.code (fr.pc + 3) = .ok (.athrow, 1)) (hout : ∀ x ∈ c.exceptionTable.toList, covers x (fr.pc + 3) = false)
    (hRf : names.length + 3 < R.frames) (hRl : 2 * fr.monitorRoom + ((Value.ref a :: rest).map fun v => v.category).sum + (13 * (names.length + 1) + 42) ≤ R.locals) (hlocks : meth.locks = false) :
    ∃ (U : State) (ce : Cell), Steps p.tables e below (T0.setTop fr) U ∧ U.status = .running ∧ Ended U below (.threw a) ∧ s.WarmedH U.vm ∧ s.sameButNew ({ U with vm := s.vm } : State) locs cells slots ∧ U.heap = T0.heap.setIfInBounds a ce ∧ ce.cls = cX ∧ ce.vm = .none := by
  have g1 : e.platform.frameOwnsMonitors = true := by rw [X.admits.platform]
  have g2 : e.platform.finalization = false := by rw [X.admits.platform]
  have g3 : e.platform.magicAccessors = ({} : Platform).magicAccessors := by rw [X.admits.platform]
  have hw : ∀ x, x ∈ Bundle.ownAtoms own ic cls names → x.holds args s none s [] = true := fun x hx => h x hx
  obtain ⟨T, Z0, L, -, Y⟩ := ThrowableC.of_atoms (args := args) g1 g2 g3 (fun x hx => h x (by simp [Bundle.ownAtoms, hx]))
  obtain ⟨Z, M, LZ, LM, hnZ⟩ := Init0T.ofS_atoms (args := args) g3 L Y (fun x hx => h x (by simp [Bundle.ownAtoms, hx]))
  obtain ⟨P1, Ps, hlen, L1, hL, hP1, hk1, hk2⟩ := Bundle.chainS (args := args) g3 hnZ names cls hcls hnames (fun x hx => h x (by simp [Bundle.ownAtoms, hx]))
  have hfound : s.vm.findClass cls = some P1.m.cls := findClass_of_methodNamed hP1
  cases Option.some.inj (hfX.symm.trans hfound)
  obtain ⟨c1, kX', hc1, hk, hord, -, -, hn6⟩ := Cond.instantiable_spec (hw (.instantiable cls 6) (by simp [Bundle.ownAtoms]))
  cases Option.some.inj (hc1.symm.trans hfound)
  cases Option.some.inj (hkX.symm.trans hk)
  have hsel0 : selectMethod e.platform s.vm P1.m.cls T.fill0 = .method T.fill0 := by
    obtain ⟨c2, r2, m2, q1, q2, q3, q4, -⟩ := Cond.selects_spec (hw (.selects cls Bundle.tFill0 Bundle.tFill0) (by simp [Bundle.ownAtoms]))
    cases Option.some.inj (q1.symm.trans hfound)
    cases Option.some.inj (q2.symm.trans (State.methodFound?_of_named Y.fill0 (by decide)))
    cases Option.some.inj (q3.symm.trans Y.fill0)
    rw [Launch.admits_selectMethod X.admits]; exact q4
  have hselF : selectMethod e.platform s.vm P1.m.cls T.fill = .method T.fill := by
    obtain ⟨c2, r2, m2, q1, q2, q3, q4, -⟩ := Cond.selects_spec (hw (.selects cls Bundle.tFill Bundle.tFill) (by simp [Bundle.ownAtoms]))
    cases Option.some.inj (q1.symm.trans hfound)
    cases Option.some.inj (q2.symm.trans (State.methodFound?_of_named Y.fill (by decide)))
    cases Option.some.inj (q3.symm.trans Y.fill)
    rw [Launch.admits_selectMethod X.admits]; exact q4
  obtain ⟨cS, hcS, hiS⟩ := Y.statics
  obtain ⟨u0, hu0⟩ := Cond.staticRefV Y.unassigned L.unassignedStatic L.statics hcS hiS (hw (.isRef (.static Bundle.tN "UNASSIGNED_STACK" Bundle.steD)) (by simp [Bundle.ownAtoms]))
  obtain ⟨sen, hsen⟩ := Cond.staticRefV Y.sentinel L.sentinelStatic L.statics hcS hiS (hw (.isRef (.static Bundle.tN "SUPPRESSED_SENTINEL" Bundle.listD)) (by simp [Bundle.ownAtoms]))
  obtain ⟨b1, b2, fB, hb1, hb2, hb3, hsB, -, hnB, htB, hfB⟩ := Cond.ownField (t := .object "java/lang/Object") Y.found L.cls (by decide +kernel) (hw (.fieldLink Bundle.tN 198 Bundle.tN "backtrace" "Ljava/lang/Object;") (by simp [Bundle.ownAtoms])) (hw (.lays Bundle.tN Bundle.tN "backtrace" "Ljava/lang/Object;") (by simp [Bundle.ownAtoms])) e.platform g3
  obtain ⟨cS2, hcS2, heS, -, hkeep⟩ := X.same.2.2.2.2.2 T.aS cS hcS
  have hcS3 : T0.heap[T.aS]? = some cS2 := hcS2
  have hnl : ∀ i, (⟨T.aS, i⟩ : Loc) ∉ locs := fun i hi => by
    have := hlocs _ hi cS hcS
    rw [hiS] at this; cases this
  have hkn : cS2.vm ≠ .unknown := by
    rw [heS]; intro hu
    rw [show cS.vm = .unknown from hu] at hiS
    cases hiS
  have hne : T.aS ≠ a := Nat.ne_of_lt (Nat.lt_of_lt_of_le (Array.getElem?_eq_some_iff.mp hcS).1 hnew)
  obtain ⟨iM, hffM⟩ := Y.msg
  obtain ⟨tyC, dC, hdC, hdnC⟩ := Cond.laysAt hfound hk Y.cause (hw (.lays cls Bundle.tN "cause" "Ljava/lang/Throwable;") (by simp [Bundle.ownAtoms]))
  obtain ⟨tyS, dS, hdS, hdnS⟩ := Cond.laysAt hfound hk Y.stack (hw (.lays cls Bundle.tN "stackTrace" Bundle.steD) (by simp [Bundle.ownAtoms]))
  obtain ⟨tyP, dP, hdP, hdnP⟩ := Cond.laysAt hfound hk Y.supp (hw (.lays cls Bundle.tN "suppressedExceptions" Bundle.listD) (by simp [Bundle.ownAtoms]))
  obtain ⟨tyM, dM, hdM, hdnM⟩ := Cond.laysAt hfound hk hffM (hw (.lays cls Bundle.tN "detailMessage" "Ljava/lang/String;") (by simp [Bundle.ownAtoms]))
  obtain ⟨tyB, dB, hdB, hdnB⟩ := Cond.laysAt hfound hk hfB (hw (.lays cls Bundle.tN "backtrace" "Ljava/lang/Object;") (by simp [Bundle.ownAtoms]))
  have n1 := Cond.laysApart hdB hdC hdnB hdnC (by rw [hnB, Y.causeName]; decide)
  have n2 := Cond.laysApart hdB hdS hdnB hdnS (by rw [hnB, Y.stackName]; decide)
  have n3 := Cond.laysApart hdB hdP hdnB hdnP (by rw [hnB, Y.suppName]; decide)
  have hskip : SkipFacts T e.platform s (fun u => u) u0 ((preparedCellV T.toThrowableT (freshCell P1.m.cls kX) a u0 sen).withEntry T0.cur) :=
    ⟨{ ci198 := b1, i198 := b2, fBack := fB }, ⟨hb1, hb2, hb3, hsB⟩, by
      have := fresh_default (c := P1.m.cls) tyB
      rw [htB] at this
      simpa [preparedCellV, Cell.setSlot, Cell.withEntry, Array.getElem?_setIfInBounds, n1, n2, n3, n1.symm, n2.symm, n3.symm, defaultValue] using this, fun _ _ => rfl⟩
  obtain ⟨tm, methC, cdC, kC, vm₁, hnC, -, -, -, -, -, -, -, hW₁, st1⟩ := Steps.initColdS (tb := p.tables) (e := e) (below := below) (s := s) (U := T0) X.here hexec X.warmed g3 hown (t := Bundle.initS cls) rfl rfl (Bundle.fit_spec hcls).2
    (hw (.methodLink own ic (Bundle.initS cls)) (by simp [Bundle.ownAtoms])) (h (.instanceMethod (Bundle.initS cls)) (by cases names <;> simp [Bundle.ownAtoms, Bundle.chainSAtoms, Bundle.passSAtoms])) (bytes := Bundle.six) (maxL := 2) (h (.code (Bundle.initS cls) Bundle.six 2 none) (by cases names <;> simp [Bundle.ownAtoms, Bundle.chainSAtoms, Bundle.passSAtoms]))
    (f := fr) hg (a := a) (msg := msg) (rest := .ref a :: rest) hstack hd6
  cases Option.some.inj (hnC.symm.trans hP1)
  have X₁ := X.noted hW₁
  obtain ⟨vm₂, X₂, st2⟩ := X₁.ctorMessageOffV hexec (g := { fr with stack := .ref a :: rest }) hg hsize T L Z LZ M LM (P1 :: Ps)
    (fun P hP => by rcases List.mem_cons.mp hP with rfl | hP; exact L1; exact hL P hP) ⟨hk1, hk2⟩ (u0 := u0) (sen := sen) (self := a) hmsg (cell := freshCell P1.m.cls kX) (cellS := cS2)
    hcell (fun _ => by simp) (by simp) rfl rfl hsel0 hselF hcS3 hne hkn (by rw [hkeep _ (hnl _)]; exact hu0) (by rw [hkeep _ (hnl _)]; exact hsen)
    (Takes.of_laid hk hord tyC (by rw [Y.causeType]; rfl)) (Takes.of_laid hk hord tyS (by rw [Y.stackType]; exact fits_refV_array _ u0)) (Takes.of_laid hk hord tyP (by rw [Y.suppType]; exact fits_refV_object _ sen))
    (Takes.of_laid hk hord tyM (by rw [Y.msgType]; exact fits_refV_object _ ⟨msg, hmsg⟩)) Y.objLocals hskip htr [] hd6
    (by simp only [List.length_cons, hlen]; omega) (by simp only [List.length_cons, hlen]; exact hRl)
  obtain ⟨o1, o2, o3, o4, o5⟩ := X₂.athrowLeaves hexec (g := { fr with stack := .ref a :: rest, pc := fr.pc + 3 }) hg hlocked hentered hout (a := a) (rest := rest) rfl hd9 hlocks
  refine ⟨_, plainBareV T.toThrowableT (freshCell P1.m.cls kX) a u0 sen msg, st1 _ (fun acts => ?_), o2, o3, o4, o5.weaken (fun y hy hlt => ?_) (Nat.le_refl _) (Nat.le_refl _), rfl, rfl, rfl⟩
  · rw [doInvoke_state]
    exact st2 _ o1
  · rcases List.mem_append.mp hy with h1 | h1
    · exact h1
    · exfalso
      have hb : y.base = a := by
        simp only [List.mem_cons, List.not_mem_nil, or_false] at h1
        rcases h1 with rfl | rfl | rfl | rfl | rfl <;> rfl
      rw [hb] at hlt
      exact Nat.not_lt.mpr hnew hlt
end TH2
