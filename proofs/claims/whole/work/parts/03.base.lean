/-! MY BASE: one list of words for every method (the tables' words); a contract whose heap is a parameter; calls by it. -/
def wC (y : MethodName) (b : ByteArray) (n : Nat) (r : Option FieldType) : List Cond := .code y b n r :: gT
theorem tb_wC {y : MethodName} {b : ByteArray} {n : Nat} {r : Option FieldType} (h : Cond.code y b n r ∈ gT) : GoodIn gT (wC y b n r) := fun w hw => by
  rcases List.mem_cons.mp hw with e | h2
  · subst e; exact ⟨h, good_of_word (gT_good _ h)⟩
  · exact ⟨h2, good_of_word (gT_good _ h2)⟩
def yOk (y : MethodName) (n : Nat) : Prop := y.cls ≠ "java/lang/invoke/MethodHandle" ∧ y.cls ≠ "java/lang/invoke/VarHandle" ∧ (parseMethodDescriptor y.desc).map (fun d => d.parameters.length) = some n
/-- the nest mates' links -/
def nW : List Cond := [.methodLinkNest "RegistryLog" 154 ⟨"RegistryLog$Tree", "headOf", "(LRegistryLog$Ledger;II)J"⟩ "RegistryLog", .methodLinkNest "RegistryLog" 163 ⟨"RegistryLog$Tree", "proveInside", "(LRegistryLog$Ledger;IIILRegistryLog$Numbers;)V"⟩ "RegistryLog", .methodLinkNest "RegistryLog" 168 ⟨"RegistryLog$Tree", "proveGrowth", "(LRegistryLog$Ledger;IIIZLRegistryLog$Numbers;)V"⟩ "RegistryLog", .methodLinkNest "RegistryLog" 180 ⟨"RegistryLog$Tree", "headFromInside", "(IIJLRegistryLog$Numbers;)J"⟩ "RegistryLog", .methodLinkNest "RegistryLog" 187 ⟨"RegistryLog$Tree", "headsFromGrowth", "(IIZJLRegistryLog$Numbers;)LRegistryLog$TwoHeads;"⟩ "RegistryLog"]
theorem nW_form : ∀ w ∈ nW, ∃ a i x h, w = .methodLinkNest a i x h := by
  intro w hw
  simp only [nW, List.mem_cons, List.not_mem_nil, or_false] at hw
  rcases hw with h | h | h | h | h <;> exact ⟨_, _, _, _, h⟩
def nK (U : State) : Prop := ∀ w ∈ nW, va_Nw w U
theorem nK.same {u U : State} (hv : u.vm = U.vm) (h : nK u) : nK U := fun w hw => by
  obtain ⟨a, i, x, y, e⟩ := nW_form w hw
  have := h w hw
  subst e
  exact va_Nw.same rfl hv this
theorem nK.warm {s U : State} (hW : s.WarmedH U.vm) (h : nK s) : nK U := fun w hw => by
  obtain ⟨a, i, x, y, e⟩ := nW_form w hw
  have := h w hw
  subst e
  exact va_Nw.warmM hW this
/-- a call's words: an instance method, a static one, a constructor, a nest mate's static one -/
def kV (own : String) (i : Nat) (C : String) (y : MethodName) (b : ByteArray) (mL : Nat) (r : Option FieldType) (n : Nat) : Prop :=
  Cond.methodLink own i y ∈ gT ∧ Cond.instanceMethod y ∈ gT ∧ Cond.selects C y y ∈ gT ∧ Cond.initialized y.cls ∈ gT ∧ Cond.code y b mL r ∈ gT ∧ yOk y n
def kS (own : String) (i : Nat) (y : MethodName) (b : ByteArray) (mL : Nat) (r : Option FieldType) (n : Nat) : Prop :=
  Cond.methodLink own i y ∈ gT ∧ Cond.static y ∈ gT ∧ Cond.initialized y.cls ∈ gT ∧ Cond.code y b mL r ∈ gT ∧ yOk y n
def kI (own : String) (i : Nat) (y : MethodName) (b : ByteArray) (mL : Nat) (n : Nat) : Prop :=
  Cond.methodLink own i y ∈ gT ∧ Cond.instanceMethod y ∈ gT ∧ Cond.initialized y.cls ∈ gT ∧ Cond.code y b mL none ∈ gT ∧ y.name = "<init>" ∧ yOk y n
def kN (own : String) (i : Nat) (y : MethodName) (host : String) (b : ByteArray) (mL : Nat) (r : Option FieldType) (n : Nat) : Prop :=
  Cond.methodLinkNest own i y host ∈ nW ∧ Cond.static y ∈ gT ∧ Cond.initialized y.cls ∈ gT ∧ Cond.code y b mL r ∈ gT ∧ yOk y n
/-- what is fixed through a run: class numbers and slots; array classes; the heap's size at the start; the addresses of string constants -/
abbrev gG : Type := va_G × (Nat → ClassId) × Nat × (Nat → Nat)
/-- the array classes that are met: byte, long, Row, Ledger, int, boolean -/
abbrev ty_ (cA : Nat → ClassId) : List (ClassId × FieldType) := [(cA 0, .byte), (cA 1, .long), (cA 2, .object "RegistryLog$Row"), (cA 3, .object "RegistryLog$Ledger"), (cA 4, .int), (cA 5, .boolean)]
/-- the classes of the byte arrays of strings: cA 0, and cA 6, that of the constants' -/
def bK (g : gG) (U : State) : Prop := ∀ k : ClassId, k = g.2.1 0 ∨ k = g.2.1 6 → ∃ (kA : Class) (comp : ClassId), U.vm.classes[k]? = some kA ∧ kA.kind = .array comp .byte
theorem bK.moved {g : gG} {u U : State} (hvm : u.vm.Alike U.vm) (h : bK g u) : bK g U := fun k hk => by
  obtain ⟨kA, comp, h1, h2⟩ := h k hk
  obtain ⟨k', hk', he⟩ := hvm.2.2 _ _ h1
  exact ⟨k', comp, hk', by rw [he]; exact h2⟩
/-- words of the tables that the kit's own list of words that last doesn't have: what a throw and a clone ask -/
def cW : List Cond := [.castable "[B" "java/lang/Cloneable", .castable "java/lang/IllegalArgumentException" "java/lang/IllegalArgumentException", .castable "java/lang/IllegalStateException" "java/lang/IllegalStateException"]
def dW : List MethodName := [⟨"java/lang/RuntimeException", "<init>", "(Ljava/lang/String;)V"⟩, ⟨"java/lang/Exception", "<init>", "(Ljava/lang/String;)V"⟩, ⟨"java/lang/Throwable", "<init>", "(Ljava/lang/String;)V"⟩]
theorem cW_form : ∀ w ∈ cW, ∃ a b, w = .castable a b := by
  intro w hw
  simp only [cW, List.mem_cons, List.not_mem_nil, or_false] at hw
  rcases hw with h | h | h <;> exact ⟨_, _, h⟩
def cN (U : State) : Prop := (∀ w ∈ cW, va_Nw w U) ∧ ∀ x ∈ dW, va_Nw (.declares x) U
theorem cN.same {u U : State} (hv : u.vm = U.vm) (h : cN u) : cN U := ⟨fun w hw => by
  obtain ⟨a, b, e⟩ := cW_form w hw
  have := h.1 w hw
  subst e
  exact va_Nw.same rfl hv this, fun x hx => va_Nw.same rfl hv (h.2 x hx)⟩
theorem cN.warm {s U : State} (hW : s.WarmedH U.vm) (h : cN s) : cN U := ⟨fun w hw => by
  obtain ⟨a, b, e⟩ := cW_form w hw
  have := h.1 w hw
  subst e
  exact va_Nw.warmC hW this, fun x hx => va_Nw.warmD hW (h.2 x hx)⟩
/-- a state's own exception is no argument's -/
def nC (U : State) : Prop := ∃ c1 c2, U.vm.findClass "java/lang/IllegalStateException" = some c1 ∧ U.vm.findClass "java/lang/IllegalArgumentException" = some c2 ∧ U.vm.assignable c1 c2 = false
theorem nC.same {u U : State} (hv : u.vm = U.vm) (h : nC u) : nC U := by
  obtain ⟨c1, c2, h1, h2, h3⟩ := h
  exact ⟨c1, c2, by rw [← hv]; exact h1, by rw [← hv]; exact h2, by rw [← hv]; exact h3⟩
theorem nC.warm {s U : State} (hW : s.WarmedH U.vm) (h : nC s) : nC U := by
  obtain ⟨c1, c2, h1, h2, h3⟩ := h
  exact ⟨c1, c2, by rw [hW.alike.findClass]; exact h1, by rw [hW.alike.findClass]; exact h2, by rw [hW.alike.assignable]; exact h3⟩
def rK (g : gG) (U : State) : Prop := vk_R "RegistryLog$Ledger" 11 "" (g.2.2.2 0) U ∧ vk_R "java/lang/StringLatin1" 151 "" (g.2.2.2 1) U ∧ vk_R "RegistryLog" 231 "no such name, person or version" (g.2.2.2 2) U ∧ vk_R "RegistryLog" 235 "the row may not come" (g.2.2.2 3) U ∧ vk_R "RegistryLog" 122 "no mark between two names, or no such person" (g.2.2.2 4) U ∧ cN U ∧ nC U
/-- what the tables say, at a state -/
def kK (g : gG) (U : State) : Prop := va_K g.1 cls_ (ty_ g.2.1) U ∧ nK U ∧ (va_AO "RegistryLog$Row" U ∧ va_AO "RegistryLog$Ledger" U) ∧ bK g U ∧ rK g U
theorem kK.same {g : gG} {u U : State} (hv : u.vm = U.vm) (ha : u.vm.Alike U.vm) (h : kK g u) : kK g U :=
  ⟨va_K.moved ha h.1, nK.same hv h.2.1, ⟨va_AO.moved ha h.2.2.1.1, va_AO.moved ha h.2.2.1.2⟩, bK.moved ha h.2.2.2.1, vk_R.same hv.symm h.2.2.2.2.1, vk_R.same hv.symm h.2.2.2.2.2.1, vk_R.same hv.symm h.2.2.2.2.2.2.1, vk_R.same hv.symm h.2.2.2.2.2.2.2.1, vk_R.same hv.symm h.2.2.2.2.2.2.2.2.1, cN.same hv h.2.2.2.2.2.2.2.2.2.1, nC.same hv h.2.2.2.2.2.2.2.2.2.2⟩
theorem kK.warm {g : gG} {u U : State} (hW : u.WarmedH U.vm) (h : kK g u) : kK g U :=
  ⟨va_K.moved hW.alike h.1, nK.warm hW h.2.1, ⟨va_AO.moved hW.alike h.2.2.1.1, va_AO.moved hW.alike h.2.2.1.2⟩, bK.moved hW.alike h.2.2.2.1, vk_R.warm hW h.2.2.2.2.1, vk_R.warm hW h.2.2.2.2.2.1, vk_R.warm hW h.2.2.2.2.2.2.1, vk_R.warm hW h.2.2.2.2.2.2.2.1, vk_R.warm hW h.2.2.2.2.2.2.2.2.1, cN.warm hW h.2.2.2.2.2.2.2.2.2.1, nC.warm hW h.2.2.2.2.2.2.2.2.2.2⟩
/-- the cells that are older than the law's start may not change -/
abbrev old_ (g : gG) : Nat → Prop := fun q => g.2.2.1 ≤ q
/-- a static of Throwable's that holds a reference or null, in a cell that nobody writes -/
def tZ (n d : String) (A : Nat → Prop) (U : State) (H : Heap) : Prop := ∃ (cf : ClassId) (kf : Class) (fi : Nat) (f : Field) (a : Nat) (cell : Cell) (v : Value), U.vm.findClass "java/lang/Throwable" = some cf ∧ U.fieldFound? "java/lang/Throwable" n d = some (cf, kf, fi, f) ∧ f.isStatic = true ∧ kf.statics = some a ∧ kf.staticTypes[f.slot]? = some f.type ∧ H[a]? = some cell ∧ cell.vm.isStatics = true ∧ cell.cls = cf ∧ f.slot < cell.slots.size ∧ cell.slots[f.slot]? = some v ∧ v.isRef = true ∧ ¬ A a
theorem tZ.moved {n d : String} {A : Nat → Prop} {u U : State} {H : Heap} (hvm : u.vm.Alike U.vm) (h : tZ n d A u H) : tZ n d A U H := by
  obtain ⟨cf, kf, fi, f, a, cell, v, h0, h1, h2, h3, h4, h5⟩ := h
  obtain ⟨k', hi', he⟩ := State.fieldFound?_setVm hvm h1
  exact ⟨cf, k', fi, f, a, cell, v, by rw [hvm.findClass]; exact h0, hi', h2, by rw [he]; exact h3, by rw [he]; exact h4, h5⟩
theorem tZ.kept {n d : String} {A : Nat → Prop} {U : State} {H H1 : Heap} (h : tZ n d A U H) (hq : ∀ a : Nat, a < H.size → ¬ A a → H1[a]? = H[a]?) : tZ n d A U H1 := by
  obtain ⟨cf, kf, fi, f, a, cell, v, h0, h1, h2, h3, h4, h5, h6, h7, h8, h9, h10, h11⟩ := h
  exact ⟨cf, kf, fi, f, a, cell, v, h0, h1, h2, h3, h4, by rw [hq a (Array.getElem?_eq_some_iff.mp h5).1 h11]; exact h5, h6, h7, h8, h9, h10, h11⟩
abbrev steD9 : String := "[Ljava/lang/StackTraceElement;"
abbrev lisD9 : String := "Ljava/util/List;"
def zK (g : gG) (U : State) (H : Heap) : Prop := va_Z "java/lang/String" "COMPACT_STRINGS" "Z" (.int 1) (old_ g) U H ∧ (∃ r : Option Nat, va_Z "jdk/internal/util/Preconditions" "SIOOBE_FORMATTER" "Ljava/util/function/BiFunction;" (va_rf r) (old_ g) U H) ∧ tZ "UNASSIGNED_STACK" steD9 (old_ g) U H ∧ tZ "SUPPRESSED_SENTINEL" lisD9 (old_ g) U H
theorem zK.moved {g : gG} {u U : State} {H : Heap} (ha : u.vm.Alike U.vm) (h : zK g u H) : zK g U H := ⟨va_Z.moved ha h.1, ⟨h.2.1.choose, va_Z.moved ha h.2.1.choose_spec⟩, tZ.moved ha h.2.2.1, tZ.moved ha h.2.2.2⟩
theorem zK.kept {g : gG} {U : State} {H H1 : Heap} (h : zK g U H) (hq : ∀ a : Nat, a < H.size → ¬ old_ g a → H1[a]? = H[a]?) : zK g U H1 := ⟨va_Z.kept h.1 hq, ⟨h.2.1.choose, va_Z.kept h.2.1.choose_spec hq⟩, tZ.kept h.2.2.1 hq, tZ.kept h.2.2.2 hq⟩
def rmk (f cs sl lo : Nat) : Room := { frames := f, cells := cs, slots := sl, locals := lo }
/-- a contract's start: the arguments, the heap, the tables -/
def pC (g : gG) (H : Heap) (As : List Value) : Array Value → State → Prop := fun v U => v = As.toArray ∧ U.heap = H ∧ kK g U ∧ zK g U H
theorem pC_blind {g : gG} {H : Heap} {As : List Value} : FrameBlind (pC g H As) := fun a U fr mk q => ⟨q.1, q.2.1, kK.same (u := U) (U := U.calling fr mk a) rfl (Vm.Alike.refl U.vm) q.2.2.1, zK.moved (u := U) (U := U.calling fr mk a) (Vm.Alike.refl U.vm) q.2.2.2⟩
/-- a contract's end where nothing changed -/
def qP (H : Heap) (P : Option Value → Prop) : Array Value → State → Outcome → State → Prop := fun _ _ o t => ∃ v, o = .returned v ∧ P v ∧ t.heap = H
/-- a contract's end: cells outside of N that were there are as they were -/
def hC (N : Nat → Prop) (H H' : Heap) : Prop := H.size ≤ H'.size ∧ ∀ q : Nat, q < H.size → ¬ N q → H'[q]? = H[q]?
def qW (H : Heap) (N : Nat → Prop) (P : Option Value → Heap → Prop) : Array Value → State → Outcome → State → Prop := fun _ _ o t => ∃ v, o = .returned v ∧ hC N H t.heap ∧ P v t.heap
def fW (H : Heap) (N : Nat → Prop) : Addr → Prop := fun q => N q ∨ H.size ≤ q
abbrev no_ : Nat → Prop := fun _ => False
/-- what a method's body stands on -/
def cF (g : gG) (p : Program) (s : State) (m : MethodId) (args : Array Value) (meth : Method) (c : Code) (cc : ByteArray) (nL : Nat) (own : String) (ret : Option FieldType) : Prop :=
  p.tables.exec = Jvm.exec ∧ c.code = cc ∧ c.maxLocals = nL ∧ s.vm.findClass own = some m.cls ∧ (∀ w ∈ gT, w.before args s = true) ∧ meth.sig.returnType = ret ∧ meth.locks = false ∧ kK g s
section B0
variable {p : Program} {l : Launch} {e : Env} {R : Room} {s : State} {m : MethodId} {args : Array Value} {below : List Frame} {meth : Method} {c : Code} {H : Heap} {locs : List Loc} {cells slots : Nat} {Q : State → Prop}
/-- a contract out of a walk of the body -/
theorem mB {g : gG} {y : MethodName} {cc : ByteArray} {maxL : Nat} {ret : Option FieldType} {rm : Room} {As : List Value} {Qc : Array Value → State → Outcome → State → Prop} {mc ms : Nat} {free : Addr → Prop}
    (hy : plainName y.cls = true) (hn : (lg_sl As).length ≤ maxL)
    (body : ∀ p e s m below meth c (ls : Array Slot), cF g p s m As.toArray meth c cc maxL y.cls ret → s.heap = H → zK g s H → meth.name = y.name → lv_has ls maxL (lv_args 0 As) → W p l e rm s m As.toArray below meth c H [] 0 0 (MQ below Qc As.toArray s mc ms free) (F0 m 0 ls [])) :
    Met l y (wC y cc maxL ret) rm (pC g H As) Qc mc ms free := by
  refine Met.ofW (cc := cc) (maxL := maxL) (ret := ret) hy rfl ?_
  intro p e s m args below meth c s₁ B hml hv
  obtain ⟨rfl, hH, hK, hZ⟩ := hv
  have hts := atoms_spec (ws := wC y cc maxL ret) B.pre
  have hl := lv_entry As (n := maxL) hn
  rw [lg_entry_eq, hH]
  exact body p e s m below meth c _ ⟨B.exec, B.bytes, hml, findClass_of_methodNamed B.named, fun w hw => hts w (List.mem_cons_of_mem _ hw), B.returns, B.notSynchronized, hK⟩ hH hZ (name_of_methodNamed B.named B.method).1 hl
variable {y : MethodName} {bytes cc : ByteArray} {maxL nL mc ms n index : Nat} {ret r0 : Option FieldType} {rm : Room} {Qc : Array Value → State → Outcome → State → Prop} {free : Addr → Prop} {own C : String} {b : Addr} {As rest : List Value} {g : gG} {pc : Nat} {ls : Array Slot} {st0 : List Value}
/-- a call, by the contract and the call's words -/
theorem rV (C0 : cF g p s m args meth c cc nL own r0) (hM : Met l y (wC y bytes maxL ret) rm (pC g H (.ref b :: As)) Qc mc ms free) (hZ : zK g s H) (k : kV own index C y bytes maxL ret n)
    (hrc : rm.cells = mc) (hrs : rm.slots = ms) (hR : rm.frames + 1 ≤ R.frames ∧ 8 + (maxL + 11) + rm.locals ≤ R.locals)
    (hb : ∃ cellB : Cell, H[b]? = some cellB ∧ cellB.vm.isStatics = false ∧ s.vm.findClass C = some cellB.cls)
    (hn : As.length = n) (hsize : ls.size = nL) (hst : st0 = As.reverse ++ .ref b :: rest) (hW : (rest.map fun v => v.category).sum ≤ 8) (hdg : decode cc pc = .ok (.invokevirtual index, 3)) (hf : cells + mc ≤ R.cells ∧ slots + ms ≤ R.slots) :
    va_Run p l e R s m args below meth c H locs cells slots mc ms (F0 m pc ls st0) rest (Qc (Value.ref b :: As).toArray) free := by
  obtain ⟨hx, hbb, hml, hown, hts, hr, hlk, hK⟩ := C0
  obtain ⟨k1, k2, k3, k4, k5, k6⟩ := k
  exact va_runV ⟨hx, hbb, hml, hown, hts⟩ hM ⟨callB_of n hts (tb_wC k5) rfl hrc hrs (hts _ k4) (hts _ k1) k6 hR, hts _ k2, hts _ k3⟩ ⟨pC_blind, hb, fun U hU hW => ⟨rfl, hU, kK.warm hW hK, zK.moved hW.alike hZ⟩⟩ rfl hn hsize hst (lv_room hW) hdg hf
theorem rS (C0 : cF g p s m args meth c cc nL own r0) (hM : Met l y (wC y bytes maxL ret) rm (pC g H As) Qc mc ms free) (hZ : zK g s H) (k : kS own index y bytes maxL ret n)
    (hrc : rm.cells = mc) (hrs : rm.slots = ms) (hR : rm.frames + 1 ≤ R.frames ∧ 8 + (maxL + 11) + rm.locals ≤ R.locals)
    (hn : As.length = n) (hsize : ls.size = nL) (hst : st0 = As.reverse ++ rest) (hW : (rest.map fun v => v.category).sum ≤ 8) (hdg : decode cc pc = .ok (.invokestatic index, 3)) (hf : cells + mc ≤ R.cells ∧ slots + ms ≤ R.slots) :
    va_Run p l e R s m args below meth c H locs cells slots mc ms (F0 m pc ls st0) rest (Qc As.toArray) free := by
  obtain ⟨hx, hbb, hml, hown, hts, hr, hlk, hK⟩ := C0
  obtain ⟨k1, k2, k4, k5, k6⟩ := k
  exact va_runS ⟨hx, hbb, hml, hown, hts⟩ hM ⟨callB_of n hts (tb_wC k5) rfl hrc hrs (hts _ k4) (hts _ k1) k6 hR, hts _ k2⟩ ⟨pC_blind, fun U hU hW => ⟨rfl, hU, kK.warm hW hK, zK.moved hW.alike hZ⟩⟩ rfl hn hsize hst (lv_room hW) hdg hf
theorem rI (C0 : cF g p s m args meth c cc nL own r0) (hM : Met l y (wC y bytes maxL none) rm (pC g H (.ref b :: As)) Qc mc ms free) (hZ : zK g s H) (k : kI own index y bytes maxL n)
    (hrc : rm.cells = mc) (hrs : rm.slots = ms) (hR : rm.frames + 1 ≤ R.frames ∧ 8 + (maxL + 11) + rm.locals ≤ R.locals)
    (hn : As.length = n) (hsize : ls.size = nL) (hst : st0 = As.reverse ++ .ref b :: rest) (hW : (rest.map fun v => v.category).sum ≤ 8) (hdg : decode cc pc = .ok (.invokespecial index, 3)) (hf : cells + mc ≤ R.cells ∧ slots + ms ≤ R.slots) :
    va_Run p l e R s m args below meth c H locs cells slots mc ms (F0 m pc ls st0) rest (Qc (Value.ref b :: As).toArray) free := by
  obtain ⟨hx, hbb, hml, hown, hts, hr, hlk, hK⟩ := C0
  obtain ⟨k1, k2, k4, k5, k7, k6⟩ := k
  exact va_runI ⟨hx, hbb, hml, hown, hts⟩ hM ⟨callB_of n hts (tb_wC k5) rfl hrc hrs (hts _ k4) (hts _ k1) k6 hR, k7, hts _ k2⟩ ⟨pC_blind, fun U hU hW => ⟨rfl, hU, kK.warm hW hK, zK.moved hW.alike hZ⟩⟩ rfl hn hsize hst (lv_room hW) hdg hf
theorem rN {host : String} (C0 : cF g p s m args meth c cc nL own r0) (hM : Met l y (wC y bytes maxL ret) rm (pC g H As) Qc mc ms free) (hZ : zK g s H) (k : kN own index y host bytes maxL ret n)
    (hrc : rm.cells = mc) (hrs : rm.slots = ms) (hR : rm.frames + 1 ≤ R.frames ∧ 8 + (maxL + 11) + rm.locals ≤ R.locals)
    (hn : As.length = n) (hsize : ls.size = nL) (hst : st0 = As.reverse ++ rest) (hW : (rest.map fun v => v.category).sum ≤ 8) (hdg : decode cc pc = .ok (.invokestatic index, 3)) (hf : cells + mc ≤ R.cells ∧ slots + ms ≤ R.slots) :
    va_Run p l e R s m args below meth c H locs cells slots mc ms (F0 m pc ls st0) rest (Qc As.toArray) free := by
  obtain ⟨hx, hbb, hml, hown, hts, hr, hlk, hK⟩ := C0
  obtain ⟨k1, k2, k4, k5, k6⟩ := k
  exact va_runSN ⟨hx, hbb, hml, hown, hts⟩ hM ⟨va_cnB n hts (tb_wC k5) rfl hrc hrs (hK.2.1 _ k1) (hts _ k4) k6 hR, hts _ k2, trivial⟩ ⟨pC_blind, fun U hU hW => ⟨rfl, hU, kK.warm hW hK, zK.moved hW.alike hZ⟩⟩ rfl hn hsize hst (lv_room hW) hdg hf
/-- behind a call that changed nothing -/
theorem aP {a : Array Value} {P : Option Value → Prop} (hr : va_Run p l e R s m args below meth c H locs cells slots 0 0 (F0 m pc ls st0) rest (qP H P a) no_)
    (kk : ∀ v, P v → W p l e R s m args below meth c H locs cells slots Q (F0 m (pc + 3) ls (v.toList ++ rest))) : W p l e R s m args below meth c H locs cells slots Q (F0 m pc ls st0) := by
  intro T hT X
  obtain ⟨v, st₀, t, T', L, h0, X', hL, e1, e2, ⟨v', hv, hp, hh⟩, st⟩ := hr T hT X
  cases hv
  obtain ⟨t2, a1, b1⟩ := kk v hp T' (by rw [e1]; exact hh) (Stand.forget X' (fun q h => (hL q h).elim))
  exact ⟨t2, st t2 a1, b1⟩
/-- behind a call that changed cells of N alone, and made some -/
theorem aW {a : Array Value} {P : Option Value → Heap → Prop} {N : Nat → Prop} (hr : va_Run p l e R s m args below meth c H locs cells slots mc ms (F0 m pc ls st0) rest (qW H N P a) (fW H N))
    (kk : ∀ (v : Option Value) (H1 : Heap) (L : List Loc), hC N H H1 → P v H1 → (∀ q ∈ L, fW H N q.base) → W p l e R s m args below meth c H1 (locs ++ L) (cells + mc) (slots + ms) Q (F0 m (pc + 3) ls (v.toList ++ rest))) : W p l e R s m args below meth c H locs cells slots Q (F0 m pc ls st0) := by
  intro T hT X
  obtain ⟨v, st₀, t, T', L, h0, X', hL, e1, e2, ⟨v', hv, hh, hp⟩, st⟩ := hr T hT X
  cases hv
  obtain ⟨t2, a1, b1⟩ := kk v T'.heap L (by rw [e1]; exact hh) (by rw [e1]; exact hp) hL T' rfl X'
  exact ⟨t2, st t2 a1, b1⟩
end B0
