/-! METHODS WITH HANDLERS: their contract, and a call of them -/
def wCW (y : MethodName) (b : ByteArray) (n : Nat) (r : Option FieldType) (hh : List (Nat × Nat × Nat × Nat)) : List Cond := .codeWith y b n r hh :: gT
theorem tb_wCW {y : MethodName} {b : ByteArray} {n : Nat} {r : Option FieldType} {hh : List (Nat × Nat × Nat × Nat)} (h : Cond.codeWith y b n r hh ∈ gT) : GoodIn gT (wCW y b n r hh) := fun w hw => by
  rcases List.mem_cons.mp hw with e | h2
  · subst e; exact ⟨h, good_of_word (gT_good _ h)⟩
  · exact ⟨h2, good_of_word (gT_good _ h2)⟩
def kSW (own : String) (i : Nat) (y : MethodName) (b : ByteArray) (mL : Nat) (r : Option FieldType) (hh : List (Nat × Nat × Nat × Nat)) (n : Nat) : Prop :=
  Cond.methodLink own i y ∈ gT ∧ Cond.static y ∈ gT ∧ Cond.initialized y.cls ∈ gT ∧ Cond.codeWith y b mL r hh ∈ gT ∧ yOk y n
section LW0
variable {p : Program} {l : Launch} {e : Env} {R : Room} {s : State} {m : MethodId} {args : Array Value} {below : List Frame} {meth : Method} {c : Code} {H : Heap} {locs : List Loc} {cells slots : Nat} {Q : State → Prop}
theorem mBW {g : gG} {y : MethodName} {cc : ByteArray} {maxL : Nat} {ret : Option FieldType} {hh : List (Nat × Nat × Nat × Nat)} {rm : Room} {As : List Value} {Qc : Array Value → State → Outcome → State → Prop} {mc ms : Nat} {free : Addr → Prop}
    (hy : plainName y.cls = true) (hn : (lg_sl As).length ≤ maxL)
    (body : ∀ p e s m below meth c (ls : Array Slot), cF g p s m As.toArray meth c cc maxL y.cls ret → s.heap = H → zK g s H → c.exceptionTable.toList.map (fun h => (h.startPc, h.endPc, h.handlerPc, h.catchType)) = hh → lv_has ls maxL (lv_args 0 As) → W p l e rm s m As.toArray below meth c H [] 0 0 (MQ below Qc As.toArray s mc ms free) (F0 m 0 ls [])) :
    Met l y (wCW y cc maxL ret hh) rm (pC g H As) Qc mc ms free := by
  refine va_MetW (cc := cc) (maxL := maxL) (ret := ret) hy rfl ?_
  intro p e s m args below meth c s₁ B hml hv
  obtain ⟨rfl, hH, hK, hZ⟩ := hv
  have hts := atoms_spec (ws := wCW y cc maxL ret hh) B.pre
  have hl := lv_entry As (n := maxL) hn
  have hc := hts _ List.mem_cons_self
  obtain ⟨m9, meth9, c9, q1, q2, q3, -, -, q4, -⟩ := Cond.codeWith_spec hc
  cases B.named.symm.trans q1
  cases B.method.symm.trans q2
  cases (Stand.of_body B).code.symm.trans q3
  rw [lg_entry_eq, hH]
  exact body p e s m below meth c _ ⟨B.exec, B.bytes, hml, findClass_of_methodNamed B.named, fun w hw => hts w (List.mem_cons_of_mem _ hw), B.returns, B.notSynchronized, hK⟩ hH hZ q4 hl
variable {y : MethodName} {bytes cc : ByteArray} {maxL nL mc ms n index : Nat} {ret r0 : Option FieldType} {hh : List (Nat × Nat × Nat × Nat)} {rm : Room} {Qc : Array Value → State → Outcome → State → Prop} {free : Addr → Prop} {own : String} {As rest : List Value} {g : gG} {pc : Nat} {ls : Array Slot} {st0 : List Value}
theorem rSW (C0 : cF g p s m args meth c cc nL own r0) (hM : Met l y (wCW y bytes maxL ret hh) rm (pC g H As) Qc mc ms free) (hZ : zK g s H) (k : kSW own index y bytes maxL ret hh n)
    (hrc : rm.cells = mc) (hrs : rm.slots = ms) (hR : rm.frames + 1 ≤ R.frames ∧ 8 + (maxL + 11) + rm.locals ≤ R.locals)
    (hn : As.length = n) (hsize : ls.size = nL) (hst : st0 = As.reverse ++ rest) (hW : (rest.map fun v => v.category).sum ≤ 8) (hdg : decode cc pc = .ok (.invokestatic index, 3)) (hf : cells + mc ≤ R.cells ∧ slots + ms ≤ R.slots) :
    va_Run p l e R s m args below meth c H locs cells slots mc ms (F0 m pc ls st0) rest (Qc As.toArray) free := by
  obtain ⟨hx, hbb, hml, hown, hts, hr, hlk, hK⟩ := C0
  obtain ⟨k1, k2, k4, k5, ⟨k6, k7, k8⟩⟩ := k
  have hG := tb_wCW k5
  have hB : Back l R p e below s args y 3 8 (PreOf R mc ms (pC g H As)) (PostOf Qc mc ms free) := va_backW (hh := hh) (bytes := bytes) (maxL := maxL) (ret := ret) hM pC_blind hrc hrs hR.1 hR.2 (fun w hw a' U hU => word_at hU (hG w hw).2 (hts w (hG w hw).1)) List.mem_cons_self (fun a' U hU => word_at hU (good_of_word (gT_good _ k4)) (hts _ k4))
  obtain ⟨mk, methM, cM, hnamed, hmethM, hcM, -, hlM, -, -, -, hsigM⟩ := Cond.codeWith_spec (hts _ k5)
  have hstatic := Cond.static_spec hnamed hmethM (hts _ k2)
  obtain ⟨kP, hkP, -⟩ := className_of_methodNamed hnamed
  have hinitP := Cond.initialized_spec (findClass_of_methodNamed hnamed) hkP (hts _ k4)
  have hlen : As.length = methM.sig.parameters.length := by
    rw [hsigM] at k8
    rw [hn]
    exact (Option.some.inj k8).symm
  intro T hT X
  obtain ⟨vm₁, X₁, hstep₁⟩ := X.invokestatic hx hown (hts _ k1) hnamed hmethM hstatic hkP hinitP ⟨k6, k7⟩ (g := F0 m pc ls st0) rfl (argsL := As) (rest := rest) hlen hst (by rw [hbb]; exact hdg)
  obtain ⟨v, ⟨U', l2, c2, s2⟩, X', ⟨g', mk', t, L, e1, e2, hq, h1, hL, h2, h3⟩, hs⟩ := hB m meth c ⟨T.setVm vm₁, locs, cells, slots⟩ (F0 m pc ls rest) (.invokestatic index) mk As.toArray X₁ rfl (by rw [hml]; exact hsize) (by rw [hbb]; exact hdg) (lv_room hW) (X₁.named hnamed) ⟨hf.1, hf.2, rfl, hT, kK.warm X₁.warmed hK, zK.moved X₁.warmed.alike hZ⟩
  dsimp only [Pt.U, Pt.locs, Pt.cells, Pt.slots] at X' e1 e2 h1 h2 h3 hs
  subst h1; subst h2; subst h3
  exact ⟨v, (T.setVm vm₁).calling g' mk' As.toArray, t, U', L, hT, X', hL, e1, e2, hq, fun target h => hstep₁ _ fun acts => by rw [doInvoke_state]; exact hs.trans h⟩
end LW0
