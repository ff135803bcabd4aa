/-! the two two kinds of exceptions -/
abbrev nmE : List String := ["java/lang/RuntimeException", "java/lang/Exception"]
abbrev iaE : String := "java/lang/IllegalArgumentException"
abbrev isE : String := "java/lang/IllegalStateException"
/-- what the tables' good words don't have of what a throw asks -/
def spE (cls : String) : List Cond := [.laysStatic "java/lang/Throwable" "UNASSIGNED_STACK" steD9, .laysStatic "java/lang/Throwable" "SUPPRESSED_SENTINEL" lisD9, .declares ⟨"java/lang/RuntimeException", "<init>", "(Ljava/lang/String;)V"⟩, .declares ⟨"java/lang/Exception", "<init>", "(Ljava/lang/String;)V"⟩, .declares ⟨"java/lang/Throwable", "<init>", "(Ljava/lang/String;)V"⟩, .castable cls cls, .isRef (.static "java/lang/Throwable" "UNASSIGNED_STACK" steD9), .isRef (.static "java/lang/Throwable" "SUPPRESSED_SENTINEL" lisD9)]
theorem tZ_lay {n d : String} {A : Nat → Prop} {s : State} {args : Array Value} (h : tZ n d A s s.heap) : (Cond.laysStatic "java/lang/Throwable" n d).before args s = true := by
  obtain ⟨cf, kf, fi, f, a, cell, v, h0, h1, h2, h3, h4, h5, h6, h7, h8, h9, h10, h11⟩ := h
  exact Cond.laysStatic_of h0 h1 h2 h3 h5 h6 h7 h8 h4
theorem tZ_ref {n d : String} {A : Nat → Prop} {s : State} {args : Array Value} (h : tZ n d A s s.heap) : (Cond.isRef (.static "java/lang/Throwable" n d)).before args s = true := by
  obtain ⟨cf, kf, fi, f, a, cell, v, h0, h1, h2, h3, h4, h5, h6, h7, h8, h9, h10, h11⟩ := h
  simp [Cond.before, Cond.holds, Cond.value, Term.eval, State.fieldNamed?, h1, h2, h3, h5, h6, h9]
  revert h10
  cases v <;> simp [Value.isRef]
theorem own1 : (Bundle.ownAtoms "RegistryLog" 124 iaE nmE).all (fun w => decide (w ∈ gT) || decide (w ∈ spE iaE)) = true := by decide +kernel
theorem own2 : (Bundle.ownAtoms "RegistryLog" 237 isE nmE).all (fun w => decide (w ∈ gT) || decide (w ∈ spE isE)) = true := by decide +kernel
theorem own_ok {g : gG} {s : State} {args : Array Value} {cls : String} {ic : Nat} (h : (Bundle.ownAtoms "RegistryLog" ic cls nmE).all (fun w => decide (w ∈ gT) || decide (w ∈ spE cls)) = true) (hcW : Cond.castable cls cls ∈ cW) (hts : ∀ w ∈ gT, w.before args s = true) (hK : kK g s) (hZ : zK g s s.heap) : ∀ w ∈ Bundle.ownAtoms "RegistryLog" ic cls nmE, w.before args s = true := by
  intro w hw
  have h1 := List.all_eq_true.mp h w hw
  rcases Bool.or_eq_true_iff.mp h1 with h2 | h2
  · exact hts w (of_decide_eq_true h2)
  · have h3 := of_decide_eq_true h2
    have hN := hK.2.2.2.2.2.2.2.2.2.1
    simp only [spE, List.mem_cons, List.not_mem_nil, or_false] at h3
    rcases h3 with e | e | e | e | e | e | e | e
    · rw [e]; exact tZ_lay hZ.2.2.1
    · rw [e]; exact tZ_lay hZ.2.2.2
    · rw [e]; exact va_Nw.use rfl (hN.2 _ (List.mem_of_getElem? (i := 0) rfl))
    · rw [e]; exact va_Nw.use rfl (hN.2 _ (List.mem_of_getElem? (i := 1) rfl))
    · rw [e]; exact va_Nw.use rfl (hN.2 _ (List.mem_of_getElem? (i := 2) rfl))
    · rw [e]; exact va_Nw.use rfl (hN.1 _ hcW)
    · rw [e]; exact tZ_ref hZ.2.2.1
    · rw [e]; exact tZ_ref hZ.2.2.2
section TH3
variable {p : Program} {l : Launch} {e : Env} {R : Room} {s : State} {m : MethodId} {args : Array Value} {below : List Frame} {meth : Method} {c : Code} {H : Heap} {locs : List Loc} {cells slots : Nat} {Q : State → Prop}
variable {cc : ByteArray} {nL pc : Nat} {r0 : Option FieldType} {Qx : State → Addr → Heap → Prop} {free : Addr → Prop} {rest : List Value} {g : gG} {ls : Array Slot}
/-- throw new X(text) -/
theorem w_thr (C0 : cF g p s m args meth c cc nL "RegistryLog" r0) (hno : ∀ y ∈ c.exceptionTable.toList, False) (htr : ∀ e, l.admits e → e.platform.stackTraces = false) {cls tx : String} {ic ix ik q9 : Nat}
    (hcl : Cond.classLink "RegistryLog" ix cls ∈ gT) (hin : Cond.instantiable cls 6 ∈ gT) (hini : Cond.initialized cls ∈ gT) (hfit : Bundle.fit cls = true) (hoa : ∀ w ∈ Bundle.ownAtoms "RegistryLog" ic cls nmE, w.before args s = true) (hstr : vk_R "RegistryLog" ik tx q9 s)
    (hlocs : ∀ q ∈ locs, ∀ cell, s.heap[q.base]? = some cell → cell.vm.isStatics = false) (hsz : s.heap.size ≤ H.size)
    (d0 : decode cc pc = .ok (.new ix, 3)) (d1 : decode cc (pc + 3) = .ok (.dup, 1)) (d2 : decode cc (pc + 3 + 1) = .ok (.ldc ik, 2)) (d3 : decode cc (pc + 3 + 1 + 2) = .ok (.invokespecial ic, 3)) (d4 : decode cc (pc + 3 + 1 + 2 + 3) = .ok (.athrow, 1))
    (hls : ls.size = nL) (hc : cells + 1 ≤ R.cells) (hsl : slots + 6 ≤ R.slots) (hRf : 5 < R.frames) (hRl : (rest.map fun v => v.category).sum + 82 ≤ R.locals)
    (hq : ∀ H1, hC no_ H H1 → exc cls s H1 H.size → Qx s H.size H1) (hf : ∀ q ∈ locs, free q.base) :
    W p l e R s m args below meth c H locs cells slots (MX below Qx s (cells + 1) (slots + 6) free) (F0 m pc ls rest) := by
  obtain ⟨hx, hb, hml, hown, hts, hr, hlk, hK⟩ := C0
  refine W.newc hx hb hown (hts _ hcl) (hts _ hin) (hts _ hini) rfl d0 hc hsl (fun cC kC f1 f2 f3 f4 => ?_)
  refine lv_dup hx hb d1 rfl ?_
  refine va_ldcS hx hb hown hstr d2 ?_
  intro T hT X
  obtain ⟨U, ce, a1, a2, a3, a4, a5, a6, a7, a8⟩ := thrW X hx (htr e X.admits) hown hfit (by decide) hoa hlocs (a := H.size) f1 f2 (by rw [hT, Array.getElem?_push_size]) hsz (msg := .ref q9) rfl (fr := F0 m (pc + 3 + 1 + 2) ls (.ref q9 :: .ref H.size :: .ref H.size :: rest)) rfl (by rw [hml]; exact hls) rfl rfl rfl (by rw [hb]; exact d3) (by rw [hb]; exact d4) (fun x hx => (hno x hx).elim) hRf (by
    show 0 + (1 + (rest.map fun v => v.category).sum) + _ ≤ _
    show 0 + (1 + (rest.map fun v => v.category).sum) + (13 * 3 + 42) ≤ _
    omega) hlk
  have hsize : U.heap.size = H.size + 1 := by rw [a6, Array.size_setIfInBounds, hT, Array.size_push]
  have hC1 : hC no_ H U.heap := ⟨by omega, fun q h1 _ => by
    rw [a6, Array.getElem?_setIfInBounds_ne (by omega), hT, Array.getElem?_push, if_neg (by omega)]⟩
  refine ⟨U, a1, H.size, a2, a3, hq _ hC1 ⟨ce, ?_, a8, by rw [a7]; exact f1⟩, locs, ⟨a4, a5⟩, hf⟩
  rw [a6, Array.getElem?_setIfInBounds_self_of_lt (by rw [hT, Array.size_push]; omega)]
end TH3
