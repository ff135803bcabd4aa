/-! what a row that may come does to it -/
section STEP
variable {rows : List Rw} {N : List Nm} {O : List Ow} {V : List Ve} {og : List Nat} {r : Rw}
theorem mtN_ap {t : List Nat} {e : Nm} : mtN (N ++ [e]) t = if e.1 = t then some N.length else mtN N t := by
  show mtL t (N ++ [e]) 0 none = _
  rw [mtL_ap, Nat.zero_add]
theorem vtN_ap {o : Nat} {v : Int32} {e : Ve} : vtN (V ++ [e]) o v = if e.1 = o ∧ e.2.1 = v then some V.length else vtN V o v := by
  show vtL o v (V ++ [e]) 0 none = _
  rw [vtL_ap, Nat.zero_add]
theorem mtN_lt {t : List Nat} {k : Nat} (h : mtN N t = some k) : k < N.length ∧ (nmN N k).1 = t := mtT_txt (tb := (N, [], [])) h
theorem vtN_lt {o : Nat} {v : Int32} {k : Nat} (h : vtN V o v = some k) : k < V.length ∧ (veN V k).1 = o ∧ (veN V k).2.1 = v := vtT_txt (tb := ([], [], V)) h
theorem oN_none {t : List Nat} (h : mtN N t = none) : oN N og t = -1 := by rw [oN, h]
theorem oN_1 {t : List Nat} {k : Nat} (h : mtN N t = some k) (hs : (nmN N k).2.1 = 1) : oN N og t = ogI og (nmN N k).2.2 := by
  rw [oN, h]; exact if_pos hs
theorem oN_2 {t : List Nat} {k : Nat} (h : mtN N t = some k) (hs : ¬ (nmN N k).2.1 = 1) : oN N og t = -1 := by
  rw [oN, h]; exact if_neg hs
theorem gnN_none {t : List Nat} (h : mtN N t = none) : gnN N t = false := by rw [gnN, h]
theorem gnN_s {t : List Nat} {k : Nat} (h : mtN N t = some k) : gnN N t = decide ((nmN N k).2.1 = 2) := by rw [gnN, h]
/-- what is gone has no origin -/
theorem g_os (I : InvN rows N og) (t : List Nat) : (if gS t rows = true then -1 else oS t rows (-1)) = oS t rows (-1) := by
  by_cases h : gS t rows = true
  · rw [if_pos h, I.2.2.2.2.1 t]
    rw [I.2.2.2.2.2.1 t] at h
    cases hm : mtN N t with
    | none => exact (oN_none hm).symm
    | some k =>
      rw [gnN_s hm] at h
      exact (oN_2 hm (fun z => by rw [z] at h; exact absurd h (by decide))).symm
  · rw [if_neg h]
theorem N_keep (I : InvN rows N og) {k : Nat} (h3 : ¬ rk r = 3) (hm : mtN N (ra r) = some k) (hs : (nmN N k).2.1 = 1) (ho : ro r = ogI og (nmN N k).2.2) : InvN (rows ++ [r]) N og := by
  obtain ⟨i1, i2, i3, i4, i5, i6, i7, i8⟩ := id I
  refine ⟨i1, by rw [List.length_append]; omega, i3, i4, fun t => ?_, fun t => ?_, fun x hx => ?_, fun j hj => ?_⟩
  · rw [oS_ap]
    by_cases e : ra r = t
    · subst e
      rw [if_neg (show ¬ gS (ra r) rows = true from by rw [i6, gnN_s hm, hs]; decide), if_neg (fun z => h3 z.1), if_pos rfl, oN_1 hm hs]
      exact ho
    · rw [if_neg (c := rk r = 3 ∧ rn r = t) (fun z => h3 z.1), if_neg e, g_os I, i5]
  · rw [gS_ap, decide_eq_false (fun z => h3 z.1), Bool.or_false, i6]
  · rcases List.mem_append.mp hx with q | q
    · exact i7 x q
    · rw [List.mem_singleton.mp q]; exact ⟨k, hm, ho⟩
  · obtain ⟨x, x1, x2⟩ := i8 j hj
    exact ⟨x, List.mem_append_left _ x1, x2⟩
theorem nmN_ap {e : Nm} {k : Nat} (h : k < N.length) : nmN (N ++ [e]) k = nmN N k := getD_ap h
theorem nmN_ap2 {e : Nm} : nmN (N ++ [e]) N.length = e := getD_ap2
theorem ogI_ap {n i : Nat} (h : i < og.length) : ogI (og ++ [n]) i = ogI og i := by
  show nI _ = nI _
  rw [getD_ap h]
theorem ogI_ap2 {n : Nat} : ogI (og ++ [n]) og.length = nI n := by
  show nI _ = nI _
  rw [getD_ap2]
theorem lt_ap {k n : Nat} (h : k < n + 1) : k < n ∨ k = n := by omega
theorem N_new (I : InvN rows N og) (h3 : ¬ rk r = 3) (hm : mtN N (ra r) = none) (ho : ro r = nI rows.length) : InvN (rows ++ [r]) (N ++ [(ra r, 1, og.length)]) (og ++ [rows.length]) := by
  obtain ⟨i1, i2, i3, i4, i5, i6, i7, i8⟩ := id I
  have hL : (N ++ [((ra r, 1, og.length) : Nm)]).length = N.length + 1 := by rw [List.length_append]; rfl
  have hm1 : mtN (N ++ [(ra r, 1, og.length)]) (ra r) = some N.length := by rw [mtN_ap, if_pos rfl]
  have hm2 : ∀ {t : List Nat}, ra r ≠ t → mtN (N ++ [(ra r, 1, og.length)]) t = mtN N t := fun h => by rw [mtN_ap, if_neg h]
  have hnk : ∀ k, k < N.length → ra r ≠ (nmN N k).1 := fun k hk z => by
    have := i3 k hk
    rw [← z, hm] at this
    cases this
  have hoN : ∀ {t : List Nat}, ra r ≠ t → oN (N ++ [(ra r, 1, og.length)]) (og ++ [rows.length]) t = oN N og t := fun {t} h => by
    have e := hm2 h
    cases hq : mtN N t with
    | none => rw [oN_none (e.trans hq), oN_none hq]
    | some k =>
      have hk := (mtN_lt hq).1
      by_cases hs : (nmN N k).2.1 = 1
      · rw [oN_1 (e.trans hq) (by rw [nmN_ap hk]; exact hs), oN_1 hq hs, nmN_ap hk, ogI_ap (i1 k hk).1]
      · rw [oN_2 (e.trans hq) (by rw [nmN_ap hk]; exact hs), oN_2 hq hs]
  have hgN : ∀ {t : List Nat}, ra r ≠ t → gnN (N ++ [(ra r, 1, og.length)]) t = gnN N t := fun {t} h => by
    have e := hm2 h
    cases hq : mtN N t with
    | none => rw [gnN_none (e.trans hq), gnN_none hq]
    | some k => rw [gnN_s (e.trans hq), gnN_s hq, nmN_ap (mtN_lt hq).1]
  refine ⟨fun k hk => ?_, by rw [hL, List.length_append]; show _ ≤ 2 * (rows.length + 1); omega, fun k hk => ?_, fun k j hk hj => ?_, fun t => ?_, fun t => ?_, fun x hx => ?_, fun k hk => ?_⟩
  · rw [hL] at hk
    rcases lt_ap hk with q | q
    · rw [nmN_ap q, List.length_append]; exact ⟨Nat.lt_succ_of_lt (i1 k q).1, (i1 k q).2⟩
    · subst q; rw [nmN_ap2, List.length_append]; exact ⟨Nat.lt_succ_self _, Or.inl rfl⟩
  · rw [hL] at hk
    rcases lt_ap hk with q | q
    · rw [nmN_ap q, hm2 (hnk k q)]; exact i3 k q
    · subst q; rw [nmN_ap2]; exact hm1
  · rw [hL] at hk hj
    rcases lt_ap hk with q | q <;> rcases lt_ap hj with p | p
    · rw [nmN_ap q, nmN_ap p]; exact i4 k j q p
    · subst p; rw [nmN_ap q, nmN_ap2]; exact fun _ _ z => absurd z (Nat.ne_of_lt (i1 k q).1)
    · subst q; rw [nmN_ap p, nmN_ap2]; exact fun _ _ z => absurd z.symm (Nat.ne_of_lt (i1 j p).1)
    · exact fun _ _ _ => q.trans p.symm
  · rw [oS_ap]
    by_cases e : ra r = t
    · subst e
      rw [if_neg (show ¬ gS (ra r) rows = true from by rw [i6, gnN_none hm]; decide), if_neg (fun z => h3 z.1), if_pos rfl, oN_1 hm1 (by rw [nmN_ap2]), nmN_ap2]
      rw [ho]; exact ogI_ap2.symm
    · rw [if_neg (c := rk r = 3 ∧ rn r = t) (fun z => h3 z.1), if_neg e, g_os I, i5, hoN e]
  · rw [gS_ap, decide_eq_false (fun z => h3 z.1), Bool.or_false, i6]
    by_cases e : ra r = t
    · subst e; rw [gnN_none hm, gnN_s hm1, nmN_ap2]; exact (decide_eq_false (show ¬ (1 : Int32) = 2 by decide)).symm
    · exact (hgN e).symm
  · rcases List.mem_append.mp hx with q | q
    · obtain ⟨k, k1, k2⟩ := i7 x q
      have hk := (mtN_lt k1).1
      refine ⟨k, by rw [hm2 (fun z => by rw [z, k1] at hm; cases hm)]; exact k1, ?_⟩
      rw [nmN_ap hk, ogI_ap (i1 k hk).1]; exact k2
    · rw [List.mem_singleton.mp q]
      exact ⟨N.length, hm1, by rw [nmN_ap2, ho]; exact ogI_ap2.symm⟩
  · rw [hL] at hk
    rcases lt_ap hk with q | q
    · obtain ⟨x, x1, x2⟩ := i8 k q
      exact ⟨x, List.mem_append_left _ x1, by rw [nmN_ap q]; exact x2⟩
    · subst q; exact ⟨r, List.mem_append_right _ (List.mem_singleton.mpr rfl), by rw [nmN_ap2]⟩
theorem map_set1 {k : Nat} {e : Nm} (h : k < N.length) (he : e.1 = (nmN N k).1) : (N.set k e).map (·.1) = N.map (·.1) := by
  rw [List.map_set, he]
  apply List.ext_getElem?
  intro j
  rw [List.getElem?_set]
  by_cases q : k = j
  · subst q
    rw [if_pos rfl, if_pos (by rw [List.length_map]; exact h), List.getElem?_map, List.getElem?_eq_getElem h]
    show some (N.getD k ([], 0, 0)).1 = _
    rw [List.getD_eq_getElem?_getD, List.getElem?_eq_getElem h]
    rfl
  · rw [if_neg q]
theorem N_move (I : InvN rows N og) {k : Nat} (h3 : rk r = 3) (hk : mtN N (rn r) = some k) (hs : (nmN N k).2.1 = 1) (ho : ro r = ogI og (nmN N k).2.2) (hm : mtN N (ra r) = none) : InvN (rows ++ [r]) (N.set k ((nmN N k).1, 2, (nmN N k).2.2) ++ [(ra r, 1, (nmN N k).2.2)]) og := by
  obtain ⟨i1, i2, i3, i4, i5, i6, i7, i8⟩ := id I
  obtain ⟨k1, k2⟩ := mtN_lt hk
  have hset : ∀ t, mtN (N.set k ((nmN N k).1, 2, (nmN N k).2.2)) t = mtN N t := fun t => mtL_map t _ _ 0 none (map_set1 k1 rfl)
  have hlen : (N.set k ((nmN N k).1, 2, (nmN N k).2.2)).length = N.length := List.length_set
  have hg : ∀ j, j < N.length → nmN (N.set k ((nmN N k).1, 2, (nmN N k).2.2)) j = if j = k then ((nmN N k).1, 2, (nmN N k).2.2) else nmN N j := fun j hj => getD_set hj
  have hL : (N.set k ((nmN N k).1, 2, (nmN N k).2.2) ++ [((ra r, 1, (nmN N k).2.2) : Nm)]).length = N.length + 1 := by rw [List.length_append, hlen]; rfl
  generalize hN1 : N.set k ((nmN N k).1, 2, (nmN N k).2.2) = N1 at hset hlen hg hL ⊢
  have ht : ∀ j, j < N.length → (nmN N1 j).1 = (nmN N j).1 := fun j hj => by
    rw [hg j hj]; by_cases e : j = k
    · rw [if_pos e, e]
    · rw [if_neg e]
  have hw : ∀ j, j < N.length → (nmN N1 j).2.2 = (nmN N j).2.2 := fun j hj => by
    rw [hg j hj]; by_cases e : j = k
    · rw [if_pos e, e]
    · rw [if_neg e]
  have hst : ∀ j, j < N.length → j ≠ k → (nmN N1 j).2.1 = (nmN N j).2.1 := fun j hj e => by rw [hg j hj, if_neg e]
  have hsk : (nmN N1 k).2.1 = 2 := by rw [hg k k1, if_pos rfl]
  have hA : ∀ j, j < N.length → nmN (N1 ++ [(ra r, 1, (nmN N k).2.2)]) j = nmN N1 j := fun j hj => nmN_ap (by rw [hlen]; exact hj)
  have hB : nmN (N1 ++ [(ra r, 1, (nmN N k).2.2)]) N.length = (ra r, 1, (nmN N k).2.2) := by rw [← hlen]; exact nmN_ap2
  have hm1 : mtN (N1 ++ [(ra r, 1, (nmN N k).2.2)]) (ra r) = some N.length := by rw [mtN_ap, if_pos rfl, hlen]
  have hm2 : ∀ {t : List Nat}, ra r ≠ t → mtN (N1 ++ [(ra r, 1, (nmN N k).2.2)]) t = mtN N t := fun h => by rw [mtN_ap, if_neg h, hset]
  have hrn : ra r ≠ rn r := fun z => by rw [z, hk] at hm; cases hm
  have hnk : ∀ j, j < N.length → ra r ≠ (nmN N j).1 := fun j hj z => by
    have := i3 j hj
    rw [← z, hm] at this
    cases this
  have hoN : ∀ {t : List Nat}, ra r ≠ t → rn r ≠ t → oN (N1 ++ [(ra r, 1, (nmN N k).2.2)]) og t = oN N og t := fun {t} h h9 => by
    have e := hm2 h
    cases hq : mtN N t with
    | none => rw [oN_none (e.trans hq), oN_none hq]
    | some j =>
      obtain ⟨hj, hj2⟩ := mtN_lt hq
      have hjk : j ≠ k := fun z => by subst z; exact h9 (k2.symm.trans hj2)
      by_cases hs2 : (nmN N j).2.1 = 1
      · rw [oN_1 (e.trans hq) (by rw [hA j hj, hst j hj hjk]; exact hs2), oN_1 hq hs2, hA j hj, hw j hj]
      · rw [oN_2 (e.trans hq) (by rw [hA j hj, hst j hj hjk]; exact hs2), oN_2 hq hs2]
  refine ⟨fun j hj => ?_, by rw [hL, List.length_append]; show _ ≤ 2 * (rows.length + 1); omega, fun j hj => ?_, fun j j2 hj hj2 => ?_, fun t => ?_, fun t => ?_, fun x hx => ?_, fun j hj => ?_⟩
  · rw [hL] at hj
    rcases lt_ap hj with q | q
    · rw [hA j q, hw j q]
      refine ⟨(i1 j q).1, ?_⟩
      by_cases e : j = k
      · subst e; exact Or.inr hsk
      · rw [hst j q e]; exact (i1 j q).2
    · subst q; rw [hB]; exact ⟨(i1 k k1).1, Or.inl rfl⟩
  · rw [hL] at hj
    rcases lt_ap hj with q | q
    · rw [hA j q, ht j q, hm2 (hnk j q)]; exact i3 j q
    · subst q; rw [hB]; exact hm1
  · rw [hL] at hj hj2
    rcases lt_ap hj with q | q <;> rcases lt_ap hj2 with p | p
    · rw [hA j q, hA j2 p, hw j q, hw j2 p]
      intro a1 a2 a3
      have e1 : j ≠ k := fun z => by subst z; rw [hsk] at a1; exact absurd a1 (by decide)
      have e2 : j2 ≠ k := fun z => by subst z; rw [hsk] at a2; exact absurd a2 (by decide)
      rw [hst j q e1] at a1
      rw [hst j2 p e2] at a2
      exact i4 j j2 q p a1 a2 a3
    · subst p
      rw [hA j q, hB, hw j q]
      intro a1 a2 a3
      have e1 : j ≠ k := fun z => by subst z; rw [hsk] at a1; exact absurd a1 (by decide)
      rw [hst j q e1] at a1
      exact absurd (i4 j k q k1 a1 hs a3) e1
    · subst q
      rw [hA j2 p, hB, hw j2 p]
      intro a1 a2 a3
      have e2 : j2 ≠ k := fun z => by subst z; rw [hsk] at a2; exact absurd a2 (by decide)
      rw [hst j2 p e2] at a2
      exact absurd (i4 j2 k p k1 a2 hs a3.symm) e2
    · exact fun _ _ _ => q.trans p.symm
  · rw [oS_ap]
    by_cases e : ra r = t
    · subst e
      rw [if_neg (show ¬ gS (ra r) rows = true from by rw [i6, gnN_none hm]; decide), if_neg (fun z => hrn z.2.symm), if_pos rfl, oN_1 hm1 (by rw [hB]), hB]
      exact ho
    · by_cases e2 : rn r = t
      · subst e2
        have hk9 := (hm2 e).trans hk
        rw [oN_2 hk9 (by rw [hA k k1, hsk]; decide), if_pos (c := rk r = 3 ∧ rn r = rn r) ⟨h3, rfl⟩]
        split <;> rfl
      · rw [if_neg (c := rk r = 3 ∧ rn r = t) (fun z => e2 z.2), if_neg e, g_os I, i5, hoN e e2]
  · rw [gS_ap, i6]
    by_cases e : ra r = t
    · subst e; rw [gnN_none hm, gnN_s hm1, hB, decide_eq_false (fun z => hrn z.2.symm)]; exact (decide_eq_false (show ¬ (1 : Int32) = 2 by decide)).symm
    · have hq2 := hm2 e
      by_cases e2 : rn r = t
      · subst e2
        rw [decide_eq_true ⟨h3, rfl⟩, Bool.or_true, gnN_s (hq2.trans hk), hA k k1, hsk]; decide
      · rw [decide_eq_false (fun z => e2 z.2), Bool.or_false]
        cases hq : mtN N t with
        | none => rw [gnN_none hq, gnN_none (hq2.trans hq)]
        | some j =>
          obtain ⟨hj, hj2⟩ := mtN_lt hq
          rw [gnN_s hq, gnN_s (hq2.trans hq), hA j hj, hst j hj (fun z => by subst z; exact e2 (k2.symm.trans hj2))]
  · rcases List.mem_append.mp hx with q | q
    · obtain ⟨j, j1, j2⟩ := i7 x q
      have hj := (mtN_lt j1).1
      refine ⟨j, by rw [hm2 (fun z => by rw [z, j1] at hm; cases hm)]; exact j1, ?_⟩
      rw [hA j hj, hw j hj]; exact j2
    · rw [List.mem_singleton.mp q]
      exact ⟨N.length, hm1, by rw [hB]; exact ho⟩
  · rw [hL] at hj
    rcases lt_ap hj with q | q
    · obtain ⟨x, x1, x2⟩ := i8 j q
      exact ⟨x, List.mem_append_left _ x1, by rw [hA j q, ht j q]; exact x2⟩
    · subst q; exact ⟨r, List.mem_append_right _ (List.mem_singleton.mpr rfl), by rw [hB]⟩
theorem len_ap1 : (rows ++ [r]).length = rows.length + 1 := by rw [List.length_append]; rfl
theorem O_keep (I : InvO rows O og) (h2 : ¬ rk r = 2) : InvO (rows ++ [r]) O og := by
  obtain ⟨i1, i2, i3, i4, i5⟩ := I
  refine ⟨i1, i2, fun i hi => ?_, fun i hi q hq => ?_, i5⟩
  · rw [len_ap1, getD_ap (i3 i hi).1]; exact ⟨Nat.lt_succ_of_lt (i3 i hi).1, (i3 i hi).2⟩
  · rw [hrS_ap, if_neg (fun z => h2 z.1)]; exact i4 i hi q hq
theorem isP_lt {q : Int32} (h : isP q = true) : q.toNatClampNeg < 8 ∧ q = nI q.toNatClampNeg := by
  have h := of_decide_eq_true h
  obtain ⟨n, hn, e⟩ := nI_of (Int32.not_lt.mpr h.1)
  subst e
  rw [nI_clamp hn]
  exact ⟨(nI_ltI hn (by decide)).mp h.2, rfl⟩
theorem rbit_0 : ∀ w, w < 8 → rbit 0 w = false := by decide
theorem O_new (I : InvO rows O og) (h2 : ¬ rk r = 2) (hl : rows.length < 120) (hp : isP (rp r) = true) (hf : ∀ x ∈ rows, ro x ≠ nI rows.length) : InvO (rows ++ [r]) (O ++ [(rp r, 0)]) (og ++ [rows.length]) := by
  obtain ⟨i1, i2, i3, i4, i5⟩ := I
  have hL : (og ++ [rows.length]).length = og.length + 1 := by rw [List.length_append]; rfl
  have hA : ∀ i, i < og.length → owN (O ++ [(rp r, 0)]) i = owN O i := fun i hi => getD_ap (by omega)
  have hB : owN (O ++ [(rp r, 0)]) og.length = (rp r, 0) := by rw [i1]; exact getD_ap2
  refine ⟨by rw [hL, List.length_append, i1]; rfl, fun i j hi hj => ?_, fun i hi => ?_, fun i hi q hq => ?_, fun i hi => ?_⟩
  · rw [hL] at hi hj
    rcases lt_ap hi with q | q <;> rcases lt_ap hj with p | p
    · rw [getD_ap q, getD_ap p]; exact i2 i j q p
    · subst p; rw [getD_ap q, getD_ap2]; exact fun z => absurd z (Nat.ne_of_lt (i3 i q).1)
    · subst q; rw [getD_ap p, getD_ap2]; exact fun z => absurd z.symm (Nat.ne_of_lt (i3 j p).1)
    · exact fun _ => q.trans p.symm
  · rw [hL] at hi
    rcases lt_ap hi with q | q
    · rw [getD_ap q, len_ap1, getD_ap (i3 i q).1, hA i q]; exact ⟨Nat.lt_succ_of_lt (i3 i q).1, (i3 i q).2⟩
    · subst q; rw [getD_ap2, len_ap1, getD_ap2, hB]; exact ⟨Nat.lt_succ_self _, rfl⟩
  · rw [hL] at hi
    rw [hrS_ap, if_neg (fun z => h2 z.1)]
    rcases lt_ap hi with p | p
    · rw [ogI_ap p, hA i p]; exact i4 i p q hq
    · subst p
      rw [ogI_ap2, hB, fr_hr q _ hf]
      show _ = (_ || rbit 0 _)
      rw [rbit_0 _ (isP_lt hq).1, Bool.or_false]
  · rw [hL] at hi
    rcases lt_ap hi with p | p
    · rw [hA i p]; exact i5 i p
    · subst p; rw [hB]; exact hp
theorem and_1 {a : Int32} : a &&& 1 = 1 ↔ a.toBitVec.getLsbD 0 = true := by
  rw [← Int32.toBitVec_inj, Int32.toBitVec_and]
  show a.toBitVec &&& 1#32 = 1#32 ↔ _
  rw [BitVec.and_one_eq_setWidth_ofBool_getLsbD]
  cases a.toBitVec.getLsbD 0 <;> decide
theorem sm_w : ∀ w, w < 8 → ((nI w &&& 31).toBitVec.smod 32#32).toNat = w := by decide
theorem rbit_g {r : Int32} {w : Nat} (h : w < 8) : rbit r w = r.toBitVec.getLsbD w := by
  have e : (r >>> (nI w &&& 31)).toBitVec = r.toBitVec.sshiftRight w := by
    show r.toBitVec.sshiftRight ((nI w &&& 31).toBitVec.smod 32#32).toNat = _
    rw [sm_w w h]
  unfold rbit
  rw [Bool.eq_iff_iff, decide_eq_true_eq, and_1, e, BitVec.getLsbD_sshiftRight]
  simp
  omega
theorem bit_m : ∀ w, w < 8 → ∀ u, u < 8 → (bitS (nI w)).toBitVec.getLsbD u = decide (u = w) := by decide
theorem bit_n : ∀ w, w < 8 → ∀ u, u < 8 → (bitS (nI w) ^^^ (-1)).toBitVec.getLsbD u = !decide (u = w) := by decide
theorem rg_bit {w u : Nat} (hw : w < 8) (hu : u < 8) (b : Bool) (r : Int32) : rbit (rgS r (nI w) (bI b)) u = if u = w then b else rbit r u := by
  rw [rbit_g hu, rbit_g hu]
  unfold rgS
  cases b
  · rw [if_neg (show ¬ bI false = 1 by decide), Int32.toBitVec_and, BitVec.getLsbD_and, bit_n w hw u hu]
    by_cases e : u = w
    · rw [if_pos e, decide_eq_true e, Bool.not_true, Bool.and_false]
    · rw [if_neg e, decide_eq_false e, Bool.not_false, Bool.and_true]
  · rw [if_pos (show bI true = 1 by decide), Int32.toBitVec_or, BitVec.getLsbD_or, bit_m w hw u hu]
    by_cases e : u = w
    · rw [if_pos e, decide_eq_true e, Bool.or_true]
    · rw [if_neg e, decide_eq_false e, Bool.or_false]
theorem rg_same (w : Nat) (hw : w < 8) (b : Bool) (r : Int32) : rbit (rgS r (nI w) (bI b)) w = b := by rw [rg_bit hw hw, if_pos rfl]
theorem rg_other (w : Nat) (hw : w < 8) (u : Nat) (hu : u < 8) (h : w ≠ u) (b : Bool) (r : Int32) : rbit (rgS r (nI w) (bI b)) u = rbit r u := by rw [rg_bit hw hu, if_neg (fun z => h z.symm)]
theorem og_e (I : InvO rows O og) (hl : rows.length ≤ 120) {i j : Nat} (hi : i < og.length) (hj : j < og.length) : ogI og i = ogI og j ↔ i = j := by
  have h1 := (I.2.2.1 i hi).1
  have h2 := (I.2.2.1 j hj).1
  exact ⟨fun z => I.2.1 i j hi hj ((nI_eq (by omega) (by omega)).mp z), fun z => by rw [z]⟩
theorem O_gra (I : InvO rows O og) (hl : rows.length ≤ 120) {i : Nat} {on : Bool} (h2 : rk r = 2) (hi : i < og.length) (ho : ro r = ogI og i) (hp : isP (r2 r) = true) (hf : r2 r ≠ (owN O i).1) (h3 : r3 r = bI on) : InvO (rows ++ [r]) (O.set i ((owN O i).1, rgS (owN O i).2 (r2 r) (r3 r))) og := by
  have he := fun {j} (hj : j < og.length) => og_e I hl hi hj
  obtain ⟨i1, i2, i3, i4, i5⟩ := I
  have hg : ∀ j, j < og.length → owN (O.set i ((owN O i).1, rgS (owN O i).2 (r2 r) (r3 r))) j = if j = i then ((owN O i).1, rgS (owN O i).2 (r2 r) (r3 r)) else owN O j := fun j hj => getD_set (by omega)
  have hfo : ∀ j, j < og.length → (owN (O.set i ((owN O i).1, rgS (owN O i).2 (r2 r) (r3 r))) j).1 = (owN O j).1 := fun j hj => by
    rw [hg j hj]
    by_cases e : j = i
    · rw [if_pos e, e]
    · rw [if_neg e]
  refine ⟨by rw [List.length_set]; exact i1, i2, fun j hj => ?_, fun j hj q hq => ?_, fun j hj => by rw [hfo j hj]; exact i5 j hj⟩
  · rw [len_ap1, getD_ap (i3 j hj).1, hfo j hj]; exact ⟨Nat.lt_succ_of_lt (i3 j hj).1, (i3 j hj).2⟩
  · rw [hrS_ap, hfo j hj, hg j hj]
    obtain ⟨q1, q2⟩ := isP_lt hq
    obtain ⟨p1, p2⟩ := isP_lt hp
    by_cases e : j = i
    · subst e
      rw [if_pos rfl]
      by_cases e2 : r2 r = q
      · rw [if_pos ⟨h2, ho, e2⟩, decide_eq_false (p := (owN O j).1 = q) (fun z => hf (by rw [e2, z])), Bool.false_or]
        subst e2
        show _ = rbit (rgS _ _ _) _
        rw [h3]
        have := rg_same _ p1 on (owN O j).2
        rw [← p2] at this
        rw [this]
        cases on <;> decide
      · rw [if_neg (fun z => e2 z.2.2), i4 j hj q hq]
        congr 1
        show _ = rbit (rgS _ _ _) _
        rw [h3]
        have := rg_other _ p1 _ q1 (fun z => e2 (by rw [p2, q2, z])) on (owN O j).2
        rw [← p2] at this
        exact this.symm
    · rw [if_neg e, if_neg (fun z => e ((he hj).mp (ho.symm.trans z.2.1)).symm)]
      exact i4 j hj q hq
theorem V_keep (I : InvV rows V og) (h0 : ¬ rk r = 0) (h1 : ¬ rk r = 1) (hl : rows.length ≤ 120) : InvV (rows ++ [r]) V og := by
  obtain ⟨i1, i2⟩ := I
  refine ⟨fun i hi v => ⟨fun h => ?_, fun j h => ?_⟩, i2⟩
  · rw [pubS_ap _ _ _ _ _ (by omega), ynS_ap, ((i1 i hi v).1 h).1, if_pos rfl, if_neg (c := rk r = 0 ∧ _) (fun z => h0 z.1), if_neg (c := rk r = 1 ∧ _) (fun z => h1 z.1)]
    exact ⟨rfl, ((i1 i hi v).1 h).2⟩
  · obtain ⟨z, z1, z2, z3, z4, z5⟩ := (i1 i hi v).2 j h
    refine ⟨z, by rw [len_ap1]; omega, ?_, by rw [getD_ap z1]; exact z3, z4, ?_⟩
    · rw [pubS_ap _ _ _ _ _ (by omega), z2, if_neg (nI_m1 (by omega))]
    · rw [ynS_ap, if_neg (fun z => h1 z.1)]; exact z5
theorem V_fresh (I : InvV rows V og) (hf : ∀ x ∈ rows, ro x ≠ nI rows.length) : InvV rows V (og ++ [rows.length]) := by
  obtain ⟨i1, i2⟩ := I
  have hL : (og ++ [rows.length]).length = og.length + 1 := by rw [List.length_append]; rfl
  refine ⟨fun i hi v => ?_, fun j hj => by rw [hL]; exact Nat.lt_succ_of_lt (i2 j hj)⟩
  rw [hL] at hi
  rcases lt_ap hi with p | p
  · rw [ogI_ap p]; exact i1 i p v
  · subst p
    rw [ogI_ap2]
    refine ⟨fun _ => ⟨fr_pub v 0 hf, fr_yn v false hf⟩, fun j h => ?_⟩
    obtain ⟨j1, j2, -⟩ := vtN_lt h
    have := i2 j j1
    omega
theorem V_pub (I : InvV rows V og) (hl : rows.length < 120) (hinj : ∀ {i j : Nat}, i < og.length → j < og.length → (ogI og i = ogI og j ↔ i = j)) {i : Nat} (h0 : rk r = 0) (hi : i < og.length) (ho : ro r = ogI og i) (hv : vtN V i (r2 r) = none) : InvV (rows ++ [r]) (V ++ [(i, r2 r, r3 r, 0)]) og := by
  obtain ⟨i1, i2⟩ := I
  have h1 : ¬ rk r = 1 := fun z => by rw [h0] at z; exact absurd z (by decide)
  have hA : ∀ j, j < V.length → veN (V ++ [(i, r2 r, r3 r, 0)]) j = veN V j := fun j hj => getD_ap hj
  have hB : veN (V ++ [(i, r2 r, r3 r, 0)]) V.length = (i, r2 r, r3 r, 0) := getD_ap2
  refine ⟨fun k hk v => ?_, fun j hj => ?_⟩
  · by_cases e : i = k ∧ r2 r = v
    · obtain ⟨e1, e2⟩ := e
      subst e1; subst e2
      have hm : vtN (V ++ [(i, r2 r, r3 r, 0)]) i (r2 r) = some V.length := by rw [vtN_ap, if_pos ⟨rfl, rfl⟩]
      rw [hm]
      refine ⟨fun h => (by cases h), fun j h => ?_⟩
      cases h
      refine ⟨rows.length, by rw [len_ap1]; omega, ?_, by rw [getD_ap2, hB], Or.inl (by rw [hB]), ?_⟩
      · rw [pubS_ap _ _ _ _ _ (by omega), ((i1 i hi _).1 hv).1, if_pos rfl, if_pos ⟨h0, ho, rfl⟩, Nat.zero_add]
      · rw [ynS_ap, if_neg (fun z => h1 z.1), ((i1 i hi _).1 hv).2, hB]; exact (decide_eq_false (show ¬ (0 : Int32) = 1 by decide)).symm
    · have hm : vtN (V ++ [(i, r2 r, r3 r, 0)]) k v = vtN V k v := by rw [vtN_ap, if_neg e]
      rw [hm]
      have hn : ¬ (rk r = 0 ∧ ro r = ogI og k ∧ r2 r = v) := fun z => e ⟨(hinj hi hk).mp (ho.symm.trans z.2.1), z.2.2⟩
      refine ⟨fun h => ?_, fun j h => ?_⟩
      · rw [pubS_ap _ _ _ _ _ (by omega), ynS_ap, ((i1 k hk v).1 h).1, if_pos rfl, if_neg hn, if_neg (c := rk r = 1 ∧ _) (fun z => h1 z.1)]
        exact ⟨rfl, ((i1 k hk v).1 h).2⟩
      · obtain ⟨z, z1, z2, z3, z4, z5⟩ := (i1 k hk v).2 j h
        rw [hA j (vtN_lt h).1]
        refine ⟨z, by rw [len_ap1]; omega, ?_, by rw [getD_ap z1]; exact z3, z4, ?_⟩
        · rw [pubS_ap _ _ _ _ _ (by omega), z2, if_neg (nI_m1 (by omega))]
        · rw [ynS_ap, if_neg (fun z => h1 z.1)]; exact z5
  · rw [List.length_append] at hj
    rcases lt_ap hj with p | p
    · rw [hA j p]; exact i2 j p
    · subst p; rw [hB]; exact hi
theorem map_set2 {k : Nat} {e : Ve} (h : k < V.length) (he : (e.1, e.2.1) = ((veN V k).1, (veN V k).2.1)) : (V.set k e).map (fun e => (e.1, e.2.1)) = V.map (fun e => (e.1, e.2.1)) := by
  rw [List.map_set, he]
  apply List.ext_getElem?
  intro j
  rw [List.getElem?_set]
  by_cases q : k = j
  · subst q
    rw [if_pos rfl, if_pos (by rw [List.length_map]; exact h), List.getElem?_map, List.getElem?_eq_getElem h]
    show some ((V.getD k (0, 0, 0, 0)).1, (V.getD k (0, 0, 0, 0)).2.1) = _
    rw [List.getD_eq_getElem?_getD, List.getElem?_eq_getElem h]
    rfl
  · rw [if_neg q]
theorem V_yan (I : InvV rows V og) (hl : rows.length ≤ 120) (hinj : ∀ {i j : Nat}, i < og.length → j < og.length → (ogI og i = ogI og j ↔ i = j)) {i j : Nat} {on : Bool} (h1 : rk r = 1) (hi : i < og.length) (ho : ro r = ogI og i) (hv : vtN V i (r2 r) = some j) (h3 : r3 r = bI on) : InvV (rows ++ [r]) (V.set j ((veN V j).1, (veN V j).2.1, (veN V j).2.2.1, r3 r)) og := by
  obtain ⟨i1, i2⟩ := I
  obtain ⟨j1, j2, j3⟩ := vtN_lt hv
  have h0 : ¬ rk r = 0 := fun z => by rw [h1] at z; exact absurd z (by decide)
  have hset : ∀ o v, vtN (V.set j ((veN V j).1, (veN V j).2.1, (veN V j).2.2.1, r3 r)) o v = vtN V o v := fun o v => vtL_map o v _ _ 0 none (map_set2 j1 rfl)
  have hg : ∀ k, k < V.length → veN (V.set j ((veN V j).1, (veN V j).2.1, (veN V j).2.2.1, r3 r)) k = if k = j then ((veN V j).1, (veN V j).2.1, (veN V j).2.2.1, r3 r) else veN V k := fun k hk => getD_set hk
  refine ⟨fun k hk v => ?_, fun k hk => ?_⟩
  · rw [hset k v]
    have hpub : ∀ x, pubS (ogI og k) v rows 0 = x → pubS (ogI og k) v (rows ++ [r]) 0 = x := fun x hx => by
      rw [pubS_ap _ _ _ _ _ (by omega), if_neg (c := rk r = 0 ∧ _) (fun z => h0 z.1)]
      by_cases e : pubS (ogI og k) v rows 0 = -1
      · rw [if_pos e, ← e]; exact hx
      · rw [if_neg e]; exact hx
    by_cases e : i = k ∧ r2 r = v
    · obtain ⟨e1, e2⟩ := e
      subst e1; subst e2
      rw [hv]
      refine ⟨fun h => (by cases h), fun q h => ?_⟩
      cases h
      obtain ⟨z, z1, z2, z3, z4, z5⟩ := (i1 i hi _).2 j hv
      rw [hg j j1, if_pos rfl]
      refine ⟨z, by rw [len_ap1]; omega, hpub _ z2, by rw [getD_ap z1]; exact z3, ?_, ?_⟩
      · show r3 r = 0 ∨ r3 r = 1
        rw [h3]; cases on
        · exact Or.inl rfl
        · exact Or.inr rfl
      · rw [ynS_ap, if_pos ⟨h1, ho, rfl⟩]
    · have hn : ¬ (rk r = 1 ∧ ro r = ogI og k ∧ r2 r = v) := fun z => e ⟨(hinj hi hk).mp (ho.symm.trans z.2.1), z.2.2⟩
      refine ⟨fun h => ⟨hpub _ ((i1 k hk v).1 h).1, by rw [ynS_ap, if_neg hn]; exact ((i1 k hk v).1 h).2⟩, fun q h => ?_⟩
      obtain ⟨z, z1, z2, z3, z4, z5⟩ := (i1 k hk v).2 q h
      obtain ⟨q1, q2, q3⟩ := vtN_lt h
      have hqj : q ≠ j := fun y => by subst y; exact e ⟨j2.symm.trans q2, j3.symm.trans q3⟩
      rw [hg q q1, if_neg hqj]
      exact ⟨z, by rw [len_ap1]; omega, hpub _ z2, by rw [getD_ap z1]; exact z3, z4, by rw [ynS_ap, if_neg hn]; exact z5⟩
  · rw [List.length_set] at hk
    rw [hg k hk]
    by_cases e : k = j
    · rw [if_pos e]; exact i2 j j1
    · rw [if_neg e]; exact i2 k hk
end STEP
