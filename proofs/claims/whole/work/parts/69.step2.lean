/-! rows that may come, one behind the other; they keep the tables -/
def okR (rows : List Rw) (r : Rw) : Prop := rows.length < 120 ∧ isP (rp r) = true ∧ (nameS (rn r) = true ∧ nameS (ra r) = true) ∧
  ((rk r = 0 ∧ ra r = rn r ∧ pubC rows (rn r) (rp r) (r2 r) = true ∧ ro r = (if oS (rn r) rows (-1) = -1 then nI rows.length else oS (rn r) rows (-1))) ∨
   (rk r = 1 ∧ ra r = rn r ∧ ro r = oS (rn r) rows (-1) ∧ ∃ on, r3 r = bI on ∧ yanC rows (rn r) (rp r) (r2 r) on = true) ∨
   (rk r = 2 ∧ ra r = rn r ∧ isP (r2 r) = true ∧ ro r = oS (rn r) rows (-1) ∧ ∃ on, r3 r = bI on ∧ graC rows (rn r) (rp r) (r2 r) on = true) ∨
   (rk r = 3 ∧ ro r = oS (rn r) rows (-1) ∧ movC rows (rn r) (ra r) (rp r) = true))
theorem and2 {a b : Bool} (h : (a && b) = true) : a = true ∧ b = true := by
  cases a <;> cases b <;> first | exact ⟨rfl, rfl⟩ | cases h
theorem InvR_step {rows : List Rw} {tb : Tb} {og : List Nat} {r : Rw} (I : InvR rows tb og) (h : okR rows r) : ∃ tb2 og2, InvR (rows ++ [r]) tb2 og2 := by
  obtain ⟨N, O, V⟩ := tb
  obtain ⟨hl, hp, -, h⟩ := h
  have hl2 : (rows ++ [r]).length ≤ 120 := by rw [len_ap1]; omega
  have hfo := foT_ap I.fo r
  have IN : InvN rows N og := I.2.2.1
  have JO : InvO rows O og := I.2.2.2.1
  have IV : InvV rows V og := I.2.2.2.2
  have hinj : ∀ {i j : Nat}, i < og.length → j < og.length → (ogI og i = ogI og j ↔ i = j) := fun h1 h2 => og_e JO I.len h1 h2
  rcases h with ⟨h0, hra, hc, ho⟩ | ⟨h1, hra, ho, on, h3, hc⟩ | ⟨h2, hra, hq, ho, on, h3, hc⟩ | ⟨h3, ho, hc⟩
  · have n3 : ¬ rk r = 3 := by rw [h0]; decide
    have n2 : ¬ rk r = 2 := by rw [h0]; decide
    rw [I.pub_eq hp, pubT] at hc
    rw [stT] at hfo
    cases hm : mtT (N, O, V) (rn r) with
    | none =>
      rw [hm] at hfo
      rw [I.os_none hm, if_pos rfl] at ho
      have hm2 : mtN N (ra r) = none := by rw [hra]; exact hm
      have hfo : foT (rows ++ [r]) = if rk r = 0 then some (N ++ [(rn r, 1, O.length)], O ++ [(rp r, 0)], V ++ [(O.length, r2 r, r3 r, 0)]) else none := hfo
      rw [if_pos h0, ← JO.1, ← hra] at hfo
      have JO2 := O_new JO n2 hl hp I.ro_new
      exact ⟨_, og ++ [rows.length], hl2, hfo, N_new IN n3 hm2 ho, JO2, V_pub (V_fresh IV I.ro_new) hl (fun a b => og_e JO2 hl2 a b) h0 (by rw [List.length_append]; exact Nat.lt_succ_self _) (by rw [ho]; exact ogI_ap2.symm) (by
        cases hv : vtN V og.length (r2 r) with
        | none => rfl
        | some j =>
          obtain ⟨j1, j2, -⟩ := vtN_lt hv
          have := IV.2 j j1
          omega)⟩
    | some k =>
      rw [hm] at hfo hc
      obtain ⟨hc1, hc2⟩ := and2 hc
      have hs := (of_decide_eq_true hc1).1
      obtain ⟨k1, k2⟩ := mtT_txt hm
      have hi := (I.nmo k k1).1
      have hfo : foT (rows ++ [r]) = if rk r = 0 then some (N, O, V ++ [((nmT (N, O, V) k).2.2, r2 r, r3 r, 0)]) else _ := hfo
      rw [if_pos h0] at hfo
      rw [I.os_1 hm hs, if_neg (nI_m1 (by have := I.og_lt hi; omega))] at ho
      exact ⟨_, og, hl2, hfo, N_keep IN n3 (by rw [hra]; exact hm) hs ho, O_keep JO n2, V_pub IV hl hinj h0 hi ho (of_decide_eq_true hc2)⟩
  · have n3 : ¬ rk r = 3 := by rw [h1]; decide
    have n2 : ¬ rk r = 2 := by rw [h1]; decide
    have n0 : ¬ rk r = 0 := by rw [h1]; decide
    rw [I.yan_eq hp, yanT] at hc
    rw [stT] at hfo
    cases hm : mtT (N, O, V) (rn r) with
    | none => rw [hm] at hc; cases hc
    | some k =>
      rw [hm] at hfo hc
      obtain ⟨hc1, hc2⟩ := and2 hc
      have hs := (of_decide_eq_true hc1).1
      obtain ⟨k1, k2⟩ := mtT_txt hm
      have hi := (I.nmo k k1).1
      rw [I.os_1 hm hs] at ho
      cases hv : vtT (N, O, V) (nmT (N, O, V) k).2.2 (r2 r) with
      | none => rw [hv] at hc2; cases hc2
      | some j =>
        have hfo : foT (rows ++ [r]) = if rk r = 0 then _ else if rk r = 1 then (match vtT (N, O, V) (nmT (N, O, V) k).2.2 (r2 r) with
          | none => none
          | some j => some (N, O, V.set j ((veT (N, O, V) j).1, (veT (N, O, V) j).2.1, (veT (N, O, V) j).2.2.1, r3 r))) else _ := hfo
        rw [if_neg n0, if_pos h1, hv] at hfo
        exact ⟨_, og, hl2, hfo, N_keep IN n3 (by rw [hra]; exact hm) hs ho, O_keep JO n2, V_yan IV I.len hinj h1 hi ho hv h3⟩
  · have n3 : ¬ rk r = 3 := by rw [h2]; decide
    have n1 : ¬ rk r = 1 := by rw [h2]; decide
    have n0 : ¬ rk r = 0 := by rw [h2]; decide
    rw [I.gra_eq hp hq, graT] at hc
    rw [stT] at hfo
    cases hm : mtT (N, O, V) (rn r) with
    | none => rw [hm] at hc; cases hc
    | some k =>
      rw [hm] at hfo hc
      obtain ⟨hc1, hc2⟩ := and2 hc
      obtain ⟨hc3, hc4⟩ := and2 hc2
      obtain ⟨hs, hf⟩ := of_decide_eq_true hc1
      have hne := of_decide_eq_true hc3
      obtain ⟨k1, k2⟩ := mtT_txt hm
      have hi := (I.nmo k k1).1
      rw [I.os_1 hm hs] at ho
      have hfo : foT (rows ++ [r]) = if rk r = 0 then _ else if rk r = 1 then _ else if rk r = 2 then some (N, O.set (nmT (N, O, V) k).2.2 ((owT (N, O, V) (nmT (N, O, V) k).2.2).1, rgS (owT (N, O, V) (nmT (N, O, V) k).2.2).2 (r2 r) (r3 r)), V) else _ := hfo
      rw [if_neg n0, if_neg n1, if_pos h2] at hfo
      exact ⟨_, og, hl2, hfo, N_keep IN n3 (by rw [hra]; exact hm) hs ho, O_gra JO I.len h2 hi ho hq (fun z => hne (z.trans hf)) h3, V_keep IV n0 n1 I.len⟩
  · have n2 : ¬ rk r = 2 := by rw [h3]; decide
    have n1 : ¬ rk r = 1 := by rw [h3]; decide
    have n0 : ¬ rk r = 0 := by rw [h3]; decide
    rw [I.mov_eq hp, movT] at hc
    rw [stT] at hfo
    cases hm : mtT (N, O, V) (rn r) with
    | none => rw [hm] at hc; cases hc
    | some k =>
      rw [hm] at hfo hc
      obtain ⟨hc1, hc2⟩ := and2 hc
      obtain ⟨hs, hf⟩ := of_decide_eq_true hc1
      obtain ⟨k1, k2⟩ := mtT_txt hm
      rw [I.os_1 hm hs] at ho
      have hfo : foT (rows ++ [r]) = if rk r = 0 then _ else if rk r = 1 then _ else if rk r = 2 then _ else some (N.set k ((nmT (N, O, V) k).1, 2, (nmT (N, O, V) k).2.2) ++ [(ra r, 1, (nmT (N, O, V) k).2.2)], O, V) := hfo
      rw [if_neg n0, if_neg n1, if_neg n2] at hfo
      have hfr : mtT (N, O, V) (ra r) = none := of_decide_eq_true ((frM_iff _ _ _ _ _ _ _).mp hc2).1
      exact ⟨_, og, hl2, hfo, N_move IN h3 hm hs ho hfr, O_keep JO n2, V_keep IV n0 n1 I.len⟩
/-- rows that may come, one behind the other -/
def accL : List Rw → List Rw → Prop
  | _, [] => True
  | pre, r :: l => okR pre r ∧ accL (pre ++ [r]) l
theorem accL_ap : ∀ (l pre : List Rw) (r : Rw), accL pre (l ++ [r]) ↔ accL pre l ∧ okR (pre ++ l) r
  | [], pre, r => by
    rw [List.nil_append, List.append_nil]
    exact ⟨fun h => ⟨trivial, h.1⟩, fun h => ⟨h.2, trivial⟩⟩
  | d :: l, pre, r => by
    rw [List.cons_append]
    show okR pre d ∧ accL (pre ++ [d]) (l ++ [r]) ↔ (okR pre d ∧ accL (pre ++ [d]) l) ∧ okR (pre ++ d :: l) r
    rw [accL_ap l (pre ++ [d]) r, List.append_assoc, List.singleton_append, and_assoc]
theorem Inv_0 : InvR [] ([], [], []) [] := by
  refine ⟨Nat.zero_le _, rfl, ⟨fun k h => absurd h (Nat.not_lt_zero _), Nat.zero_le _, fun k h => absurd h (Nat.not_lt_zero _), fun k j h => absurd h (Nat.not_lt_zero _), fun t => rfl, fun t => rfl, fun x h => (by cases h), fun k h => absurd h (Nat.not_lt_zero _)⟩, ⟨rfl, fun i j h => absurd h (Nat.not_lt_zero _), fun i h => absurd h (Nat.not_lt_zero _), fun i h => absurd h (Nat.not_lt_zero _), fun i h => absurd h (Nat.not_lt_zero _)⟩, ⟨fun i h => absurd h (Nat.not_lt_zero _), fun i h => absurd h (Nat.not_lt_zero _)⟩⟩
theorem Inv_acc : ∀ (n : Nat) (l : List Rw), l.length = n → accL [] l → ∃ tb og, InvR l tb og
  | 0, l, h, _ => by
    rw [List.length_eq_zero_iff.mp h]
    exact ⟨_, _, Inv_0⟩
  | n + 1, l, h, ha => by
    have hne : l ≠ [] := fun z => by rw [z] at h; cases h
    rw [← List.dropLast_concat_getLast hne] at ha ⊢
    obtain ⟨h1, h2⟩ := (accL_ap _ _ _).mp ha
    rw [List.nil_append] at h2
    obtain ⟨tb, og, I⟩ := Inv_acc n l.dropLast (by rw [List.length_dropLast, h]; rfl) h1
    exact InvR_step I h2
/-- a row but for the SUM of a PUBLISH -/
def keyR (r : Rw) : Rw := (rk r, rp r, rn r, ra r, r2 r, if rk r = 0 then 0 else r3 r, ro r)
theorem oS_key (t : List Nat) : ∀ (l : List Rw) (o : Int32), oS t (l.map keyR) o = oS t l o
  | [], _ => rfl
  | r :: l, o => by
    rw [List.map_cons, oS, oS, oS_key t l]
    rfl
theorem hrS_key (o q : Int32) : ∀ (l : List Rw) (b : Bool), hrS o q (l.map keyR) b = hrS o q l b
  | [], _ => rfl
  | r :: l, b => by
    rw [List.map_cons, hrS, hrS, hrS_key o q l]
    congr 1
    by_cases h : rk r = 2 ∧ ro r = o ∧ r2 r = q
    · rw [if_pos h, if_pos (show rk (keyR r) = 2 ∧ ro (keyR r) = o ∧ r2 (keyR r) = q from h)]
      show decide ((if rk r = 0 then 0 else r3 r) = 1) = _
      rw [if_neg (by rw [h.1]; decide)]
    · rw [if_neg h, if_neg (show ¬ (rk (keyR r) = 2 ∧ ro (keyR r) = o ∧ r2 (keyR r) = q) from h)]
theorem ynS_key (o v : Int32) : ∀ (l : List Rw) (b : Bool), ynS o v (l.map keyR) b = ynS o v l b
  | [], _ => rfl
  | r :: l, b => by
    rw [List.map_cons, ynS, ynS, ynS_key o v l]
    congr 1
    by_cases h : rk r = 1 ∧ ro r = o ∧ r2 r = v
    · rw [if_pos h, if_pos (show rk (keyR r) = 1 ∧ ro (keyR r) = o ∧ r2 (keyR r) = v from h)]
      show decide ((if rk r = 0 then 0 else r3 r) = 1) = _
      rw [if_neg (by rw [h.1]; decide)]
    · rw [if_neg h, if_neg (show ¬ (rk (keyR r) = 1 ∧ ro (keyR r) = o ∧ r2 (keyR r) = v) from h)]
theorem pubS_key (o v : Int32) : ∀ (l : List Rw) (i : Nat), pubS o v (l.map keyR) i = pubS o v l i
  | [], _ => rfl
  | r :: l, i => by
    rw [List.map_cons, pubS, pubS, pubS_key o v l]
    rfl
theorem freeS_key (t : List Nat) (mine : Int32) (all : List Rw) : ∀ (l : List Rw), freeS t mine (all.map keyR) (l.map keyR) = freeS t mine all l
  | [] => rfl
  | r :: l => by
    rw [List.map_cons, freeS, freeS, freeS_key t mine all l, oS_key]
    rfl
theorem at_key (l : List Rw) (o : Int32) : rp (atS (l.map keyR) o) = rp (atS l o) := by
  unfold atS
  rw [List.length_map]
  by_cases h : 0 ≤ o ∧ o < nI l.length
  · rw [if_pos h, if_pos h, List.getD_eq_getElem?_getD, List.getD_eq_getElem?_getD, List.getElem?_map]
    cases l[o.toNatClampNeg]? <;> rfl
  · rw [if_neg h, if_neg h]
theorem hsS_key (l : List Rw) (o q : Int32) : hsS (l.map keyR) o q = hsS l o q := by
  unfold hsS
  rw [hrS_key, at_key]
theorem okR_key {l : List Rw} {r : Rw} : okR (l.map keyR) (keyR r) ↔ okR l r := by
  unfold okR pubC yanC graC movC
  simp only [List.length_map, oS_key, hsS_key, pubS_key, ynS_key, freeS_key, at_key]
  have e : ∀ P : Prop, (rk r = 1 ∨ rk r = 2 → P) → True := fun _ _ => trivial
  have e1 : rk r = 1 → r3 (keyR r) = r3 r := fun h => by show (if rk r = 0 then 0 else r3 r) = r3 r; rw [if_neg (by rw [h]; decide)]
  have e2 : rk r = 2 → r3 (keyR r) = r3 r := fun h => by show (if rk r = 0 then 0 else r3 r) = r3 r; rw [if_neg (by rw [h]; decide)]
  constructor
  · rintro ⟨a1, a2, a9, a3⟩
    refine ⟨a1, a2, a9, ?_⟩
    rcases a3 with h | ⟨h1, h2, h3, on, h4, h5⟩ | ⟨h1, h2, h3, h4, on, h5, h6⟩ | h
    · exact Or.inl h
    · exact Or.inr (Or.inl ⟨h1, h2, h3, on, (e1 h1).symm.trans h4, h5⟩)
    · exact Or.inr (Or.inr (Or.inl ⟨h1, h2, h3, h4, on, (e2 h1).symm.trans h5, h6⟩))
    · exact Or.inr (Or.inr (Or.inr h))
  · rintro ⟨a1, a2, a9, a3⟩
    refine ⟨a1, a2, a9, ?_⟩
    rcases a3 with h | ⟨h1, h2, h3, on, h4, h5⟩ | ⟨h1, h2, h3, h4, on, h5, h6⟩ | h
    · exact Or.inl h
    · exact Or.inr (Or.inl ⟨h1, h2, h3, on, (e1 h1).trans h4, h5⟩)
    · exact Or.inr (Or.inr (Or.inl ⟨h1, h2, h3, h4, on, (e2 h1).trans h5, h6⟩))
    · exact Or.inr (Or.inr (Or.inr h))
theorem accL_key : ∀ (l pre : List Rw), accL (pre.map keyR) (l.map keyR) ↔ accL pre l
  | [], pre => Iff.rfl
  | r :: l, pre => by
    have := accL_key l (pre ++ [r])
    rw [List.map_append] at this
    show okR (pre.map keyR) (keyR r) ∧ accL (pre.map keyR ++ [keyR r]) (l.map keyR) ↔ okR pre r ∧ accL (pre ++ [r]) l
    rw [okR_key]
    exact and_congr_right (fun _ => this)
theorem accL_k {l l2 : List Rw} (h : accL [] l) (e : l.map keyR = l2.map keyR) : accL [] l2 := by
  have h1 := (accL_key l []).mpr h
  rw [e] at h1
  exact (accL_key l2 []).mp h1
theorem accL_take : ∀ (l pre : List Rw) (n : Nat), accL pre l → accL pre (l.take n)
  | [], pre, n, h => by rw [List.take_nil]; exact h
  | r :: l, pre, 0, h => trivial
  | r :: l, pre, n + 1, h => ⟨h.1, accL_take l _ n h.2⟩
/-- a mirror: the first rows of the log but for SUMS -/
def mirOk (rows ml : List Rw) : Prop := ml.map keyR = (rows.take ml.length).map keyR
theorem mirOk_inv {rows ml : List Rw} (h : accL [] rows) (hm : mirOk rows ml) : ∃ tb og, InvR ml tb og := Inv_acc _ ml rfl (accL_k (accL_take rows [] ml.length h) hm.symm)
theorem accL_nm : ∀ (l pre : List Rw), accL pre l → ∀ r ∈ l, nameS (rn r) = true ∧ nameS (ra r) = true
  | [], _, _, r, h => by cases h
  | d :: l, pre, ha, r, h => by
    rcases List.mem_cons.mp h with q | q
    · rw [q]; exact ha.1.2.2.1
    · exact accL_nm l _ ha.2 r q
theorem oS_bad {t : List Nat} (ht : nameS t = false) : ∀ (l : List Rw), (∀ r ∈ l, nameS (ra r) = true) → oS t l (-1) = -1
  | [], _ => rfl
  | r :: l, h => by
    rw [oS]
    by_cases e : rk r = 3 ∧ rn r = t
    · rw [if_pos e]
    · rw [if_neg e, if_neg (fun z => by have := h r List.mem_cons_self; rw [z, ht] at this; cases this)]
      exact oS_bad ht l (fun x hx => h x (List.mem_cons_of_mem _ hx))
