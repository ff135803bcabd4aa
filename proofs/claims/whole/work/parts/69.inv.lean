/-! THE CLASS'S ROWS (with their origins) AGAINST THE REFERENCE'S TABLES; og: the origin of each owner -/
abbrev mtN (N : List Nm) (t : List Nat) : Option Nat := mtL t N 0 none
abbrev nmN (N : List Nm) (k : Nat) : Nm := N.getD k ([], 0, 0)
abbrev owN (O : List Ow) (k : Nat) : Ow := O.getD k (0, 0)
abbrev veN (V : List Ve) (k : Nat) : Ve := V.getD k (0, 0, 0, 0)
abbrev vtN (V : List Ve) (o : Nat) (v : Int32) : Option Nat := vtL o v V 0 none
abbrev ogI (og : List Nat) (i : Nat) : Int32 := nI (og.getD i 0)
def oN (N : List Nm) (og : List Nat) (t : List Nat) : Int32 := match mtN N t with
  | none => -1
  | some k => if (nmN N k).2.1 = 1 then ogI og (nmN N k).2.2 else -1
def gnN (N : List Nm) (t : List Nat) : Bool := match mtN N t with
  | none => false
  | some k => decide ((nmN N k).2.1 = 2)
def InvN (rows : List Rw) (N : List Nm) (og : List Nat) : Prop :=
  (∀ k, k < N.length → (nmN N k).2.2 < og.length ∧ ((nmN N k).2.1 = 1 ∨ (nmN N k).2.1 = 2)) ∧
  N.length ≤ 2 * rows.length ∧
  (∀ k, k < N.length → mtN N (nmN N k).1 = some k) ∧
  (∀ k j, k < N.length → j < N.length → (nmN N k).2.1 = 1 → (nmN N j).2.1 = 1 → (nmN N k).2.2 = (nmN N j).2.2 → k = j) ∧
  (∀ t, oS t rows (-1) = oN N og t) ∧
  (∀ t, gS t rows = gnN N t) ∧
  (∀ r ∈ rows, ∃ k, mtN N (ra r) = some k ∧ ro r = ogI og (nmN N k).2.2) ∧
  (∀ k, k < N.length → ∃ r ∈ rows, ra r = (nmN N k).1)
def InvO (rows : List Rw) (O : List Ow) (og : List Nat) : Prop :=
  og.length = O.length ∧
  (∀ i j, i < og.length → j < og.length → og.getD i 0 = og.getD j 0 → i = j) ∧
  (∀ i, i < og.length → og.getD i 0 < rows.length ∧ rp (rows.getD (og.getD i 0) noRw) = (owN O i).1) ∧
  (∀ i, i < og.length → ∀ q, isP q = true → hrS (ogI og i) q rows (decide ((owN O i).1 = q)) = (decide ((owN O i).1 = q) || rbit (owN O i).2 q.toNatClampNeg)) ∧
  (∀ i, i < og.length → isP (owN O i).1 = true)
def InvV (rows : List Rw) (V : List Ve) (og : List Nat) : Prop :=
  (∀ i, i < og.length → ∀ v, (vtN V i v = none → pubS (ogI og i) v rows 0 = -1 ∧ ynS (ogI og i) v rows false = false) ∧ (∀ j, vtN V i v = some j → ∃ z, z < rows.length ∧ pubS (ogI og i) v rows 0 = nI z ∧ r3 (rows.getD z noRw) = (veN V j).2.2.1 ∧ ((veN V j).2.2.2 = 0 ∨ (veN V j).2.2.2 = 1) ∧ ynS (ogI og i) v rows false = decide ((veN V j).2.2.2 = 1))) ∧
  (∀ j, j < V.length → (veN V j).1 < og.length)
def InvR (rows : List Rw) (tb : Tb) (og : List Nat) : Prop := rows.length ≤ 120 ∧ foT rows = some tb ∧ InvN rows tb.1 og ∧ InvO rows tb.2.1 og ∧ InvV rows tb.2.2 og
def oT (tb : Tb) (og : List Nat) (t : List Nat) : Int32 := oN tb.1 og t
section INVP
variable {rows : List Rw} {tb : Tb} {og : List Nat}
theorem InvR.len (h : InvR rows tb og) : rows.length ≤ 120 := h.1
theorem InvR.fo (h : InvR rows tb og) : foT rows = some tb := h.2.1
theorem InvR.nmo (h : InvR rows tb og) : ∀ k, k < tb.1.length → (nmT tb k).2.2 < og.length ∧ ((nmT tb k).2.1 = 1 ∨ (nmT tb k).2.1 = 2) := h.2.2.1.1
theorem InvR.nml (h : InvR rows tb og) : tb.1.length ≤ 2 * rows.length := h.2.2.1.2.1
theorem InvR.nmd (h : InvR rows tb og) : ∀ k, k < tb.1.length → mtT tb (nmT tb k).1 = some k := h.2.2.1.2.2.1
theorem InvR.nmk (h : InvR rows tb og) : ∀ k j, k < tb.1.length → j < tb.1.length → (nmT tb k).2.1 = 1 → (nmT tb j).2.1 = 1 → (nmT tb k).2.2 = (nmT tb j).2.2 → k = j := h.2.2.1.2.2.2.1
theorem InvR.os (h : InvR rows tb og) : ∀ t, oS t rows (-1) = oT tb og t := h.2.2.1.2.2.2.2.1
theorem InvR.gn (h : InvR rows tb og) : ∀ t, gS t rows = gnN tb.1 t := h.2.2.1.2.2.2.2.2.1
theorem InvR.ra1 (h : InvR rows tb og) : ∀ r ∈ rows, ∃ k, mtT tb (ra r) = some k ∧ ro r = nI (og.getD (nmT tb k).2.2 0) := h.2.2.1.2.2.2.2.2.2.1
theorem InvR.ra2 (h : InvR rows tb og) : ∀ k, k < tb.1.length → ∃ r ∈ rows, ra r = (nmT tb k).1 := h.2.2.1.2.2.2.2.2.2.2
theorem InvR.ogl (h : InvR rows tb og) : og.length = tb.2.1.length := h.2.2.2.1.1
theorem InvR.ogi (h : InvR rows tb og) : ∀ i j, i < og.length → j < og.length → og.getD i 0 = og.getD j 0 → i = j := h.2.2.2.1.2.1
theorem InvR.ogr (h : InvR rows tb og) : ∀ i, i < og.length → og.getD i 0 < rows.length ∧ rp (rows.getD (og.getD i 0) noRw) = (owT tb i).1 := h.2.2.2.1.2.2.1
theorem InvR.hr (h : InvR rows tb og) : ∀ i, i < og.length → ∀ q, isP q = true → hrS (nI (og.getD i 0)) q rows (decide ((owT tb i).1 = q)) = (decide ((owT tb i).1 = q) || rbit (owT tb i).2 q.toNatClampNeg) := h.2.2.2.1.2.2.2.1
theorem InvR.fop (h : InvR rows tb og) : ∀ i, i < og.length → isP (owT tb i).1 = true := h.2.2.2.1.2.2.2.2
theorem InvR.pu (h : InvR rows tb og) : ∀ i, i < og.length → ∀ v, (vtT tb i v = none → pubS (nI (og.getD i 0)) v rows 0 = -1 ∧ ynS (nI (og.getD i 0)) v rows false = false) ∧ (∀ j, vtT tb i v = some j → ∃ z, z < rows.length ∧ pubS (nI (og.getD i 0)) v rows 0 = nI z ∧ r3 (rows.getD z noRw) = (veT tb j).2.2.1 ∧ ((veT tb j).2.2.2 = 0 ∨ (veT tb j).2.2.2 = 1) ∧ ynS (nI (og.getD i 0)) v rows false = decide ((veT tb j).2.2.2 = 1)) := h.2.2.2.2.1
theorem InvR.veo (h : InvR rows tb og) : ∀ j, j < tb.2.2.length → (veT tb j).1 < og.length := h.2.2.2.2.2
end INVP
def hsS (rows : List Rw) (o q : Int32) : Bool := hrS o q rows (decide (o ≠ -1 ∧ rp (atS rows o) = q))
def pubC (rows : List Rw) (t : List Nat) (who v : Int32) : Bool := if oS t rows (-1) = -1 then freeS t (-1) rows rows else hsS rows (oS t rows (-1)) who && decide (pubS (oS t rows (-1)) v rows 0 = -1)
def yanC (rows : List Rw) (t : List Nat) (who v : Int32) (on : Bool) : Bool := hsS rows (oS t rows (-1)) who && (decide (pubS (oS t rows (-1)) v rows 0 ≠ -1) && decide (ynS (oS t rows (-1)) v rows false ≠ on))
def graC (rows : List Rw) (t : List Nat) (who other : Int32) (on : Bool) : Bool := decide (who = rp (atS rows (oS t rows (-1)))) && (decide (other ≠ rp (atS rows (oS t rows (-1)))) && decide (hsS rows (oS t rows (-1)) other ≠ on))
def movC (rows : List Rw) (t u : List Nat) (who : Int32) : Bool := decide (who = rp (atS rows (oS t rows (-1)))) && freeS u (oS t rows (-1)) rows rows
theorem fr_hr {o : Int32} (q : Int32) : ∀ {l : List Rw} (b : Bool), (∀ r ∈ l, ro r ≠ o) → hrS o q l b = b
  | [], b, _ => rfl
  | r :: l, b, h => by
    rw [hrS, if_neg (fun z => h r List.mem_cons_self z.2.1)]
    exact fr_hr q b (fun x hx => h x (List.mem_cons_of_mem _ hx))
theorem fr_yn {o : Int32} (v : Int32) : ∀ {l : List Rw} (b : Bool), (∀ r ∈ l, ro r ≠ o) → ynS o v l b = b
  | [], b, _ => rfl
  | r :: l, b, h => by
    rw [ynS, if_neg (fun z => h r List.mem_cons_self z.2.1)]
    exact fr_yn v b (fun x hx => h x (List.mem_cons_of_mem _ hx))
theorem fr_pub {o : Int32} (v : Int32) : ∀ {l : List Rw} (i : Nat), (∀ r ∈ l, ro r ≠ o) → pubS o v l i = -1
  | [], i, _ => rfl
  | r :: l, i, h => by
    rw [pubS, if_neg (fun z => h r List.mem_cons_self z.2.1)]
    exact fr_pub v (i + 1) (fun x hx => h x (List.mem_cons_of_mem _ hx))
theorem atS_m1 (rows : List Rw) : atS rows (-1) = noRw := by rw [atS, if_neg (fun z => absurd z.1 (by decide))]
section INV
variable {rows : List Rw} {tb : Tb} {og : List Nat}
theorem InvR.og_lt (I : InvR rows tb og) {i : Nat} (h : i < og.length) : og.getD i 0 < 120 := Nat.lt_of_lt_of_le (I.ogr i h).1 I.len
theorem InvR.ro_in (I : InvR rows tb og) {r : Rw} (h : r ∈ rows) : ∃ i, i < og.length ∧ ro r = nI (og.getD i 0) := by
  obtain ⟨k, h1, h2⟩ := I.ra1 r h
  exact ⟨_, (I.nmo k (mtT_txt h1).1).1, h2⟩
theorem InvR.ro_m1 (I : InvR rows tb og) : ∀ r ∈ rows, ro r ≠ -1 := fun r h => by
  obtain ⟨i, h1, h2⟩ := I.ro_in h
  rw [h2]; exact nI_m1 (by have := I.og_lt h1; omega)
theorem InvR.ro_new (I : InvR rows tb og) : ∀ r ∈ rows, ro r ≠ nI rows.length := fun r h => by
  obtain ⟨i, h1, h2⟩ := I.ro_in h
  have h3 := (I.ogr i h1).1
  have := I.len
  rw [h2]; exact fun z => by have := (nI_eq (by omega) (by omega)).mp z; omega
theorem InvR.at_og (I : InvR rows tb og) {i : Nat} (h : i < og.length) : rp (atS rows (nI (og.getD i 0))) = (owT tb i).1 := by
  rw [atS_in (I.ogr i h).1 I.len]; exact (I.ogr i h).2
theorem InvR.hs (I : InvR rows tb og) {i : Nat} (h : i < og.length) {q : Int32} (hq : isP q = true) : hsS rows (nI (og.getD i 0)) q = (decide ((owT tb i).1 = q) || rbit (owT tb i).2 q.toNatClampNeg) := by
  have e : decide (nI (og.getD i 0) ≠ -1 ∧ rp (atS rows (nI (og.getD i 0))) = q) = decide ((owT tb i).1 = q) := by
    rw [I.at_og h, decide_eq_decide]
    exact ⟨fun z => z.2, fun z => ⟨nI_m1 (by have := I.og_lt h; omega), z⟩⟩
  rw [hsS, e]
  exact I.hr i h q hq
theorem InvR.hs_m1 (I : InvR rows tb og) (q : Int32) : hsS rows (-1) q = false := by
  rw [hsS, decide_eq_false (fun z => z.1 rfl)]
  exact fr_hr q false I.ro_m1
theorem InvR.hr_T (I : InvR rows tb og) {k : Nat} (hk : k < tb.1.length) (hs : (nmT tb k).2.1 = 1) {q : Int32} (hq : isP q = true) : hsS rows (nI (og.getD (nmT tb k).2.2 0)) q = hrT tb k q := by
  rw [I.hs (I.nmo k hk).1 hq]
  unfold hrT
  rw [Bool.eq_iff_iff, Bool.or_eq_true, decide_eq_true_eq, decide_eq_true_eq]
  exact ⟨fun z => ⟨hs, z⟩, fun z => z.2⟩
theorem hrT_2 {k : Nat} (hs : ¬ (nmT tb k).2.1 = 1) (q : Int32) : hrT tb k q = false := decide_eq_false (fun z => hs z.1)
theorem InvR.os_none (I : InvR rows tb og) {t : List Nat} (hm : mtT tb t = none) : oS t rows (-1) = -1 := by
  have hm : mtN tb.1 t = none := hm
  rw [I.os, oT, oN, hm]
theorem InvR.os_1 (I : InvR rows tb og) {t : List Nat} {k : Nat} (hm : mtT tb t = some k) (hs : (nmT tb k).2.1 = 1) : oS t rows (-1) = nI (og.getD (nmT tb k).2.2 0) := by
  have hm : mtN tb.1 t = some k := hm
  rw [I.os, oT, oN, hm]
  exact if_pos hs
theorem InvR.os_2 (I : InvR rows tb og) {t : List Nat} {k : Nat} (hm : mtT tb t = some k) (hs : ¬ (nmT tb k).2.1 = 1) : oS t rows (-1) = -1 := by
  have hm : mtN tb.1 t = some k := hm
  rw [I.os, oT, oN, hm]
  exact if_neg hs
theorem InvR.free (I : InvR rows tb og) {t : List Nat} {mine but : Int32} (H : ∀ k, k < tb.1.length → (nmT tb k).2.1 = 1 → (nI (og.getD (nmT tb k).2.2 0) ≠ mine ↔ nI k ≠ but)) : freeS t mine rows rows = freT tb t but := by
  rw [Bool.eq_iff_iff, freeS_iff, freT, frM_iff, decide_eq_true_eq]
  constructor
  · intro h
    refine ⟨?_, fun q _ hq => ?_⟩
    · cases hm : mtT tb t with
      | none => rfl
      | some k =>
        obtain ⟨k1, k2⟩ := mtT_txt hm
        obtain ⟨r, r1, r2⟩ := I.ra2 k k1
        exact absurd (r2.trans k2) (h r r1).1
    · rw [Nat.zero_add] at hq
      by_cases e1 : nI q = but
      · exact Or.inl e1
      by_cases e2 : (nmT tb q).2.1 = 1
      · right; right
        obtain ⟨r, r1, r2⟩ := I.ra2 q hq
        obtain ⟨k, k1, k2⟩ := I.ra1 r r1
        rw [r2, I.nmd q hq] at k1
        cases k1
        rw [nearM_S, nearS_comm]
        have h2 := (h r r1).2
        rcases hb : nearS (nmT tb q).1 t with _ | _
        · rfl
        · exfalso
          apply h2
          refine ⟨by rw [k2]; exact (H q hq e2).mpr e1, by rw [r2]; exact hb, ?_⟩
          rw [r2, I.os_1 (I.nmd q hq) e2]
          exact nI_m1 (by have := I.og_lt (I.nmo q hq).1; omega)
      · exact Or.inr (Or.inl (fun z => e2 z))
  · rintro ⟨h1, h2⟩ r hr
    obtain ⟨k, k1, k2⟩ := I.ra1 r hr
    obtain ⟨k3, k4⟩ := mtT_txt k1
    refine ⟨fun z => (by rw [z, h1] at k1; cases k1), ?_⟩
    rintro ⟨z1, z2, z3⟩
    by_cases hs : (nmT tb k).2.1 = 1
    · rw [k2] at z1
      rcases h2 k (Nat.zero_le _) (by omega) with q | q | q
      · exact (H k k3 hs).mp z1 q
      · exact q hs
      · rw [nearM_S, nearS_comm, k4, z2] at q; cases q
    · exact z3 (I.os_2 k1 hs)
theorem bI_ne {a b : Bool} : bI a ≠ bI b ↔ a ≠ b := by cases a <;> cases b <;> decide
theorem InvR.pub_eq (I : InvR rows tb og) {t : List Nat} {who v : Int32} (hw : isP who = true) : pubC rows t who v = pubT tb t who v := by
  have hl := I.len
  have hn := I.nml
  unfold pubC pubT
  cases hm : mtT tb t with
  | none =>
    rw [I.os_none hm, if_pos rfl]
    exact I.free (fun k hk hs => ⟨fun _ => nI_m1 (by omega), fun _ => nI_m1 (by have := I.og_lt (I.nmo k hk).1; omega)⟩)
  | some k =>
    obtain ⟨k1, k2⟩ := mtT_txt hm
    by_cases hs : (nmT tb k).2.1 = 1
    · have ho := (I.nmo k k1).1
      have hne : ¬ nI (og.getD (nmT tb k).2.2 0) = -1 := nI_m1 (by have := I.og_lt ho; omega)
      rw [I.os_1 hm hs, if_neg hne, I.hr_T k1 hs hw]
      show (_ && _) = (_ && _)
      congr 1
      rw [decide_eq_decide]
      have hp := I.pu _ ho v
      cases hv : vtT tb (nmT tb k).2.2 v with
      | none => exact ⟨fun _ => rfl, fun _ => (hp.1 hv).1⟩
      | some j =>
        obtain ⟨z, z1, z2, -⟩ := hp.2 j hv
        rw [z2]
        exact ⟨fun q => absurd q (nI_m1 (by omega)), fun q => (by cases q)⟩
    · rw [I.os_2 hm hs, if_pos rfl]
      show _ = (_ && _)
      rw [hrT_2 hs, Bool.false_and]
      cases hb : freeS t (-1) rows rows with
      | false => rfl
      | true =>
        obtain ⟨r, r1, r2⟩ := I.ra2 k k1
        exact absurd (r2.trans k2) ((freeS_iff _ _ _ _).mp hb r r1).1
theorem InvR.yan_eq (I : InvR rows tb og) {t : List Nat} {who v : Int32} {on : Bool} (hw : isP who = true) : yanC rows t who v on = yanT tb t who v on := by
  have hl := I.len
  unfold yanC yanT
  cases hm : mtT tb t with
  | none => rw [I.os_none hm, I.hs_m1, Bool.false_and] <;> rfl
  | some k =>
    obtain ⟨k1, k2⟩ := mtT_txt hm
    by_cases hs : (nmT tb k).2.1 = 1
    · have ho := (I.nmo k k1).1
      rw [I.os_1 hm hs, I.hr_T k1 hs hw]
      show (_ && _) = (_ && _)
      congr 1
      have hp := I.pu _ ho v
      cases hv : vtT tb (nmT tb k).2.2 v with
      | none =>
        rw [(hp.1 hv).1, decide_eq_false (fun z => z rfl), Bool.false_and] <;> rfl
      | some j =>
        obtain ⟨z, z1, z2, -, -, z5⟩ := hp.2 j hv
        rw [z2, z5, decide_eq_true (p := nI z ≠ -1) (nI_m1 (by omega)), Bool.true_and]
        exact decide_eq_decide.mpr bI_ne.symm
    · rw [I.os_2 hm hs, I.hs_m1, Bool.false_and]
      show _ = (_ && _)
      rw [hrT_2 hs, Bool.false_and]
theorem noP {who : Int32} (hw : isP who = true) {rows : List Rw} {o : Int32} (e : o = -1) : decide (who = rp (atS rows o)) = false := by
  subst e
  rw [atS_m1]
  exact decide_eq_false (fun z => by rw [z] at hw; exact absurd hw (by decide))
theorem InvR.gra_eq (I : InvR rows tb og) {t : List Nat} {who other : Int32} {on : Bool} (hw : isP who = true) (ho9 : isP other = true) : graC rows t who other on = graT tb t who other on := by
  unfold graC graT
  cases hm : mtT tb t with
  | none => rw [noP hw (I.os_none hm), Bool.false_and] <;> rfl
  | some k =>
    obtain ⟨k1, k2⟩ := mtT_txt hm
    by_cases hs : (nmT tb k).2.1 = 1
    · have ho := (I.nmo k k1).1
      rw [I.os_1 hm hs, I.at_og ho, I.hr_T k1 hs ho9]
      show _ = (fdT tb k who && _)
      by_cases e : who = (owT tb (nmT tb k).2.2).1
      · rw [decide_eq_true e, show fdT tb k who = true from decide_eq_true ⟨hs, e.symm⟩, ← e, show decide (hrT tb k other ≠ on) = decide (bI (hrT tb k other) ≠ bI on) from decide_eq_decide.mpr bI_ne.symm] <;> rfl
      · rw [decide_eq_false e, show fdT tb k who = false from decide_eq_false (fun z => e z.2.symm), Bool.false_and, Bool.false_and]
    · rw [noP hw (I.os_2 hm hs), Bool.false_and]
      show _ = (fdT tb k who && _)
      rw [show fdT tb k who = false from decide_eq_false (fun z => hs z.1), Bool.false_and]
theorem InvR.mov_eq (I : InvR rows tb og) {t u : List Nat} {who : Int32} (hw : isP who = true) : movC rows t u who = movT tb t u who := by
  have hl := I.len
  have hn := I.nml
  unfold movC movT
  cases hm : mtT tb t with
  | none => rw [noP hw (I.os_none hm), Bool.false_and] <;> rfl
  | some k =>
    obtain ⟨k1, k2⟩ := mtT_txt hm
    by_cases hs : (nmT tb k).2.1 = 1
    · have ho := (I.nmo k k1).1
      have hf : freeS u (nI (og.getD (nmT tb k).2.2 0)) rows rows = freT tb u (nI k) := I.free (fun j hj hsj => by
        have hoj := (I.nmo j hj).1
        have q1 := I.og_lt ho
        have q2 := I.og_lt hoj
        constructor
        · intro h1 h2
          have e := (nI_eq (by omega) (by omega)).mp h2
          subst e
          exact h1 rfl
        · intro h1 h2
          have e := (nI_eq (by omega) (by omega)).mp h2
          have e2 := I.nmk j k hj k1 hsj hs (I.ogi _ _ hoj ho e)
          subst e2
          exact h1 rfl)
      rw [I.os_1 hm hs, I.at_og ho, hf]
      show _ = (fdT tb k who && _)
      congr 1
      unfold fdT
      rw [decide_eq_decide]
      exact ⟨fun z => ⟨hs, z.symm⟩, fun z => z.2.symm⟩
    · rw [noP hw (I.os_2 hm hs), Bool.false_and]
      show _ = (fdT tb k who && _)
      rw [show fdT tb k who = false from decide_eq_false (fun z => hs z.1), Bool.false_and]
end INV
