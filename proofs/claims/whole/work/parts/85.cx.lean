/-! THE CLASS'S OBJECT. ad: its cells that change: 0 builder, 1 its array, 2 log, 3 its array, 4 .. 7 mirrors, 8 .. 11 their arrays, 12 proof, 13 its array, 14 hand, 15 its array. Z: cells that are nobody else's. -/
abbrev PX (Z : Nat → Prop) (ad : Nat → Nat) : Nat → Prop := fun q => (∀ j, j < 16 → q ≠ ad j) ∧ Z q
abbrev NX (ad : Nat → Nat) : Nat → Prop := fun q => ∃ j, j < 16 ∧ q = ad j
def cB (Z : Nat → Prop) (g : gG) (H : Heap) (x : Nat) (ad : Nat → Nat) (ms nm nw : Nat) : Prop := ob g H x 0 [.ref (ad 0), .ref (ad 2), .ref ms, .ref nm, .ref (ad 12), .ref (ad 14)] ∧ (∃ mf, ar g 3 H ms (4, .inr (.inr (.inr (.inr mf)))) ∧ ∀ j, j < 4 → mf j = some (ad (4 + j))) ∧ pL (PX Z ad) g H nm nw [] ∧ (PX Z ad x ∧ PX Z ad ms ∧ PX Z ad nm ∧ PX Z ad nw) ∧ (∀ i j, i < 16 → j < 16 → ad i = ad j → i = j) ∧ (∀ j, j < 16 → g.2.2.1 ≤ ad j ∧ Z (ad j))
def cM (Z : Nat → Prop) (g : gG) (H : Heap) (ad : Nat → Nat) (mir : Nat → List Rw) : Prop := ∀ j, j < 4 → pL (PX Z ad) g H (ad (4 + j)) (ad (8 + j)) (mir j)
/-- all of it -/
def cX (Z : Nat → Prop) (g : gG) (H : Heap) (x : Nat) (ad : Nat → Nat) (ms nm nw : Nat) (rows : List Rw) (mir : Nat → List Rw) (T : List Nat) (f : Nat → Int64) (k q : Nat) (f2 : Nat → Int64) (k2 q2 : Nat) : Prop := cB Z g H x ad ms nm nw ∧ pL (PX Z ad) g H (ad 2) (ad 3) rows ∧ cM Z g H ad mir ∧ isU g H (ad 12) (ad 13) f k q ∧ isU g H (ad 14) (ad 15) f2 k2 q2 ∧ sB g H (ad 0) (ad 1) T ∧ T.length ≤ 24 ∧ ∀ c, T.getD c 0 < 128
section CX
variable {Z : Nat → Prop} {g : gG} {H H1 : Heap} {x : Nat} {ad : Nat → Nat} {ms nm nw : Nat} {mir : Nat → List Rw}
theorem cB_mv (h : cB Z g H x ad ms nm nw) (hm : ∀ q, PX Z ad q → q < H.size → H1[q]? = H[q]?) : cB Z g H1 x ad ms nm nw := by
  obtain ⟨h1, ⟨mf, h2, h3⟩, h4, ⟨p1, p2, p3, p4⟩, h5, h6⟩ := h
  exact ⟨ob_kept h1 (hm _ p1 (ob_lt h1)), ⟨mf, ar_kept h2 (hm _ p2 (ar_lt h2)), h3⟩, pL_mv h4 (hm _ p3 (pL_lt h4).1) (hm _ p4 (pL_lt h4).2) (fun q a b => ⟨hm q a b, a⟩), ⟨p1, p2, p3, p4⟩, h5, h6⟩
theorem cM_mv (h : cM Z g H ad mir) (hm : ∀ q, PX Z ad q → q < H.size → H1[q]? = H[q]?) (ha : ∀ j, 4 ≤ j → j < 12 → ad j < H.size → H1[ad j]? = H[ad j]?) : cM Z g H1 ad mir := fun j hj =>
  pL_mv (h j hj) (ha _ (by omega) (by omega) (pL_lt (h j hj)).1) (ha _ (by omega) (by omega) (pL_lt (h j hj)).2) (fun q a b => ⟨hm q a b, a⟩)
theorem cB_ne (h : cB Z g H x ad ms nm nw) {i j : Nat} (hi : i < 16) (hj : j < 16) (hij : ¬ i = j) : ¬ ad i = ad j := fun z => hij (h.2.2.2.2.1 i j hi hj z)
theorem cB_old (h : cB Z g H x ad ms nm nw) {q : Nat} (hq : NX ad q) : g.2.2.1 ≤ q := by
  obtain ⟨j, hj, e⟩ := hq
  rw [e]; exact (h.2.2.2.2.2 j hj).1
theorem cB_ob (h : cB Z g H x ad ms nm nw) : ob g H x 0 [.ref (ad 0), .ref (ad 2), .ref ms, .ref nm, .ref (ad 12), .ref (ad 14)] := h.1
theorem cM_isL (h : cM Z g H ad mir) {mf : Nat → Option Nat} (h3 : ∀ j, j < 4 → mf j = some (ad (4 + j))) : ∀ j, j < 4 → ∃ q, mf j = some q ∧ isL g H q (mir j) := fun j hj => ⟨_, h3 j hj, pL_isL (h j hj)⟩
end CX
def adU (ad : Nat → Nat) (v : Nat) : Nat → Nat := fun j => if j = 1 then v else ad j
theorem adU_id (ad : Nat → Nat) : adU ad (ad 1) = ad := by
  funext j
  unfold adU
  by_cases h : j = 1
  · rw [if_pos h, h]
  · rw [if_neg h]
theorem adU_1 (ad : Nat → Nat) (v : Nat) : adU ad v 1 = v := rfl
theorem adU_n {ad : Nat → Nat} {v j : Nat} (h : ¬ j = 1) : adU ad v j = ad j := by unfold adU; rw [if_neg h]
section CX2
variable {Z Z' : Nat → Prop} {g : gG} {H H1 : Heap} {x : Nat} {ad : Nat → Nat} {ms nm nw : Nat} {rows rows2 : List Rw} {mir : Nat → List Rw} {T T2 : List Nat} {f f2 fn : Nat → Int64} {k q k2 q2 kn qn : Nat}
/-- nothing of it has changed -/
theorem cX_mv (h : cX Z g H x ad ms nm nw rows mir T f k q f2 k2 q2) (hm : ∀ a, Z a → a < H.size → H1[a]? = H[a]? ∧ Z' a) : cX Z' g H1 x ad ms nm nw rows mir T f k q f2 k2 q2 := by
  obtain ⟨⟨h1, ⟨mf, h2, h3⟩, h4, ⟨p1, p2, p3, p4⟩, h5, h6⟩, hG, hM, hP, hH, hS, hT⟩ := h
  have hp : ∀ a, PX Z ad a → a < H.size → H1[a]? = H[a]? ∧ PX Z' ad a := fun a b c => ⟨(hm a b.2 c).1, b.1, (hm a b.2 c).2⟩
  have ha : ∀ j, j < 16 → ad j < H.size → H1[ad j]? = H[ad j]? := fun j hj c => (hm _ (h6 j hj).2 c).1
  have hl : ∀ j, j < 16 → ad j < H.size := fun j hj => by
    have e : j = 0 ∨ j = 1 ∨ j = 2 ∨ j = 3 ∨ (4 ≤ j ∧ j < 8) ∨ (8 ≤ j ∧ j < 12) ∨ j = 12 ∨ j = 13 ∨ j = 14 ∨ j = 15 := by omega
    rcases e with e | e | e | e | e | e | e | e | e | e
    · subst e; exact (sB_b hS).1
    · subst e; exact (sB_b hS).2
    · subst e; exact (pL_lt hG).1
    · subst e; exact (pL_lt hG).2
    · have := (pL_lt (hM (j - 4) (by omega))).1
      rw [show 4 + (j - 4) = j by omega] at this
      exact this
    · have := (pL_lt (hM (j - 8) (by omega))).2
      rw [show 8 + (j - 8) = j by omega] at this
      exact this
    · subst e; exact ob_lt hP.1
    · subst e; exact ar_lt hP.2.1
    · subst e; exact ob_lt hH.1
    · subst e; exact ar_lt hH.2.1
  have ha : ∀ j, j < 16 → H1[ad j]? = H[ad j]? := fun j hj => ha j hj (hl j hj)
  refine ⟨⟨ob_kept h1 (hp _ p1 (ob_lt h1)).1, ⟨mf, ar_kept h2 (hp _ p2 (ar_lt h2)).1, h3⟩, pL_mv h4 (hp _ p3 (pL_lt h4).1).1 (hp _ p4 (pL_lt h4).2).1 hp, ⟨(hp _ p1 (ob_lt h1)).2, (hp _ p2 (ar_lt h2)).2, (hp _ p3 (pL_lt h4).1).2, (hp _ p4 (pL_lt h4).2).2⟩, h5, fun j hj => ⟨(h6 j hj).1, (hm _ (h6 j hj).2 (hl j hj)).2⟩⟩, pL_mv hG (ha 2 (by decide)) (ha 3 (by decide)) hp, fun j hj => pL_mv (hM j hj) (ha _ (by omega)) (ha _ (by omega)) hp, isU_kept hP (ha 12 (by decide)) (ha 13 (by decide)), isU_kept hH (ha 14 (by decide)) (ha 15 (by decide)), sB_kept hS (ha 0 (by decide)) (ha 1 (by decide)), hT⟩
theorem cX_ob (h : cX Z g H x ad ms nm nw rows mir T f k q f2 k2 q2) : ob g H x 0 [.ref (ad 0), .ref (ad 2), .ref ms, .ref nm, .ref (ad 12), .ref (ad 14)] := h.1.1
theorem cX_old (h : cX Z g H x ad ms nm nw rows mir T f k q f2 k2 q2) : ∀ a, NX ad a → g.2.2.1 ≤ a := fun a ha => cB_old h.1 ha
theorem cX_ne (h : cX Z g H x ad ms nm nw rows mir T f k q f2 k2 q2) {i j : Nat} (hi : i < 16) (hj : j < 16) (hij : ¬ i = j) : ¬ ad i = ad j := cB_ne h.1 hi hj hij
theorem cX_9 (h : cX Z g H x ad ms nm nw rows mir T f k q f2 k2 q2) {j : Nat} (hj : j < 16) : g.2.2.1 ≤ ad j := (h.1.2.2.2.2.2 j hj).1
theorem cX_log (h : cX Z g H x ad ms nm nw rows mir T f k q f2 k2 q2) : pL (PX Z ad) g H (ad 2) (ad 3) rows := h.2.1
theorem cX_mir (h : cX Z g H x ad ms nm nw rows mir T f k q f2 k2 q2) {j : Nat} (hj : j < 4) : pL (PX Z ad) g H (ad (4 + j)) (ad (8 + j)) (mir j) := h.2.2.1 j hj
theorem cX_pr (h : cX Z g H x ad ms nm nw rows mir T f k q f2 k2 q2) : isU g H (ad 12) (ad 13) f k q := h.2.2.2.1
theorem cX_hd (h : cX Z g H x ad ms nm nw rows mir T f k q f2 k2 q2) : isU g H (ad 14) (ad 15) f2 k2 q2 := h.2.2.2.2.1
theorem cX_sb (h : cX Z g H x ad ms nm nw rows mir T f k q f2 k2 q2) : sB g H (ad 0) (ad 1) T := h.2.2.2.2.2.1
theorem cX_T (h : cX Z g H x ad ms nm nw rows mir T f k q f2 k2 q2) : T.length ≤ 24 ∧ ∀ c, T.getD c 0 < 128 := h.2.2.2.2.2.2
theorem cX_lt (h : cX Z g H x ad ms nm nw rows mir T f k q f2 k2 q2) {j : Nat} (hj : j < 16) : ad j < H.size := by
  obtain ⟨-, hG, hM, hP, hH, hS, hT⟩ := h
  have e : j = 0 ∨ j = 1 ∨ j = 2 ∨ j = 3 ∨ (4 ≤ j ∧ j < 8) ∨ (8 ≤ j ∧ j < 12) ∨ j = 12 ∨ j = 13 ∨ j = 14 ∨ j = 15 := by omega
  rcases e with e | e | e | e | e | e | e | e | e | e
  · subst e; exact (sB_b hS).1
  · subst e; exact (sB_b hS).2
  · subst e; exact (pL_lt hG).1
  · subst e; exact (pL_lt hG).2
  · have := (pL_lt (hM (j - 4) (by omega))).1
    rw [show 4 + (j - 4) = j by omega] at this
    exact this
  · have := (pL_lt (hM (j - 8) (by omega))).2
    rw [show 8 + (j - 8) = j by omega] at this
    exact this
  · subst e; exact ob_lt hP.1
  · subst e; exact ar_lt hP.2.1
  · subst e; exact ob_lt hH.1
  · subst e; exact ar_lt hH.2.1
/-- cells of it alone, below a bound -/
theorem cX_bd (h : cX Z g H x ad ms nm nw rows mir T f k q f2 k2 q2) {z : Nat} (hz : H.size ≤ z) : cX (fun a => Z a ∧ a < z) g H x ad ms nm nw rows mir T f k q f2 k2 q2 := cX_mv h (fun a h1 h2 => ⟨rfl, h1, by omega⟩)
theorem cX_new (h : cX Z g H x ad ms nm nw rows mir T f k q f2 k2 q2) (hc : hC no_ H H1) : cX Z g H1 x ad ms nm nw rows mir T f k q f2 k2 q2 := cX_mv h (fun a h1 h2 => ⟨hC_at hc h2 (fun z => z), h1⟩)
/-- the hand has changed -/
theorem cX_setH (h : cX Z g H x ad ms nm nw rows mir T f k q f2 k2 q2) (hc : ∀ a, a < H.size → ¬ (a = ad 14 ∨ a = ad 15) → H1[a]? = H[a]?) (hu : isU g H1 (ad 14) (ad 15) fn kn qn) : cX Z g H1 x ad ms nm nw rows mir T f k q fn kn qn := by
  have hne := fun {i j} hi hj hij => cX_ne h (i := i) (j := j) hi hj hij
  have hl := fun {j} hj => cX_lt h (j := j) hj
  obtain ⟨hB, hG, hM, hP, hH, hS, hT⟩ := h
  have hp : ∀ a, PX Z ad a → a < H.size → H1[a]? = H[a]? := fun a b c => hc a c (fun z => z.elim (b.1 14 (by decide)) (b.1 15 (by decide)))
  have ha : ∀ j, j < 14 → H1[ad j]? = H[ad j]? := fun j hj => hc _ (hl (by omega)) (fun z => z.elim (hne (by omega) (by decide) (by omega)) (hne (by omega) (by decide) (by omega)))
  exact ⟨cB_mv hB hp, pL_mv hG (ha 2 (by decide)) (ha 3 (by decide)) (fun a b c => ⟨hp a b c, b⟩), fun j hj => pL_mv (hM j hj) (ha _ (by omega)) (ha _ (by omega)) (fun a b c => ⟨hp a b c, b⟩), isU_kept hP (ha 12 (by decide)) (ha 13 (by decide)), hu, sB_kept hS (ha 0 (by decide)) (ha 1 (by decide)), hT⟩
/-- the proof has changed -/
theorem cX_setP (h : cX Z g H x ad ms nm nw rows mir T f k q f2 k2 q2) (hc : ∀ a, a < H.size → ¬ (a = ad 12 ∨ a = ad 13) → H1[a]? = H[a]?) (hu : isU g H1 (ad 12) (ad 13) fn kn qn) : cX Z g H1 x ad ms nm nw rows mir T fn kn qn f2 k2 q2 := by
  have hne := fun {i j} hi hj hij => cX_ne h (i := i) (j := j) hi hj hij
  have hl := fun {j} hj => cX_lt h (j := j) hj
  obtain ⟨hB, hG, hM, hP, hH, hS, hT⟩ := h
  have hp : ∀ a, PX Z ad a → a < H.size → H1[a]? = H[a]? := fun a b c => hc a c (fun z => z.elim (b.1 12 (by decide)) (b.1 13 (by decide)))
  have ha : ∀ j, j < 16 → ¬ j = 12 → ¬ j = 13 → H1[ad j]? = H[ad j]? := fun j hj n1 n2 => hc _ (hl hj) (fun z => z.elim (hne hj (by decide) n1) (hne hj (by decide) n2))
  exact ⟨cB_mv hB hp, pL_mv hG (ha 2 (by decide) (by decide) (by decide)) (ha 3 (by decide) (by decide) (by decide)) (fun a b c => ⟨hp a b c, b⟩), fun j hj => pL_mv (hM j hj) (ha _ (by omega) (by omega) (by omega)) (ha _ (by omega) (by omega) (by omega)) (fun a b c => ⟨hp a b c, b⟩), hu, isU_kept hH (ha 14 (by decide) (by decide) (by decide)) (ha 15 (by decide) (by decide) (by decide)), sB_kept hS (ha 0 (by decide) (by decide) (by decide)) (ha 1 (by decide) (by decide) (by decide)), hT⟩
/-- the log has changed -/
theorem cX_setL (h : cX Z g H x ad ms nm nw rows mir T f k q f2 k2 q2) (hc : ∀ a, a < H.size → ¬ (a = ad 2 ∨ a = ad 3) → H1[a]? = H[a]?) (hu : pL (PX Z ad) g H1 (ad 2) (ad 3) rows2) : cX Z g H1 x ad ms nm nw rows2 mir T f k q f2 k2 q2 := by
  have hne := fun {i j} hi hj hij => cX_ne h (i := i) (j := j) hi hj hij
  have hl := fun {j} hj => cX_lt h (j := j) hj
  obtain ⟨hB, hG, hM, hP, hH, hS, hT⟩ := h
  have hp : ∀ a, PX Z ad a → a < H.size → H1[a]? = H[a]? := fun a b c => hc a c (fun z => z.elim (b.1 2 (by decide)) (b.1 3 (by decide)))
  have ha : ∀ j, j < 16 → ¬ j = 2 → ¬ j = 3 → H1[ad j]? = H[ad j]? := fun j hj n1 n2 => hc _ (hl hj) (fun z => z.elim (hne hj (by decide) n1) (hne hj (by decide) n2))
  exact ⟨cB_mv hB hp, hu, fun j hj => pL_mv (hM j hj) (ha _ (by omega) (by omega) (by omega)) (ha _ (by omega) (by omega) (by omega)) (fun a b c => ⟨hp a b c, b⟩), isU_kept hP (ha 12 (by decide) (by decide) (by decide)) (ha 13 (by decide) (by decide) (by decide)), isU_kept hH (ha 14 (by decide) (by decide) (by decide)) (ha 15 (by decide) (by decide) (by decide)), sB_kept hS (ha 0 (by decide) (by decide) (by decide)) (ha 1 (by decide) (by decide) (by decide)), hT⟩
/-- a mirror has changed -/
def miU (mir : Nat → List Rw) (i : Nat) (l : List Rw) : Nat → List Rw := fun j => if j = i then l else mir j
theorem cX_setM (h : cX Z g H x ad ms nm nw rows mir T f k q f2 k2 q2) {i : Nat} (hi : i < 4) (hc : ∀ a, a < H.size → ¬ (a = ad (4 + i) ∨ a = ad (8 + i)) → H1[a]? = H[a]?) (hu : pL (PX Z ad) g H1 (ad (4 + i)) (ad (8 + i)) rows2) : cX Z g H1 x ad ms nm nw rows (miU mir i rows2) T f k q f2 k2 q2 := by
  have hne := fun {i j} hi hj hij => cX_ne h (i := i) (j := j) hi hj hij
  have hl := fun {j} hj => cX_lt h (j := j) hj
  obtain ⟨hB, hG, hM, hP, hH, hS, hT⟩ := h
  have hp : ∀ a, PX Z ad a → a < H.size → H1[a]? = H[a]? := fun a b c => hc a c (fun z => z.elim (b.1 _ (by omega)) (b.1 _ (by omega)))
  have ha : ∀ j, j < 16 → ¬ j = 4 + i → ¬ j = 8 + i → H1[ad j]? = H[ad j]? := fun j hj n1 n2 => hc _ (hl hj) (fun z => z.elim (hne hj (by omega) n1) (hne hj (by omega) n2))
  refine ⟨cB_mv hB hp, pL_mv hG (ha 2 (by omega) (by omega) (by omega)) (ha 3 (by omega) (by omega) (by omega)) (fun a b c => ⟨hp a b c, b⟩), fun j hj => ?_, isU_kept hP (ha 12 (by omega) (by omega) (by omega)) (ha 13 (by omega) (by omega) (by omega)), isU_kept hH (ha 14 (by omega) (by omega) (by omega)) (ha 15 (by omega) (by omega) (by omega)), sB_kept hS (ha 0 (by omega) (by omega) (by omega)) (ha 1 (by omega) (by omega) (by omega)), hT⟩
  unfold miU
  by_cases e : j = i
  · subst e; rw [if_pos rfl]; exact hu
  · rw [if_neg e]; exact pL_mv (hM j hj) (ha _ (by omega) (by omega) (by omega)) (ha _ (by omega) (by omega) (by omega)) (fun a b c => ⟨hp a b c, b⟩)
/-- the typed text has changed; its array may be a new one -/
theorem cX_setT (h : cX Z g H x ad ms nm nw rows mir T f k q f2 k2 q2) (hc : ∀ a, a < H.size → ¬ (a = ad 0 ∨ a = ad 1) → H1[a]? = H[a]?) {v2 : Nat} (hv : v2 = ad 1 ∨ H.size ≤ v2) (hZ : ∀ a, H.size ≤ a → Z a) (hg : g.2.2.1 ≤ H.size) (hs : sB g H1 (ad 0) v2 T2) (ht : T2.length ≤ 24 ∧ ∀ c, T2.getD c 0 < 128) : cX Z g H1 x (adU ad v2) ms nm nw rows mir T2 f k q f2 k2 q2 := by
  have hne := fun {i j} hi hj hij => cX_ne h (i := i) (j := j) hi hj hij
  have hl := fun {j} hj => cX_lt h (j := j) hj
  obtain ⟨⟨h1, ⟨mf, h2, h3⟩, h4, ⟨p1, p2, p3, p4⟩, h5, h6⟩, hG, hM, hP, hH, hS, hT⟩ := h
  have hp : ∀ a, PX Z ad a → a < H.size → H1[a]? = H[a]? ∧ PX Z (adU ad v2) a := fun a b c => ⟨hc a c (fun z => z.elim (b.1 0 (by decide)) (b.1 1 (by decide))), fun j hj => by
    by_cases e : j = 1
    · subst e
      rw [adU_1]
      rcases hv with e | e
      · rw [e]; exact b.1 1 (by decide)
      · omega
    · rw [adU_n e]; exact b.1 j hj, b.2⟩
  have ha : ∀ j, j < 16 → ¬ j = 0 → ¬ j = 1 → H1[ad j]? = H[ad j]? := fun j hj n1 n2 => hc _ (hl hj) (fun z => z.elim (hne hj (by decide) n1) (hne hj (by decide) n2))
  have hinj : ∀ i, i < 16 → ¬ i = 1 → ¬ ad i = v2 := fun i hi n z => by
    rcases hv with e | e
    · exact hne hi (by decide) n (z.trans e)
    · have := hl hi; omega
  refine ⟨⟨ob_kept h1 (hp _ p1 (ob_lt h1)).1, ⟨mf, ar_kept h2 (hp _ p2 (ar_lt h2)).1, fun j hj => by rw [adU_n (by omega)]; exact h3 j hj⟩, pL_mv h4 (hp _ p3 (pL_lt h4).1).1 (hp _ p4 (pL_lt h4).2).1 hp, ⟨(hp _ p1 (ob_lt h1)).2, (hp _ p2 (ar_lt h2)).2, (hp _ p3 (pL_lt h4).1).2, (hp _ p4 (pL_lt h4).2).2⟩, fun i j hi hj z => ?_, fun j hj => ?_⟩, pL_mv hG (ha 2 (by decide) (by decide) (by decide)) (ha 3 (by decide) (by decide) (by decide)) hp, fun j hj => ?_, isU_kept hP (ha 12 (by decide) (by decide) (by decide)) (ha 13 (by decide) (by decide) (by decide)), isU_kept hH (ha 14 (by decide) (by decide) (by decide)) (ha 15 (by decide) (by decide) (by decide)), hs, ht⟩
  · by_cases e1 : i = 1 <;> by_cases e2 : j = 1
    · rw [e1, e2]
    · subst e1; rw [adU_1, adU_n e2] at z; exact absurd z.symm (hinj j hj e2)
    · subst e2; rw [adU_1, adU_n e1] at z; exact absurd z (hinj i hi e1)
    · rw [adU_n e1, adU_n e2] at z; exact h5 i j hi hj z
  · by_cases e1 : j = 1
    · subst e1
      rw [adU_1]
      rcases hv with e | e
      · rw [e]; exact h6 1 (by decide)
      · exact ⟨by omega, hZ _ e⟩
    · rw [adU_n e1]; exact h6 j hj
  · rw [adU_n (by omega), adU_n (by omega)]
    exact pL_mv (hM j hj) (ha _ (by omega) (by omega) (by omega)) (ha _ (by omega) (by omega) (by omega)) hp
end CX2
theorem add_u {g : gG} {H : Heap} {a v k q : Nat} {f : Nat → Int64} {x : Int64} {r : Option Value} (h : if k < 16 then (r = some (.int 1) ∧ isU g H a v (vp_updL f k x) (k + 1) q) else (r = some (.int 0) ∧ isU g H a v f k q)) : r = some (.int (bI (decide (k < 16)))) ∧ isU g H a v (if k < 16 then vp_updL f k x else f) (if k < 16 then k + 1 else k) q := by
  by_cases e : k < 16
  · rw [if_pos e] at h
    rw [if_pos e, if_pos e, decide_eq_true e]
    exact h
  · rw [if_neg e] at h
    rw [if_neg e, if_neg e, decide_eq_false e]
    exact h
theorem sS_bA {g : gG} {H : Heap} {a v : Nat} {t : List Nat} (h : sS g H a v t) : bA g H v t.length (ch t) := by
  obtain ⟨h1, ⟨f, h2, h3, -⟩, h4, h5⟩ := h
  exact bA_ext (ar_bA h2) h3
/-- the ledger that is asked: -1 the log, 0 .. 3 a mirror, else the empty one -/
def ledA (ad : Nat → Nat) (nm : Nat) (i : Int32) : Nat := if i = -1 then ad 2 else if 0 ≤ i ∧ i < 4 then ad (4 + i.toNatClampNeg) else nm
def ledS (rows : List Rw) (mir : Nat → List Rw) (i : Int32) : List Rw := if i = -1 then rows else mirS mir i
theorem ledA_U {ad : Nat → Nat} {nm v : Nat} {i : Int32} : ledA (adU ad v) nm i = ledA ad nm i := by
  unfold ledA
  rw [adU_n (j := 2) (by decide), adU_n (by omega)]
theorem i4_lt {i : Int32} (h : 0 ≤ i ∧ i < 4) : i.toNatClampNeg < 4 := by
  obtain ⟨n, hn, e⟩ := nI_of (Int32.not_lt.mpr h.1)
  subst e
  rw [nI_clamp hn]
  exact (nI_ltI hn (by decide)).mp h.2
section CX3
variable {Z : Nat → Prop} {g : gG} {H : Heap} {x : Nat} {ad : Nat → Nat} {ms nm nw : Nat} {rows : List Rw} {mir : Nat → List Rw} {T : List Nat} {f f2 : Nat → Int64} {k q k2 q2 : Nat}
theorem cX_led (h : cX Z g H x ad ms nm nw rows mir T f k q f2 k2 q2) (i : Int32) : isL g H (ledA ad nm i) (ledS rows mir i) := by
  unfold ledA ledS mirS
  by_cases e : i = -1
  · rw [if_pos e, if_pos e]; exact pL_isL (cX_log h)
  · rw [if_neg e, if_neg e]
    by_cases e2 : 0 ≤ i ∧ i < 4
    · rw [if_pos e2, if_pos e2]; exact pL_isL (cX_mir h (i4_lt e2))
    · rw [if_neg e2, if_neg e2]; exact pL_isL h.1.2.2.1
/-- the address that is found -/
theorem led_eq {mf : Nat → Option Nat} (h3 : ∀ j, j < 4 → mf j = some (ad (4 + j))) {i : Int32} {r : Nat} (h : (if i = -1 then some (ad 2) else mirA mf nm i) = some r) : r = ledA ad nm i := by
  unfold ledA
  by_cases e : i = -1
  · rw [if_pos e] at h ⊢; exact (Option.some.inj h).symm
  · rw [if_neg e] at h ⊢
    unfold mirA at h
    by_cases e2 : 0 ≤ i ∧ i < 4
    · rw [if_pos e2] at h ⊢
      rw [h3 _ (i4_lt e2)] at h
      exact (Option.some.inj h).symm
    · rw [if_neg e2] at h ⊢; exact (Option.some.inj h).symm
theorem mirA_eq {mf : Nat → Option Nat} (h3 : ∀ j, j < 4 → mf j = some (ad (4 + j))) {i : Int32} {r : Nat} (h : mirA mf nm i = some r) : r = if 0 ≤ i ∧ i < 4 then ad (4 + i.toNatClampNeg) else nm := by
  unfold mirA at h
  by_cases e2 : 0 ≤ i ∧ i < 4
  · rw [if_pos e2] at h ⊢
    rw [h3 _ (i4_lt e2)] at h
    exact (Option.some.inj h).symm
  · rw [if_neg e2] at h ⊢; exact (Option.some.inj h).symm
theorem PX_new (h : cX Z g H x ad ms nm nw rows mir T f k q f2 k2 q2) {a v2 : Nat} (ha : H.size ≤ a) (hv : a ≠ v2) (hz : Z a) : PX Z (adU ad v2) a := ⟨fun j hj => by
  by_cases e : j = 1
  · subst e; rw [adU_1]; exact hv
  · rw [adU_n e]; have := cX_lt h hj; omega, hz⟩
end CX3
section CX4
variable {P : Nat → Prop} {g : gG} {H H1 : Heap} {a w n r9 j : Nat} {rows : List Rw} {R1 : Rw} {f : Nat → Option Nat}
theorem pL_rep (hn : pR P g H n noRw) (hrs : ∀ i, i < rows.length → ∃ r, f i = some r ∧ pR P g H r (rows.getD i noRw)) (hm : ∀ q, P q → q < H.size → H1[q]? = H[q]?) (f0 : ob g H1 a 1 [.ref w, .ref n, .int (nI rows.length)]) (f1 : ar g 2 H1 w (120, .inr (.inr (.inr (.inr (va_up f j (some r9))))))) (hr : pR P g H1 r9 R1) (hj : j < rows.length) (hl : rows.length ≤ 120) : pL P g H1 a w (rows.set j R1) := by
  refine ⟨n, _, by rw [List.length_set]; exact f0, f1, pR_mv hn (fun q b c => ⟨hm q b c, b⟩), by rw [List.length_set]; exact hl, fun i hi => ?_⟩
  rw [List.length_set] at hi
  rw [getD_set hi]
  by_cases e : i = j
  · subst e; rw [if_pos rfl, va_up_self]; exact ⟨r9, rfl, hr⟩
  · obtain ⟨r, h1, h2⟩ := hrs i hi
    rw [if_neg e, va_up_ne _ _ e]; exact ⟨r, h1, pR_mv h2 (fun q b c => ⟨hm q b c, b⟩)⟩
theorem pL_app (hn : pR P g H n noRw) (hrs : ∀ i, i < rows.length → ∃ r, f i = some r ∧ pR P g H r (rows.getD i noRw)) (hm : ∀ q, P q → q < H.size → H1[q]? = H[q]?) (f0 : ob g H1 a 1 [.ref w, .ref n, .int (nI (rows.length + 1))]) (f1 : ar g 2 H1 w (120, .inr (.inr (.inr (.inr (va_up f rows.length (some r9))))))) (hr : pR P g H1 r9 R1) (hl : rows.length < 120) : pL P g H1 a w (rows ++ [R1]) := by
  have hL : (rows ++ [R1]).length = rows.length + 1 := by rw [List.length_append]; rfl
  refine ⟨n, _, by rw [hL]; exact f0, f1, pR_mv hn (fun q b c => ⟨hm q b c, b⟩), by rw [hL]; omega, fun i hi => ?_⟩
  rw [hL] at hi
  rcases Nat.lt_or_ge i rows.length with e | e
  · obtain ⟨r, h1, h2⟩ := hrs i e
    rw [getD_ap e, va_up_ne _ _ (by omega)]; exact ⟨r, h1, pR_mv h2 (fun q b c => ⟨hm q b c, b⟩)⟩
  · have e2 : i = rows.length := by omega
    subst e2
    rw [getD_ap2, va_up_self]; exact ⟨r9, rfl, hr⟩
end CX4
def mirB (ad : Nat → Nat) (nm : Nat) (i : Int32) : Nat := if 0 ≤ i ∧ i < 4 then ad (4 + i.toNatClampNeg) else nm
theorem cX_mirB {Z : Nat → Prop} {g : gG} {H : Heap} {x : Nat} {ad : Nat → Nat} {ms nm nw : Nat} {rows : List Rw} {mir : Nat → List Rw} {T : List Nat} {f f2 : Nat → Int64} {k q k2 q2 : Nat} (h : cX Z g H x ad ms nm nw rows mir T f k q f2 k2 q2) (i : Int32) : isL g H (mirB ad nm i) (mirS mir i) := by
  unfold mirB mirS
  by_cases e2 : 0 ≤ i ∧ i < 4
  · rw [if_pos e2, if_pos e2]; exact pL_isL (cX_mir h (i4_lt e2))
  · rw [if_neg e2, if_neg e2]; exact pL_isL h.1.2.2.1
theorem miU_id (mir : Nat → List Rw) (i : Nat) : miU mir i (mir i) = mir := by
  funext j
  unfold miU
  by_cases h : j = i
  · rw [if_pos h, h]
  · rw [if_neg h]
theorem miU_at (mir : Nat → List Rw) (i : Nat) (l : List Rw) : miU mir i l i = l := by unfold miU; rw [if_pos rfl]
theorem miU_2 (mir : Nat → List Rw) (i : Nat) (l l2 : List Rw) : miU (miU mir i l) i l2 = miU mir i l2 := by
  funext j
  unfold miU
  by_cases h : j = i
  · rw [if_pos h, if_pos h]
  · rw [if_neg h, if_neg h, if_neg h]
theorem NX_U {ad : Nat → Nat} {v2 n a : Nat} (hv : v2 = ad 1 ∨ n ≤ v2) (h : NX (adU ad v2) a) : NX ad a ∨ n ≤ a := by
  obtain ⟨j, hj, z⟩ := h
  by_cases e : j = 1
  · subst e
    rw [adU_1] at z
    rcases hv with q | q
    · exact Or.inl ⟨1, hj, z.trans q⟩
    · exact Or.inr (by omega)
  · rw [adU_n e] at z
    exact Or.inl ⟨j, hj, z⟩
theorem bI_e {a b : Bool} : bI a = bI b ↔ a = b := by cases a <;> cases b <;> decide
