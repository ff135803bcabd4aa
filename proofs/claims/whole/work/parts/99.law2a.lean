/-! THE LAW'S LOOP: the two objects side by side -/
def Zr (xr : Nat) (adr : Nat → Nat) (o9 : Nat) : Nat → Prop := fun a => ¬ mN xr adr a ∧ a ≠ o9
theorem mK_4 : ∀ j, j < 46 → mK j = 0 ∨ mK j = 1 ∨ mK j = 2 ∨ mK j = 3 := by decide +kernel
section LA
variable {g : gG} {H H1 : Heap} {x xr o9 : Nat} {adr ad : Nat → Nat} {F F1 : Nat → Int32} {A A1 : Nat → Nat → Int32} {B B1 : Nat → Nat → Int64} {ms nm nw : Nat} {rows : List Rw} {mir : Nat → List Rw} {T : List Nat} {f f2 : Nat → Int64} {k q k2 q2 : Nat}
theorem mN_lt (h : mW g H xr adr F A B) {a : Nat} (ha : mN xr adr a) : a < H.size := by
  rcases ha with e | ⟨j, hj, e⟩
  · rw [e]; exact ob_lt h.1
  · rw [e]
    rcases mK_4 j (mK_lt hj) with z | z | z | z
    · exact absurd z hj
    · exact ar_lt (h.2.1 j z)
    · exact ar_lt (h.2.2.1 j z)
    · exact ar_lt (h.2.2.2.1 j z)
theorem mW_keep (h : mW g H xr adr F A B) (hq : ∀ a, mN xr adr a → H1[a]? = H[a]?) : mW g H1 xr adr F A B :=
  ⟨ob_kept h.1 (hq _ (Or.inl rfl)), fun j hj => ar_kept (h.2.1 j hj) (hq _ (Or.inr ⟨j, by rw [hj]; decide, rfl⟩)), fun j hj => ar_kept (h.2.2.1 j hj) (hq _ (Or.inr ⟨j, by rw [hj]; decide, rfl⟩)), fun j hj => ar_kept (h.2.2.2.1 j hj) (hq _ (Or.inr ⟨j, by rw [hj]; decide, rfl⟩)), h.2.2.2.2⟩
theorem cX_Z {Z : Nat → Prop} (h : cX Z g H x ad ms nm nw rows mir T f k q f2 k2 q2) {j : Nat} (hj : j < 16) : Z (ad j) := (h.1.2.2.2.2.2 j hj).2
theorem Z_nm (h : cX (Zr xr adr o9) g H x ad ms nm nw rows mir T f k q f2 k2 q2) {a : Nat} (ha : mN xr adr a) : ¬ NX ad a := fun z => by
  obtain ⟨j, hj, e⟩ := z
  exact (cX_Z h hj).1 (e ▸ ha)
theorem Z_no (h : cX (Zr xr adr o9) g H x ad ms nm nw rows mir T f k q f2 k2 q2) : ∀ j, j < 16 → o9 ≠ ad j := fun j hj e => (cX_Z h hj).2 e.symm
theorem Z_no2 (h : cX (Zr xr adr o9) g H x ad ms nm nw rows mir T f k q f2 k2 q2) : ¬ NX ad o9 := fun z => by
  obtain ⟨j, hj, e⟩ := z
  exact Z_no h j hj e
theorem Z_new (h : mW g H xr adr F A B) (ho : o9 < H.size) : ∀ a, H.size ≤ a → Zr xr adr o9 a := fun a ha => ⟨fun z => absurd (mN_lt h z) (Nat.not_lt.mpr ha), by omega⟩
theorem old_PX (h : cX (Zr xr adr o9) g H x ad ms nm nw rows mir T f k q f2 k2 q2) (hm : mW g H xr adr F A B) (ho : g.2.2.1 ≤ o9) {a : Nat} (ha : a < g.2.2.1) : PX (Zr xr adr o9) ad a := ⟨fun j hj => by have := cX_9 h hj; omega, fun z => by have := hm.2.2.2.2.2.2 a z; omega, by omega⟩
end LA
def RLe (g : gG) (H : Heap) (x xr : Nat) (adr : Nat → Nat) (o9 : Nat) (ad : Nat → Nat) (ms nm nw : Nat) (rows : List Rw) (mir : Nat → List Rw) (T : List Nat) (f : Nat → Int64) (k : Nat) (f2 : Nat → Int64) (k2 : Nat) (F : Nat → Int32) (A : Nat → Nat → Int32) (B : Nat → Nat → Int64) (fo : Nat → Int64) : Prop :=
  cX (Zr xr adr o9) g H x ad ms nm nw rows mir T f k 0 f2 k2 0 ∧ mW g H xr adr F A B ∧ RF F A B rows mir T f k f2 k2 ∧ OKR rows mir ∧ ar g 1 H o9 (1, .inr (.inl fo)) ∧ g.2.2.1 ≤ o9 ∧ ¬ mN xr adr o9
def RL (g : gG) (H : Heap) (x xr : Nat) (adr : Nat → Nat) (o9 : Nat) : Prop := ∃ ad ms nm nw rows mir T f k f2 k2 F A B fo, RLe g H x xr adr o9 ad ms nm nw rows mir T f k f2 k2 F A B fo
section LB
variable {p : Program} {l : Launch} {e : Env} {R : Room} {s : State} {m : MethodId} {args : Array Value} {below : List Frame} {meth : Method} {c : Code} {H : Heap} {locs : List Loc} {cells slots : Nat} {Q : State → Prop} {g : gG} {pc : Nat} {ls : Array Slot} {st0 rest : List Value} {xr : Nat} {adr : Nat → Nat}
/-- behind a call of the reference -/
theorem aQ {a : Array Value} {P : Option Value → (Nat → Int32) → (Nat → Nat → Int32) → (Nat → Nat → Int64) → Prop} (hr : va_Run p l e R s m args below meth c H locs cells slots 0 0 (F0 m pc ls st0) rest (qM g H xr adr P a) (mN xr adr)) (hS : va_S (fW s.heap no_) s.heap H locs) (hold : ∀ q, mN xr adr q → s.heap.size ≤ q)
    (kk : ∀ (v : Option Value) (H1 : Heap) (locs1 : List Loc) (F1 : Nat → Int32) (A1 : Nat → Nat → Int32) (B1 : Nat → Nat → Int64), mW g H1 xr adr F1 A1 B1 → (∀ q, ¬ mN xr adr q → H1[q]? = H[q]?) → H1.size = H.size → P v F1 A1 B1 → va_S (fW s.heap no_) s.heap H1 locs1 → W p l e R s m args below meth c H1 locs1 cells slots Q (F0 m (pc + 3) ls (v.toList ++ rest))) : W p l e R s m args below meth c H locs cells slots Q (F0 m pc ls st0) := by
  intro T hT X
  obtain ⟨v, st₀, t, T', L, h0, X', hL, e1, e2, ⟨v', F1, A1, B1, hv, hm, hp⟩, st⟩ := hr T hT X
  cases hv
  rw [← e1] at hm
  obtain ⟨t2, a1, b1⟩ := kk v T'.heap (locs ++ L) F1 A1 B1 hm.1 hm.2.2.1 hm.2.1 hp ⟨by rw [hm.2.1]; exact hS.1, fun q h1 h2 => (hm.2.2.1 q (fun z => absurd (hold q z) (Nat.not_le.mpr h1))).trans (hS.2.1 q h1 h2), fun q hq => by
    rcases List.mem_append.mp hq with h8 | h8
    · exact hS.2.2 q h8
    · exact Or.inr (hold _ (hL q h8))⟩ T' rfl X'
  exact ⟨t2, st t2 a1, b1⟩
end LB
section LC
variable {F F1 : Nat → Int32} {A A1 : Nat → Nat → Int32} {B B1 : Nat → Nat → Int64} {rows : List Rw} {mir : Nat → List Rw} {T : List Nat} {f f2 : Nat → Int64} {k k2 : Nat} {v : Option Value}
theorem t_type (h : RF F A B rows mir T f k f2 k2) {w0 : Nat} (hp : if 32 ≤ w0 ∧ w0 ≤ 126 ∧ T.length < 24 then (v = some (.int 1) ∧ F1 = upd (upd F 0 (nI 0)) 2 (nI (T.length + 1)) ∧ A1 = updA A 1 (upd (A 1) T.length (nI w0)) ∧ B1 = B) else (v = some (.int 0) ∧ F1 = upd F 0 (nI 0) ∧ A1 = A ∧ B1 = B)) : v = some (.int (bI (decide (32 ≤ w0 ∧ w0 ≤ 126 ∧ T.length < 24)))) ∧ RF F1 A1 B1 rows mir (if (decide (32 ≤ w0 ∧ w0 ≤ 126 ∧ T.length < 24)) = true then T ++ [w0] else T) f k f2 k2 := by
  by_cases e : 32 ≤ w0 ∧ w0 ≤ 126 ∧ T.length < 24
  · rw [if_pos e] at hp
    obtain ⟨rfl, rfl, rfl, rfl⟩ := hp
    rw [decide_eq_true e, if_pos rfl]
    exact ⟨rfl, RF_ty h e.2.2⟩
  · rw [if_neg e] at hp
    obtain ⟨rfl, rfl, rfl, rfl⟩ := hp
    rw [decide_eq_false e, if_neg (by decide)]
    exact ⟨rfl, RF_0 h⟩
theorem t_take (h : RF F A B rows mir T f k f2 k2) {y : Int64} (hp : if k2 < 16 then (v = some (.int 1) ∧ F1 = upd (upd F 0 (nI 0)) 16 (nI (k2 + 1)) ∧ A1 = A ∧ B1 = updB B 14 (vp_updL (B 14) k2 y)) else (v = some (.int 0) ∧ F1 = upd F 0 (nI 0) ∧ A1 = A ∧ B1 = B)) : v = some (.int (bI (decide (k2 < 16)))) ∧ RF F1 A1 B1 rows mir T f k (if k2 < 16 then vp_updL f2 k2 y else f2) (if k2 < 16 then k2 + 1 else k2) := by
  by_cases e : k2 < 16
  · rw [if_pos e] at hp
    obtain ⟨rfl, rfl, rfl, rfl⟩ := hp
    rw [decide_eq_true e, if_pos e, if_pos e]
    exact ⟨rfl, RF_tk h e⟩
  · rw [if_neg e] at hp
    obtain ⟨rfl, rfl, rfl, rfl⟩ := hp
    rw [decide_eq_false e, if_neg e, if_neg e]
    exact ⟨rfl, RF_0 h⟩
abbrev LIr (rows : List Rw) (i n : Int32) : List Int64 := prS (dS rows) (gdR false 7 0 n.toNatClampNeg i.toNatClampNeg true).1
abbrev LGr (rows : List Rw) (i n : Int32) : List Int64 := grL (dS rows) (gdR true 7 0 n.toNatClampNeg i.toNatClampNeg true)
theorem t_in (h : RF F A B rows mir T f k f2 k2) {i n : Int32} (hp : if n ≤ nI rows.length ∧ 0 ≤ i ∧ i < n then (v = some (.int (nI (prS (dgA A 4 (TTr rows) (UUr rows)) (gdR false 7 0 n.toNatClampNeg i.toNatClampNeg true).1).length)) ∧ lo F1 (upd (upd (upd F 0 (nI 0)) 15 (nI 0)) 15 (nI (prS (dgA A 4 (TTr rows) (UUr rows)) (gdR false 7 0 n.toNatClampNeg i.toNatClampNeg true).1).length)) ∧ lo A1 A ∧ prB B1 B (prS (dgA A 4 (TTr rows) (UUr rows)) (gdR false 7 0 n.toNatClampNeg i.toNatClampNeg true).1)) else (v = some (.int (-1)) ∧ F1 = upd (upd F 0 (nI 0)) 15 (nI 0) ∧ A1 = A ∧ B1 = B)) :
    v = some (.int (if (0 ≤ i ∧ i < n ∧ n ≤ nI rows.length) then nI (LIr rows i n).length else -1)) ∧ RF F1 A1 B1 rows mir T (if (0 ≤ i ∧ i < n ∧ n ≤ nI rows.length) then psh f 0 (LIr rows i n) else f) (if (0 ≤ i ∧ i < n ∧ n ≤ nI rows.length) then (LIr rows i n).length else 0) f2 k2 := by
  by_cases e : 0 ≤ i ∧ i < n ∧ n ≤ nI rows.length
  · rw [if_pos ⟨e.2.2, e.1, e.2.1⟩, prI_eq h e] at hp
    rw [if_pos e, if_pos e, if_pos e]
    exact ⟨hp.1, RF_pr h (by rw [prS_len]; exact Nat.le_trans (gdR_len _ _ _ _ _ _) (by decide)) hp.2.1 hp.2.2.1 hp.2.2.2⟩
  · rw [if_neg (fun z => e ⟨z.2.1, z.2.2, z.1⟩)] at hp
    obtain ⟨rfl, rfl, rfl, rfl⟩ := hp
    rw [if_neg e, if_neg e, if_neg e]
    exact ⟨rfl, RF_p0 h⟩
theorem t_gr (h : RF F A B rows mir T f k f2 k2) {i n : Int32} {X9 : List Int64} (hX9 : (1 ≤ i ∧ i ≤ n ∧ n ≤ nI rows.length) → X9 = LGr rows i n) (hp : if n ≤ nI rows.length ∧ 1 ≤ i ∧ i ≤ n then (v = some (.int (nI X9.length)) ∧ lo F1 (upd (upd (upd F 0 (nI 0)) 15 (nI 0)) 15 (nI X9.length)) ∧ lo A1 A ∧ prB B1 B X9) else (v = some (.int (-1)) ∧ F1 = upd (upd F 0 (nI 0)) 15 (nI 0) ∧ A1 = A ∧ B1 = B)) :
    v = some (.int (if (1 ≤ i ∧ i ≤ n ∧ n ≤ nI rows.length) then nI (LGr rows i n).length else -1)) ∧ RF F1 A1 B1 rows mir T (if (1 ≤ i ∧ i ≤ n ∧ n ≤ nI rows.length) then psh f 0 (LGr rows i n) else f) (if (1 ≤ i ∧ i ≤ n ∧ n ≤ nI rows.length) then (LGr rows i n).length else 0) f2 k2 := by
  by_cases e : 1 ≤ i ∧ i ≤ n ∧ n ≤ nI rows.length
  · rw [if_pos ⟨e.2.2, e.1, e.2.1⟩, hX9 e] at hp
    rw [if_pos e, if_pos e, if_pos e]
    exact ⟨hp.1, RF_pr h (Nat.le_trans (grL_len _ _) (Nat.le_trans (Nat.succ_le_succ (gdR_len _ _ _ _ _ _)) (by decide))) hp.2.1 hp.2.2.1 hp.2.2.2⟩
  · rw [if_neg (fun z => e ⟨z.2.1, z.2.2, z.1⟩)] at hp
    obtain ⟨rfl, rfl, rfl, rfl⟩ := hp
    rw [if_neg e, if_neg e, if_neg e]
    exact ⟨rfl, RF_p0 h⟩
/-- the same of the program's proofs -/
theorem u_if {P : Prop} {hD : Decidable P} {a b : Int32} {k9 : Nat} {f9 : Nat → Int64} {X : (Nat → Int64) → Nat → Prop} (hp : if P then (v = some (.int a) ∧ X f9 k9) else (v = some (.int b) ∧ X f 0)) : v = some (.int (if P then a else b)) ∧ X (if P then f9 else f) (if P then k9 else 0) := by
  by_cases e : P
  · rw [if_pos e] at hp; rw [if_pos e, if_pos e, if_pos e]; exact hp
  · rw [if_neg e] at hp; rw [if_neg e, if_neg e, if_neg e]; exact hp
end LC
theorem i2c_n (x : Int32) : ∃ c, c < 65536 ∧ (x.toUInt32 % 65536).toInt32 = nI c := by
  refine ⟨(x.toUInt32 % 65536).toNat, ?_, ?_⟩
  · rw [UInt32.toNat_mod]; exact Nat.mod_lt _ (by decide)
  · unfold nI
    rw [← UInt32.toInt32_ofNat', UInt32.ofNat_toNat]
theorem OKR_if {rows : List Rw} {mir : Nat → List Rw} {r : Rw} {cd : Nat} (h : OKR rows mir) (hr : cd = 0 → okR rows r) : OKR (if cd = 0 then rows ++ [r] else rows) mir := by
  by_cases e : cd = 0
  · rw [if_pos e]; exact OKR_ap h (hr e)
  · rw [if_neg e]; exact h
theorem endC_3 (bad may : Bool) (n : Nat) : endC bad may n < 3 := by
  unfold endC
  cases bad
  · rw [if_neg (by decide)]; split <;> decide
  · rw [if_pos rfl]; decide
theorem nI_z {cd : Nat} (h : cd < 3) (hz : nI cd = 0) : cd = 0 := (nI_eq (by omega) (by decide)).mp (show nI cd = nI 0 from hz)
theorem mir_eq {F : Nat → Int32} {A : Nat → Nat → Int32} {B : Nat → Nat → Int64} {rows : List Rw} {mir : Nat → List Rw} {T : List Nat} {f f2 : Nat → Int64} {k k2 : Nat} (h : RF F A B rows mir T f k f2 k2) (ho : OKR rows mir) {q : Int32} : headS (mirS mir q) (nI (mirS mir q).length) = if 0 ≤ q ∧ q < 4 then hdS (dgA A q.toNatClampNeg (TTr rows) (UUr rows)) 0 (mir q.toNatClampNeg).length else 0 := by
  have h120 := (RF_c h).2
  unfold mirS headS
  by_cases e : 0 ≤ q ∧ q < 4
  · have hq := i4_lt e
    have hm := (RF_m h _ hq).2
    rw [if_pos e, if_pos e, nI_clamp (by omega)]
    by_cases e1 : (mir q.toNatClampNeg).length = 0
    · rw [e1, if_neg (fun z => absurd z.1 (by decide)), hdS_0]
    · rw [if_pos ⟨show nI 1 ≤ nI _ from (nI_leI (by decide) (by omega)).mpr (by omega), Int32.le_refl _⟩]
      exact hd_c _ 0 (fun j _ h2 => (dg_mir h ho hq (by omega)).symm)
  · rw [if_neg e, if_neg e, if_neg (fun z => absurd z.1 (by decide))]
theorem apa_eq {F : Nat → Int32} {A : Nat → Nat → Int32} {B : Nat → Nat → Int64} {rows : List Rw} {mir : Nat → List Rw} {T : List Nat} {f f2 : Nat → Int64} {k k2 : Nat} (h : RF F A B rows mir T f k f2 k2) (ho : OKR rows mir) {q : Int32} : apF (dS (mirS mir q)) (dS rows) (mirS mir q).length 0 = if 0 ≤ q ∧ q < 4 then apM (fun n => hdS (dgA A q.toNatClampNeg (TTr rows) (UUr rows)) 0 n) (fun n => hdS (dgA A 4 (TTr rows) (UUr rows)) 0 n) (mir q.toNatClampNeg).length 1 else -1 := by
  unfold mirS
  by_cases e : 0 ≤ q ∧ q < 4
  · have hq := i4_lt e
    have hm := (RF_m h _ hq).2
    rw [if_pos e, if_pos e, apart_eq (d1 := dgA A q.toNatClampNeg (TTr rows) (UUr rows)) (d2 := dgA A 4 (TTr rows) (UUr rows)) _ 0 (fun j hj => absurd hj (Nat.not_lt_zero _))]
    exact ap_c2 _ 0 (fun j _ hj => ⟨(dg_mir h ho hq (by omega)).symm, (dg_log h (by omega)).symm⟩)
  · rw [if_neg e, if_neg e]; rfl
