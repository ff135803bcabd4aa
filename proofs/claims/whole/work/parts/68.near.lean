/-! PURE: the program's answers against the reference's -/
theorem cbS_take : ∀ (x y : List Nat) (n m : Nat), cbS (x.take n) (y.take m) = min (cbS x y) (min n m)
  | [], y, n, m => by simp [cbS]
  | a :: x, [], n, m => by simp [cbS]
  | a :: x, b :: y, 0, m => by simp [cbS]
  | a :: x, b :: y, n + 1, 0 => by simp [cbS]
  | a :: x, b :: y, n + 1, m + 1 => by
    simp only [List.take_succ_cons, cbS]
    split
    · rw [cbS_take x y n m]; omega
    · omega
theorem cbS_comm : ∀ (x y : List Nat), cbS x y = cbS y x
  | [], [] => rfl
  | [], _ :: _ => rfl
  | _ :: _, [] => rfl
  | a :: x, b :: y => by
    unfold cbS
    by_cases h : a = b
    · rw [if_pos h, if_pos h.symm, cbS_comm x y]
    · rw [if_neg h, if_neg (fun z => h z.symm)]
theorem nearS_comm (t u : List Nat) : nearS t u = nearS u t := by
  unfold nearS
  rw [cbS_comm (foldT t), cbS_comm (foldT t).reverse, decide_eq_decide, Nat.max_comm]
  constructor <;> rintro ⟨h1, h2, h3⟩ <;> exact ⟨h2, h1, h3⟩
theorem nearM_S (t u : List Nat) : nearM t u = nearS t u := by
  unfold nearM nearS
  rw [decide_eq_decide, List.reverse_drop, List.reverse_drop, cbS_take]
  have h1 := cbS_le (foldT t) (foldT u)
  have h2 := cbS_le2 (foldT t) (foldT u)
  have h3 := cbS_le (foldT t).reverse (foldT u).reverse
  have h4 := cbS_le2 (foldT t).reverse (foldT u).reverse
  rw [List.length_reverse] at h3 h4
  omega
theorem sh_inj {a b : BitVec 64} (e : a ^^^ (a >>> 29) = b ^^^ (b >>> 29)) : a = b := by
  have h : a ^^^ b = (a ^^^ b) >>> 29 := by
    rw [BitVec.ushiftRight_xor_distrib]
    calc a ^^^ b = (a ^^^ (a >>> 29)) ^^^ (a >>> 29) ^^^ b := by rw [BitVec.xor_assoc a, BitVec.xor_self, BitVec.xor_zero]
      _ = (b ^^^ (b >>> 29)) ^^^ (a >>> 29) ^^^ b := by rw [e]
      _ = (a >>> 29) ^^^ (b >>> 29) := by
        rw [BitVec.xor_assoc b, BitVec.xor_comm b, BitVec.xor_assoc, BitVec.xor_self, BitVec.xor_zero, BitVec.xor_comm]
  have h2 : (a ^^^ b).toNat = (a ^^^ b).toNat / 2 ^ 29 := by
    have := congrArg BitVec.toNat h
    rw [BitVec.toNat_ushiftRight, Nat.shiftRight_eq_div_pow] at this
    exact this
  have h3 : (a ^^^ b) = 0#64 := BitVec.eq_of_toNat_eq (by show _ = 0; omega)
  calc a = (a ^^^ b) ^^^ b := by rw [BitVec.xor_assoc, BitVec.xor_self, BitVec.xor_zero]
    _ = b := by rw [h3, BitVec.zero_xor]
theorem sh_inj64 {z w : Int64} (e : z ^^^ (z.toUInt64 >>> ((29 : Int32).toInt64.toUInt64 &&& Int64.toUInt64 63)).toInt64 = w ^^^ (w.toUInt64 >>> ((29 : Int32).toInt64.toUInt64 &&& Int64.toUInt64 63)).toInt64) : z = w := by
  have h := congrArg Int64.toBitVec e
  have k : ((29 : Int32).toInt64.toUInt64 &&& Int64.toUInt64 63) = 29 := by decide
  rw [k] at h
  have h2 : z.toBitVec ^^^ (z.toBitVec >>> 29) = w.toBitVec ^^^ (w.toBitVec >>> 29) := h
  exact Int64.toBitVec_inj.mp (sh_inj h2)
theorem odd_inj {x y : Int64} (e : x * (-7046029254386353131) = y * (-7046029254386353131)) : x = y := by
  have h := congrArg (fun z => z * (-1018231460777725123)) e
  simp only [Int64.mul_assoc] at h
  rw [show (-7046029254386353131 : Int64) * (-1018231460777725123) = 1 by decide, Int64.mul_one, Int64.mul_one] at h
  exact h
theorem xor_inj {h x y : Int64} (e : h ^^^ x = h ^^^ y) : x = y := by
  have h2 := congrArg (fun z => h ^^^ z) e
  simp only [← Int64.xor_assoc, Int64.xor_self, Int64.zero_xor] at h2
  exact h2
theorem mix_inj {h x y : Int64} (e : mixS h x = mixS h y) : x = y := xor_inj (odd_inj (sh_inj64 e))
theorem join_inj {a x y : Int64} (e : joinS a x = joinS a y) : x = y := mix_inj e
theorem hdS_0 (d : Nat → Int64) (at0 : Nat) : hdS d at0 0 = 0 := by rw [hdS]; simp
theorem hd_c {d1 d2 : Nat → Int64} : ∀ (n fr : Nat), (∀ j, fr ≤ j → j < fr + n → d1 j = d2 j) → hdS d1 fr n = hdS d2 fr n := by
  intro n
  induction n using Nat.strongRecOn with
  | _ n ih =>
    intro fr h
    by_cases h2 : n < 2
    · by_cases h1 : n = 1
      · subst h1; rw [hdS_1, hdS_1]; exact h fr (Nat.le_refl _) (by omega)
      · rw [show n = 0 by omega, hdS_0, hdS_0]
    · have k1 := fpS_lt (n := n) (by omega)
      have k2 := fpS_pos n
      rw [hdS_n d1 fr (n := n) (by omega), hdS_n d2 fr (n := n) (by omega), ih _ k1 fr (fun j a b => h j a (by omega)), ih (n - fpS n) (by omega) (fr + fpS n) (fun j a b => h j (by omega) (by omega))]
theorem hd_last {d1 d2 : Nat → Int64} : ∀ (n fr : Nat), (∀ j, fr ≤ j → j < fr + n → d1 j = d2 j) → hdS d1 fr (n + 1) = hdS d2 fr (n + 1) → d1 (fr + n) = d2 (fr + n) := by
  intro n
  induction n using Nat.strongRecOn with
  | _ n ih =>
    intro fr h e
    by_cases h2 : n = 0
    · subst h2
      rw [hdS_1, hdS_1] at e
      exact e
    · have k1 := fpS_lt (n := n + 1) (by omega)
      have k2 := fpS_pos (n + 1)
      rw [hdS_n d1 fr (n := n + 1) (by omega), hdS_n d2 fr (n := n + 1) (by omega), hd_c (d1 := d1) (d2 := d2) (fpS (n + 1)) fr (fun j a b => h j a (by omega))] at e
      have e2 := join_inj e
      rw [show n + 1 - fpS (n + 1) = (n - fpS (n + 1)) + 1 by omega] at e2
      have := ih (n - fpS (n + 1)) (by omega) (fr + fpS (n + 1)) (fun j a b => h j (by omega) (by omega)) e2
      rw [show fr + fpS (n + 1) + (n - fpS (n + 1)) = fr + n by omega] at this
      exact this
/-- the first length at which the heads differ is that of the first row with another digest -/
theorem apart_eq {d1 d2 : Nat → Int64} : ∀ (k i : Nat), (∀ j, j < i → d1 j = d2 j) → apM (fun n => hdS d1 0 n) (fun n => hdS d2 0 n) k (i + 1) = apF d1 d2 k i
  | 0, _, _ => rfl
  | k + 1, i, h => by
    rw [apM, apF]
    by_cases e : d1 i = d2 i
    · have h2 : ∀ j, j < i + 1 → d1 j = d2 j := fun j hj => by
        rcases Nat.lt_or_ge j i with q | q
        · exact h j q
        · rw [show j = i by omega]; exact e
      rw [if_pos e, if_pos (hd_c _ _ (fun j _ b => h2 j (by omega)))]
      exact apart_eq k (i + 1) h2
    · rw [if_neg e, if_neg (fun z => e (by have := hd_last i 0 (fun j _ b => h j (by omega)) z; rw [Nat.zero_add] at this; exact this))]
theorem nm_f : ∀ (t : List Nat) (b : Bool), nmS t b = true → t = [] ∧ b = true ∨ ∃ c, t.getLast? = some c ∧ letS c = true
  | [], b, h => Or.inl ⟨rfl, h⟩
  | c :: t, b, h => by
    unfold nmS at h
    by_cases q : 97 ≤ c ∧ c ≤ 122
    · rw [if_pos q] at h
      rcases nm_f t true h with ⟨e, -⟩ | ⟨d, e1, e2⟩
      · subst e; exact Or.inr ⟨c, rfl, decide_eq_true q⟩
      · exact Or.inr ⟨d, by rw [List.getLast?_cons, e1]; rfl, e2⟩
    · rw [if_neg q] at h
      by_cases q2 : c = 45 ∧ b = true
      · rw [if_pos q2] at h
        rcases nm_f t false h with ⟨-, e⟩ | ⟨d, e1, e2⟩
        · cases e
        · exact Or.inr ⟨d, by rw [List.getLast?_cons, e1]; rfl, e2⟩
      · rw [if_neg q2] at h; cases h
/-- the reference's walk over a name, at place i behind the part p -/
theorem nm_eq (T : List Nat) : ∀ (t p : List Nat), T = p ++ t → t ≠ [] → (∃ c, T.getLast? = some c ∧ letS c = true) → (p = [] → letS (T.getD 0 0) = true) → nmL T t.length p.length true = nmS t (decide (p ≠ []) && !decide (T.getD (p.length - 1) 0 = 45))
  | [], _, _, h, _, _ => absurd rfl h
  | c :: t, p, hT, _, hl, hp => by
    have hc : T.getD p.length 0 = c := by subst hT; simp
    rw [List.length_cons, nmL, if_pos rfl, hc, nmS]
    by_cases q : 97 ≤ c ∧ c ≤ 122
    · rw [if_pos q, show letS c = true from decide_eq_true q, Bool.true_or]
      by_cases ht : t = []
      · subst ht; rfl
      · have := nm_eq T t (p ++ [c]) (by rw [hT]; simp) ht hl (fun z => by simp at z)
        rw [List.length_append, List.length_singleton] at this
        rw [this]
        congr 1
        rw [Nat.add_sub_cancel, hc]
        have : ¬ c = 45 := by omega
        simp [this]
    · have hf : letS c = false := decide_eq_false q
      rw [if_neg q, hf, Bool.false_or]
      by_cases hp0 : p = []
      · exfalso
        have := hp hp0
        subst hp0
        rw [show T.getD 0 0 = c from hc, hf] at this
        cases this
      · by_cases h45 : c = 45
        · by_cases hb : T.getD (p.length - 1) 0 = 45
          · rw [decide_eq_true hb, if_neg (fun z => by have := z.2; rw [Bool.not_true, Bool.and_false] at this; cases this), Bool.not_true, Bool.and_false, nmL_f]
          · rw [decide_eq_false hb, if_pos ⟨h45, by rw [decide_eq_true hp0]; rfl⟩, decide_eq_true h45]
            by_cases ht : t = []
            · exfalso
              subst ht
              obtain ⟨d, e1, e2⟩ := hl
              rw [hT, List.getLast?_append] at e1
              simp at e1
              subst e1
              rw [hf] at e2; cases e2
            · have := nm_eq T t (p ++ [c]) (by rw [hT]; simp) ht hl (fun z => by simp at z)
              rw [List.length_append, List.length_singleton] at this
              rw [show (true && !false) = true from rfl, this]
              congr 1
              rw [Nat.add_sub_cancel, hc]
              simp [h45]
        · rw [if_neg (fun z => h45 z.1), decide_eq_false h45]
          simp [nmL_f]
theorem getLast_D (T : List Nat) (h : T ≠ []) : T.getLast? = some (T.getD (T.length - 1) 0) := by
  rw [List.getLast?_eq_getElem?, List.getD_eq_getElem?_getD, List.getElem?_eq_getElem (by have := List.length_pos_iff.mpr h; omega)]
  rfl
theorem nameM_S (T : List Nat) : nameM T 0 T.length = nameS T := by
  unfold nameM nameS
  rw [Nat.sub_zero]
  by_cases h0 : T = []
  · subst h0; rfl
  have hl := getLast_D T h0
  have hpos := List.length_pos_iff.mpr h0
  by_cases h : 1 ≤ T.length ∧ T.length ≤ 10 ∧ letS (T.getD 0 0) = true ∧ letS (T.getD (T.length - 1) 0) = true
  · rw [if_pos h, decide_eq_true ⟨h.1, h.2.1⟩, Bool.true_and]
    exact nm_eq T T [] rfl h0 ⟨_, hl, h.2.2.2⟩ (fun _ => h.2.2.1)
  · rw [if_neg h]
    symm
    by_cases q : 1 ≤ T.length ∧ T.length ≤ 10
    · rw [decide_eq_true q, Bool.true_and]
      rcases hb : nmS T false with _ | _
      · rfl
      · exfalso
        apply h
        refine ⟨q.1, q.2, ?_, ?_⟩
        · cases T with
          | nil => exact absurd rfl h0
          | cons c t =>
            unfold nmS at hb
            by_cases q3 : 97 ≤ c ∧ c ≤ 122
            · exact decide_eq_true q3
            · rw [if_neg q3, if_neg (fun z => by cases z.2)] at hb; cases hb
        · rcases nm_f T false hb with ⟨-, e⟩ | ⟨d, e1, e2⟩
          · cases e
          · rw [hl] at e1; cases e1; exact e2
    · rw [decide_eq_false q, Bool.false_and]
theorem nmL_c (T U : List Nat) (a : Nat) : ∀ (n i : Nat) (b : Bool), 1 ≤ i → (∀ j, i - 1 ≤ j → j < i + n → T.getD (a + j) 0 = U.getD j 0) → nmL T n (a + i) b = nmL U n i b
  | 0, _, _, _, _ => rfl
  | n + 1, i, b, hi, h => by
    rw [nmL, nmL, h i (by omega) (by omega), show a + i - 1 = a + (i - 1) by omega, h (i - 1) (by omega) (by omega)]
    cases b
    · rfl
    · rw [if_pos rfl, if_pos rfl, show a + i + 1 = a + (i + 1) by omega]
      exact nmL_c T U a n (i + 1) _ (by omega) (fun j h1 h2 => h j (by omega) (by omega))
theorem nameM_cut (T : List Nat) (a b : Nat) (h1 : a ≤ b) (h2 : b ≤ T.length) : nameM T a b = nameS ((T.take b).drop a) := by
  rw [← nameM_S]
  have hl : ((T.take b).drop a).length = b - a := by rw [List.length_drop, List.length_take]; omega
  have hg : ∀ j, j < b - a → T.getD (a + j) 0 = ((T.take b).drop a).getD j 0 := fun j hj => by
    rw [List.getD_eq_getElem?_getD, List.getD_eq_getElem?_getD, List.getElem?_drop, List.getElem?_take_of_lt (by omega)]
  rw [hl]
  unfold nameM
  rw [Nat.sub_zero]
  by_cases h0 : b - a = 0
  · rw [if_neg (by omega), if_neg (by omega)]
  · have e1 := hg 0 (by omega)
    have e2 := hg (b - a - 1) (by omega)
    rw [Nat.add_zero] at e1
    rw [show a + (b - a - 1) = b - 1 by omega] at e2
    rw [e1, e2]
    by_cases q : 1 ≤ b - a ∧ b - a ≤ 10 ∧ letS (((T.take b).drop a).getD 0 0) = true ∧ letS (((T.take b).drop a).getD (b - a - 1) 0) = true
    · rw [if_pos q, if_pos q]
      obtain ⟨n, hn⟩ : ∃ n, b - a = n + 1 := ⟨b - a - 1, by omega⟩
      rw [hn, nmL, nmL, if_pos rfl, if_pos rfl, e1, q.2.2.1, Bool.true_or, Bool.true_or]
      exact nmL_c T _ a n 1 true (by omega) (fun j _ h => hg j (by omega))
    · rw [if_neg q, if_neg q]
