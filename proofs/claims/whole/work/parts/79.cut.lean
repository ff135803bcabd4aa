/-! the mark between two names -/
theorem ctL_none (T : List Nat) : ∀ (k r : Nat), (∀ j, j < k → T.getD j 0 ≠ 62) → ctL T k r = r
  | 0, _, _ => rfl
  | k + 1, r, h => by
    rw [ctL, if_neg (h k (by omega))]
    exact ctL_none T k r (fun j hj => h j (by omega))
theorem ctL_at (T : List Nat) (i : Nat) (h1 : T.getD i 0 = 62) (h2 : ∀ j, j < i → T.getD j 0 ≠ 62) : ∀ (k r : Nat), i < k → ctL T k r = i
  | 0, _, h => absurd h (by omega)
  | k + 1, r, h => by
    rw [ctL]
    by_cases e : i = k
    · subst e; rw [if_pos h1]; exact ctL_none T i i h2
    · exact ctL_at T i h1 h2 k _ (by omega)
theorem ix_eq (T : List Nat) : ∀ (n i : Nat), T.length ≤ i + n → (∀ j, j < i → T.getD j 0 ≠ 62) → ixL 62 (T.drop i) i = if cutM T < T.length then nI (cutM T) else -1
  | 0, i, hn, h => by
    rw [List.drop_eq_nil_of_le (by omega), ixL, cutM, ctL_none T _ _ (fun j hj => h j (by omega)), if_neg (by omega)]
  | n + 1, i, hn, h => by
    by_cases hi : i < T.length
    · have hg : T[i] = T.getD i 0 := by rw [List.getD_eq_getElem?_getD, List.getElem?_eq_getElem hi, Option.getD_some]
      rw [List.drop_eq_getElem_cons hi, ixL, hg]
      by_cases e : T.getD i 0 = 62
      · rw [if_pos e, cutM, ctL_at T i e h _ _ hi, if_pos hi]
      · rw [if_neg e]
        exact ix_eq T n (i + 1) (by omega) (fun j hj => by
          rcases Nat.lt_or_ge j i with q | q
          · exact h j q
          · rw [show j = i by omega]; exact e)
    · rw [List.drop_eq_nil_of_le (by omega), ixL, cutM, ctL_none T _ _ (fun j hj => h j (by omega)), if_neg (by omega)]
