/-! pure part: set, bid, withdraw, pause -/
theorem rWhyN_nat (r : Nat → Int32) (b s : Nat) (x : Int32) : rWhyN r b s x = 0 ∨ (¬ rWhyN r b s x = 0 ∧ ¬ rWhyN r b s x ≤ 0) := by
  have : rWhyN r b s x = 0 ∨ rWhyN r b s x = 1 ∨ rWhyN r b s x = 2 ∨ rWhyN r b s x = 3 ∨ rWhyN r b s x = 4 := by
    unfold rWhyN
    by_cases h1 : r 169 = 0
    · rw [if_pos h1]
      by_cases h2 : r (54 + (b * 6 + s)) = 0
      · rw [if_pos h2]
        by_cases h3 : r s ≤ x
        · rw [if_pos h3]
          by_cases h4 : x ≤ r (30 + b)
          · rw [if_pos h4]; exact Or.inl rfl
          · rw [if_neg h4]; exact Or.inr (Or.inr (Or.inr (Or.inr rfl)))
        · rw [if_neg h3]; exact Or.inr (Or.inr (Or.inr (Or.inl rfl)))
      · rw [if_neg h2]; exact Or.inr (Or.inr (Or.inl rfl))
    · rw [if_neg h1]; exact Or.inr (Or.inl rfl)
  rcases this with h | h | h | h | h
  · exact Or.inl h
  all_goals exact Or.inr ⟨by rw [h]; decide, by rw [h]; decide⟩
theorem rWhyW_nat (r : Nat → Int32) (b s : Nat) : rWhyW r b s = 0 ∨ (¬ rWhyW r b s = 0 ∧ ¬ rWhyW r b s ≤ 0) := by
  have : rWhyW r b s = 0 ∨ rWhyW r b s = 1 ∨ rWhyW r b s = 2 ∨ rWhyW r b s = 3 := by
    unfold rWhyW
    by_cases h1 : r 169 = 0
    · rw [if_pos h1]
      by_cases h2 : r (54 + (b * 6 + s)) = 0
      · rw [if_pos h2]; exact Or.inr (Or.inr (Or.inl rfl))
      · rw [if_neg h2]
        by_cases h3 : rFee r b s ≤ r (30 + b)
        · rw [if_pos h3]; exact Or.inl rfl
        · rw [if_neg h3]; exact Or.inr (Or.inr (Or.inr rfl))
    · rw [if_neg h1]; exact Or.inr (Or.inl rfl)
  rcases this with h | h | h | h
  · exact Or.inl h
  all_goals exact Or.inr ⟨by rw [h]; decide, by rw [h]; decide⟩
theorem tSeal_out {t r : Nat → Int32} {b s j : Nat} {x : Int32} (hb : b < 6) (hs : s < 6) (hj : 177 ≤ j) : tSeal t r b s x j = t j := by
  unfold tSeal
  (repeat (first | rw [pk_us] | rw [pk_un (by omega)]))
theorem tTake_out {t r : Nat → Int32} {b s j : Nat} (hb : b < 6) (hs : s < 6) (hj : 177 ≤ j) : tTake t r b s j = t j := by
  unfold tTake
  (repeat (first | rw [pk_us] | rw [pk_un (by omega)]))
