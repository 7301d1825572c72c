/-! pure part: the opening, fish, nextDay, append, clearBuffer, keep, goBack, undo -/
theorem hF_out {t r : Nat → Int32} {B : Nat → Nat → Nat} {j : Nat} (hj : 177 ≤ j) : ∀ s, s ≤ 6 → hF t r B s j = t j
  | 0, _ => rfl
  | s + 1, hs => by
    have ih := hF_out (t := t) (r := r) (B := B) hj s (by omega)
    have hO := own_le B s
    unfold hF
    by_cases h : own B s = 6
    · rw [if_pos h]; (repeat (first | rw [pk_us] | rw [pk_un (by omega)])); exact ih
    · rw [if_neg h]; unfold tGiveU; (repeat (first | rw [pk_us] | rw [pk_un (by omega)])); exact ih
theorem tOpen_out {t r : Nat → Int32} {j : Nat} (hj : 177 ≤ j) : tOpen t r j = t j := by
  unfold tOpen
  rw [pk_un (by omega), pk_un (by omega)]
  exact hF_out hj 6 (Nat.le_refl _)
theorem tDay_out {t r : Nat → Int32} {j : Nat} (hj : 177 ≤ j) : tDay t r j = t j := by
  unfold tDay tGone tGrow
  rw [pk_un (by omega), pk_un (by omega), pk_un (by omega), pk_un (by omega), if_neg (by omega), if_neg (by omega)]
theorem rCan_01 (r : Nat → Int32) (s : Nat) : rCan r s = 0 ∨ (rCan r s = 1 ∧ ¬ r (12 + s) = -1) := by
  unfold rCan
  by_cases h : r 169 = 0
  · rw [if_pos h]; exact Or.inl rfl
  · rw [if_neg h]
    by_cases h2 : r (12 + s) = -1
    · rw [if_pos h2]; exact Or.inl rfl
    · rw [if_neg h2]; exact Or.inr ⟨rfl, h2⟩
theorem owner_nat {m : Nat} {r : Nat → Int32} (h1 : O1 m r) {s : Nat} (hs : s < 6) (h : ¬ r (12 + s) = -1) : ∃ w, w < 6 ∧ r (12 + s) = nI w := by
  have := h1.owner hs
  have h0 : 0 ≤ (r (12 + s)).toInt := by
    rcases (show (r (12 + s)).toInt = -1 ∨ 0 ≤ (r (12 + s)).toInt by omega) with e | e
    · exact absurd (Int32.toInt_inj.mp (e.trans tIm1.symm)) h
    · exact e
  exact ⟨(r (12 + s)).toInt.toNat, by omega, tI_of h0⟩
