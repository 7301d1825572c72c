/-! pure part: the calls that only look -/
theorem nm (p : Int32) (n : Nat) (M : Int32) (hM : M = nI n) (hn : n < 2147483647) : (p < 0 ∨ ¬ p ≤ M) ∨ ∃ k, k ≤ n ∧ p = nI k := by
  subst hM; exact num_or p n hn
theorem cR_N {σ : CS} {k n : Nat} {M : Int32} {post : Prop} {px : String → Prop} (hM : M = nI n) (h : k ≤ n) (hn : n < 2147483648) (hp : post) : wp_X4_needRange σ (nI k) 0 M post px := cR_ok (nI_pos (by omega)) (by rw [hM]; exact nI_le h (by omega)) hp
