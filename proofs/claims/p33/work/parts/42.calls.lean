/-! pure part: the calls that change the state -/
theorem cP_bad {σ : CS} {p n : Int32} {post : Prop} {px : String → Prop} (h : p < 0 ∨ ¬ p < n) (hp : px "java/lang/IndexOutOfBoundsException") : wp_X4_needPlace σ p n post px := ⟨fun _ => hp, fun h1 => ⟨fun h2 => absurd h2 (h.resolve_left h1), fun _ => hp⟩⟩
theorem cP_ok {σ : CS} {p n : Int32} {post : Prop} {px : String → Prop} (h1 : ¬ p < 0) (h2 : p < n) (hp : post) : wp_X4_needPlace σ p n post px := ⟨fun h => absurd h h1, fun _ => ⟨fun _ => hp, fun h => absurd h2 h⟩⟩
theorem cP_N {σ : CS} {k n : Nat} {M : Int32} {post : Prop} {px : String → Prop} (hM : M = nI n) (h : k < n) (hn : n < 2147483648) (hp : post) : wp_X4_needPlace σ (nI k) M post px := cP_ok (nI_pos (by omega)) (by rw [hM]; exact nI_lt h (by omega)) hp
theorem cR_bad {σ : CS} {p a b : Int32} {post : Prop} {px : String → Prop} (h : p < a ∨ ¬ p ≤ b) (hp : px "java/lang/IllegalArgumentException") : wp_X4_needRange σ p a b post px := ⟨fun _ => hp, fun h1 => ⟨fun h2 => absurd h2 (h.resolve_left h1), fun _ => hp⟩⟩
theorem cR_ok {σ : CS} {p a b : Int32} {post : Prop} {px : String → Prop} (h1 : ¬ p < a) (h2 : p ≤ b) (hp : post) : wp_X4_needRange σ p a b post px := ⟨fun h => absurd h h1, fun _ => ⟨fun _ => hp, fun h => absurd h2 h⟩⟩
theorem cS_1 {σ : CS} {post : Prop} {px : String → Prop} (hp : post) : wp_X4_needState σ 1 post px := ⟨fun _ => hp, fun h => absurd h (by decide)⟩
theorem cS_0 {σ : CS} {post : Prop} {px : String → Prop} (hp : px "java/lang/IllegalStateException") : wp_X4_needState σ 0 post px := ⟨fun h => absurd rfl h, fun _ => hp⟩
theorem pl6 (p : Int32) : (p < 0 ∨ ¬ p < 6) ∨ ∃ k, k < 6 ∧ p = nI k := by
  by_cases h : p < 0
  · exact Or.inl (Or.inl h)
  · by_cases h2 : p < 6
    · exact Or.inr (q_of (M := 6) 6 rfl (by decide) h h2)
    · exact Or.inl (Or.inr h2)
theorem pl6m {p : Int32} (h : p < 0 ∨ ¬ p < 6) : p < 0 ∨ 5 < p := by
  rcases h with h | h
  · exact Or.inl h
  · refine Or.inr ?_
    rw [tI_lt, show (6 : Int32).toInt = 6 from by decide] at h
    rw [tI_lt, show (5 : Int32).toInt = 5 from by decide]
    omega
theorem rg (p a b : Int32) : (p < a ∨ ¬ p ≤ b) ∨ (¬ p < a ∧ p ≤ b) := by
  by_cases h : p < a
  · exact Or.inl (Or.inl h)
  · by_cases h2 : p ≤ b
    · exact Or.inr ⟨h, h2⟩
    · exact Or.inl (Or.inr h2)
theorem rgm {p a b : Int32} (h : p < a ∨ ¬ p ≤ b) : p < a ∨ b < p := by
  rcases h with h | h
  · exact Or.inl h
  · refine Or.inr ?_
    rw [tI_le] at h
    rw [tI_lt]
    omega
theorem rgn {p b : Int32} (h : p ≤ b) : ¬ b < p := by
  rw [tI_le] at h
  rw [tI_lt]
  omega
theorem rgt {p a b : Int32} (h1 : ¬ p < a) (h2 : p ≤ b) : a.toInt ≤ p.toInt ∧ p.toInt ≤ b.toInt := by
  rw [tI_lt] at h1
  rw [tI_le] at h2
  omega
def Args (L : Nat) (v4 : Int32) : Prop := vp_in (v4 + 1) L ∧ vp_in (v4 + 2) L ∧ vp_in (v4 + 3) L ∧ vp_in (v4 + 4) L
theorem z1 : ¬ (1 : Int32) = 0 := by decide
theorem z2 : ¬ (2 : Int32) = 0 := by decide
theorem z3 : ¬ (3 : Int32) = 0 := by decide
