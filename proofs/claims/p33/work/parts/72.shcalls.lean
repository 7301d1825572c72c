/-! pure part: chestShare and meanPrice -/
def shV (r : Nat → Int32) : UInt64 := FP.ddiv (FP.i2d (r 165)) (FP.i2d (r 166))
def mpV (r : Nat → Int32) : UInt32 := if r 173 = 0 then FP.fconst0 else FP.fdiv (FP.i2f (sumF r 42 6)) (FP.i2f (r 173))
theorem shV_ok {m : Nat} {r : Nat → Int32} (h1 : O1 m r) (h3 : O3 r) : ¬ r 166 = 0 ∧ (FP.Core.val64 (shV r) = .fin false 0 FP.Core.b64.qmin ∨ ∃ c E, V64 (shV r) c E ∧ -21 ≤ E ∧ E ≤ 0) := by
  have hs := O3.small h1 h3
  have hc := h1.chest
  obtain ⟨a, b, c, d⟩ := h3
  have e1 := tI_of hc
  have e2 := tI_of (a := r 166) (by omega)
  refine ⟨fun e => by rw [e, tI0] at b; omega, ?_⟩
  have hh := share64 (n := (r 165).toInt.toNat) (d := (r 166).toInt.toNat) (by omega) (by omega) (by omega)
  rw [← e1, ← e2] at hh
  rcases hh with ⟨_, h⟩ | ⟨_, h⟩
  · exact Or.inl h
  · exact Or.inr h
theorem shV_nn {m : Nat} {r : Nat → Int32} (h1 : O1 m r) (h3 : O3 r) : ∃ s c q, FP.Core.val64 (shV r) = .fin s c q := by
  rcases (shV_ok h1 h3).2 with h | ⟨c, E, h, _, _⟩
  · exact ⟨_, _, _, h⟩
  · exact ⟨_, _, _, h.1⟩
theorem mpV_ok {m : Nat} {r : Nat → Int32} (h1 : O1 m r) (h3 : O3 r) (hm : m ≤ 100000) : FP.Core.val32 (mpV r) = .fin false 0 FP.Core.b32.qmin ∨ ∃ c E, V32 (mpV r) c E ∧ -21 ≤ E ∧ E ≤ 21 := by
  have hs := O3.small h1 h3
  have hg := h1.given
  have hc := h1.chest
  unfold mpV
  by_cases h0 : r 173 = 0
  · rw [if_pos h0]; exact Or.inl v32_0
  · rw [if_neg h0]
    have hsum := sumF_S6 (r := r) (k := 42) (fun i hi => h1.prices hi) (by have := h3.2.2.2; omega)
    have h4 := h3.2.2.2
    have e1 := tI_of (a := sumF r 42 6) (by omega)
    have e2 := tI_of hg.1
    have hg0 : (r 173).toInt ≠ 0 := fun e => h0 (Int32.toInt_inj.mp (by rw [e, tI0]))
    have hh := share32 (n := (sumF r 42 6).toInt.toNat) (d := (r 173).toInt.toNat) (by omega) (by omega) (by omega)
    rw [← e1, ← e2] at hh
    rcases hh with ⟨_, h⟩ | ⟨_, h⟩
    · exact Or.inl h
    · exact Or.inr h
theorem mpV_v {m : Nat} {r : Nat → Int32} (h1 : O1 m r) (h3 : O3 r) (hm : m ≤ 100000) : vf_n32 (mpV r) := by
  rcases mpV_ok h1 h3 hm with h | ⟨c, E, h, _, _⟩
  · exact vn32 (by rw [h]; exact fin_nn)
  · exact vn32 (by rw [h.1]; exact fin_nn)
theorem w_chestShare {m : Nat} {σ : CS} (h1 : O1 m (c_row σ)) (h3 : O3 (c_row σ)) {post : UInt64 → Prop} (hp : post (shV (c_row σ))) : wp_X4_chestShare σ post := by
  have hk := shV_ok h1 h3
  obtain ⟨s, c, q, hv⟩ := shV_nn h1 h3
  refine w_count h1 6 (by decide) ?_
  refine ⟨fun _ => ?_, fun h => absurd h hk.1⟩
  refine w_count h1 4 (by decide) ?_
  exact ⟨vn64 (a := shV (c_row σ)) (by rw [hv]; exact fin_nn), hp⟩
theorem w_meanPrice {m : Nat} {σ : CS} (h1 : O1 m (c_row σ)) (h3 : O3 (c_row σ)) (hm : m ≤ 100000) {post : UInt32 → Prop} (hp : post (mpV (c_row σ))) : wp_X4_meanPrice σ post := by
  have hv := mpV_v h1 h3 hm
  unfold mpV at hp hv
  refine w_count h1 9 (by decide) ?_
  refine ⟨fun h => ?_, fun h => ?_⟩
  · have h : ¬ c_row σ 173 = 0 := h
    rw [if_neg h] at hp hv
    refine w_count h1 8 (by decide) ?_
    exact ⟨hv, hp⟩
  · have h : c_row σ 173 = 0 := h
    rw [if_pos h] at hp
    exact hp
