/-! pure part: chestShare and meanPrice -/
theorem tIs {a b : Int32} {x y : Int} (ha : a.toInt = x) (hb : b.toInt = y) (h0 : 0 ≤ x) (h1 : 0 ≤ y) (h : x + y ≤ 100000) : (a + b).toInt = x + y := by
  rw [tI_add (by omega) (by omega), ha, hb]
theorem sumF_S6 {r : Nat → Int32} {k : Nat} (hp : ∀ i, i < 6 → 0 ≤ (r (k + i)).toInt) (hS : S6 r k ≤ 9999) : (sumF r k 6).toInt = S6 r k := by
  unfold S6 at hS ⊢
  have h0 := hp 0 (by decide)
  have h1 := hp 1 (by decide)
  have h2 := hp 2 (by decide)
  have h3 := hp 3 (by decide)
  have h4 := hp 4 (by decide)
  have h5 := hp 5 (by decide)
  rw [Nat.add_zero] at h0
  have e0 : (0 : Int32).toInt = 0 := tI0
  show (0 + r (k + 0) + r (k + 1) + r (k + 2) + r (k + 3) + r (k + 4) + r (k + 5)).toInt = _
  have s1 := tIs (a := 0) (b := r (k + 0)) e0 rfl (by omega) h0 (by rw [Nat.add_zero]; omega)
  rw [Nat.add_zero] at s1 ⊢
  have s2 := tIs s1 (b := r (k + 1)) rfl (by omega) h1 (by omega)
  have s3 := tIs s2 (b := r (k + 2)) rfl (by omega) h2 (by omega)
  have s4 := tIs s3 (b := r (k + 3)) rfl (by omega) h3 (by omega)
  have s5 := tIs s4 (b := r (k + 4)) rfl (by omega) h4 (by omega)
  have s6 := tIs s5 (b := r (k + 5)) rfl (by omega) h5 (by omega)
  rw [s6]; omega
def shV (r : Nat → Int32) : UInt64 := FP.ddiv (FP.i2d (r 165)) (FP.i2d (r 166))
def mpV (r : Nat → Int32) : UInt32 := if r 173 = 0 then FP.fconst0 else FP.fdiv (FP.i2f (sumF r 42 6)) (FP.i2f (r 173))
theorem shV_ok {m : Nat} {r : Nat → Int32} (h1 : O1 m r) (h3 : O3 r) : ¬ r 166 = 0 ∧ (FP.Core.val64 (shV r) = .fin false 0 FP.Core.b64.qmin ∨ ∃ c E, V64 (shV r) c E ∧ -21 ≤ E ∧ E ≤ 0) := by
  have hs := O3.small h1 h3
  have hc := h1.chest
  obtain ⟨a, b, c, d⟩ := h3
  have e1 := tI_of hc
  have e2 := tI_of (a := r 166) (by omega)
  refine ⟨fun e => by rw [e, tI0] at b; omega, ?_⟩
  have hh := share64 (n := (r 165).toInt.toNat) (d := (r 166).toInt.toNat) (by omega) (by omega) (by omega)
  rw [← e1, ← e2] at hh
  rcases hh with ⟨_, h⟩ | ⟨_, h⟩
  · exact Or.inl h
  · exact Or.inr h
theorem shV_nn {m : Nat} {r : Nat → Int32} (h1 : O1 m r) (h3 : O3 r) : ∃ s c q, FP.Core.val64 (shV r) = .fin s c q := by
  rcases (shV_ok h1 h3).2 with h | ⟨c, E, h, _, _⟩
  · exact ⟨_, _, _, h⟩
  · exact ⟨_, _, _, h.1⟩
theorem mpV_ok {m : Nat} {r : Nat → Int32} (h1 : O1 m r) (h3 : O3 r) (hm : m ≤ 100000) : FP.Core.val32 (mpV r) = .fin false 0 FP.Core.b32.qmin ∨ ∃ c E, V32 (mpV r) c E ∧ -21 ≤ E ∧ E ≤ 21 := by
  have hs := O3.small h1 h3
  have hg := h1.given
  have hc := h1.chest
  unfold mpV
  by_cases h0 : r 173 = 0
  · rw [if_pos h0]; exact Or.inl v32_0
  · rw [if_neg h0]
    have hsum := sumF_S6 (r := r) (k := 42) (fun i hi => h1.prices hi) (by have := h3.2.2.2; omega)
    have h4 := h3.2.2.2
    have e1 := tI_of (a := sumF r 42 6) (by omega)
    have e2 := tI_of hg.1
    have hg0 : (r 173).toInt ≠ 0 := fun e => h0 (Int32.toInt_inj.mp (by rw [e, tI0]))
    have hh := share32 (n := (sumF r 42 6).toInt.toNat) (d := (r 173).toInt.toNat) (by omega) (by omega) (by omega)
    rw [← e1, ← e2] at hh
    rcases hh with ⟨_, h⟩ | ⟨_, h⟩
    · exact Or.inl h
    · exact Or.inr h
theorem mpV_v {m : Nat} {r : Nat → Int32} (h1 : O1 m r) (h3 : O3 r) (hm : m ≤ 100000) : vf_n32 (mpV r) := by
  rcases mpV_ok h1 h3 hm with h | ⟨c, E, h, _, _⟩
  · exact vn32 (by rw [h]; exact fin_nn)
  · exact vn32 (by rw [h.1]; exact fin_nn)
theorem w_chestShare {m : Nat} {σ : CS} (h1 : O1 m (c_row σ)) (h3 : O3 (c_row σ)) {post : UInt64 → Prop} (hp : post (shV (c_row σ))) : wp_X4_chestShare σ post := by
  have hk := shV_ok h1 h3
  obtain ⟨s, c, q, hv⟩ := shV_nn h1 h3
  refine w_count h1 6 (by decide) ?_
  refine ⟨fun _ => ?_, fun h => absurd h hk.1⟩
  refine w_count h1 4 (by decide) ?_
  exact ⟨vn64 (a := shV (c_row σ)) (by rw [hv]; exact fin_nn), hp⟩
theorem w_meanPrice {m : Nat} {σ : CS} (h1 : O1 m (c_row σ)) (h3 : O3 (c_row σ)) (hm : m ≤ 100000) {post : UInt32 → Prop} (hp : post (mpV (c_row σ))) : wp_X4_meanPrice σ post := by
  have hv := mpV_v h1 h3 hm
  unfold mpV at hp hv
  refine w_count h1 9 (by decide) ?_
  refine ⟨fun h => ?_, fun h => ?_⟩
  · have h : ¬ c_row σ 173 = 0 := h
    rw [if_neg h] at hp hv
    refine w_count h1 8 (by decide) ?_
    exact ⟨hv, hp⟩
  · have h : c_row σ 173 = 0 := h
    rw [if_pos h] at hp
    exact hp
theorem m_share {m : Nat} {r : Nat → Int32} {μ : MS} (R : Rl m r (m_s μ)) {post : UInt64 → Prop} (hp : post (shV r)) : wp_X5_share μ post := by
  obtain ⟨s, c, q, hv⟩ := shV_nn R.o1 R.o3
  have e3 : m_s μ ((3 : Int32)).toNatClampNeg = r 165 := R.P _ _ PI_chest
  have e4 : m_s μ ((4 : Int32)).toNatClampNeg = r 166 := R.P _ _ PI_coins
  unfold wp_X5_share
  rw [e3, e4]
  exact ⟨vn64 (a := shV r) (by rw [hv]; exact fin_nn), hp⟩
theorem m_mean {m : Nat} {r : Nat → Int32} {μ : MS} (R : Rl m r (m_s μ)) (hm : m ≤ 100000) {post : UInt32 → Prop} (hp : post (mpV r)) : wp_X5_mean μ post := by
  have hv := mpV_v R.o1 R.o3 hm
  have e6 : m_s μ ((6 : Int32)).toNatClampNeg = sumF r 42 6 := R.S.2.1
  have e7 : m_s μ ((7 : Int32)).toNatClampNeg = r 173 := R.P _ _ PI_given
  unfold mpV at hp hv
  unfold wp_X5_mean
  rw [e6, e7]
  refine ⟨fun h => ?_, fun h => ?_⟩
  · rw [if_neg h] at hp hv
    exact ⟨hv, hp⟩
  · rw [if_pos h] at hp
    exact hp
section
variable {m L : Nat} {xs : Nat → Int32} {σ : CS} {f : Nat → Int64} {μ : MS} {v4 : Int32} {K : KK}
theorem case_27 (I : Inv m σ μ) (hK : Nx m K) : wpl_27 L xs σ f μ v4 K := by
  unfold wpl_27
  refine w_chestShare I.R.o1 I.R.o3 ?_
  intro s1 h1
  subst h1
  refine m_share (I.thr 0).R ?_
  obtain ⟨s, c, q, hv⟩ := shV_nn I.R.o1 I.R.o3
  have e := dcmp_self hv
  refine ⟨fun _ => hK _ _ _ ((I.thr 0).mono (by omega)), fun h => absurd e h⟩
theorem case_28 (hm : m ≤ 100000) (I : Inv m σ μ) (hK : Nx m K) : wpl_28 L xs σ f μ v4 K := by
  unfold wpl_28
  refine w_meanPrice I.R.o1 I.R.o3 hm ?_
  obtain ⟨b1, ⟨s, c, q, hv⟩, _⟩ := fbits_pair (mpV_ok I.R.o1 I.R.o3 hm)
  refine ⟨b1, ?_⟩
  intro v5 h5
  intro s1 h1
  subst h1
  refine m_mean (I.thr 0).R hm ?_
  refine ⟨b1, ?_⟩
  intro v7 h7
  subst h5; subst h7
  have e := dcmp_self hv
  refine ⟨fun _ => hK _ _ _ ((I.thr 0).mono (by omega)), fun h => absurd e h⟩
end
