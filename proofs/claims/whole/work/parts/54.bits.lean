/-! pure part: the bits of the shares, by both ways -/
def wBL (p2 p3 : Int32) (v4 : UInt64) (v6 : Int64) (post : Int64 → Prop) : Prop := ∃ I3 : Nat → UInt64 → Int64 → Int32 → Prop, (∃ n : Nat, I3 n v4 v6 0) ∧ ∀ (n3 : Nat) (v4_3 : UInt64) (v6_3 : Int64) (v8_3 : Int32), I3 n3 v4_3 v6_3 v8_3 → ((p3 ≤ v8_3 → ∀ v8_4 : Int64, v8_4 = (1 <<< (p2.toInt64 &&& 63)) → vf_n64 (FP.dsub v4_3 FP.dconst1) ∧ vf_n64 (FP.dmul (FP.dsub v4_3 FP.dconst1) (FP.l2d v8_4)) ∧ post ((v6_3 * v8_4) + (FP.d2l (FP.dmul (FP.dsub v4_3 FP.dconst1) (FP.l2d v8_4))))) ∧ (¬ p3 ≤ v8_3 → ((0 ≤ (Op.cmpValue (FP.dcmp v4_3 FP.dconst1) .g) → ∀ v8_5 : Int64, v8_5 = (1 <<< (p2.toInt64 &&& 63)) → vf_n64 (FP.dsub v4_3 FP.dconst1) ∧ vf_n64 (FP.dmul (FP.dsub v4_3 FP.dconst1) (FP.l2d v8_5)) ∧ post ((v6_3 * v8_5) + (FP.d2l (FP.dmul (FP.dsub v4_3 FP.dconst1) (FP.l2d v8_5))))) ∧ (¬ 0 ≤ (Op.cmpValue (FP.dcmp v4_3 FP.dconst1) .g) → vf_n64 (FP.dmul v4_3 4611686018427387904) ∧ ∀ v4_6 : UInt64, v4_6 = (FP.dmul v4_3 4611686018427387904) → ∀ v6_7 : Int64, v6_7 = (v6_3 - 1) → ∀ v8_8 : Int32, v8_8 = v8_3 + 1 → ∃ n' : Nat, n' < n3 ∧ I3 n' v4_6 v6_7 v8_8))))
theorem lN_pred (n : Nat) : lN (n + 1) - 1 = lN n := lN_sub (a := n + 1) (b := 1) (by omega)
theorem w_bitsLow {p2 p3 : Int32} {w B : Nat} (hB : p3 = nI B) (hB1 : 100 < B) (hB2 : B < 3000) (hw : w ≤ 52) (hu : FP.Core.val64 (FP.l2d (1 <<< (p2.toInt64 &&& 63))) = .fin false FP.Core.b64.tails ((w : Int) - ((FP.Core.b64.p : Int) - 1))) {v : UInt64} {c k e : Nat} (hk : k ≤ 60) (hv : V64 v c (-(k : Int))) {post : Int64 → Prop} (hp : post (lN e * (1 <<< (p2.toInt64 &&& 63)) + lN ((c - 4503599627370496) / 2 ^ (52 - w)))) : wBL p2 p3 v (lN (e + k)) post := by
  subst hB
  refine ⟨fun n v4 v6 v8 => ∃ i, i ≤ k ∧ n = k - i ∧ V64 v4 c (-((k - i : Nat) : Int)) ∧ v6 = lN (e + (k - i)) ∧ v8 = nI i, ⟨k, 0, Nat.zero_le _, rfl, hv, rfl, rfl⟩, ?_⟩
  rintro n v4 v6 v8 ⟨i, hi, rfl, hV, rfl, rfl⟩
  refine ⟨fun h => ?_, fun _ => ⟨fun h => ?_, fun h => ?_⟩⟩
  · have := (nI_leI (by omega) (by omega)).mp h
    omega
  · have hik : k - i = 0 := by
      rcases Nat.eq_zero_or_pos (k - i) with z | z
      · exact z
      · rw [hV.cmp1_lt (by omega) .g] at h
        exact absurd h (by decide)
    intro v8 hv8
    subst hv8
    rw [hik] at hV ⊢
    obtain ⟨f1, f2, f3⟩ := V64.frac (u := FP.l2d (1 <<< (p2.toInt64 &&& 63))) hV hw hu
    refine ⟨f1, f2, ?_⟩
    rw [f3]
    exact hp
  · have hik : k - i ≠ 0 := fun z => by
      rw [z] at hV
      rcases hV.cmp1_ge (by omega) .g with q | q
      · rw [q] at h; exact h (by decide)
      · rw [q] at h; exact h (by decide)
    obtain ⟨d1, d2⟩ := hV.dbl (by omega)
    refine ⟨d2, ?_⟩
    intro v4' h4 v6' h6 v8' h8
    refine ⟨k - (i + 1), by omega, i + 1, by omega, rfl, ?_, ?_, by rw [h8, nI_1]⟩
    · rw [h4, show -((k - (i + 1) : Nat) : Int) = -((k - i : Nat) : Int) + 1 by omega]
      exact d1
    · rw [h6, show e + (k - i) = (e + (k - (i + 1))) + 1 by omega]
      exact lN_pred _
theorem cmp0_gt {v : UInt64} {c : Nat} {E : Int} (hv : V64 v c E) : cmpValue (FP.dcmp v FP.dconst0) .l = 1 := by
  have : FP.dcmp v FP.dconst0 = some .gt := by
    show FP.Core.order (FP.Core.val64 v) (FP.Core.val64 FP.dconst0) = _
    rw [hv.1, v64_0]
    exact pos_cmp0 (d := 0) (tp64 hv)
  rw [this]; rfl
theorem cmp0_eq {v : UInt64} (hv : FP.Core.val64 v = .fin false 0 FP.Core.b64.qmin) : cmpValue (FP.dcmp v FP.dconst0) .l = 0 := by
  have : FP.dcmp v FP.dconst0 = some .eq := by
    show FP.Core.order (FP.Core.val64 v) (FP.Core.val64 FP.dconst0) = _
    rw [hv, v64_0]
    exact zero_cmp0
  rw [this]; rfl
theorem w_bitsOf0 {v : UInt64} {p2 p3 : Int32} (hv : FP.Core.val64 v = .fin false 0 FP.Core.b64.qmin) {post : Int64 → Prop} (hp : post 0) : wp_X4_bitsOf v p2 p3 post := by
  unfold wp_X4_bitsOf
  rw [cmp0_eq hv]
  exact ⟨fun h => absurd h (by decide), fun _ => hp⟩
theorem w_bitsOf {v : UInt64} {p2 p3 : Int32} {w B e c : Nat} {E : Int} (hB : p3 = nI B) (hB1 : 100 < B) (hB2 : B < 3000) (hw : w ≤ 52) (hu : FP.Core.val64 (FP.l2d (1 <<< (p2.toInt64 &&& 63))) = .fin false FP.Core.b64.tails ((w : Int) - ((FP.Core.b64.p : Int) - 1))) (hv : V64 v c E) (hE1 : -60 ≤ E) (hE2 : E ≤ 60) (he : (e : Int) = B + E) {post : Int64 → Prop} (hp : post (lN e * (1 <<< (p2.toInt64 &&& 63)) + lN ((c - 4503599627370496) / 2 ^ (52 - w)))) : wp_X4_bitsOf v p2 p3 post := by
  unfold wp_X4_bitsOf
  rw [cmp0_gt hv]
  refine ⟨fun _ => ?_, fun h => absurd (by decide) h⟩
  intro v6 hv6
  subst hB
  rw [nI_l (by omega)] at hv6
  subst hv6
  by_cases hneg : E ≤ 0
  · obtain ⟨k, hk⟩ : ∃ k : Nat, E = -(k : Int) := ⟨(-E).toNat, by omega⟩
    subst hk
    have eB : B = e + k := by omega
    refine ⟨fun n v4 v6 v8 => v4 = v ∧ v6 = lN B ∧ v8 = 0, ⟨0, rfl, rfl, rfl⟩, ?_⟩
    rintro n v4 v6 v8 ⟨rfl, rfl, rfl⟩
    refine ⟨fun h => absurd ((nI_leI (b := 0) (by omega) (by omega)).mp h) (by omega), fun _ => ⟨fun _ => ?_, fun h => ?_⟩⟩
    · rw [eB]
      exact w_bitsLow (p3 := nI (e + k)) (B := e + k) rfl (by omega) (by omega) hw hu (by omega) hv hp
    · rw [hv.cmp2_lt (by omega) .l] at h
      exact absurd (by decide) h
  · obtain ⟨k, hk⟩ : ∃ k : Nat, E = (k : Int) := ⟨E.toNat, by omega⟩
    subst hk
    refine ⟨fun n v4 v6 v8 => ∃ i, i ≤ k ∧ n = k - i ∧ V64 v4 c ((k - i : Nat) : Int) ∧ v6 = lN (B + i) ∧ v8 = nI i, ⟨k, 0, Nat.zero_le _, rfl, hv, rfl, rfl⟩, ?_⟩
    rintro n v4 v6 v8 ⟨i, hi, rfl, hV, rfl, rfl⟩
    refine ⟨fun h => absurd ((nI_leI (by omega) (by omega)).mp h) (by omega), fun _ => ⟨fun h => ?_, fun h => ?_⟩⟩
    · have hik : k - i = 0 := by
        rcases Nat.eq_zero_or_pos (k - i) with z | z
        · exact z
        · rcases hV.cmp2_ge (by omega) .l with q | q
          · rw [q] at h; exact absurd h (by decide)
          · rw [q] at h; exact absurd h (by decide)
      rw [hik] at hV
      have e1 : B + i = e + 0 := by omega
      rw [e1]
      exact w_bitsLow (B := B) rfl hB1 hB2 hw hu (Nat.zero_le _) hV hp
    · have hik : k - i ≠ 0 := fun z => by
        rw [z] at hV
        rw [hV.cmp2_lt (by omega) .l] at h
        exact h (by decide)
      obtain ⟨d1, d2⟩ := hV.half (by omega)
      refine ⟨d2, ?_⟩
      intro v4' h4 v6' h6 v8' h8
      refine ⟨k - (i + 1), by omega, i + 1, by omega, rfl, ?_, ?_, by rw [h8, nI_1]⟩
      · rw [h4, show ((k - (i + 1) : Nat) : Int) = ((k - i : Nat) : Int) - 1 by omega]
        exact d1
      · rw [h6, lN_1]; rfl
theorem m_bits0 {v : UInt64} (hv : FP.Core.val64 v = .fin false 0 FP.Core.b64.qmin) {post : Int64 → Prop} (hp : post 0) : wp_X5_bits v post := by
  unfold wp_X5_bits
  rw [cmp0_eq hv]
  exact ⟨fun h => absurd rfl h, fun _ => hp⟩
theorem m_bits {v : UInt64} {c k : Nat} (hk : k ≤ 60) (hv : V64 v c (-(k : Int))) {post : Int64 → Prop} (hp : post (lN (1023 - k) * 4503599627370496 + lN (c - 4503599627370496))) : wp_X5_bits v post := by
  unfold wp_X5_bits
  rw [cmp0_gt hv]
  refine ⟨fun _ => ?_, fun h => absurd h (by decide)⟩
  refine ⟨fun n v2 v4 => ∃ i, i ≤ k ∧ n = k - i ∧ V64 v2 c (-((k - i : Nat) : Int)) ∧ v4 = lN (1023 - i), ⟨k, 0, Nat.zero_le _, rfl, hv, rfl⟩, ?_⟩
  rintro n v2 v4 ⟨i, hi, rfl, hV, rfl⟩
  refine ⟨fun h => ?_, fun h => ?_⟩
  · have hik : k - i = 0 := by
      rcases Nat.eq_zero_or_pos (k - i) with z | z
      · exact z
      · rw [hV.cmp1_lt (by omega) .g] at h
        exact absurd h (by decide)
    rw [hik] at hV
    obtain ⟨f1, f2, f3⟩ := V64.frac (u := 4841369599423283200) (w := 52) hV (by decide) v64_52
    refine ⟨f1, f2, ?_⟩
    rw [f3, Nat.sub_self, Nat.pow_zero, Nat.div_one, show i = k by omega]
    exact hp
  · have hik : k - i ≠ 0 := fun z => by
      rw [z] at hV
      rcases hV.cmp1_ge (by omega) .g with q | q
      · rw [q] at h; exact h (by decide)
      · rw [q] at h; exact h (by decide)
    obtain ⟨d1, d2⟩ := hV.dbl (by omega)
    refine ⟨d2, ?_⟩
    intro v2' h2 v4' h4
    refine ⟨k - (i + 1), by omega, i + 1, by omega, rfl, ?_, ?_⟩
    · rw [h2, show -((k - (i + 1) : Nat) : Int) = -((k - i : Nat) : Int) + 1 by omega]
      exact d1
    · rw [h4, show 1023 - i = (1023 - (i + 1)) + 1 by omega]
      exact lN_pred _
theorem fcmp0_gt {v : UInt32} {c : Nat} {E : Int} (hv : V32 v c E) : cmpValue (FP.fcmp v FP.fconst0) .l = 1 := by
  have : FP.fcmp v FP.fconst0 = some .gt := by
    show FP.Core.order (FP.Core.val32 v) (FP.Core.val32 FP.fconst0) = _
    rw [hv.1, v32_0]
    exact pos_cmp0 (d := 0) (tp32 hv)
  rw [this]; rfl
theorem fcmp0_eq {v : UInt32} (hv : FP.Core.val32 v = .fin false 0 FP.Core.b32.qmin) : cmpValue (FP.fcmp v FP.fconst0) .l = 0 := by
  have : FP.fcmp v FP.fconst0 = some .eq := by
    show FP.Core.order (FP.Core.val32 v) (FP.Core.val32 FP.fconst0) = _
    rw [hv, v32_0]
    exact zero_cmp0
  rw [this]; rfl
theorem m_floatBits0 {v : UInt32} (hv : FP.Core.val32 v = .fin false 0 FP.Core.b32.qmin) {post : Int32 → Prop} (hp : post 0) : wp_X5_floatBits v post := by
  unfold wp_X5_floatBits
  rw [fcmp0_eq hv]
  exact ⟨fun h => absurd rfl h, fun _ => hp⟩
def wFL (v1 : UInt32) (v2 : Int32) (post : Int32 → Prop) : Prop := ∃ I2 : Nat → UInt32 → Int32 → Prop, (∃ n : Nat, I2 n v1 v2) ∧ ∀ (n2 : Nat) (v1_2 : UInt32) (v2_2 : Int32), I2 n2 v1_2 v2_2 → ((0 ≤ (Op.cmpValue (FP.fcmp v1_2 FP.fconst1) .g) → vf_n32 (FP.fsub v1_2 FP.fconst1) ∧ vf_n32 (FP.fmul (FP.fsub v1_2 FP.fconst1) 1258291200) ∧ post ((v2_2 * 8388608) + (FP.f2i (FP.fmul (FP.fsub v1_2 FP.fconst1) 1258291200)))) ∧ (¬ 0 ≤ (Op.cmpValue (FP.fcmp v1_2 FP.fconst1) .g) → vf_n32 (FP.fmul v1_2 FP.fconst2) ∧ ∀ v1_3 : UInt32, v1_3 = (FP.fmul v1_2 FP.fconst2) → ∀ v2_4 : Int32, v2_4 = v2_2 + (-1) → ∃ n' : Nat, n' < n2 ∧ I2 n' v1_3 v2_4))
theorem m_floatLow {v : UInt32} {c k e : Nat} (hk : k ≤ 60) (hv : V32 v c (-(k : Int))) {post : Int32 → Prop} (hp : post (nI e * 8388608 + nI (c - 8388608))) : wFL v (nI (e + k)) post := by
  refine ⟨fun n v1 v2 => ∃ i, i ≤ k ∧ n = k - i ∧ V32 v1 c (-((k - i : Nat) : Int)) ∧ v2 = nI (e + (k - i)), ⟨k, 0, Nat.zero_le _, rfl, hv, rfl⟩, ?_⟩
  rintro n v1 v2 ⟨i, hi, rfl, hV, rfl⟩
  refine ⟨fun h => ?_, fun h => ?_⟩
  · have hik : k - i = 0 := by
      rcases Nat.eq_zero_or_pos (k - i) with z | z
      · exact z
      · rw [hV.cmp1_lt (by omega) .g] at h
        exact absurd h (by decide)
    rw [hik] at hV ⊢
    obtain ⟨f1, f2, f3⟩ := V32.frac hV
    refine ⟨f1, f2, ?_⟩
    rw [f3]
    exact hp
  · have hik : k - i ≠ 0 := fun z => by
      rw [z] at hV
      rcases hV.cmp1_ge (by omega) .g with q | q
      · rw [q] at h; exact h (by decide)
      · rw [q] at h; exact h (by decide)
    obtain ⟨d1, d2⟩ := hV.dbl (by omega)
    refine ⟨d2, ?_⟩
    intro v1' h1 v2' h2
    refine ⟨k - (i + 1), by omega, i + 1, by omega, rfl, ?_, ?_⟩
    · rw [h1, show -((k - (i + 1) : Nat) : Int) = -((k - i : Nat) : Int) + 1 by omega]
      exact d1
    · rw [h2, show e + (k - i) = (e + (k - (i + 1))) + 1 by omega]
      have := nI_pred (e + (k - (i + 1)))
      rw [Int32.sub_eq_add_neg] at this
      exact this
theorem m_floatBits {v : UInt32} {e c : Nat} {E : Int} (hv : V32 v c E) (hE1 : -60 ≤ E) (hE2 : E ≤ 60) (he : (e : Int) = 127 + E) {post : Int32 → Prop} (hp : post (nI e * 8388608 + nI (c - 8388608))) : wp_X5_floatBits v post := by
  unfold wp_X5_floatBits
  rw [fcmp0_gt hv]
  refine ⟨fun _ => ?_, fun h => absurd h (by decide)⟩
  by_cases hneg : E ≤ 0
  · obtain ⟨k, hk⟩ : ∃ k : Nat, E = -(k : Int) := ⟨(-E).toNat, by omega⟩
    subst hk
    refine ⟨fun n v1 v2 => v1 = v ∧ v2 = 127, ⟨0, rfl, rfl⟩, ?_⟩
    rintro n v1 v2 ⟨rfl, rfl⟩
    refine ⟨fun _ => ?_, fun h => ?_⟩
    · have e1 : (127 : Int32) = nI (e + k) := by rw [show e + k = 127 by omega]; rfl
      rw [e1]
      exact m_floatLow (by omega) hv hp
    · rw [hv.cmp2_lt (by omega) .l] at h
      exact absurd (by decide) h
  · obtain ⟨k, hk⟩ : ∃ k : Nat, E = (k : Int) := ⟨E.toNat, by omega⟩
    subst hk
    refine ⟨fun n v1 v2 => ∃ i, i ≤ k ∧ n = k - i ∧ V32 v1 c ((k - i : Nat) : Int) ∧ v2 = nI (127 + i), ⟨k, 0, Nat.zero_le _, rfl, hv, rfl⟩, ?_⟩
    rintro n v1 v2 ⟨i, hi, rfl, hV, rfl⟩
    refine ⟨fun h => ?_, fun h => ?_⟩
    · have hik : k - i = 0 := by
        rcases Nat.eq_zero_or_pos (k - i) with z | z
        · exact z
        · rcases hV.cmp2_ge (by omega) .l with q | q
          · rw [q] at h; exact absurd h (by decide)
          · rw [q] at h; exact absurd h (by decide)
      rw [hik] at hV
      have e1 : 127 + i = e + 0 := by omega
      rw [e1]
      exact m_floatLow (Nat.zero_le _) hV hp
    · have hik : k - i ≠ 0 := fun z => by
        rw [z] at hV
        rw [hV.cmp2_lt (by omega) .l] at h
        exact h (by decide)
      obtain ⟨d1, d2⟩ := hV.half (by omega)
      refine ⟨d2, ?_⟩
      intro v1' h1 v2' h2
      refine ⟨k - (i + 1), by omega, i + 1, by omega, rfl, ?_, ?_⟩
      · rw [h1, show ((k - (i + 1) : Nat) : Int) = ((k - i : Nat) : Int) - 1 by omega]
        exact d1
      · rw [h2, nI_1]; rfl
theorem sh52 : (1 : Int64) <<< ((nI 52).toInt64 &&& 63) = 4503599627370496 := by decide +kernel
theorem sh23 : (1 : Int64) <<< ((nI 23).toInt64 &&& 63) = 8388608 := by decide +kernel
/-- the chest's share of the coins, as bits: one way or the other -/
theorem bits_pair {v : UInt64} (h : FP.Core.val64 v = .fin false 0 FP.Core.b64.qmin ∨ ∃ c E, V64 v c E ∧ -21 ≤ E ∧ E ≤ 0) : ∃ b : Int64, (∀ post : Int64 → Prop, post b → wp_X4_bitsOf v 52 1023 post) ∧ (∀ post : Int64 → Prop, post b → wp_X5_bits v post) := by
  rcases h with h | ⟨c, E, hv, h1, h2⟩
  · exact ⟨0, fun post hp => w_bitsOf0 h hp, fun post hp => m_bits0 h hp⟩
  · obtain ⟨k, hk⟩ : ∃ k : Nat, E = -(k : Int) := ⟨(-E).toNat, by omega⟩
    subst hk
    refine ⟨lN (1023 - k) * 4503599627370496 + lN (c - 4503599627370496), fun post hp => ?_, fun post hp => m_bits (by omega) hv hp⟩
    refine w_bitsOf (p2 := nI 52) (w := 52) (B := 1023) (e := 1023 - k) rfl (by decide) (by decide) (by decide) v64_u52 hv (by omega) (by omega) (by omega) ?_
    rw [sh52, Nat.sub_self, Nat.pow_zero, Nat.div_one]
    exact hp
/-- the mean price, as bits -/
theorem fbits_pair {x : UInt32} (h : FP.Core.val32 x = .fin false 0 FP.Core.b32.qmin ∨ ∃ c E, V32 x c E ∧ -21 ≤ E ∧ E ≤ 21) : vf_n64 (FP.f2d x) ∧ (∃ s c q, FP.Core.val64 (FP.f2d x) = .fin s c q) ∧ ∃ b : Int32, (∀ post : Int64 → Prop, post b.toInt64 → wp_X4_bitsOf (FP.f2d x) 23 127 post) ∧ (∀ post : Int32 → Prop, post b → wp_X5_floatBits x post) := by
  rcases h with h | ⟨c, E, hv, h1, h2⟩
  · have hz := f2d_Z h
    exact ⟨vn64 (by rw [hz]; exact fin_nn), ⟨_, _, _, hz⟩, 0, fun post hp => w_bitsOf0 hz hp, fun post hp => m_floatBits0 h hp⟩
  · obtain ⟨d1, d2⟩ := f2d_V hv
    have hc1 : 8388608 ≤ c := by have := hv.2.1; rw [t32] at this; exact this
    have hc2 : c < 16777216 := hv.2.2.1
    obtain ⟨e, he⟩ : ∃ e : Nat, (e : Int) = 127 + E := ⟨(127 + E).toNat, by omega⟩
    refine ⟨d2, ⟨_, _, _, d1.1⟩, nI e * 8388608 + nI (c - 8388608), fun post hp => ?_, fun post hp => m_floatBits hv (by omega) (by omega) he hp⟩
    refine w_bitsOf (p2 := nI 23) (w := 23) (B := 127) (e := e) rfl (by decide) (by decide) (by decide) v64_u23 d1 (by omega) (by omega) he ?_
    have ef : (c * 536870912 - 4503599627370496) / 2 ^ (52 - 23) = c - 8388608 := by
      rw [show (2 : Nat) ^ (52 - 23) = 536870912 from rfl]; omega
    have ei : nI e * 8388608 + nI (c - 8388608) = nI (e * 8388608 + (c - 8388608)) := by
      rw [show (8388608 : Int32) = nI 8388608 from rfl, pk_mul, nI_add]
    rw [ei, nI_l (by omega)] at hp
    rw [sh23, ef, show (8388608 : Int64) = lN 8388608 from rfl, lN_mul, lN_add]
    exact hp
