/-! pure part: the shares are no greater than the law asks -/
theorem fp_ratio_le {f : FP.Core.Fmt} (hF : Fm f) {n d K : Nat} (h0 : 0 < n) (hn2 : n < 1048576) (hd0 : 0 < d) (hd2 : d < 1048576) (hK : n ≤ K * d) : ∃ (c j : Nat), FP.Core.roundRatio f false n d 0 = .fin false c (-(j : Int)) ∧ c ≤ K * 2 ^ j := by
  have hn := hF.num
  obtain ⟨s1, s2⟩ := FP.Core.leading_spec h0 hd0
  have b1 : FP.Core.leading n d < 20 := by
    refine FP.Core.lt_of_below s1 ?_
    have := (FP.Core.below_iff n d 20 0).mpr (by rw [Nat.pow_zero, Nat.mul_one]; have := Nat.mul_le_mul (Nat.succ_le_of_lt hd0) (Nat.le_refl (2 ^ 20)); omega)
    exact this
  have b2 : -20 < FP.Core.leading n d + 1 := by
    refine FP.Core.lt_of_below ?_ s2
    intro hb
    have := (FP.Core.below_iff n d 0 20).mp hb
    have h3 := Nat.mul_le_mul (Nat.succ_le_of_lt h0) (Nat.le_refl (2 ^ 20))
    rw [Nat.pow_zero, Nat.mul_one] at this
    omega
  have hQ : FP.Core.quantum f n d 0 = FP.Core.leading n d - ((f.p : Int) - 1) := by
    unfold FP.Core.quantum
    rw [Int.max_eq_right (by omega)]
    omega
  obtain ⟨j, hj⟩ : ∃ j : Nat, FP.Core.leading n d - ((f.p : Int) - 1) = -((j + 1 : Nat) : Int) := ⟨(((f.p : Int) - 1) - FP.Core.leading n d).toNat - 1, by omega⟩
  have hle := FP.Core.nearest_units_le (f := f) h0 hd0 0
  have e1 : FP.Core.unitsNum n 0 (-((j + 1 : Nat) : Int)) = n * 2 ^ (j + 1) := by
    unfold FP.Core.unitsNum
    exact congrArg (fun z => n * 2 ^ z) (by omega)
  have e2 : FP.Core.unitsDen d 0 (-((j + 1 : Nat) : Int)) = d := by
    unfold FP.Core.unitsDen
    rw [show (-((j + 1 : Nat) : Int) - 0).toNat = 0 by omega, Nat.pow_zero, Nat.mul_one]
  rw [hQ, hj, e1, e2] at hle
  have hc : FP.Core.nearest (n * 2 ^ (j + 1)) d ≤ K * 2 ^ (j + 1) := FP.Core.nearest_le hd0 (by
    calc n * 2 ^ (j + 1) ≤ K * d * 2 ^ (j + 1) := Nat.mul_le_mul_right _ hK
      _ = K * 2 ^ (j + 1) * d := Nat.mul_right_comm K d _)
  unfold FP.Core.roundRatio
  rw [if_neg (by omega)]
  unfold FP.Core.roundAt FP.Core.settle FP.Core.bound
  rw [hQ, hj, e1, e2]
  by_cases hlt : FP.Core.nearest (n * 2 ^ (j + 1)) d < 2 ^ f.p
  · rw [if_pos hlt, if_pos (by omega)]
    exact ⟨_, j + 1, rfl, hc⟩
  · rw [if_neg hlt, if_pos (by omega)]
    refine ⟨f.tails, j, congrArg (FP.Core.Datum.fin false f.tails) (by omega), ?_⟩
    have h2 := hn.2.2.2.2.2
    have hc2 : K * 2 ^ (j + 1) = 2 * (K * 2 ^ j) := by rw [Nat.pow_succ, ← Nat.mul_assoc, Nat.mul_comm]
    rw [hc2] at hc
    generalize K * 2 ^ j = y at *
    generalize FP.Core.nearest (n * 2 ^ (j + 1)) d = x at *
    omega
theorem ord_le {c j K w : Nat} (h : c ≤ K * 2 ^ j) : ∃ o, FP.Core.order (.fin false c (-(j : Int))) (.fin false (K * 2 ^ w) (-(w : Int))) = some o ∧ o ≠ .gt := by
  refine ⟨_, rfl, ?_⟩
  rw [signed_f, signed_f]
  unfold FP.Core.inUnits
  have key : c * 2 ^ (-(j : Int) - min (-(j : Int)) (-(w : Int))).toNat ≤ K * 2 ^ w * 2 ^ (-(w : Int) - min (-(j : Int)) (-(w : Int))).toNat := by
    rcases Nat.le_total w j with z | z
    · have m1 : min (-(j : Int)) (-(w : Int)) = -(j : Int) := Int.min_eq_left (by omega)
      rw [m1, show (-(j : Int) - -(j : Int)).toNat = 0 by omega, show (-(w : Int) - -(j : Int)).toNat = j - w by omega, Nat.pow_zero, Nat.mul_one, Nat.mul_assoc, ← Nat.pow_add, show w + (j - w) = j by omega]
      exact h
    · have m1 : min (-(j : Int)) (-(w : Int)) = -(w : Int) := Int.min_eq_right (by omega)
      rw [m1, show (-(j : Int) - -(w : Int)).toNat = w - j by omega, show (-(w : Int) - -(w : Int)).toNat = 0 by omega, Nat.pow_zero, Nat.mul_one]
      calc c * 2 ^ (w - j) ≤ K * 2 ^ j * 2 ^ (w - j) := Nat.mul_le_mul_right _ h
        _ = K * 2 ^ w := by rw [Nat.mul_assoc, ← Nat.pow_add, show j + (w - j) = w by omega]
  generalize c * 2 ^ (-(j : Int) - min (-(j : Int)) (-(w : Int))).toNat = x at *
  generalize K * 2 ^ w * 2 ^ (-(w : Int) - min (-(j : Int)) (-(w : Int))).toNat = y at *
  rw [cmp_int]
  by_cases q : (x : Int) < (y : Int)
  · rw [if_pos q]; decide
  · rw [if_neg q, if_pos (by omega)]; decide
theorem ord_0 {C w : Nat} {q : Int} (hq : q ≤ -(w : Int)) : ∃ o, FP.Core.order (.fin false 0 q) (.fin false C (-(w : Int))) = some o ∧ o ≠ .gt := by
  refine ⟨_, rfl, ?_⟩
  rw [signed_f, signed_f]
  unfold FP.Core.inUnits
  rw [Nat.zero_mul]
  generalize C * 2 ^ (-(w : Int) - min q (-(w : Int))).toNat = y
  rw [cmp_int]
  by_cases z : ((0 : Nat) : Int) < (y : Int)
  · rw [if_pos z]; decide
  · rw [if_neg z, if_pos (by omega)]; decide
theorem cv_le {o : Ordering} (h : o ≠ .gt) (op : CmpOp) : ¬ 0 < cmpValue (some o) op := by
  cases o
  · show ¬ (0 : Int32) < -1; decide
  · show ¬ (0 : Int32) < 0; decide
  · exact absurd rfl h
theorem cv_nn {o : Ordering} (h : o ≠ .lt) (op : CmpOp) : ¬ cmpValue (some o) op < 0 := by
  cases o
  · exact absurd rfl h
  · show ¬ (0 : Int32) < 0; decide
  · show ¬ (1 : Int32) < 0; decide
theorem v64_1w : FP.Core.val64 FP.dconst1 = .fin false (1 * 2 ^ 52) (-((52 : Nat) : Int)) := by decide +kernel
theorem v32_99 : FP.Core.val32 1120272384 = .fin false (99 * 2 ^ 17) (-((17 : Nat) : Int)) := by decide +kernel
theorem rr64 {n d : Nat} (hn : n < 1048576) (hd0 : 0 < d) (hd : d < 1048576) : FP.Core.val64 (FP.ddiv (FP.i2d (nI n)) (FP.i2d (nI d))) = FP.Core.roundRatio FP.Core.b64 false n d 0 := by
  show FP.Core.val64 (FP.Core.ddiv (FP.Core.i2d (nI n)) (FP.Core.i2d (nI d))) = _
  rw [FP.Core.val64_ddiv, FP.Core.val64_i2d, FP.Core.val64_i2d, nI_toInt (by omega), nI_toInt (by omega)]
  exact fp_div F64 (by omega) hd0 (by omega)
theorem rr32 {n d : Nat} (hn : n < 1048576) (hd0 : 0 < d) (hd : d < 1048576) : FP.Core.val32 (FP.fdiv (FP.i2f (nI n)) (FP.i2f (nI d))) = FP.Core.roundRatio FP.Core.b32 false n d 0 := by
  show FP.Core.val32 (FP.Core.fdiv (FP.Core.i2f (nI n)) (FP.Core.i2f (nI d))) = _
  rw [FP.Core.val32_fdiv, FP.Core.val32_i2f, FP.Core.val32_i2f, nI_toInt (by omega), nI_toInt (by omega)]
  exact fp_div F32 (by omega) hd0 (by omega)
theorem le_one {n d : Nat} (hn : n ≤ d) (hd0 : 0 < d) (hd : d < 1048576) : ¬ 0 < cmpValue (FP.dcmp (FP.ddiv (FP.i2d (nI n)) (FP.i2d (nI d))) FP.dconst1) .g := by
  have e : FP.dcmp (FP.ddiv (FP.i2d (nI n)) (FP.i2d (nI d))) FP.dconst1 = FP.Core.order (FP.Core.roundRatio FP.Core.b64 false n d 0) (.fin false (1 * 2 ^ 52) (-((52 : Nat) : Int))) := by
    show FP.Core.order (FP.Core.val64 _) (FP.Core.val64 FP.dconst1) = _
    rw [rr64 (by omega) hd0 hd, v64_1w]
  rw [e]
  by_cases h0 : n = 0
  · subst h0
    obtain ⟨o, ho, hne⟩ := ord_0 (C := 1 * 2 ^ 52) (w := 52) (q := FP.Core.b64.qmin) (by decide)
    rw [show FP.Core.roundRatio FP.Core.b64 false 0 d 0 = .fin false 0 FP.Core.b64.qmin from rfl, ho]
    exact cv_le hne _
  · obtain ⟨c, j, hr, hc⟩ := fp_ratio_le F64 (n := n) (d := d) (K := 1) (by omega) (by omega) hd0 hd (by omega)
    obtain ⟨o, ho, hne⟩ := ord_le (w := 52) hc
    rw [hr, ho]
    exact cv_le hne _
theorem le_99 {n d : Nat} (hn : n ≤ 99 * d) (hn2 : n < 1048576) (hd0 : 0 < d) (hd : d < 1048576) : ¬ 0 < cmpValue (FP.fcmp (FP.fdiv (FP.i2f (nI n)) (FP.i2f (nI d))) 1120272384) .g := by
  have e : FP.fcmp (FP.fdiv (FP.i2f (nI n)) (FP.i2f (nI d))) 1120272384 = FP.Core.order (FP.Core.roundRatio FP.Core.b32 false n d 0) (.fin false (99 * 2 ^ 17) (-((17 : Nat) : Int))) := by
    show FP.Core.order (FP.Core.val32 _) (FP.Core.val32 1120272384) = _
    rw [rr32 (by omega) hd0 hd, v32_99]
  rw [e]
  by_cases h0 : n = 0
  · subst h0
    obtain ⟨o, ho, hne⟩ := ord_0 (C := 99 * 2 ^ 17) (w := 17) (q := FP.Core.b32.qmin) (by decide)
    rw [show FP.Core.roundRatio FP.Core.b32 false 0 d 0 = .fin false 0 FP.Core.b32.qmin from rfl, ho]
    exact cv_le hne _
  · obtain ⟨c, j, hr, hc⟩ := fp_ratio_le F32 (n := n) (d := d) (K := 99) (by omega) (by omega) hd0 hd hn
    obtain ⟨o, ho, hne⟩ := ord_le (w := 17) hc
    rw [hr, ho]
    exact cv_le hne _
theorem z_99 : ¬ 0 < cmpValue (FP.fcmp FP.fconst0 1120272384) .g := by
  have e : FP.fcmp FP.fconst0 1120272384 = FP.Core.order (.fin false 0 FP.Core.b32.qmin) (.fin false (99 * 2 ^ 17) (-((17 : Nat) : Int))) := by
    show FP.Core.order (FP.Core.val32 FP.fconst0) (FP.Core.val32 1120272384) = _
    rw [v32_0, v32_99]
  obtain ⟨o, ho, hne⟩ := ord_0 (C := 99 * 2 ^ 17) (w := 17) (q := FP.Core.b32.qmin) (by decide)
  rw [e, ho]
  exact cv_le hne _
theorem fpf : FPF := by
  intro m σ hm hG
  have h1 := hG.o1
  have h3 := hG.o3
  have hsm := O3.small h1 h3
  have hch := h1.chest
  have hgv := h1.given
  have h5 := hG.x5
  refine ⟨shV (c_row σ), mpV (c_row σ), fun post hp => w_chestShare h1 h3 hp, fun post hp => w_meanPrice h1 h3 (by omega) hp, ?_, ?_, ?_⟩
  · rcases (shV_ok h1 h3).2 with h | ⟨c, E, h, _, _⟩
    · have : FP.dcmp (shV (c_row σ)) FP.dconst0 = some .eq := by
        show FP.Core.order (FP.Core.val64 _) (FP.Core.val64 FP.dconst0) = _
        rw [h, v64_0]; exact zero_cmp0
      rw [this]; exact cv_nn (by decide) _
    · have : FP.dcmp (shV (c_row σ)) FP.dconst0 = some .gt := by
        show FP.Core.order (FP.Core.val64 _) (FP.Core.val64 FP.dconst0) = _
        rw [h.1, v64_0]; exact pos_cmp0 (d := 0) (tp64 h)
      rw [this]; exact cv_nn (by decide) _
  · obtain ⟨k1, k2, k3, k4⟩ := h3
    have e1 := tI_of hch
    have e2 := tI_of (a := c_row σ 166) (by omega)
    unfold shV
    rw [e1, e2]
    exact le_one (by omega) (by omega) (by omega)
  · unfold mpV
    by_cases h0 : c_row σ 173 = 0
    · rw [if_pos h0]; exact z_99
    · rw [if_neg h0]
      obtain ⟨k1, k2, k3, k4⟩ := h3
      have s42 := sumF_S6 (r := c_row σ) (k := 42) (fun i hi => h1.prices hi) (by omega)
      have hg0 : (c_row σ 173).toInt ≠ 0 := fun e => h0 (Int32.toInt_inj.mp (by rw [e, tI0]))
      unfold X5 at h5
      have e1 := tI_of (a := sumF (c_row σ) 42 6) (by omega)
      have e2 := tI_of hgv.1
      rw [e1, e2]
      exact le_99 (by omega) (by omega) (by omega) (by omega)
