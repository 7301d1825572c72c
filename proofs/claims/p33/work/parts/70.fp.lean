/-! pure part: the two shares; floats and doubles as numbers -/
def Fm (f : FP.Core.Fmt) : Prop := f = FP.Core.b32 ∨ f = FP.Core.b64
theorem Fm.good {f : FP.Core.Fmt} (h : Fm f) : FP.Core.Good f := by
  rcases h with rfl | rfl
  · exact FP.Core.good_b32
  · exact FP.Core.good_b64
/-- the numbers that the format's constants give -/
theorem Fm.num {f : FP.Core.Fmt} (h : Fm f) : 24 ≤ f.p ∧ f.p ≤ 53 ∧ f.qmin ≤ -125 - (f.p : Int) ∧ 103 - (f.p : Int) ≤ f.qmax ∧ f.tails = 2 ^ (f.p - 1) ∧ 2 ^ f.p = 2 * f.tails := by
  rcases h with rfl | rfl
  · decide +kernel
  · decide +kernel
/-- a normal number of moderate size; its leading digit stands at q + (p - 1) -/
def Nm (f : FP.Core.Fmt) (c : Nat) (q : Int) : Prop := f.tails ≤ c ∧ c < 2 ^ f.p ∧ -100 ≤ q + ((f.p : Int) - 1) ∧ q + ((f.p : Int) - 1) ≤ 100
theorem Nm.fits {f : FP.Core.Fmt} (hF : Fm f) {s : Bool} {c : Nat} {q : Int} (h : Nm f c q) : FP.Core.fits f (.fin s c q) := by
  have hn := hF.num
  obtain ⟨h1, h2, h3, h4⟩ := h
  exact ⟨h2, by omega, by omega, Or.inr h1⟩
theorem tails_pos' {f : FP.Core.Fmt} : 0 < f.tails := Nat.two_pow_pos _
/-- times a power of two -/
theorem fp_mul {f : FP.Core.Fmt} (hF : Fm f) {c : Nat} {q : Int} (w : Nat) (h : Nm f c (q + w)) : FP.Core.round f (FP.Core.exactProduct (.fin false c q) (.fin false f.tails ((w : Int) - ((f.p : Int) - 1)))) = .fin false c (q + w) := by
  have hn := hF.num
  have e1 : (q + ((w : Int) - ((f.p : Int) - 1)) - (q + w)).toNat = 0 := by omega
  have e2 : (q + w - (q + ((w : Int) - ((f.p : Int) - 1)))).toNat = f.p - 1 := by omega
  show FP.Core.roundRatio f false (c * f.tails) 1 (q + ((w : Int) - ((f.p : Int) - 1))) = _
  refine FP.Core.roundRatio_exact hF.good (by decide) (h.fits hF) ?_
  rw [e1, e2, hn.2.2.2.2.1, Nat.pow_zero, Nat.mul_one, Nat.mul_one]
/-- halved -/
theorem fp_half {f : FP.Core.Fmt} (hF : Fm f) {c : Nat} {q : Int} (h : Nm f c (q - 1)) : FP.Core.quotient f (.fin false c q) (.fin false f.tails (1 - ((f.p : Int) - 1))) = .fin false c (q - 1) := by
  have hn := hF.num
  have e1 : (q - (1 - ((f.p : Int) - 1)) - (q - 1)).toNat = f.p - 1 := by omega
  have e2 : (q - 1 - (q - (1 - ((f.p : Int) - 1)))).toNat = 0 := by omega
  have ht : ¬ f.tails = 0 := Nat.ne_of_gt tails_pos'
  show (if f.tails = 0 then _ else _) = _
  rw [if_neg ht]
  refine FP.Core.roundRatio_exact hF.good tails_pos' (h.fits hF) ?_
  rw [e1, e2, hn.2.2.2.2.1, Nat.pow_zero, Nat.mul_one]
theorem cmp_int (a b : Int) : compare a b = if a < b then .lt else if a = b then .eq else .gt := rfl
theorem natAbs_c (n : Nat) : ((n : Nat) : Int).natAbs = n := rfl
theorem signed_f (n : Nat) : FP.Core.signed false n = (n : Int) := rfl
/-- compared with a power of two -/
theorem fp_cmp_lt {f : FP.Core.Fmt} (hF : Fm f) {c : Nat} {q x : Int} (h2 : c < 2 ^ f.p) (h : q + ((f.p : Int) - 1) < x) : FP.Core.order (.fin false c q) (.fin false f.tails (x - ((f.p : Int) - 1))) = some .lt := by
  have hn := hF.num
  show some (compare (FP.Core.signed false (FP.Core.inUnits c q (min q (x - ((f.p : Int) - 1))))) (FP.Core.signed false (FP.Core.inUnits f.tails (x - ((f.p : Int) - 1)) (min q (x - ((f.p : Int) - 1)))))) = _
  rw [Int.min_eq_left (by omega), signed_f, signed_f]
  unfold FP.Core.inUnits
  obtain ⟨k, hk⟩ : ∃ k : Nat, (x - ((f.p : Int) - 1) - q).toNat = k + 1 := ⟨(x - ((f.p : Int) - 1) - q).toNat - 1, by omega⟩
  rw [Int.sub_self, hk, cmp_int, if_pos]
  have e : f.tails * 2 ^ (k + 1) = 2 ^ f.p * 2 ^ k := by rw [hn.2.2.2.2.2, Nat.pow_succ, Nat.mul_comm 2 f.tails, Nat.mul_assoc, Nat.mul_comm 2 (2 ^ k)]
  have e0 : (0 : Int).toNat = 0 := rfl
  rw [e, e0, Nat.pow_zero, Nat.mul_one]
  have := Nat.mul_le_mul (Nat.le_refl (2 ^ f.p)) (Nat.two_pow_pos k)
  omega
theorem fp_cmp_ge {f : FP.Core.Fmt} (hF : Fm f) {c : Nat} {q x : Int} (h1 : f.tails ≤ c) (h : x ≤ q + ((f.p : Int) - 1)) : ∃ o, FP.Core.order (.fin false c q) (.fin false f.tails (x - ((f.p : Int) - 1))) = some o ∧ o ≠ .lt := by
  have hn := hF.num
  refine ⟨_, rfl, ?_⟩
  rw [Int.min_eq_right (by omega), signed_f, signed_f]
  unfold FP.Core.inUnits
  rw [Int.sub_self, cmp_int, if_neg]
  · by_cases e : ((c * 2 ^ (q - (x - ((f.p : Int) - 1))).toNat : Nat) : Int) = ((f.tails * 2 ^ (0 : Int).toNat : Nat) : Int)
    · rw [if_pos e]; decide
    · rw [if_neg e]; decide
  · have e0 : (0 : Int).toNat = 0 := rfl
    rw [e0, Nat.pow_zero, Nat.mul_one]
    have := Nat.mul_le_mul h1 (Nat.two_pow_pos (q - (x - ((f.p : Int) - 1))).toNat)
    omega
theorem cv_lt (op : CmpOp) : cmpValue (some .lt) op = -1 := rfl
theorem cv_ge {o : Ordering} (h : o ≠ .lt) (op : CmpOp) : cmpValue (some o) op = 0 ∨ cmpValue (some o) op = 1 := by
  cases o
  · exact absurd rfl h
  · exact Or.inl rfl
  · exact Or.inr rfl
/-- less one, for a number from 1 to below 2 -/
theorem fp_sub1 {f : FP.Core.Fmt} {c : Nat} (h : f.tails ≤ c) : FP.Core.exactSum (.fin false c (0 - ((f.p : Int) - 1))) (FP.Core.negate (.fin false f.tails (0 - ((f.p : Int) - 1)))) = .fin false (c - f.tails) (0 - ((f.p : Int) - 1)) := by
  have hv : FP.Core.sumUnits false c (0 - ((f.p : Int) - 1)) true f.tails (0 - ((f.p : Int) - 1)) (min (0 - ((f.p : Int) - 1)) (0 - ((f.p : Int) - 1))) = ((c - f.tails : Nat) : Int) := by
    unfold FP.Core.sumUnits FP.Core.inUnits
    rw [Int.min_self, Int.sub_self]
    show ((c * 2 ^ (0 : Int).toNat : Nat) : Int) + -((f.tails * 2 ^ (0 : Int).toNat : Nat) : Int) = _
    have e0 : (0 : Int).toNat = 0 := rfl
    rw [e0, Nat.pow_zero, Nat.mul_one, Nat.mul_one]
    omega
  show FP.Core.Datum.fin (FP.Core.sumSign false true (FP.Core.sumUnits false c _ true f.tails _ (min _ _))) (FP.Core.sumUnits false c _ true f.tails _ (min _ _)).natAbs (min _ _) = _
  rw [hv, Int.min_self, natAbs_c]
  have hs : FP.Core.sumSign false true ((c - f.tails : Nat) : Int) = false := by
    unfold FP.Core.sumSign
    by_cases e : ((c - f.tails : Nat) : Int) = 0
    · rw [if_pos e]; rfl
    · rw [if_neg e]; exact decide_eq_false (by omega)
  rw [hs]
theorem fp_round0 {f : FP.Core.Fmt} (q : Int) : FP.Core.round f (.fin false 0 q) = .fin false 0 f.qmin := rfl
/-- a small whole significand brought into form -/
theorem fp_norm {f : FP.Core.Fmt} (hF : Fm f) {u : Nat} {q : Int} (h0 : 0 < u) (hu : u < 2 ^ f.p) (hq1 : -47 ≤ q + ((f.p : Int) - 1)) (hq2 : q + ((f.p : Int) - 1) ≤ 100) : ∃ k : Nat, k ≤ f.p - 1 ∧ f.tails ≤ u * 2 ^ k ∧ u * 2 ^ k < 2 ^ f.p ∧ FP.Core.round f (.fin false u q) = .fin false (u * 2 ^ k) (q - k) := by
  have hn := hF.num
  have a1 : 2 ^ u.log2 ≤ u := Nat.log2_self_le (by omega)
  have a2 : u < 2 ^ (u.log2 + 1) := Nat.lt_log2_self
  have hl : u.log2 ≤ f.p - 1 := by
    rcases Nat.lt_or_ge (f.p - 1) u.log2 with z | z
    · have : 2 ^ f.p ≤ 2 ^ u.log2 := Nat.pow_le_pow_right (by decide) (by omega)
      omega
    · exact z
  have t1 : f.tails ≤ u * 2 ^ (f.p - 1 - u.log2) := by
    rw [hn.2.2.2.2.1]
    calc 2 ^ (f.p - 1) = 2 ^ u.log2 * 2 ^ (f.p - 1 - u.log2) := by rw [← Nat.pow_add]; exact congrArg (fun z => 2 ^ z) (by omega)
      _ ≤ u * 2 ^ (f.p - 1 - u.log2) := Nat.mul_le_mul_right _ a1
  have t2 : u * 2 ^ (f.p - 1 - u.log2) < 2 ^ f.p := by
    calc u * 2 ^ (f.p - 1 - u.log2) < 2 ^ (u.log2 + 1) * 2 ^ (f.p - 1 - u.log2) := Nat.mul_lt_mul_of_pos_right a2 (Nat.two_pow_pos _)
      _ = 2 ^ f.p := by rw [← Nat.pow_add]; exact congrArg (fun z => 2 ^ z) (by omega)
  refine ⟨f.p - 1 - u.log2, by omega, t1, t2, ?_⟩
  have e1 : (q - (q - ((f.p - 1 - u.log2 : Nat) : Int))).toNat = f.p - 1 - u.log2 := by omega
  have e2 : (q - ((f.p - 1 - u.log2 : Nat) : Int) - q).toNat = 0 := by omega
  show FP.Core.roundRatio f false u 1 q = _
  refine FP.Core.roundRatio_exact hF.good (by decide) ⟨t2, by omega, by omega, Or.inr t1⟩ ?_
  rw [e1, e2, Nat.pow_zero, Nat.mul_one, Nat.mul_one]
/-- the fraction of a number from 1 to below 2, as a whole number of 2^w-ths -/
theorem fp_frac {f : FP.Core.Fmt} (hF : Fm f) {c w : Nat} (h1 : f.tails ≤ c) (h2 : c < 2 ^ f.p) (hw : w ≤ f.p - 1) : ∃ s c' q', FP.Core.round f (FP.Core.exactProduct (FP.Core.round f (.fin false (c - f.tails) (0 - ((f.p : Int) - 1)))) (.fin false f.tails ((w : Int) - ((f.p : Int) - 1)))) = .fin s c' q' ∧ FP.Core.truncate s c' q' = (((c - f.tails) / 2 ^ (f.p - 1 - w) : Nat) : Int) := by
  have hn := hF.num
  by_cases h0 : c - f.tails = 0
  · rw [h0, fp_round0]
    refine ⟨false, 0, f.qmin, ?_, ?_⟩
    · show FP.Core.round f (.fin false (0 * f.tails) _) = _
      rw [Nat.zero_mul, fp_round0]
    · unfold FP.Core.truncate
      rw [Nat.zero_mul, Nat.zero_div, Nat.zero_div]; rfl
  · obtain ⟨k, hk, t1, t2, hr⟩ := fp_norm hF (u := c - f.tails) (q := 0 - ((f.p : Int) - 1)) (by omega) (by omega) (by omega) (by omega)
    rw [hr]
    have hm := fp_mul hF (c := (c - f.tails) * 2 ^ k) (q := 0 - ((f.p : Int) - 1) - k) w ⟨t1, t2, by omega, by omega⟩
    refine ⟨false, _, _, hm, ?_⟩
    unfold FP.Core.truncate
    have e1 : (0 - ((f.p : Int) - 1) - k + w).toNat = 0 := by omega
    have e2 : (-(0 - ((f.p : Int) - 1) - k + w)).toNat = k + (f.p - 1 - w) := by omega
    rw [e1, e2, Nat.pow_zero, Nat.mul_one, Nat.pow_add, Nat.mul_comm (c - f.tails), Nat.mul_div_mul_left _ _ (Nat.two_pow_pos k)]
    rfl
/-- whole numbers and their ratios -/
theorem fp_int {f : FP.Core.Fmt} (hF : Fm f) {n : Nat} (h0 : 0 < n) (hn2 : n < 16777216) : ∃ k : Nat, k ≤ f.p - 1 ∧ FP.Core.round f (FP.Core.ofInt (n : Int)) = .fin false (n * 2 ^ k) (-(k : Int)) := by
  have hn := hF.num
  have hp : 2 ^ 24 ≤ 2 ^ f.p := Nat.pow_le_pow_right (by decide) hn.1
  obtain ⟨k, hk, t1, t2, hr⟩ := fp_norm hF (u := n) (q := 0) h0 (by omega) (by omega) (by omega)
  refine ⟨k, hk, ?_⟩
  have e : FP.Core.ofInt (n : Int) = .fin false n 0 := by
    unfold FP.Core.ofInt
    rw [natAbs_c, decide_eq_false (by omega)]
  rw [e, hr, Int.zero_sub]
theorem fp_div {f : FP.Core.Fmt} (hF : Fm f) {n d : Nat} (hn2 : n < 16777216) (hd0 : 0 < d) (hd2 : d < 16777216) : FP.Core.quotient f (FP.Core.round f (FP.Core.ofInt (n : Int))) (FP.Core.round f (FP.Core.ofInt (d : Int))) = FP.Core.roundRatio f false n d 0 := by
  obtain ⟨j, hj, hjd⟩ := fp_int hF hd0 hd2
  have hdj : ¬ d * 2 ^ j = 0 := Nat.ne_of_gt (Nat.mul_pos hd0 (Nat.two_pow_pos j))
  by_cases h0 : n = 0
  · subst h0
    rw [hjd]
    show FP.Core.quotient f (FP.Core.round f (.fin false 0 0)) _ = _
    rw [fp_round0]
    show (if d * 2 ^ j = 0 then _ else FP.Core.roundRatio f false 0 (d * 2 ^ j) _) = _
    rw [if_neg hdj]
    rfl
  · obtain ⟨k, hk, hkn⟩ := fp_int hF (f := f) (n := n) (by omega) hn2
    rw [hjd, hkn]
    show (if d * 2 ^ j = 0 then _ else FP.Core.roundRatio f false (n * 2 ^ k) (d * 2 ^ j) (-(k : Int) - -(j : Int))) = _
    rw [if_neg hdj]
    refine FP.Core.roundRatio_congr (Nat.mul_pos hd0 (Nat.two_pow_pos j)) hd0 ?_
    rcases Nat.le_total k j with z | z
    · have e1 : (-(k : Int) - -(j : Int) - 0).toNat = j - k := by omega
      have e2 : (0 - (-(k : Int) - -(j : Int))).toNat = 0 := by omega
      rw [e1, e2, Nat.pow_zero, Nat.mul_one]
      calc n * 2 ^ k * d * 2 ^ (j - k) = n * d * (2 ^ k * 2 ^ (j - k)) := by rw [Nat.mul_right_comm n, Nat.mul_assoc (n * d)]
        _ = n * (d * 2 ^ j) := by rw [← Nat.pow_add, show k + (j - k) = j by omega, Nat.mul_assoc]
    · have e1 : (-(k : Int) - -(j : Int) - 0).toNat = 0 := by omega
      have e2 : (0 - (-(k : Int) - -(j : Int))).toNat = k - j := by omega
      rw [e1, e2, Nat.pow_zero, Nat.mul_one]
      calc n * 2 ^ k * d = n * d * (2 ^ j * 2 ^ (k - j)) := by rw [← Nat.pow_add, show j + (k - j) = k by omega, Nat.mul_right_comm]
        _ = n * (d * 2 ^ j) * 2 ^ (k - j) := by rw [Nat.mul_assoc n (d * 2 ^ j), Nat.mul_assoc d, Nat.mul_assoc n d]
theorem fp_ratio {f : FP.Core.Fmt} (hF : Fm f) {n d : Nat} (h0 : 0 < n) (hn2 : n < 1048576) (hd0 : 0 < d) (hd2 : d < 1048576) : ∃ c q, FP.Core.roundRatio f false n d 0 = .fin false c q ∧ f.tails ≤ c ∧ c < 2 ^ f.p ∧ -21 ≤ q + ((f.p : Int) - 1) ∧ q + ((f.p : Int) - 1) ≤ 21 ∧ (n < d → q + ((f.p : Int) - 1) ≤ 0) := by
  have hn := hF.num
  obtain ⟨s1, s2⟩ := FP.Core.leading_spec h0 hd0
  have b1 : FP.Core.leading n d < 20 := by
    refine FP.Core.lt_of_below s1 ?_
    have := (FP.Core.below_iff n d 20 0).mpr (by rw [Nat.pow_zero, Nat.mul_one]; have := Nat.mul_le_mul (Nat.succ_le_of_lt hd0) (Nat.le_refl (2 ^ 20)); omega)
    exact this
  have b2 : -20 < FP.Core.leading n d + 1 := by
    refine FP.Core.lt_of_below ?_ s2
    intro hb
    have := (FP.Core.below_iff n d 0 20).mp hb
    have h3 := Nat.mul_le_mul (Nat.succ_le_of_lt h0) (Nat.le_refl (2 ^ 20))
    rw [Nat.pow_zero, Nat.mul_one] at this
    omega
  have b3 : n < d → FP.Core.leading n d < 0 := fun h => by
    refine FP.Core.lt_of_below s1 ?_
    have := (FP.Core.below_iff n d 0 0).mpr (by rw [Nat.pow_zero, Nat.mul_one, Nat.mul_one]; exact h)
    exact this
  have hQ : FP.Core.quantum f n d 0 = FP.Core.leading n d - ((f.p : Int) - 1) := by
    unfold FP.Core.quantum
    rw [Int.max_eq_right (by omega)]
    omega
  have hle := FP.Core.nearest_units_le (f := f) h0 hd0 0
  have hge : f.tails ≤ FP.Core.nearest (FP.Core.unitsNum n 0 (FP.Core.quantum f n d 0)) (FP.Core.unitsDen d 0 (FP.Core.quantum f n d 0)) := by
    refine FP.Core.nearest_ge (FP.Core.unitsDen_pos hd0 ..) ?_
    rcases FP.Core.quantum_not_below (f := f) h0 hd0 0 with h2 | h2
    · omega
    · rw [show (f.p : Int) - 1 = ((f.p - 1 : Nat) : Int) by omega, ← FP.Core.units_below] at h2
      have := Nat.le_of_not_lt h2
      rw [hn.2.2.2.2.1]; exact this
  unfold FP.Core.roundRatio
  rw [if_neg (by omega)]
  unfold FP.Core.roundAt FP.Core.settle FP.Core.bound
  by_cases hc : FP.Core.nearest (FP.Core.unitsNum n 0 (FP.Core.quantum f n d 0)) (FP.Core.unitsDen d 0 (FP.Core.quantum f n d 0)) < 2 ^ f.p
  · rw [if_pos hc, if_pos (by omega)]
    exact ⟨_, _, rfl, hge, hc, by omega, by omega, fun h => by have := b3 h; omega⟩
  · rw [if_neg hc, if_pos (by omega)]
    exact ⟨_, _, rfl, Nat.le_refl _, by have := @tails_pos' f; omega, by omega, by omega, fun h => by have := b3 h; omega⟩
theorem fp_one {f : FP.Core.Fmt} (hF : Fm f) {n : Nat} (h0 : 0 < n) : FP.Core.roundRatio f false n n 0 = .fin false f.tails (0 - ((f.p : Int) - 1)) := by
  have hn := hF.num
  refine FP.Core.roundRatio_exact hF.good h0 (Nm.fits hF ⟨Nat.le_refl _, by have := @tails_pos' f; omega, by omega, by omega⟩) ?_
  have e1 : (0 - (0 - ((f.p : Int) - 1))).toNat = f.p - 1 := by omega
  have e2 : (0 - ((f.p : Int) - 1) - 0).toNat = 0 := by omega
  rw [e1, e2, Nat.pow_zero, Nat.mul_one, hn.2.2.2.2.1, Nat.mul_comm]
