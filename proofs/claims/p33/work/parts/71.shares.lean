/-! pure part: the two shares, and their bits-/
theorem vn64 {a : UInt64} (h : FP.Core.val64 a ≠ .nan) : vf_n64 a := by
  have := (FP.Core.ne_nan a).mp h
  unfold vf_n64
  rw [UInt64.le_iff_toNat_le, UInt64.toNat_and]
  show a.toNat &&& (2 ^ 63 - 1) ≤ 9218868437227405312
  rw [Nat.and_two_pow_sub_one_eq_mod]
  exact this
theorem vn32 {a : UInt32} (h : FP.Core.val32 a ≠ .nan) : vf_n32 a := by
  have := (FP.Core.ne_nan32 a).mp h
  unfold vf_n32
  rw [UInt32.le_iff_toNat_le, UInt32.toNat_and]
  show a.toNat &&& (2 ^ 31 - 1) ≤ 2139095040
  rw [Nat.and_two_pow_sub_one_eq_mod]
  exact this
theorem F32 : Fm FP.Core.b32 := Or.inl rfl
theorem F64 : Fm FP.Core.b64 := Or.inr rfl
theorem fin_nn {s : Bool} {c : Nat} {q : Int} : FP.Core.Datum.fin s c q ≠ .nan := fun h => by cases h
theorem v64_1 : FP.Core.val64 FP.dconst1 = .fin false FP.Core.b64.tails (0 - ((FP.Core.b64.p : Int) - 1)) := by decide +kernel
theorem v64_2 : FP.Core.val64 4611686018427387904 = .fin false FP.Core.b64.tails (1 - ((FP.Core.b64.p : Int) - 1)) := by decide +kernel
theorem v64_0 : FP.Core.val64 FP.dconst0 = .fin false 0 FP.Core.b64.qmin := by decide +kernel
theorem v32_1 : FP.Core.val32 FP.fconst1 = .fin false FP.Core.b32.tails (0 - ((FP.Core.b32.p : Int) - 1)) := by decide +kernel
theorem v32_2 : FP.Core.val32 FP.fconst2 = .fin false FP.Core.b32.tails (1 - ((FP.Core.b32.p : Int) - 1)) := by decide +kernel
theorem v32_0 : FP.Core.val32 FP.fconst0 = .fin false 0 FP.Core.b32.qmin := by decide +kernel
theorem v64_52 : FP.Core.val64 4841369599423283200 = .fin false FP.Core.b64.tails (((52 : Nat) : Int) - ((FP.Core.b64.p : Int) - 1)) := by decide +kernel
theorem v32_23 : FP.Core.val32 1258291200 = .fin false FP.Core.b32.tails (((23 : Nat) : Int) - ((FP.Core.b32.p : Int) - 1)) := by decide +kernel
theorem v64_u52 : FP.Core.val64 (FP.l2d (1 <<< ((nI 52).toInt64 &&& 63))) = .fin false FP.Core.b64.tails (((52 : Nat) : Int) - ((FP.Core.b64.p : Int) - 1)) := by decide +kernel
theorem v64_u23 : FP.Core.val64 (FP.l2d (1 <<< ((nI 23).toInt64 &&& 63))) = .fin false FP.Core.b64.tails (((23 : Nat) : Int) - ((FP.Core.b64.p : Int) - 1)) := by decide +kernel
/-- the value of a number, as its place q + 52 (or q + 23) and its digits -/
def V64 (a : UInt64) (c : Nat) (E : Int) : Prop := FP.Core.val64 a = .fin false c (E - ((FP.Core.b64.p : Int) - 1)) ∧ FP.Core.b64.tails ≤ c ∧ c < 2 ^ FP.Core.b64.p ∧ -90 ≤ E ∧ E ≤ 90
def V32 (a : UInt32) (c : Nat) (E : Int) : Prop := FP.Core.val32 a = .fin false c (E - ((FP.Core.b32.p : Int) - 1)) ∧ FP.Core.b32.tails ≤ c ∧ c < 2 ^ FP.Core.b32.p ∧ -90 ≤ E ∧ E ≤ 90
theorem V64.dbl {a : UInt64} {c : Nat} {E : Int} (h : V64 a c E) (hE : E < 90) : V64 (FP.dmul a 4611686018427387904) c (E + 1) ∧ vf_n64 (FP.dmul a 4611686018427387904) := by
  obtain ⟨h1, h2, h3, h4, h5⟩ := h
  have e : FP.Core.val64 (FP.dmul a 4611686018427387904) = .fin false c (E + 1 - ((FP.Core.b64.p : Int) - 1)) := by
    show FP.Core.val64 (FP.Core.dmul a _) = _
    rw [FP.Core.val64_dmul, h1, v64_2]
    have := fp_mul F64 (c := c) (q := E - ((FP.Core.b64.p : Int) - 1)) 1 ⟨h2, h3, by omega, by omega⟩
    rw [show E + 1 - ((FP.Core.b64.p : Int) - 1) = E - ((FP.Core.b64.p : Int) - 1) + ((1 : Nat) : Int) by omega]
    exact this
  exact ⟨⟨e, h2, h3, by omega, by omega⟩, vn64 (by rw [e]; exact fin_nn)⟩
theorem V64.half {a : UInt64} {c : Nat} {E : Int} (h : V64 a c E) (hE : -90 < E) : V64 (FP.ddiv a 4611686018427387904) c (E - 1) ∧ vf_n64 (FP.ddiv a 4611686018427387904) := by
  obtain ⟨h1, h2, h3, h4, h5⟩ := h
  have e : FP.Core.val64 (FP.ddiv a 4611686018427387904) = .fin false c (E - 1 - ((FP.Core.b64.p : Int) - 1)) := by
    show FP.Core.val64 (FP.Core.ddiv a _) = _
    rw [FP.Core.val64_ddiv, h1, v64_2]
    have := fp_half F64 (c := c) (q := E - ((FP.Core.b64.p : Int) - 1)) ⟨h2, h3, by omega, by omega⟩
    rw [show E - 1 - ((FP.Core.b64.p : Int) - 1) = E - ((FP.Core.b64.p : Int) - 1) - 1 by omega]
    exact this
  exact ⟨⟨e, h2, h3, by omega, by omega⟩, vn64 (by rw [e]; exact fin_nn)⟩
theorem V64.cmp1_lt {a : UInt64} {c : Nat} {E : Int} (h : V64 a c E) (hE : E < 0) (op : CmpOp) : cmpValue (FP.dcmp a FP.dconst1) op = -1 := by
  have : FP.dcmp a FP.dconst1 = some .lt := by
    show FP.Core.order (FP.Core.val64 a) (FP.Core.val64 FP.dconst1) = _
    rw [h.1, v64_1]
    exact fp_cmp_lt F64 h.2.2.1 (by omega)
  rw [this]; rfl
theorem V64.cmp1_ge {a : UInt64} {c : Nat} {E : Int} (h : V64 a c E) (hE : 0 ≤ E) (op : CmpOp) : cmpValue (FP.dcmp a FP.dconst1) op = 0 ∨ cmpValue (FP.dcmp a FP.dconst1) op = 1 := by
  obtain ⟨o, ho, hne⟩ := fp_cmp_ge F64 (c := c) (q := E - ((FP.Core.b64.p : Int) - 1)) (x := 0) h.2.1 (by omega)
  have : FP.dcmp a FP.dconst1 = some o := by
    show FP.Core.order (FP.Core.val64 a) (FP.Core.val64 FP.dconst1) = _
    rw [h.1, v64_1]
    exact ho
  rw [this]; exact cv_ge hne op
theorem V64.cmp2_lt {a : UInt64} {c : Nat} {E : Int} (h : V64 a c E) (hE : E < 1) (op : CmpOp) : cmpValue (FP.dcmp a 4611686018427387904) op = -1 := by
  have : FP.dcmp a 4611686018427387904 = some .lt := by
    show FP.Core.order (FP.Core.val64 a) (FP.Core.val64 4611686018427387904) = _
    rw [h.1, v64_2]
    exact fp_cmp_lt F64 h.2.2.1 (by omega)
  rw [this]; rfl
theorem V64.cmp2_ge {a : UInt64} {c : Nat} {E : Int} (h : V64 a c E) (hE : 1 ≤ E) (op : CmpOp) : cmpValue (FP.dcmp a 4611686018427387904) op = 0 ∨ cmpValue (FP.dcmp a 4611686018427387904) op = 1 := by
  obtain ⟨o, ho, hne⟩ := fp_cmp_ge F64 (c := c) (q := E - ((FP.Core.b64.p : Int) - 1)) (x := 1) h.2.1 (by omega)
  have : FP.dcmp a 4611686018427387904 = some o := by
    show FP.Core.order (FP.Core.val64 a) (FP.Core.val64 4611686018427387904) = _
    rw [h.1, v64_2]
    exact ho
  rw [this]; exact cv_ge hne op
theorem pos_cmp0 {c d : Nat} {q r : Int} (h : 0 < c) : FP.Core.order (.fin false c q) (.fin false 0 r) = some .gt := by
  show some (compare (FP.Core.signed false (FP.Core.inUnits c q (min q r))) (FP.Core.signed false (FP.Core.inUnits 0 r (min q r)))) = _
  rw [signed_f, signed_f]
  unfold FP.Core.inUnits
  have := Nat.mul_pos h (Nat.two_pow_pos (q - min q r).toNat)
  rw [Nat.zero_mul, cmp_int, if_neg (by omega), if_neg (by omega)]
theorem zero_cmp0 {q r : Int} : FP.Core.order (.fin false 0 q) (.fin false 0 r) = some .eq := by
  show some (compare (FP.Core.signed false (FP.Core.inUnits 0 q (min q r))) (FP.Core.signed false (FP.Core.inUnits 0 r (min q r)))) = _
  rw [signed_f, signed_f]
  unfold FP.Core.inUnits
  rw [Nat.zero_mul, Nat.zero_mul, cmp_int, if_neg (by omega), if_pos rfl]
theorem self_cmp {s : Bool} {c : Nat} {q : Int} : FP.Core.order (.fin s c q) (.fin s c q) = some .eq := by
  show some (compare (FP.Core.signed s (FP.Core.inUnits c q (min q q))) (FP.Core.signed s (FP.Core.inUnits c q (min q q)))) = _
  rw [cmp_int, if_neg (by omega), if_pos rfl]
theorem tp64 {a : UInt64} {c : Nat} {E : Int} (h : V64 a c E) : 0 < c := Nat.lt_of_lt_of_le tails_pos' h.2.1
theorem tp32 {a : UInt32} {c : Nat} {E : Int} (h : V32 a c E) : 0 < c := Nat.lt_of_lt_of_le tails_pos' h.2.1
theorem t64 : FP.Core.b64.tails = 4503599627370496 := by decide +kernel
theorem t32 : FP.Core.b32.tails = 8388608 := by decide +kernel
theorem d2l_of {a : UInt64} {s : Bool} {c : Nat} {q : Int} {n : Nat} (h : FP.Core.val64 a = .fin s c q) (ht : FP.Core.truncate s c q = (n : Int)) (hn : n < 9223372036854775808) : FP.d2l a = lN n := by
  show FP.Core.toL (FP.Core.val64 a) = _
  rw [h]
  show Int64.ofInt (max (-2 ^ 63) (min (2 ^ 63 - 1) (FP.Core.truncate s c q))) = _
  rw [ht, Int.min_eq_right (by omega), Int.max_eq_right (by omega)]
  first | rfl | exact Int64.ofInt_eq_ofNat
theorem f2i_of {a : UInt32} {s : Bool} {c : Nat} {q : Int} {n : Nat} (h : FP.Core.val32 a = .fin s c q) (ht : FP.Core.truncate s c q = (n : Int)) (hn : n < 2147483648) : FP.f2i a = nI n := by
  show FP.Core.toI (FP.Core.val32 a) = _
  rw [h]
  show Int32.ofInt (max (-2 ^ 31) (min (2 ^ 31 - 1) (FP.Core.truncate s c q))) = _
  rw [ht, Int.min_eq_right (by omega), Int.max_eq_right (by omega)]
  first | rfl | exact Int32.ofInt_eq_ofNat
/-- the fraction's digits -/
theorem V64.frac {a u : UInt64} {c w : Nat} (h : V64 a c 0) (hw : w ≤ 52) (hu : FP.Core.val64 u = .fin false FP.Core.b64.tails ((w : Int) - ((FP.Core.b64.p : Int) - 1))) : vf_n64 (FP.dsub a FP.dconst1) ∧ vf_n64 (FP.dmul (FP.dsub a FP.dconst1) u) ∧ FP.d2l (FP.dmul (FP.dsub a FP.dconst1) u) = lN ((c - 4503599627370496) / 2 ^ (52 - w)) := by
  obtain ⟨h1, h2, h3, h4, h5⟩ := h
  have e1 : FP.Core.val64 (FP.dsub a FP.dconst1) = FP.Core.round FP.Core.b64 (.fin false (c - FP.Core.b64.tails) (0 - ((FP.Core.b64.p : Int) - 1))) := by
    show FP.Core.val64 (FP.Core.dsub a _) = _
    rw [FP.Core.val64_dsub, h1, v64_1, fp_sub1 h2]
  have e2 : FP.Core.val64 (FP.dmul (FP.dsub a FP.dconst1) u) = FP.Core.round FP.Core.b64 (FP.Core.exactProduct (FP.Core.round FP.Core.b64 (.fin false (c - FP.Core.b64.tails) (0 - ((FP.Core.b64.p : Int) - 1)))) (.fin false FP.Core.b64.tails ((w : Int) - ((FP.Core.b64.p : Int) - 1)))) := by
    show FP.Core.val64 (FP.Core.dmul _ u) = _
    rw [FP.Core.val64_dmul, hu]
    exact congrArg (fun z => FP.Core.round FP.Core.b64 (FP.Core.exactProduct z _)) e1
  obtain ⟨s, c', q', h6, h7⟩ := fp_frac F64 (c := c) (w := w) h2 h3 (by show w ≤ 52; exact hw)
  rw [h6] at e2
  refine ⟨vn64 ?_, vn64 (by rw [e2]; exact fin_nn), ?_⟩
  · rw [e1]
    exact FP.Core.roundRatio_ne_nan _ _ _ _ _
  · have ec : (c - FP.Core.b64.tails) / 2 ^ (FP.Core.b64.p - 1 - w) = (c - 4503599627370496) / 2 ^ (52 - w) := by rw [t64]; rfl
    rw [ec] at h7
    refine d2l_of e2 h7 ?_
    have h3 : c < 2 ^ 53 := h3
    exact Nat.lt_of_le_of_lt (Nat.div_le_self (c - 4503599627370496) (2 ^ (52 - w))) (by omega)
theorem V32.dbl {a : UInt32} {c : Nat} {E : Int} (h : V32 a c E) (hE : E < 90) : V32 (FP.fmul a FP.fconst2) c (E + 1) ∧ vf_n32 (FP.fmul a FP.fconst2) := by
  obtain ⟨h1, h2, h3, h4, h5⟩ := h
  have e : FP.Core.val32 (FP.fmul a FP.fconst2) = .fin false c (E + 1 - ((FP.Core.b32.p : Int) - 1)) := by
    show FP.Core.val32 (FP.Core.fmul a _) = _
    rw [FP.Core.val32_fmul, h1, v32_2]
    have := fp_mul F32 (c := c) (q := E - ((FP.Core.b32.p : Int) - 1)) 1 ⟨h2, h3, by omega, by omega⟩
    rw [show E + 1 - ((FP.Core.b32.p : Int) - 1) = E - ((FP.Core.b32.p : Int) - 1) + ((1 : Nat) : Int) by omega]
    exact this
  exact ⟨⟨e, h2, h3, by omega, by omega⟩, vn32 (by rw [e]; exact fin_nn)⟩
theorem V32.half {a : UInt32} {c : Nat} {E : Int} (h : V32 a c E) (hE : -90 < E) : V32 (FP.fdiv a FP.fconst2) c (E - 1) ∧ vf_n32 (FP.fdiv a FP.fconst2) := by
  obtain ⟨h1, h2, h3, h4, h5⟩ := h
  have e : FP.Core.val32 (FP.fdiv a FP.fconst2) = .fin false c (E - 1 - ((FP.Core.b32.p : Int) - 1)) := by
    show FP.Core.val32 (FP.Core.fdiv a _) = _
    rw [FP.Core.val32_fdiv, h1, v32_2]
    have := fp_half F32 (c := c) (q := E - ((FP.Core.b32.p : Int) - 1)) ⟨h2, h3, by omega, by omega⟩
    rw [show E - 1 - ((FP.Core.b32.p : Int) - 1) = E - ((FP.Core.b32.p : Int) - 1) - 1 by omega]
    exact this
  exact ⟨⟨e, h2, h3, by omega, by omega⟩, vn32 (by rw [e]; exact fin_nn)⟩
theorem V32.cmp1_lt {a : UInt32} {c : Nat} {E : Int} (h : V32 a c E) (hE : E < 0) (op : CmpOp) : cmpValue (FP.fcmp a FP.fconst1) op = -1 := by
  have : FP.fcmp a FP.fconst1 = some .lt := by
    show FP.Core.order (FP.Core.val32 a) (FP.Core.val32 FP.fconst1) = _
    rw [h.1, v32_1]
    exact fp_cmp_lt F32 h.2.2.1 (by omega)
  rw [this]; rfl
theorem V32.cmp1_ge {a : UInt32} {c : Nat} {E : Int} (h : V32 a c E) (hE : 0 ≤ E) (op : CmpOp) : cmpValue (FP.fcmp a FP.fconst1) op = 0 ∨ cmpValue (FP.fcmp a FP.fconst1) op = 1 := by
  obtain ⟨o, ho, hne⟩ := fp_cmp_ge F32 (c := c) (q := E - ((FP.Core.b32.p : Int) - 1)) (x := 0) h.2.1 (by omega)
  have : FP.fcmp a FP.fconst1 = some o := by
    show FP.Core.order (FP.Core.val32 a) (FP.Core.val32 FP.fconst1) = _
    rw [h.1, v32_1]
    exact ho
  rw [this]; exact cv_ge hne op
theorem V32.cmp2_lt {a : UInt32} {c : Nat} {E : Int} (h : V32 a c E) (hE : E < 1) (op : CmpOp) : cmpValue (FP.fcmp a FP.fconst2) op = -1 := by
  have : FP.fcmp a FP.fconst2 = some .lt := by
    show FP.Core.order (FP.Core.val32 a) (FP.Core.val32 FP.fconst2) = _
    rw [h.1, v32_2]
    exact fp_cmp_lt F32 h.2.2.1 (by omega)
  rw [this]; rfl
theorem V32.cmp2_ge {a : UInt32} {c : Nat} {E : Int} (h : V32 a c E) (hE : 1 ≤ E) (op : CmpOp) : cmpValue (FP.fcmp a FP.fconst2) op = 0 ∨ cmpValue (FP.fcmp a FP.fconst2) op = 1 := by
  obtain ⟨o, ho, hne⟩ := fp_cmp_ge F32 (c := c) (q := E - ((FP.Core.b32.p : Int) - 1)) (x := 1) h.2.1 (by omega)
  have : FP.fcmp a FP.fconst2 = some o := by
    show FP.Core.order (FP.Core.val32 a) (FP.Core.val32 FP.fconst2) = _
    rw [h.1, v32_2]
    exact ho
  rw [this]; exact cv_ge hne op
theorem V32.frac {a : UInt32} {c : Nat} (h : V32 a c 0) : vf_n32 (FP.fsub a FP.fconst1) ∧ vf_n32 (FP.fmul (FP.fsub a FP.fconst1) 1258291200) ∧ FP.f2i (FP.fmul (FP.fsub a FP.fconst1) 1258291200) = nI (c - 8388608) := by
  obtain ⟨h1, h2, h3, h4, h5⟩ := h
  have e1 : FP.Core.val32 (FP.fsub a FP.fconst1) = FP.Core.round FP.Core.b32 (.fin false (c - FP.Core.b32.tails) (0 - ((FP.Core.b32.p : Int) - 1))) := by
    show FP.Core.val32 (FP.Core.fsub a _) = _
    rw [FP.Core.val32_fsub, h1, v32_1, fp_sub1 h2]
  have e2 : FP.Core.val32 (FP.fmul (FP.fsub a FP.fconst1) 1258291200) = FP.Core.round FP.Core.b32 (FP.Core.exactProduct (FP.Core.round FP.Core.b32 (.fin false (c - FP.Core.b32.tails) (0 - ((FP.Core.b32.p : Int) - 1)))) (.fin false FP.Core.b32.tails (((23 : Nat) : Int) - ((FP.Core.b32.p : Int) - 1)))) := by
    show FP.Core.val32 (FP.Core.fmul _ 1258291200) = _
    rw [FP.Core.val32_fmul, v32_23]
    exact congrArg (fun z => FP.Core.round FP.Core.b32 (FP.Core.exactProduct z _)) e1
  obtain ⟨s, c', q', h6, h7⟩ := fp_frac F32 (c := c) (w := 23) h2 h3 (by decide)
  rw [h6] at e2
  refine ⟨vn32 ?_, vn32 (by rw [e2]; exact fin_nn), ?_⟩
  · rw [e1]
    exact FP.Core.roundRatio_ne_nan _ _ _ _ _
  · have ec : (c - FP.Core.b32.tails) / 2 ^ (FP.Core.b32.p - 1 - 23) = c - 8388608 := by
      rw [t32]; exact Nat.div_one _
    rw [ec] at h7
    refine f2i_of e2 h7 ?_
    have h3 : c < 2 ^ 24 := h3
    omega
/-- a float as a double -/
theorem f2d_V {a : UInt32} {c : Nat} {E : Int} (h : V32 a c E) : V64 (FP.f2d a) (c * 536870912) E ∧ vf_n64 (FP.f2d a) := by
  obtain ⟨h1, h2, h3, h4, h5⟩ := h
  have hnn : FP.Core.fIsNaN a = false := (FP.Core.notNaN_iff32 a).mpr (by rw [h1]; exact fin_nn)
  have e0 : FP.f2d a = FP.Core.f2d a := by
    unfold FP.f2d
    rw [hnn]; rfl
  rw [t32] at h2
  have h3 : c < 16777216 := h3
  have e : FP.Core.val64 (FP.f2d a) = .fin false (c * 536870912) (E - ((FP.Core.b64.p : Int) - 1)) := by
    rw [e0, FP.Core.val64_f2d, h1]
    have hq : (FP.Core.b32.p : Int) = 24 := rfl
    have hq2 : (FP.Core.b64.p : Int) = 53 := rfl
    show FP.Core.roundRatio FP.Core.b64 false c 1 (E - ((FP.Core.b32.p : Int) - 1)) = _
    refine FP.Core.roundRatio_exact FP.Core.good_b64 (by decide) (Nm.fits F64 ⟨by rw [t64]; omega, by show c * 536870912 < 2 ^ 53; omega, by omega, by omega⟩) ?_
    have a1 : (E - ((FP.Core.b32.p : Int) - 1) - (E - ((FP.Core.b64.p : Int) - 1))).toNat = 29 := by omega
    have a2 : (E - ((FP.Core.b64.p : Int) - 1) - (E - ((FP.Core.b32.p : Int) - 1))).toNat = 0 := by omega
    rw [a1, a2, Nat.pow_zero, Nat.mul_one, Nat.mul_one, show (536870912 : Nat) = 2 ^ 29 from rfl]
  exact ⟨⟨e, by rw [t64]; omega, by show c * 536870912 < 2 ^ 53; omega, h4, h5⟩, vn64 (by rw [e]; exact fin_nn)⟩
theorem f2d_Z {a : UInt32} (h : FP.Core.val32 a = .fin false 0 FP.Core.b32.qmin) : FP.Core.val64 (FP.f2d a) = .fin false 0 FP.Core.b64.qmin := by
  have hnn : FP.Core.fIsNaN a = false := (FP.Core.notNaN_iff32 a).mpr (by rw [h]; exact fin_nn)
  have e0 : FP.f2d a = FP.Core.f2d a := by
    unfold FP.f2d
    rw [hnn]; rfl
  rw [e0, FP.Core.val64_f2d, h]
  rfl
theorem dcmp_self {a : UInt64} {s : Bool} {c : Nat} {q : Int} (h : FP.Core.val64 a = .fin s c q) : cmpValue (FP.dcmp a a) .l = 0 := by
  have : FP.dcmp a a = some .eq := by
    show FP.Core.order (FP.Core.val64 a) (FP.Core.val64 a) = _
    rw [h]; exact self_cmp
  rw [this]; rfl
/-- the two shares -/
theorem share64 {n d : Nat} (hn : n ≤ d) (hd0 : 0 < d) (hd : d < 1048576) : (n = 0 ∧ FP.Core.val64 (FP.ddiv (FP.i2d (nI n)) (FP.i2d (nI d))) = .fin false 0 FP.Core.b64.qmin) ∨ (0 < n ∧ ∃ c E, V64 (FP.ddiv (FP.i2d (nI n)) (FP.i2d (nI d))) c E ∧ -21 ≤ E ∧ E ≤ 0) := by
  have e : FP.Core.val64 (FP.ddiv (FP.i2d (nI n)) (FP.i2d (nI d))) = FP.Core.roundRatio FP.Core.b64 false n d 0 := by
    show FP.Core.val64 (FP.Core.ddiv (FP.Core.i2d (nI n)) (FP.Core.i2d (nI d))) = _
    rw [FP.Core.val64_ddiv, FP.Core.val64_i2d, FP.Core.val64_i2d, nI_toInt (by omega), nI_toInt (by omega)]
    exact fp_div F64 (by omega) hd0 (by omega)
  have hp : (FP.Core.b64.p : Int) = 53 := rfl
  by_cases h0 : n = 0
  · refine Or.inl ⟨h0, ?_⟩
    rw [e, h0]; rfl
  · refine Or.inr ⟨by omega, ?_⟩
    by_cases h1 : n = d
    · subst h1
      rw [fp_one F64 hd0] at e
      exact ⟨_, 0, ⟨e, Nat.le_refl _, by decide +kernel, by omega, by omega⟩, by omega, by omega⟩
    · obtain ⟨c, q, hr, a1, a2, a3, a4, a5⟩ := fp_ratio F64 (n := n) (d := d) (by omega) (by omega) hd0 hd
      have a5 := a5 (by omega)
      rw [hr] at e
      refine ⟨c, q + ((FP.Core.b64.p : Int) - 1), ⟨?_, a1, a2, by omega, by omega⟩, by omega, by omega⟩
      rw [e, show q + ((FP.Core.b64.p : Int) - 1) - ((FP.Core.b64.p : Int) - 1) = q by omega]
theorem share32 {n d : Nat} (hn : n < 1048576) (hd0 : 0 < d) (hd : d < 1048576) : (n = 0 ∧ FP.Core.val32 (FP.fdiv (FP.i2f (nI n)) (FP.i2f (nI d))) = .fin false 0 FP.Core.b32.qmin) ∨ (0 < n ∧ ∃ c E, V32 (FP.fdiv (FP.i2f (nI n)) (FP.i2f (nI d))) c E ∧ -21 ≤ E ∧ E ≤ 21) := by
  have e : FP.Core.val32 (FP.fdiv (FP.i2f (nI n)) (FP.i2f (nI d))) = FP.Core.roundRatio FP.Core.b32 false n d 0 := by
    show FP.Core.val32 (FP.Core.fdiv (FP.Core.i2f (nI n)) (FP.Core.i2f (nI d))) = _
    rw [FP.Core.val32_fdiv, FP.Core.val32_i2f, FP.Core.val32_i2f, nI_toInt (by omega), nI_toInt (by omega)]
    exact fp_div F32 (by omega) hd0 (by omega)
  have hp : (FP.Core.b32.p : Int) = 24 := rfl
  by_cases h0 : n = 0
  · refine Or.inl ⟨h0, ?_⟩
    rw [e, h0]; rfl
  · refine Or.inr ⟨by omega, ?_⟩
    obtain ⟨c, q, hr, a1, a2, a3, a4, a5⟩ := fp_ratio F32 (n := n) (d := d) (by omega) hn hd0 hd
    rw [hr] at e
    refine ⟨c, q + ((FP.Core.b32.p : Int) - 1), ⟨?_, a1, a2, by omega, by omega⟩, by omega, by omega⟩
    rw [e, show q + ((FP.Core.b32.p : Int) - 1) - ((FP.Core.b32.p : Int) - 1) = q by omega]
