/-! pure part: one part of an auction is done, on both sides -/
def num (t : Nat → Int32) (l b q : Nat) : Nat := if q = b + 1 then cN t l b - 48 else 10 * (cN t l b - 48) + (cN t l (b + 1) - 48)
def pRow (r t : Nat → Int32) (l p q : Nat) : Nat → Int32 :=
  if cN t l p = 98 then rSeal r (cN t l (p + 1) - 48) (cN t l (p + 2) - 48) (nI (num t l (p + 3) q))
  else if cN t l p = 102 then rHigh (rLow (rHaul r (cN t l (p + 1) - 48) (r (12 + (cN t l (p + 1) - 48))).toInt.toNat) (cN t l (p + 1) - 48)) (cN t l (p + 1) - 48)
  else if cN t l p = 104 then upd r 168 (rHour r (nI (num t l (p + 1) q)))
  else if cN t l p = 111 then gF r (BC r) 6
  else if cN t l p = 119 then rTake r (cN t l (p + 1) - 48) (cN t l (p + 2) - 48)
  else rDay r
def pOk (r t : Nat → Int32) (l p q : Nat) : Bool :=
  if cN t l p = 98 then decide (rWhyN r (cN t l (p + 1) - 48) (cN t l (p + 2) - 48) (nI (num t l (p + 3) q)) = 0)
  else if cN t l p = 102 then decide (rCan r (cN t l (p + 1) - 48) = 1)
  else if cN t l p = 104 then true
  else if cN t l p = 111 then decide (r 169 = 0)
  else if cN t l p = 119 then decide (rWhyW r (cN t l (p + 1) - 48) (cN t l (p + 2) - 48) = 0)
  else true
theorem key_self (σ : CS) : cs_most (cs_keys σ (c_keys σ)) (c_most σ) = σ := rfl
section
variable {t : Nat → Int32} {l : Nat}
theorem pRow_98 {r : Nat → Int32} {p q a b n : Nat} (h : cN t l p = 98) (ha : cN t l (p + 1) = 48 + a) (hb : cN t l (p + 2) = 48 + b) (hn : num t l (p + 3) q = n) : pRow r t l p q = rSeal r a b (nI n) ∧ pOk r t l p q = decide (rWhyN r a b (nI n) = 0) := by
  refine ⟨?_, ?_⟩
  · unfold pRow; rw [if_pos h, ha, hb, hn, Nat.add_sub_cancel_left, Nat.add_sub_cancel_left]
  · unfold pOk; rw [if_pos h, ha, hb, hn, Nat.add_sub_cancel_left, Nat.add_sub_cancel_left]
theorem pRow_102 {r : Nat → Int32} {p q a : Nat} (h : cN t l p = 102) (ha : cN t l (p + 1) = 48 + a) : pRow r t l p q = rHigh (rLow (rHaul r a (r (12 + a)).toInt.toNat) a) a ∧ pOk r t l p q = decide (rCan r a = 1) := by
  refine ⟨?_, ?_⟩
  · unfold pRow; rw [if_neg (by omega), if_pos h, ha, Nat.add_sub_cancel_left]
  · unfold pOk; rw [if_neg (by omega), if_pos h, ha, Nat.add_sub_cancel_left]
theorem pRow_104 {r : Nat → Int32} {p q n : Nat} (h : cN t l p = 104) (hn : num t l (p + 1) q = n) : pRow r t l p q = upd r 168 (rHour r (nI n)) ∧ pOk r t l p q = true := by
  refine ⟨?_, ?_⟩
  · unfold pRow; rw [if_neg (by omega), if_neg (by omega), if_pos h, hn]
  · unfold pOk; rw [if_neg (by omega), if_neg (by omega), if_pos h]
theorem pRow_111 {r : Nat → Int32} {p q : Nat} (h : cN t l p = 111) : pRow r t l p q = gF r (BC r) 6 ∧ pOk r t l p q = decide (r 169 = 0) := by
  refine ⟨?_, ?_⟩
  · unfold pRow; rw [if_neg (by omega), if_neg (by omega), if_neg (by omega), if_pos h]
  · unfold pOk; rw [if_neg (by omega), if_neg (by omega), if_neg (by omega), if_pos h]
theorem pRow_119 {r : Nat → Int32} {p q a b : Nat} (h : cN t l p = 119) (ha : cN t l (p + 1) = 48 + a) (hb : cN t l (p + 2) = 48 + b) : pRow r t l p q = rTake r a b ∧ pOk r t l p q = decide (rWhyW r a b = 0) := by
  refine ⟨?_, ?_⟩
  · unfold pRow; rw [if_neg (by omega), if_neg (by omega), if_neg (by omega), if_neg (by omega), if_pos h, ha, hb, Nat.add_sub_cancel_left, Nat.add_sub_cancel_left]
  · unfold pOk; rw [if_neg (by omega), if_neg (by omega), if_neg (by omega), if_neg (by omega), if_pos h, ha, hb, Nat.add_sub_cancel_left, Nat.add_sub_cancel_left]
theorem pRow_110 {r : Nat → Int32} {p q : Nat} (h : cN t l p = 110) : pRow r t l p q = rDay r ∧ pOk r t l p q = true := by
  refine ⟨?_, ?_⟩
  · unfold pRow; rw [if_neg (by omega), if_neg (by omega), if_neg (by omega), if_neg (by omega), if_neg (by omega)]
  · unfold pOk; rw [if_neg (by omega), if_neg (by omega), if_neg (by omega), if_neg (by omega), if_neg (by omega)]
/-- a number of one or two digits -/
def NumAt (t : Nat → Int32) (l b q n : Nat) : Prop := (q = b + 1 ∧ cN t l b = 48 + n) ∨ (q = b + 2 ∧ cN t l b = 48 + n / 10 ∧ cN t l (b + 1) = 48 + n % 10)
theorem NumAt.is {b q n : Nat} (h : NumAt t l b q n) : num t l b q = n := by
  unfold num
  rcases h with ⟨h1, h2⟩ | ⟨h1, h2, h3⟩
  · rw [if_pos h1]; omega
  · rw [if_neg (by omega)]; omega
variable {σ : CS}
theorem w_digit (T : TxC σ t l) (h : Chr t l) (i : Nat) (hi : i < 2147483648) {post : Int32 → Prop} (hp : post (nI (cN t l i) - 48)) : wp_X3_digit σ (nI i) post := w_code T h i hi hp
theorem dig48 (d : Nat) : nI (48 + d) - 48 = nI d := by
  have := pk_sub (a := 48 + d) (b := 48) (by omega)
  rw [Nat.add_sub_cancel_left] at this
  exact this
theorem w_number (T : TxC σ t l) (h : Chr t l) {b q n : Nat} (hb : b < 1000) (N : NumAt t l b q n) {post : Int32 → Prop} (hp : post (nI n)) : wp_X3_number σ (nI b) (nI q) post := by
  rcases N with ⟨rfl, h1⟩ | ⟨rfl, h1, h2⟩
  · refine ⟨fun m v3 v4 => (m = 1 ∧ v3 = 0 ∧ v4 = nI b) ∨ (m = 0 ∧ v3 = nI n ∧ v4 = nI (b + 1)), ⟨1, Or.inl ⟨rfl, rfl, rfl⟩⟩, ?_⟩
    rintro m v3 v4 (⟨rfl, rfl, rfl⟩ | ⟨rfl, rfl, rfl⟩)
    · refine ⟨fun q => absurd ((nI_leI (by omega) (by omega)).mp q) (by omega), fun _ => ?_⟩
      refine w_digit T h b (by omega) ?_
      rw [h1, dig48]
      intro w hw u hu
      exact ⟨0, by omega, Or.inr ⟨rfl, by rw [hw, show (10 : Int32) * 0 = 0 from rfl, Int32.zero_add], by rw [hu, nI_1]⟩⟩
    · exact ⟨fun _ => hp, fun q => absurd (nI_le (Nat.le_refl _) (by omega)) q⟩
  · refine ⟨fun m v3 v4 => (m = 2 ∧ v3 = 0 ∧ v4 = nI b) ∨ (m = 1 ∧ v3 = nI (n / 10) ∧ v4 = nI (b + 1)) ∨ (m = 0 ∧ v3 = nI n ∧ v4 = nI (b + 2)), ⟨2, Or.inl ⟨rfl, rfl, rfl⟩⟩, ?_⟩
    rintro m v3 v4 (⟨rfl, rfl, rfl⟩ | ⟨rfl, rfl, rfl⟩ | ⟨rfl, rfl, rfl⟩)
    · refine ⟨fun q => absurd ((nI_leI (by omega) (by omega)).mp q) (by omega), fun _ => ?_⟩
      refine w_digit T h b (by omega) ?_
      rw [h1, dig48]
      intro w hw u hu
      exact ⟨1, by omega, Or.inr (Or.inl ⟨rfl, by rw [hw, show (10 : Int32) * 0 = 0 from rfl, Int32.zero_add], by rw [hu, nI_1]⟩)⟩
    · refine ⟨fun q => absurd ((nI_leI (by omega) (by omega)).mp q) (by omega), fun _ => ?_⟩
      refine w_digit T h (b + 1) (by omega) ?_
      rw [h2, dig48]
      intro w hw u hu
      exact ⟨0, by omega, Or.inr (Or.inr ⟨rfl, by rw [hw, show (10 : Int32) = nI 10 from rfl, pk_mul, nI_add]; exact congrArg nI (by omega), by rw [hu, nI_1]⟩)⟩
    · exact ⟨fun _ => hp, fun q => absurd (nI_le (Nat.le_refl _) (by omega)) q⟩
theorem nar1 : narrow .boolean (.int 1) = .int 1 := rfl
theorem nar0 : narrow .boolean (.int 0) = .int 0 := rfl
theorem w_doPart {m : Nat} (T : TxC σ t l) (h : Chr t l) (h1 : O1 m (c_row σ)) {p q : Nat} {c f g k : Int32} (P : PR t l p q c f g k) (hp0 : p < 900) {post : Int32 → CS → Prop} (hy : pOk (c_row σ) t l p q = true → ∀ f g, post 1 (cs_row (cs_most (cs_keys σ f) g) (pRow (c_row σ) t l p q))) (hn : pOk (c_row σ) t l p q = false → post 0 σ) : wp_X4_doPart σ (nI p) (nI q) post := by
  have hy1 : pOk (c_row σ) t l p q = true → post 1 (cs_row σ (pRow (c_row σ) t l p q)) := fun e => hy e (c_keys σ) (c_most σ)
  unfold wp_X4_doPart
  rw [nI_1, show (2 : Int32) = nI 2 from rfl, show (3 : Int32) = nI 3 from rfl, nI_add, nI_add]
  refine w_digit T h (p + 1) (by omega) ?_
  refine w_digit T h (p + 2) (by omega) ?_
  refine w_code T h p (by omega) ?_
  intro w hw
  subst hw
  rcases P with ⟨-, hc, a, b, n, ha, hb, hn1, hn99, -, -, -, hca, hcb, hN⟩ | ⟨-, hc, a, b, ha, hb, -, -, hca, hcb, -⟩ | ⟨-, hc, n, hn1, hn23, -, hN⟩ | ⟨-, hc, a, ha, -, hca, -⟩ | ⟨-, hc, -⟩ | ⟨-, hc, -⟩
  · have N : NumAt t l (p + 3) q n := hN
    obtain ⟨e1, e2⟩ := pRow_98 (r := c_row σ) hc hca hcb N.is
    rw [e1] at hy1
    rw [e2] at hy1 hn
    rw [hc, hca, hcb, dig48, dig48]
    refine ⟨fun _ => ?_, fun q => absurd rfl q⟩
    refine w_number T h (by omega) N ?_
    refine w_whyNotSealed a b _ ha hb ?_
    refine ⟨fun h0 => ?_, fun h0 => ?_⟩
    · refine w_sealBid a b _ ha hb ?_
      exact ⟨nar1, hy1 (decide_eq_true h0)⟩
    · exact ⟨nar0, hn (decide_eq_false h0)⟩
  · obtain ⟨e1, e2⟩ := pRow_119 (r := c_row σ) (q := q) hc hca hcb
    rw [e1] at hy1
    rw [e2] at hy1 hn
    rw [hc, hca, hcb, dig48, dig48]
    refine ⟨fun q => absurd q (by decide), fun _ => ⟨fun q => absurd q (by decide), fun _ => ⟨fun q => absurd q (by decide), fun _ => ⟨fun q => absurd q (by decide), fun _ => ⟨fun _ => ?_, fun q => absurd rfl q⟩⟩⟩⟩⟩
    refine w_whyNotWithdrawn a b ha hb ?_
    refine ⟨fun h0 => ?_, fun h0 => ?_⟩
    · refine w_takeBack a b ha hb ?_
      exact ⟨nar1, hy1 (decide_eq_true h0)⟩
    · exact ⟨nar0, hn (decide_eq_false h0)⟩
  · have N : NumAt t l (p + 1) q n := hN
    obtain ⟨e1, e2⟩ := pRow_104 (r := c_row σ) hc N.is
    rw [e1] at hy1
    rw [e2] at hy1 hn
    rw [hc]
    refine ⟨fun q => absurd q (by decide), fun _ => ⟨fun q => absurd q (by decide), fun _ => ⟨fun _ => ?_, fun q => absurd rfl q⟩⟩⟩
    refine w_number T h (by omega) N ?_
    refine w_passHours _ ?_
    exact hy1 rfl
  · obtain ⟨e1, e2⟩ := pRow_102 (r := c_row σ) (q := q) hc hca
    rw [e1] at hy1
    rw [e2] at hy1 hn
    rw [hc, hca, dig48]
    refine ⟨fun q => absurd q (by decide), fun _ => ⟨fun _ => ?_, fun q => absurd rfl q⟩⟩
    refine w_canFish a ha ?_
    rcases rCan_01 (c_row σ) a with h0 | ⟨h0, h2⟩
    · rw [h0] at hn ⊢
      exact ⟨fun q => absurd rfl q, fun _ => ⟨nar0, hn (by decide)⟩⟩
    · rw [h0] at hy1 ⊢
      refine ⟨fun _ => ?_, fun q => absurd q (by decide)⟩
      obtain ⟨w, hw, ho⟩ := owner_nat h1 ha h2
      refine w_catchFish a w ha hw ho ?_
      have ew : (c_row σ (12 + a)).toInt.toNat = w := by rw [ho, nI_toInt (by omega)]; omega
      rw [ew] at hy1
      exact ⟨nar1, hy1 (by decide)⟩
  · obtain ⟨e1, e2⟩ := pRow_111 (r := c_row σ) (q := q) hc
    rw [e1] at hy
    rw [e2] at hy hn
    rw [hc]
    refine ⟨fun q => absurd q (by decide), fun _ => ⟨fun q => absurd q (by decide), fun _ => ⟨fun q => absurd q (by decide), fun _ => ⟨fun _ => ?_, fun q => absurd rfl q⟩⟩⟩⟩
    refine w_isOpened (fun h0 => ⟨fun _ => ?_, fun q => absurd rfl q⟩) (fun h0 => ⟨fun q => absurd q (by decide), fun _ => hn (decide_eq_false h0)⟩)
    exact w_shareOut h1 (fun f g => hy (decide_eq_true h0) f g)
  · obtain ⟨e1, e2⟩ := pRow_110 (r := c_row σ) (q := q) hc
    rw [e1] at hy1
    rw [e2] at hy1
    rw [hc]
    refine ⟨fun q => absurd q (by decide), fun _ => ⟨fun q => absurd q (by decide), fun _ => ⟨fun q => absurd q (by decide), fun _ => ⟨fun q => absurd q (by decide), fun _ => ⟨fun q => absurd q (by decide), fun _ => ?_⟩⟩⟩⟩⟩
    exact w_beginDay (hy1 rfl)
theorem sumG_nat {m : Nat} {r : Nat → Int32} (h1 : O1 m r) : ∀ n, n ≤ 6 → 0 ≤ (sumG (moreV r) n).toInt ∧ (sumG (moreV r) n).toInt ≤ n * 200
  | 0, _ => by show 0 ≤ (0 : Int32).toInt ∧ (0 : Int32).toInt ≤ _; rw [tI0]; omega
  | n + 1, hn => by
    have ih := sumG_nat h1 n (by omega)
    have hm := more_nat h1 (k := n) (by omega)
    have hf := h1.fish (k := n) (by omega)
    show 0 ≤ (sumG (moreV r) n + moreV r n).toInt ∧ (sumG (moreV r) n + moreV r n).toInt ≤ _
    rw [tI_add (by omega) (by omega)]
    omega
theorem pos_lt {x : Int32} (h : 0 ≤ x.toInt) : ¬ x < 0 := by
  rw [tI_lt, tI0]; omega
theorem m_isDone {m : Nat} {r : Nat → Int32} {s : MS} (R : Rl m r (m_s s)) (e0 : Ask0 s) (hm : m ≤ 900000) {p q : Nat} (P : PR t l p q (m_part s) (m_first s) (m_second s) (m_third s)) {post : Int32 → MS → Prop} (hy : pOk r t l p q = true → ∀ t' s', Rl (m + 1) (pRow r t l p q) t' → (∀ j, 177 ≤ j → t' j = m_s s j) → Sm (ms_s s t') s' → post 1 s') (hn : pOk r t l p q = false → post 0 s) : wp_X5_isDone s post := by
  have e2 : m_s s ((2 : Int32)).toNatClampNeg = r 169 := R.P _ _ PI_opened
  intro w hw
  rcases P with ⟨hpt, hc, a, b, n, ha, hb, hn1, hn99, hf, hg, hk, hca, hcb, hN⟩ | ⟨hpt, hc, a, b, ha, hb, hf, hg, hca, hcb, -⟩ | ⟨hpt, hc, n, hn1, hn23, hf, hN⟩ | ⟨hpt, hc, a, ha, hf, hca, -⟩ | ⟨hpt, hc, -⟩ | ⟨hpt, hc, -⟩
  · have N : NumAt t l (p + 3) q n := hN
    obtain ⟨e1, e3⟩ := pRow_98 (r := r) hc hca hcb N.is
    rw [e1, e3] at hy
    rw [e3] at hn
    rw [hpt] at hw
    subst hw
    have hnt : (nI n).toInt = n := nI_toInt (by omega)
    refine ⟨fun _ => ?_, fun q => absurd rfl q⟩
    rw [hf, hg, hk]
    refine m_reason R a b (nI n) ha hb ?_
    refine ⟨fun h0 => hn (decide_eq_false h0), fun h0 => ?_⟩
    refine m_seals R a b (nI n) ha hb ?_
    obtain ⟨v, hv, hse⟩ := sealV_nat R.o1 (b := a) (s := b) (x := nI n) (by omega) ha hb (by omega) (by omega)
    refine ⟨fun q => ?_, fun _ => ?_⟩
    · rw [hse] at q; exact absurd q (nI_pos (by omega))
    · exact hy (decide_eq_true h0) _ _ (rl_seal R (by omega) ha hb (by omega) (by omega)) (fun j hj => tSeal_out ha hb hj) (Sm.refl _)
  · obtain ⟨e1, e3⟩ := pRow_119 (r := r) (q := q) hc hca hcb
    rw [e1, e3] at hy
    rw [e3] at hn
    rw [hpt] at hw
    subst hw
    refine ⟨fun q => absurd q (by decide), fun _ => ⟨fun q => absurd q (by decide), fun _ => ⟨fun q => absurd q (by decide), fun _ => ⟨fun q => absurd q (by decide), fun _ => ⟨fun _ => ?_, fun q => absurd rfl q⟩⟩⟩⟩⟩
    rw [hf, hg]
    refine m_whyKept R a b ha hb ?_
    refine ⟨fun h0 => hn (decide_eq_false h0), fun h0 => ?_⟩
    have hbid : ¬ r (54 + (a * 6 + b)) = 0 := fun e => by
      unfold rWhyW at h0
      by_cases q : r 169 = 0
      · rw [if_pos q, if_pos e] at h0; exact absurd h0 (by decide)
      · rw [if_neg q] at h0; exact absurd h0 (by decide)
    refine m_withdraws R a b ha hb hbid ?_
    obtain ⟨F, hF, hfe⟩ := fee_nat R ha hb hbid
    refine ⟨fun q => ?_, fun _ => ?_⟩
    · rw [hfe] at q; exact absurd q (nI_pos (by omega))
    · exact hy (decide_eq_true h0) _ _ (rl_take R ha hb h0) (fun j hj => tTake_out ha hb hj) (Sm.refl _)
  · have N : NumAt t l (p + 1) q n := hN
    obtain ⟨e1, e3⟩ := pRow_104 (r := r) hc N.is
    rw [e1, e3] at hy
    rw [hpt] at hw
    subst hw
    have hnt : (nI n).toInt = n := nI_toInt (by omega)
    refine ⟨fun q => absurd q (by decide), fun _ => ⟨fun q => absurd q (by decide), fun _ => ⟨fun _ => ?_, fun q => absurd rfl q⟩⟩⟩
    rw [hf]
    refine m_pauses R (nI n) ?_
    have hh := hour_nat R (x := nI n) (by omega) (by omega)
    have hr := R.o1.hour
    refine ⟨fun q => absurd q (pos_lt (by omega)), fun _ => ?_⟩
    exact hy rfl _ _ (rl_hour R (by omega) (by omega)) (fun j hj => pk_un (by omega)) (Sm.refl _)
  · obtain ⟨e1, e3⟩ := pRow_102 (r := r) (q := q) hc hca
    rw [e1, e3] at hy
    rw [e3] at hn
    rw [hpt] at hw
    subst hw
    refine ⟨fun q => absurd q (by decide), fun _ => ⟨fun _ => ?_, fun q => absurd rfl q⟩⟩
    rw [hf]
    refine m_canFish R a ha ?_
    rcases rCan_01 r a with h0 | ⟨h0, h2⟩
    · rw [h0] at hn ⊢
      exact ⟨fun _ => hn (by decide), fun q => absurd rfl q⟩
    · rw [h0] at hy ⊢
      refine ⟨fun q => absurd q (by decide), fun _ => ?_⟩
      obtain ⟨w, hw, ho⟩ := owner_nat R.o1 ha h2
      have ew : (r (12 + a)).toInt.toNat = w := by rw [ho, nI_toInt (by omega)]; omega
      rw [ew] at hy
      refine m_fishes R a w ha hw ho (fun s3 R3 h3 => ?_)
      obtain ⟨t', rfl, ht'⟩ := h3
      obtain ⟨H, hH, hle⟩ := haul_nat R ha
      have hfi := R.o1.fish ha
      refine ⟨fun q => ?_, fun _ => ?_⟩
      · rw [hH] at q
        exact absurd q (nI_pos (by omega))
      · exact hy (by decide) t' _ (R3.mono (Nat.le_succ m)) ht' (Sm.refl _)
  · obtain ⟨e1, e3⟩ := pRow_111 (r := r) (q := q) hc
    rw [e1, e3] at hy
    rw [e3] at hn
    rw [hpt] at hw
    subst hw
    refine ⟨fun q => absurd q (by decide), fun _ => ⟨fun q => absurd q (by decide), fun _ => ⟨fun q => absurd q (by decide), fun _ => ⟨fun _ => ?_, fun q => absurd rfl q⟩⟩⟩⟩
    rw [e2]
    refine ⟨fun h0 => hn (decide_eq_false h0), fun h0 => ?_⟩
    refine m_opens R e0 (fun s' S => ?_)
    have hc6 := cntF_le (BC r) 6
    refine ⟨fun q => absurd q (nI_pos (by omega)), fun _ => ?_⟩
    exact hy (decide_eq_true h0) _ _ (rl_gF R (by omega) h0 6 (Nat.le_refl _)) (fun j hj => tOpen_out hj) S
  · obtain ⟨e1, e3⟩ := pRow_110 (r := r) (q := q) hc
    rw [e1, e3] at hy
    rw [hpt] at hw
    subst hw
    refine ⟨fun q => absurd q (by decide), fun _ => ⟨fun q => absurd q (by decide), fun _ => ⟨fun q => absurd q (by decide), fun _ => ⟨fun q => absurd q (by decide), fun _ => ⟨fun q => absurd q (by decide), fun _ => ?_⟩⟩⟩⟩⟩
    refine m_dawns R ?_
    have := sumG_nat R.o1 6 (Nat.le_refl _)
    refine ⟨fun q => absurd q (pos_lt this.1), fun _ => ?_⟩
    exact hy rfl _ _ (rl_day R) (fun j hj => tDay_out hj) (Sm.refl _)
end
