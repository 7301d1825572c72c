/-! pure part: the next day, on the reference's side, and both together -/
def tGrow (t r : Nat → Int32) (n : Nat) : Nat → Int32 := fun j => if 15 ≤ j ∧ j < 15 + 5 * n then (if (j - 15) % 5 = 1 then t j + moreV r ((j - 15) / 5) else if (j - 15) % 5 = 2 ∨ (j - 15) % 5 = 3 then -1 else t j) else t j
theorem tGrow_s (t r : Nat → Int32) (n : Nat) : upd (upd (upd (tGrow t r n) (15 + 5 * n + 1) (tGrow t r n (15 + 5 * n + 1) + moreV r n)) (15 + 5 * n + 2) (-1)) (15 + 5 * n + 3) (-1) = tGrow t r (n + 1) := by
  have e1 : tGrow t r n (15 + 5 * n + 1) = t (15 + 5 * n + 1) := if_neg (by omega)
  rw [e1]
  funext j
  by_cases h3 : j = 15 + 5 * n + 3
  · subst h3; rw [pk_us]; unfold tGrow; (repeat (first | rw [if_pos (by omega)] | rw [if_neg (by omega)]))
  · by_cases h2 : j = 15 + 5 * n + 2
    · subst h2; rw [pk_un (by omega), pk_us]; unfold tGrow; (repeat (first | rw [if_pos (by omega)] | rw [if_neg (by omega)]))
    · by_cases h1 : j = 15 + 5 * n + 1
      · subst h1
        rw [pk_un (by omega), pk_un (by omega), pk_us]
        unfold tGrow
        rw [if_pos (by omega), if_pos (by omega), show (15 + 5 * n + 1 - 15) / 5 = n by omega]
      · rw [pk_un h3, pk_un h2, pk_un h1]
        unfold tGrow
        by_cases q : 15 ≤ j ∧ j < 15 + 5 * n
        · rw [if_pos q, if_pos (show 15 ≤ j ∧ j < 15 + 5 * (n + 1) by omega)]
        · rw [if_neg q]
          by_cases q2 : 15 ≤ j ∧ j < 15 + 5 * (n + 1)
          · rw [if_pos q2, if_neg (by omega), if_neg (by omega)]
          · rw [if_neg q2]
/-- the bids gone, the first n of them -/
def tGone (t : Nat → Int32) (n : Nat) : Nat → Int32 := fun j => if 69 ≤ j ∧ j < 69 + 3 * n ∧ (j - 69) % 3 = 0 then -1 else t j
theorem tGone_s (t : Nat → Int32) (n : Nat) : upd (tGone t n) (69 + 3 * n) (-1) = tGone t (n + 1) := by
  funext j
  by_cases h : j = 69 + 3 * n
  · subst h; rw [pk_us]; unfold tGone; rw [if_pos (by omega)]
  · rw [pk_un h]
    unfold tGone
    by_cases q : 69 ≤ j ∧ j < 69 + 3 * n ∧ (j - 69) % 3 = 0
    · rw [if_pos q, if_pos (by omega)]
    · rw [if_neg q, if_neg (by omega)]
def tDay (t r : Nat → Int32) : Nat → Int32 := upd (upd (upd (upd (tGone (tGrow t r 6) 36) 0 (r 167 + 1)) 1 0) 2 0) 11 0
theorem m_dawns {m : Nat} {r : Nat → Int32} {μ : MS} (R : Rl m r (m_s μ)) {post : Int32 → MS → Prop} (hp : post (sumG (moreV r) 6) (ms_s μ (tDay (m_s μ) r))) : wp_X5_dawns μ post := by
  have hfish := fun s (hs : s < 6) => R.P _ _ (PI_fish hs)
  have hset : m_s μ 14 = r 164 := R.P _ _ (PI_set (k := 2) (by decide))
  have hday : m_s μ 0 = r 167 := R.P _ _ PI_days
  generalize hS : m_s μ = t at *
  refine ⟨fun n v1 v2 s => ∃ i : Nat, i ≤ 6 ∧ n = 6 - i ∧ v2 = nI i ∧ v1 = sumG (moreV r) i ∧ s = ms_s μ (tGrow t r i), ⟨6, 0, Nat.zero_le _, rfl, rfl, rfl, ?_⟩, ?_⟩
  · rw [show tGrow t r 0 = t from funext fun j => if_neg (by omega), ← hS]; rfl
  rintro n v1 v2 s ⟨i, hi, rfl, rfl, rfl, rfl⟩
  refine ⟨fun h9 => ?_, fun h9 => ?_⟩
  · have e : i = 6 := Nat.le_antisymm hi ((nI_leI (a := 6) (by omega) (by omega)).mp h9)
    subst e
    refine ⟨fun n v2 s => ∃ q : Nat, q ≤ 36 ∧ n = 36 - q ∧ v2 = nI q ∧ s = ms_s μ (tGone (tGrow t r 6) q), ⟨36, 0, Nat.zero_le _, rfl, rfl, ?_⟩, ?_⟩
    · rw [show tGone (tGrow t r 6) 0 = tGrow t r 6 from funext fun j => if_neg (by omega)]
    rintro n v2 s ⟨q, hq, rfl, rfl, rfl⟩
    refine ⟨fun h8 => ?_, fun h8 => ?_⟩
    · have e : q = 36 := Nat.le_antisymm hq ((nI_leI (a := 36) (by omega) (by omega)).mp h8)
      subst e
      intro s3 h3 s4 h4 s5 h5 s6 h6
      subst h3; subst h4; subst h5; subst h6
      rw [show ((0 : Int32)).toNatClampNeg = 0 from by decide, show ((1 : Int32)).toNatClampNeg = 1 from by decide, show ((2 : Int32)).toNatClampNeg = 2 from by decide, show ((11 : Int32)).toNatClampNeg = 11 from by decide]
      simp only [msss]
      have e0 : tGone (tGrow t r 6) 36 0 = r 167 := by
        unfold tGone tGrow
        rw [if_neg (by omega), if_neg (by omega)]; exact hday
      rw [e0]
      exact hp
    · have e : q < 36 := Nat.lt_of_not_le fun z => h8 (nI_le (a := 36) z (by omega))
      have e3 : (69 : Int32) + 3 * nI q = nI (69 + 3 * q) := by rw [show (69 : Int32) = nI 69 from rfl, show (3 : Int32) = nI 3 from rfl, pk_mul, nI_add]
      rw [e3, nI_clamp (by omega)]
      refine ⟨q_in (by omega) (by decide), ?_⟩
      intro s7 h7 w hw
      refine ⟨36 - (q + 1), by omega, q + 1, by omega, rfl, by rw [hw, nI_1], ?_⟩
      rw [h7, ← tGone_s]; rfl
  · have e : i < 6 := Nat.lt_of_not_le fun q => h9 (nI_le (a := 6) q (by omega))
    have ef : tGrow t r i (15 + 5 * i + 1) = r (6 + i) := by
      unfold tGrow
      rw [if_neg (by omega)]; exact hfish i e
    have es : tGrow t r i 14 = r 164 := by
      unfold tGrow
      rw [if_neg (by omega)]; exact hset
    have fin : ∀ V : Int32, V = moreV r i → ∀ s : MS, s = ms_s μ (upd (upd (upd (tGrow t r i) (15 + 5 * i + 1) (tGrow t r i (15 + 5 * i + 1) + V)) (15 + 5 * i + 2) (-1)) (15 + 5 * i + 3) (-1)) → ∀ v1 : Int32, v1 = sumG (moreV r) i + V → ∀ v2 : Int32, v2 = nI i + 1 → ∃ n', n' < 6 - i ∧ ∃ i', i' ≤ 6 ∧ n' = 6 - i' ∧ v2 = nI i' ∧ v1 = sumG (moreV r) i' ∧ s = ms_s μ (tGrow t r i') := by
      intro V hV s hs v1 hv1 v2 hv2
      subst hV
      exact ⟨6 - (i + 1), by omega, i + 1, e, rfl, by rw [hv2, nI_1], hv1, by rw [hs, tGrow_s]⟩
    refine m_of i 1 rfl rfl e (by decide) ?_
    intro v3 hv3
    rw [show m_s (ms_s μ (tGrow t r i)) = tGrow t r i from msss _ _, ef] at hv3
    rw [show m_s (ms_s μ (tGrow t r i)) = tGrow t r i from msss _ _, show ((14 : Int32)).toNatClampNeg = 14 from by decide, es]
    refine ⟨fun h => ?_, fun h => ?_⟩
    · refine m_of i 1 rfl rfl e (by decide) ?_
      refine m_lay i 1 rfl rfl e (by decide) ?_
      refine m_lay i 2 rfl rfl e (by decide) ?_
      refine m_lay i 3 rfl rfl e (by decide) ?_
      refine fin v3 ?_ _ rfl
      unfold moreV
      rw [hv3] at h ⊢
      by_cases q : 200 - r (6 + i) < r 164
      · rw [if_pos q]
      · rw [if_neg q]
        rw [tI_lt] at q
        rw [tI_le] at h
        exact Int32.toInt_inj.mp (by omega)
    · intro v4 hv4
      refine m_of i 1 rfl rfl e (by decide) ?_
      refine m_lay i 1 rfl rfl e (by decide) ?_
      refine m_lay i 2 rfl rfl e (by decide) ?_
      refine m_lay i 3 rfl rfl e (by decide) ?_
      refine fin v4 ?_ _ rfl
      unfold moreV
      rw [hv3] at h
      rw [if_neg (by rw [tI_le] at h; rw [tI_lt]; omega), hv4]
theorem rDay_out {r : Nat → Int32} {i : Nat} (h : i < 6 ∨ (24 ≤ i ∧ i < 54) ∨ (90 ≤ i ∧ i ≠ 167 ∧ i ≠ 168 ∧ i ≠ 169 ∧ i ≠ 170)) : rDay r i = r i := by
  unfold rDay rGrow
  (repeat (first | rw [if_pos (by omega)] | rw [if_neg (by omega)]))
theorem more_nat {m : Nat} {r : Nat → Int32} (h1 : O1 m r) {k : Nat} (hk : k < 6) : (r (6 + k) + moreV r k).toInt = (r (6 + k)).toInt + (moreV r k).toInt ∧ 0 ≤ (moreV r k).toInt ∧ (r (6 + k)).toInt + (moreV r k).toInt ≤ 200 := by
  have hf := h1.fish hk
  have hs := h1.set2
  have e : (200 - r (6 + k)).toInt = 200 - (r (6 + k)).toInt := by
    rw [tI_sub, show (200 : Int32).toInt = 200 from by decide]
    · rw [show (200 : Int32).toInt = 200 from by decide]; omega
    · rw [show (200 : Int32).toInt = 200 from by decide]; omega
  have : 0 ≤ (moreV r k).toInt ∧ (moreV r k).toInt ≤ 200 - (r (6 + k)).toInt := by
    unfold moreV
    by_cases q : 200 - r (6 + k) < r 164
    · rw [if_pos q, e]; omega
    · rw [if_neg q]; rw [tI_lt, e] at q; omega
  refine ⟨tI_add (by omega) (by omega), by omega, by omega⟩
theorem sumF_day {r : Nat → Int32} {k : Nat} (h : 24 ≤ k ∧ k + 6 ≤ 54) : sumF (rDay r) k 6 = sumF r k 6 := sumF_congr 6 fun i hi => rDay_out (by omega)
theorem S6_day {r : Nat → Int32} {k : Nat} (h : 24 ≤ k ∧ k + 6 ≤ 54) : S6 (rDay r) k = S6 r k := by
  unfold S6
  rw [rDay_out (by omega), rDay_out (by omega), rDay_out (by omega), rDay_out (by omega), rDay_out (by omega), rDay_out (by omega)]
set_option maxRecDepth 100000 in
theorem rl_dayP {r t : Nat → Int32} (h : RelP r t) : RelP (rDay r) (tDay t r) := by
  intro i j hij
  have hh := h i j hij
  have ho := PI_out hij
  unfold PI at hij
  unfold tDay
  by_cases e11 : j = 11
  · subst e11
    rw [pk_us]
    have : i = 170 := PI_inj (j := 11) (by unfold PI; exact hij) PI_rank
    subst this
    rfl
  · rw [pk_un e11]
    by_cases e2 : j = 2
    · subst e2
      rw [pk_us]
      have : i = 169 := PI_inj (j := 2) (by unfold PI; exact hij) PI_opened
      subst this
      rfl
    · rw [pk_un e2]
      by_cases e1 : j = 1
      · subst e1
        rw [pk_us]
        have : i = 168 := PI_inj (j := 1) (by unfold PI; exact hij) PI_hour
        subst this
        rfl
      · rw [pk_un e1]
        by_cases e0 : j = 0
        · subst e0
          rw [pk_us]
          have : i = 167 := PI_inj (j := 0) (by unfold PI; exact hij) PI_days
          subst this
          rfl
        · rw [pk_un e0]
          unfold tGone
          rw [if_neg (by omega)]
          unfold tGrow
          by_cases c : 15 ≤ j ∧ j < 15 + 5 * 6
          · rw [if_pos c]
            rcases hij with ⟨h1, rfl⟩ | ⟨h1, h2, rfl⟩ | ⟨h1, h2, rfl⟩ | ⟨h1, h2, rfl⟩ | ⟨h1, h2, rfl⟩ | hij
            · rw [if_neg (by omega), if_neg (by omega), hh, rDay_out (by omega)]
            · rw [if_pos (by omega), hh]
              unfold rDay rGrow
              (repeat (first | rw [if_pos (by omega)] | rw [if_neg (by omega)]))
              rw [show (15 + 5 * (i - 6) + 1 - 15) / 5 = i - 6 by omega]
            · rw [if_neg (by omega), if_pos (by omega)]
              unfold rDay
              (repeat (first | rw [if_pos (by omega)] | rw [if_neg (by omega)]))
            · rw [if_neg (by omega), if_pos (by omega)]
              unfold rDay
              (repeat (first | rw [if_pos (by omega)] | rw [if_neg (by omega)]))
            · rw [if_neg (by omega), if_neg (by omega), hh, rDay_out (by omega)]
            · exact absurd c (by omega)
          · rw [if_neg c, hh, rDay_out ?_]
            have : ¬ (i = 167 ∨ i = 168 ∨ i = 169 ∨ i = 170) := by
              rintro (rfl | rfl | rfl | rfl)
              · exact e0 (PI_fun (by unfold PI; exact hij) PI_days)
              · exact e1 (PI_fun (by unfold PI; exact hij) PI_hour)
              · exact e2 (PI_fun (by unfold PI; exact hij) PI_opened)
              · exact e11 (PI_fun (by unfold PI; exact hij) PI_rank)
            omega
theorem rl_day {m : Nat} {r t : Nat → Int32} (R : Rl m r t) : Rl (m + 1) (rDay r) (tDay t r) := by
  have tD : ∀ j, j = 5 ∨ j = 6 ∨ j = 8 → tDay t r j = t j := by
    intro j hj
    unfold tDay tGone tGrow
    (repeat (first | rw [pk_us] | rw [pk_un (by omega)]))
    (repeat (first | rw [if_pos (by omega)] | rw [if_neg (by omega)]))
  refine ⟨rl_dayP R.P, ?_, ?_, ?_, ?_, ?_, ?_⟩
  · intro b s hb hs
    refine Or.inl ⟨?_, ?_⟩
    · unfold rDay
      rw [if_pos (by omega)]
    · unfold tDay tGone
      (repeat (first | rw [pk_us] | rw [pk_un (by omega)]))
      rw [if_pos (by omega)]
  · unfold RelS
    rw [tD 5 (by omega), tD 6 (by omega), tD 8 (by omega), sumF_day (by omega), sumF_day (by omega), sumF_day (by omega)]
    exact R.S
  · intro i
    by_cases h : i < 6 ∨ (24 ≤ i ∧ i < 54) ∨ (90 ≤ i ∧ i ≠ 167 ∧ i ≠ 168 ∧ i ≠ 169 ∧ i ≠ 170)
    · rw [rDay_out h]; exact (R.o1 i).mono (Nat.le_succ m)
    · by_cases h2 : i < 12
      · have hm := more_nat R.o1 (k := i - 6) (by omega)
        have hf := R.o1.fish (k := i - 6) (by omega)
        have e : rDay r i = r (6 + (i - 6)) + moreV r (i - 6) := by
          unfold rDay rGrow
          (repeat (first | rw [if_pos (by omega)] | rw [if_neg (by omega)]))
          rw [show 6 + (i - 6) = i by omega]
        rw [e, hm.1]
        unfold Rng; omega
      · by_cases h3 : i < 24
        · have e : rDay r i = -1 := by unfold rDay; (repeat (first | rw [if_pos (by omega)] | rw [if_neg (by omega)]))
          rw [e, tIm1]; unfold Rng; omega
        · by_cases h4 : i = 167
          · unfold Rng; omega
          · have e : rDay r i = 0 := by
              unfold rDay
              by_cases h5 : i < 90
              · (repeat (first | rw [if_pos (by omega)] | rw [if_neg (by omega)]))
              · rcases (show i = 168 ∨ i = 169 ∨ i = 170 by omega) with rfl | rfl | rfl <;> rfl
            rw [e, tI0]; unfold Rng; omega
  · intro b s hb hs h
    exact absurd (show rDay r (54 + (b * 6 + s)) = 0 by unfold rDay; rw [if_pos (by omega)]) h
  · unfold O3
    rw [S6_day (by omega), S6_day (by omega), S6_day (by omega), rDay_out (by omega), rDay_out (by omega)]
    exact R.o3
  · intro _ k hk
    unfold rDay
    constructor <;> (repeat (first | rw [if_pos (by omega)] | rw [if_neg (by omega)]))
