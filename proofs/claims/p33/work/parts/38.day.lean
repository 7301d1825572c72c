/-! pure part: the next day, on the reference's side, and both together -/
def tGrow (t r : Nat → Int32) (n : Nat) : Nat → Int32 := fun j => if 15 ≤ j ∧ j < 15 + 5 * n then (if (j - 15) % 5 = 1 then t j + moreV r ((j - 15) / 5) else if (j - 15) % 5 = 2 ∨ (j - 15) % 5 = 3 then -1 else t j) else t j
theorem tGrow_s (t r : Nat → Int32) (n : Nat) : upd (upd (upd (tGrow t r n) (15 + 5 * n + 1) (tGrow t r n (15 + 5 * n + 1) + moreV r n)) (15 + 5 * n + 2) (-1)) (15 + 5 * n + 3) (-1) = tGrow t r (n + 1) := by
  have e1 : tGrow t r n (15 + 5 * n + 1) = t (15 + 5 * n + 1) := if_neg (by omega)
  rw [e1]
  funext j
  by_cases h3 : j = 15 + 5 * n + 3
  · subst h3; rw [pk_us]; unfold tGrow; (repeat (first | rw [if_pos (by omega)] | rw [if_neg (by omega)]))
  · by_cases h2 : j = 15 + 5 * n + 2
    · subst h2; rw [pk_un (by omega), pk_us]; unfold tGrow; (repeat (first | rw [if_pos (by omega)] | rw [if_neg (by omega)]))
    · by_cases h1 : j = 15 + 5 * n + 1
      · subst h1
        rw [pk_un (by omega), pk_un (by omega), pk_us]
        unfold tGrow
        rw [if_pos (by omega), if_pos (by omega), show (15 + 5 * n + 1 - 15) / 5 = n by omega]
      · rw [pk_un h3, pk_un h2, pk_un h1]
        unfold tGrow
        by_cases q : 15 ≤ j ∧ j < 15 + 5 * n
        · rw [if_pos q, if_pos (show 15 ≤ j ∧ j < 15 + 5 * (n + 1) by omega)]
        · rw [if_neg q]
          by_cases q2 : 15 ≤ j ∧ j < 15 + 5 * (n + 1)
          · rw [if_pos q2, if_neg (by omega), if_neg (by omega)]
          · rw [if_neg q2]
/-- the bids gone, the first n of them -/
def tGone (t : Nat → Int32) (n : Nat) : Nat → Int32 := fun j => if 69 ≤ j ∧ j < 69 + 3 * n ∧ (j - 69) % 3 = 0 then -1 else t j
theorem tGone_s (t : Nat → Int32) (n : Nat) : upd (tGone t n) (69 + 3 * n) (-1) = tGone t (n + 1) := by
  funext j
  by_cases h : j = 69 + 3 * n
  · subst h; rw [pk_us]; unfold tGone; rw [if_pos (by omega)]
  · rw [pk_un h]
    unfold tGone
    by_cases q : 69 ≤ j ∧ j < 69 + 3 * n ∧ (j - 69) % 3 = 0
    · rw [if_pos q, if_pos (by omega)]
    · rw [if_neg q, if_neg (by omega)]
def tDay (t r : Nat → Int32) : Nat → Int32 := upd (upd (upd (upd (tGone (tGrow t r 6) 36) 0 (r 167 + 1)) 1 0) 2 0) 11 0
theorem rDay_out {r : Nat → Int32} {i : Nat} (h : i < 6 ∨ (24 ≤ i ∧ i < 54) ∨ (90 ≤ i ∧ i ≠ 167 ∧ i ≠ 168 ∧ i ≠ 169 ∧ i ≠ 170)) : rDay r i = r i := by
  unfold rDay rGrow
  (repeat (first | rw [if_pos (by omega)] | rw [if_neg (by omega)]))
theorem more_nat {m : Nat} {r : Nat → Int32} (h1 : O1 m r) {k : Nat} (hk : k < 6) : (r (6 + k) + moreV r k).toInt = (r (6 + k)).toInt + (moreV r k).toInt ∧ 0 ≤ (moreV r k).toInt ∧ (r (6 + k)).toInt + (moreV r k).toInt ≤ 200 := by
  have hf := h1.fish hk
  have hs := h1.set2
  have e : (200 - r (6 + k)).toInt = 200 - (r (6 + k)).toInt := by
    rw [tI_sub, show (200 : Int32).toInt = 200 from by decide]
    · rw [show (200 : Int32).toInt = 200 from by decide]; omega
    · rw [show (200 : Int32).toInt = 200 from by decide]; omega
  have : 0 ≤ (moreV r k).toInt ∧ (moreV r k).toInt ≤ 200 - (r (6 + k)).toInt := by
    unfold moreV
    by_cases q : 200 - r (6 + k) < r 164
    · rw [if_pos q, e]; omega
    · rw [if_neg q]; rw [tI_lt, e] at q; omega
  refine ⟨tI_add (by omega) (by omega), by omega, by omega⟩
theorem sumF_day {r : Nat → Int32} {k : Nat} (h : 24 ≤ k ∧ k + 6 ≤ 54) : sumF (rDay r) k 6 = sumF r k 6 := sumF_congr 6 fun i hi => rDay_out (by omega)
theorem S6_day {r : Nat → Int32} {k : Nat} (h : 24 ≤ k ∧ k + 6 ≤ 54) : S6 (rDay r) k = S6 r k := by
  unfold S6
  rw [rDay_out (by omega), rDay_out (by omega), rDay_out (by omega), rDay_out (by omega), rDay_out (by omega), rDay_out (by omega)]
set_option maxRecDepth 100000 in
theorem rl_dayP {r t : Nat → Int32} (h : RelP r t) : RelP (rDay r) (tDay t r) := by
  intro i j hij
  have hh := h i j hij
  have ho := PI_out hij
  unfold PI at hij
  unfold tDay
  by_cases e11 : j = 11
  · subst e11
    rw [pk_us]
    have : i = 170 := PI_inj (j := 11) (by unfold PI; exact hij) PI_rank
    subst this
    rfl
  · rw [pk_un e11]
    by_cases e2 : j = 2
    · subst e2
      rw [pk_us]
      have : i = 169 := PI_inj (j := 2) (by unfold PI; exact hij) PI_opened
      subst this
      rfl
    · rw [pk_un e2]
      by_cases e1 : j = 1
      · subst e1
        rw [pk_us]
        have : i = 168 := PI_inj (j := 1) (by unfold PI; exact hij) PI_hour
        subst this
        rfl
      · rw [pk_un e1]
        by_cases e0 : j = 0
        · subst e0
          rw [pk_us]
          have : i = 167 := PI_inj (j := 0) (by unfold PI; exact hij) PI_days
          subst this
          rfl
        · rw [pk_un e0]
          unfold tGone
          rw [if_neg (by omega)]
          unfold tGrow
          by_cases c : 15 ≤ j ∧ j < 15 + 5 * 6
          · rw [if_pos c]
            rcases hij with ⟨h1, rfl⟩ | ⟨h1, h2, rfl⟩ | ⟨h1, h2, rfl⟩ | ⟨h1, h2, rfl⟩ | ⟨h1, h2, rfl⟩ | hij
            · rw [if_neg (by omega), if_neg (by omega), hh, rDay_out (by omega)]
            · rw [if_pos (by omega), hh]
              unfold rDay rGrow
              (repeat (first | rw [if_pos (by omega)] | rw [if_neg (by omega)]))
              rw [show (15 + 5 * (i - 6) + 1 - 15) / 5 = i - 6 by omega]
            · rw [if_neg (by omega), if_pos (by omega)]
              unfold rDay
              (repeat (first | rw [if_pos (by omega)] | rw [if_neg (by omega)]))
            · rw [if_neg (by omega), if_pos (by omega)]
              unfold rDay
              (repeat (first | rw [if_pos (by omega)] | rw [if_neg (by omega)]))
            · rw [if_neg (by omega), if_neg (by omega), hh, rDay_out (by omega)]
            · exact absurd c (by omega)
          · rw [if_neg c, hh, rDay_out ?_]
            have : ¬ (i = 167 ∨ i = 168 ∨ i = 169 ∨ i = 170) := by
              rintro (rfl | rfl | rfl | rfl)
              · exact e0 (PI_fun (by unfold PI; exact hij) PI_days)
              · exact e1 (PI_fun (by unfold PI; exact hij) PI_hour)
              · exact e2 (PI_fun (by unfold PI; exact hij) PI_opened)
              · exact e11 (PI_fun (by unfold PI; exact hij) PI_rank)
            omega
theorem rl_day {m : Nat} {r t : Nat → Int32} (R : Rl m r t) : Rl (m + 1) (rDay r) (tDay t r) := by
  have tD : ∀ j, j = 5 ∨ j = 6 ∨ j = 8 → tDay t r j = t j := by
    intro j hj
    unfold tDay tGone tGrow
    (repeat (first | rw [pk_us] | rw [pk_un (by omega)]))
    (repeat (first | rw [if_pos (by omega)] | rw [if_neg (by omega)]))
  refine ⟨rl_dayP R.P, ?_, ?_, ?_, ?_, ?_, ?_⟩
  · intro b s hb hs
    refine Or.inl ⟨?_, ?_⟩
    · unfold rDay
      rw [if_pos (by omega)]
    · unfold tDay tGone
      (repeat (first | rw [pk_us] | rw [pk_un (by omega)]))
      rw [if_pos (by omega)]
  · unfold RelS
    rw [tD 5 (by omega), tD 6 (by omega), tD 8 (by omega), sumF_day (by omega), sumF_day (by omega), sumF_day (by omega)]
    exact R.S
  · intro i
    by_cases h : i < 6 ∨ (24 ≤ i ∧ i < 54) ∨ (90 ≤ i ∧ i ≠ 167 ∧ i ≠ 168 ∧ i ≠ 169 ∧ i ≠ 170)
    · rw [rDay_out h]; exact (R.o1 i).mono (Nat.le_succ m)
    · by_cases h2 : i < 12
      · have hm := more_nat R.o1 (k := i - 6) (by omega)
        have hf := R.o1.fish (k := i - 6) (by omega)
        have e : rDay r i = r (6 + (i - 6)) + moreV r (i - 6) := by
          unfold rDay rGrow
          (repeat (first | rw [if_pos (by omega)] | rw [if_neg (by omega)]))
          rw [show 6 + (i - 6) = i by omega]
        rw [e, hm.1]
        unfold Rng; omega
      · by_cases h3 : i < 24
        · have e : rDay r i = -1 := by unfold rDay; (repeat (first | rw [if_pos (by omega)] | rw [if_neg (by omega)]))
          rw [e, tIm1]; unfold Rng; omega
        · by_cases h4 : i = 167
          · unfold Rng; omega
          · have e : rDay r i = 0 := by
              unfold rDay
              by_cases h5 : i < 90
              · (repeat (first | rw [if_pos (by omega)] | rw [if_neg (by omega)]))
              · rcases (show i = 168 ∨ i = 169 ∨ i = 170 by omega) with rfl | rfl | rfl <;> rfl
            rw [e, tI0]; unfold Rng; omega
  · intro b s hb hs h
    exact absurd (show rDay r (54 + (b * 6 + s)) = 0 by unfold rDay; rw [if_pos (by omega)]) h
  · unfold O3
    rw [S6_day (by omega), S6_day (by omega), S6_day (by omega), rDay_out (by omega), rDay_out (by omega)]
    exact R.o3
  · intro _ k hk
    unfold rDay
    constructor <;> (repeat (first | rw [if_pos (by omega)] | rw [if_neg (by omega)]))
