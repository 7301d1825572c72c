/-! pure part: the start, and all calls -/
def R0 : Nat → Int32 := fun i => if i < 6 then 5 else if i < 12 then 100 else if i < 24 then -1 else if 30 ≤ i ∧ i < 36 then 100 else if i = 162 then 2 else if i = 163 then 1 else if i = 164 then 10 else if i = 166 then 600 else if i = 167 then 1 else 0
def tSp (t : Nat → Int32) (n : Nat) : Nat → Int32 := fun j => if 15 ≤ j ∧ j < 15 + 5 * n then (if (j - 15) % 5 = 0 then 5 else if (j - 15) % 5 = 1 then 100 else if (j - 15) % 5 = 2 ∨ (j - 15) % 5 = 3 then -1 else t j) else if 45 ≤ j ∧ j < 45 + 4 * n ∧ (j - 45) % 4 = 0 then 100 else t j
def tA : Nat → Int32 := upd (upd (upd (upd (upd (fun _ => 0) 0 1) 4 600) 12 2) 13 1) 14 10
def T0 : Nat → Int32 := tSp (tGone tA 36) 6
theorem tSp_s (t : Nat → Int32) (n : Nat) (hn : n < 6) : upd (upd (upd (upd (upd (tSp t n) (15 + 5 * n + 0) 5) (15 + 5 * n + 1) 100) (15 + 5 * n + 2) (-1)) (15 + 5 * n + 3) (-1)) (45 + 4 * n + 0) 100 = tSp t (n + 1) := by
  funext j
  by_cases h1 : j = 45 + 4 * n + 0
  · subst h1; rw [pk_us]; unfold tSp; rw [if_neg (by omega), if_pos (by omega)]
  · rw [pk_un h1]
    by_cases h2 : j = 15 + 5 * n + 3
    · subst h2; rw [pk_us]; unfold tSp; (repeat (first | rw [if_pos (by omega)] | rw [if_neg (by omega)]))
    · rw [pk_un h2]
      by_cases h3 : j = 15 + 5 * n + 2
      · subst h3; rw [pk_us]; unfold tSp; (repeat (first | rw [if_pos (by omega)] | rw [if_neg (by omega)]))
      · rw [pk_un h3]
        by_cases h4 : j = 15 + 5 * n + 1
        · subst h4; rw [pk_us]; unfold tSp; (repeat (first | rw [if_pos (by omega)] | rw [if_neg (by omega)]))
        · rw [pk_un h4]
          by_cases h5 : j = 15 + 5 * n + 0
          · subst h5; rw [pk_us]; unfold tSp; (repeat (first | rw [if_pos (by omega)] | rw [if_neg (by omega)]))
          · rw [pk_un h5]
            unfold tSp
            by_cases q : 15 ≤ j ∧ j < 15 + 5 * n
            · rw [if_pos q, if_pos (show 15 ≤ j ∧ j < 15 + 5 * (n + 1) by omega)]
            · rw [if_neg q]
              by_cases q2 : 15 ≤ j ∧ j < 15 + 5 * (n + 1)
              · rw [if_pos q2, if_neg (by omega), if_neg (by omega), if_neg (by omega), if_neg (by omega)]
              · rw [if_neg q2]
                by_cases q3 : 45 ≤ j ∧ j < 45 + 4 * n ∧ (j - 45) % 4 = 0
                · rw [if_pos q3, if_pos (by omega)]
                · rw [if_neg q3, if_neg (by omega)]
theorem init_c : wp_X2_init (c0 (fun _ => 0)) (fun σ1 => c0 (c_row σ1) = c0 R0) := by
  unfold wp_X2_init
  refine w_fill 0 6 rfl rfl (by decide) ?_
  refine w_fill 6 6 rfl rfl (by decide) ?_
  refine w_fill 12 6 rfl rfl (by decide) ?_
  refine w_fill 18 6 rfl rfl (by decide) ?_
  refine w_fill 30 6 rfl rfl (by decide) ?_
  refine w_put 162 0 rfl rfl (by decide) ?_
  refine w_put 162 1 rfl rfl (by decide) ?_
  refine w_put 162 2 rfl rfl (by decide) ?_
  refine w_put 166 0 rfl rfl (by decide) ?_
  refine w_put 167 0 rfl rfl (by decide) ?_
  refine congrArg c0 (funext fun j => ?_)
  show upd (upd (upd (upd (upd (fillF (fillF (fillF (fillF (fillF (fun _ => 0) 0 6 5) 6 6 100) 12 6 (-1)) 18 6 (-1)) 30 6 100) 162 2) 163 1) 164 10) 166 600) 167 1 j = R0 j
  by_cases h167 : j = 167
  · subst h167; rw [pk_us]; rfl
  rw [pk_un h167]
  by_cases h166 : j = 166
  · subst h166; rw [pk_us]; rfl
  rw [pk_un h166]
  by_cases h164 : j = 164
  · subst h164; rw [pk_us]; rfl
  rw [pk_un h164]
  by_cases h163 : j = 163
  · subst h163; rw [pk_us]; rfl
  rw [pk_un h163]
  by_cases h162 : j = 162
  · subst h162; rw [pk_us]; rfl
  rw [pk_un h162]
  unfold fillF R0
  by_cases a1 : j < 6
  · (repeat (first | rw [if_pos (by omega)] | rw [if_neg (by omega)]))
  by_cases a2 : j < 12
  · (repeat (first | rw [if_pos (by omega)] | rw [if_neg (by omega)]))
  by_cases a3 : j < 18
  · (repeat (first | rw [if_pos (by omega)] | rw [if_neg (by omega)]))
  by_cases a4 : j < 24
  · (repeat (first | rw [if_pos (by omega)] | rw [if_neg (by omega)]))
  by_cases a5 : 30 ≤ j ∧ j < 36
  · (repeat (first | rw [if_pos (by omega)] | rw [if_neg (by omega)]))
  · (repeat (first | rw [if_pos (by omega)] | rw [if_neg (by omega)]))
theorem init_m : wp_X5_init (fun μ => μ = ms_s m0 T0) := by
  intro s1 h1 s2 h2 s3 h3 s4 h4 s5 h5
  rw [show ((0 : Int32)).toNatClampNeg = 0 from by decide] at h1
  rw [show ((4 : Int32)).toNatClampNeg = 4 from by decide] at h2
  rw [show ((12 : Int32)).toNatClampNeg = 12 from by decide] at h3
  rw [show ((13 : Int32)).toNatClampNeg = 13 from by decide] at h4
  rw [show ((14 : Int32)).toNatClampNeg = 14 from by decide] at h5
  have h5 : s5 = ms_s m0 tA := by
    rw [h5, h4, h3, h2, h1]
    simp only [msss, ss_ss]
    rfl
  subst h5
  refine ⟨fun n v s => ∃ q : Nat, q ≤ 36 ∧ n = 36 - q ∧ v = nI q ∧ s = ms_s m0 (tGone tA q), ⟨36, 0, Nat.zero_le _, rfl, rfl, ?_⟩, ?_⟩
  · rw [show tGone tA 0 = tA from funext fun j => if_neg (by omega)]
  rintro n v s ⟨q, hq, rfl, rfl, rfl⟩
  refine ⟨fun h8 => ?_, fun h8 => ?_⟩
  · have e : q = 36 := Nat.le_antisymm hq ((nI_leI (a := 36) (by omega) (by omega)).mp h8)
    subst e
    refine ⟨fun n v s => ∃ q : Nat, q ≤ 6 ∧ n = 6 - q ∧ v = nI q ∧ s = ms_s m0 (tSp (tGone tA 36) q), ⟨6, 0, Nat.zero_le _, rfl, rfl, ?_⟩, ?_⟩
    · rw [show tSp (tGone tA 36) 0 = tGone tA 36 from funext fun j => by unfold tSp; rw [if_neg (by omega), if_neg (by omega)]]
    rintro n v s ⟨q, hq, rfl, rfl, rfl⟩
    refine ⟨fun h8 => ?_, fun h8 => ?_⟩
    · have e : q = 6 := Nat.le_antisymm hq ((nI_leI (a := 6) (by omega) (by omega)).mp h8)
      subst e
      rfl
    · have e : q < 6 := Nat.lt_of_not_le fun z => h8 (nI_le (a := 6) z (by omega))
      have x0 : ((15 : Int32) + 5 * nI q) + 0 = nI (15 + 5 * q + 0) := x_of q 0
      have x1 : ((15 : Int32) + 5 * nI q) + 1 = nI (15 + 5 * q + 1) := x_of q 1
      have x2 : ((15 : Int32) + 5 * nI q) + 2 = nI (15 + 5 * q + 2) := x_of q 2
      have x3 : ((15 : Int32) + 5 * nI q) + 3 = nI (15 + 5 * q + 3) := x_of q 3
      have x4 : ((45 : Int32) + 4 * nI q) + 0 = nI (45 + 4 * q + 0) := x_has q 0
      rw [x0, x1, x2, x3, x4, nI_clamp (by omega), nI_clamp (by omega), nI_clamp (by omega), nI_clamp (by omega), nI_clamp (by omega)]
      refine ⟨q_in (by omega) (by decide), ?_⟩
      intro s8 h8
      refine ⟨q_in (by omega) (by decide), ?_⟩
      intro s9 h9
      refine ⟨q_in (by omega) (by decide), ?_⟩
      intro s10 h10
      refine ⟨q_in (by omega) (by decide), ?_⟩
      intro s11 h11
      refine ⟨q_in (by omega) (by decide), ?_⟩
      intro s12 h12 w hw
      refine ⟨6 - (q + 1), by omega, q + 1, by omega, rfl, by rw [hw, nI_1], ?_⟩
      rw [h12, h11, h10, h9, h8]
      simp only [msss, ss_ss]
      rw [tSp_s _ q e]
  · have e : q < 36 := Nat.lt_of_not_le fun z => h8 (nI_le (a := 36) z (by omega))
    have e3 : (69 : Int32) + 3 * nI q = nI (69 + 3 * q) := by rw [show (69 : Int32) = nI 69 from rfl, show (3 : Int32) = nI 3 from rfl, pk_mul, nI_add]
    rw [e3, nI_clamp (by omega)]
    refine ⟨q_in (by omega) (by decide), ?_⟩
    intro s7 h7 w hw
    refine ⟨36 - (q + 1), by omega, q + 1, by omega, rfl, by rw [hw, nI_1], ?_⟩
    rw [h7, ← tGone_s]
    simp only [msss, ss_ss]
set_option maxRecDepth 100000 in
theorem rl_0 : Rl 0 R0 T0 := by
  refine ⟨?_, ?_, ?_, ?_, ?_, ?_, ?_⟩
  · intro i j hij
    unfold PI at hij
    rcases hij with ⟨h1, rfl⟩ | ⟨h1, h2, rfl⟩ | ⟨h1, h2, rfl⟩ | ⟨h1, h2, rfl⟩ | ⟨h1, h2, rfl⟩ | ⟨h1, h2, rfl⟩ | ⟨h1, h2, rfl⟩ | ⟨h1, h2, rfl⟩ | ⟨h1, h2, rfl⟩ | hij
    · unfold T0 tSp R0; (repeat (first | rw [if_pos (by omega)] | rw [if_neg (by omega)]))
    · unfold T0 tSp R0; (repeat (first | rw [if_pos (by omega)] | rw [if_neg (by omega)]))
    · unfold T0 tSp R0; (repeat (first | rw [if_pos (by omega)] | rw [if_neg (by omega)]))
    · unfold T0 tSp R0; (repeat (first | rw [if_pos (by omega)] | rw [if_neg (by omega)]))
    · unfold T0 tSp R0 tGone tA; (repeat (first | rw [if_pos (by omega)] | rw [if_neg (by omega)])); (repeat (first | rw [pk_us] | rw [pk_un (by omega)]))
    · unfold T0 tSp R0; (repeat (first | rw [if_pos (by omega)] | rw [if_neg (by omega)]))
    · unfold T0 tSp R0 tGone tA; (repeat (first | rw [if_pos (by omega)] | rw [if_neg (by omega)])); (repeat (first | rw [pk_us] | rw [pk_un (by omega)]))
    · unfold T0 tSp R0 tGone tA; (repeat (first | rw [if_pos (by omega)] | rw [if_neg (by omega)])); (repeat (first | rw [pk_us] | rw [pk_un (by omega)]))
    · unfold T0 tSp R0 tGone tA; (repeat (first | rw [if_pos (by omega)] | rw [if_neg (by omega)])); (repeat (first | rw [pk_us] | rw [pk_un (by omega)]))
    · rcases hij with ⟨h1, h2, rfl⟩ | ⟨rfl, rfl⟩ | ⟨rfl, rfl⟩ | ⟨rfl, rfl⟩ | ⟨rfl, rfl⟩ | ⟨rfl, rfl⟩ | ⟨rfl, rfl⟩ | ⟨rfl, rfl⟩ | ⟨rfl, rfl⟩ | ⟨rfl, rfl⟩
      · rcases (show i = 162 ∨ i = 163 ∨ i = 164 by omega) with rfl | rfl | rfl <;> decide +kernel
      all_goals decide +kernel
  · intro b s hb hs
    refine Or.inl ⟨?_, ?_⟩
    · unfold R0; (repeat (first | rw [if_pos (by omega)] | rw [if_neg (by omega)]))
    · unfold T0 tSp tGone; (repeat (first | rw [if_pos (by omega)] | rw [if_neg (by omega)]))
  · unfold RelS; decide +kernel
  · intro i
    have go : ∀ (v : Int32) (n : Int), R0 i = v → v.toInt = n → Rng 0 i n → Rng 0 i (R0 i).toInt := fun v n e1 e2 h => by rw [e1, e2]; exact h
    by_cases a1 : i < 6
    · exact go 5 5 (by unfold R0; (repeat (first | rw [if_pos (by omega)] | rw [if_neg (by omega)]))) (by decide) (by unfold Rng; omega)
    by_cases a2 : i < 12
    · exact go 100 100 (by unfold R0; (repeat (first | rw [if_pos (by omega)] | rw [if_neg (by omega)]))) (by decide) (by unfold Rng; omega)
    by_cases a3 : i < 24
    · exact go (-1) (-1) (by unfold R0; (repeat (first | rw [if_pos (by omega)] | rw [if_neg (by omega)]))) (by decide) (by unfold Rng; omega)
    by_cases a4 : 30 ≤ i ∧ i < 36
    · exact go 100 100 (by unfold R0; (repeat (first | rw [if_pos (by omega)] | rw [if_neg (by omega)]))) (by decide) (by unfold Rng; omega)
    by_cases a5 : i = 162
    · exact go 2 2 (by unfold R0; (repeat (first | rw [if_pos (by omega)] | rw [if_neg (by omega)]))) (by decide) (by unfold Rng; omega)
    by_cases a6 : i = 163
    · exact go 1 1 (by unfold R0; (repeat (first | rw [if_pos (by omega)] | rw [if_neg (by omega)]))) (by decide) (by unfold Rng; omega)
    by_cases a7 : i = 164
    · exact go 10 10 (by unfold R0; (repeat (first | rw [if_pos (by omega)] | rw [if_neg (by omega)]))) (by decide) (by unfold Rng; omega)
    by_cases a8 : i = 166
    · exact go 600 600 (by unfold R0; (repeat (first | rw [if_pos (by omega)] | rw [if_neg (by omega)]))) (by decide) (by unfold Rng; omega)
    by_cases a9 : i = 167
    · exact go 1 1 (by unfold R0; (repeat (first | rw [if_pos (by omega)] | rw [if_neg (by omega)]))) (by decide) (by unfold Rng; omega)
    · exact go 0 0 (by unfold R0; (repeat (first | rw [if_pos (by omega)] | rw [if_neg (by omega)]))) (by decide) (by unfold Rng; omega)
  · intro b s hb hs h
    exact absurd (show R0 (54 + (b * 6 + s)) = 0 by unfold R0; (repeat (first | rw [if_pos (by omega)] | rw [if_neg (by omega)]))) h
  · unfold O3; decide +kernel
  · intro _; decide +kernel
theorem inv_0 : Inv (61 * 0) (c0 R0) (ms_s m0 T0) := ⟨rl_0, ⟨0, Nat.zero_le _, rfl, rfl, fun i h => absurd h (Nat.not_lt_zero _)⟩, Or.inl ⟨rfl, rfl⟩, ⟨0, Nat.zero_le _, rfl, rfl, fun i h => absurd h (Nat.not_lt_zero _)⟩, rfl, by decide, by decide⟩
