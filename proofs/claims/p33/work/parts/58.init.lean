/-! pure part: the start, and all calls -/
def R0 : Nat → Int32 := fun i => if i < 6 then 5 else if i < 12 then 100 else if i < 24 then -1 else if 30 ≤ i ∧ i < 36 then 100 else if i = 162 then 2 else if i = 163 then 1 else if i = 164 then 10 else if i = 166 then 600 else if i = 167 then 1 else 0
def tSp (t : Nat → Int32) (n : Nat) : Nat → Int32 := fun j => if 15 ≤ j ∧ j < 15 + 5 * n then (if (j - 15) % 5 = 0 then 5 else if (j - 15) % 5 = 1 then 100 else if (j - 15) % 5 = 2 ∨ (j - 15) % 5 = 3 then -1 else t j) else if 45 ≤ j ∧ j < 45 + 4 * n ∧ (j - 45) % 4 = 0 then 100 else t j
def tA : Nat → Int32 := upd (upd (upd (upd (upd (fun _ => 0) 0 1) 4 600) 12 2) 13 1) 14 10
def T0 : Nat → Int32 := tSp (tGone tA 36) 6
theorem tSp_s (t : Nat → Int32) (n : Nat) (hn : n < 6) : upd (upd (upd (upd (upd (tSp t n) (15 + 5 * n + 0) 5) (15 + 5 * n + 1) 100) (15 + 5 * n + 2) (-1)) (15 + 5 * n + 3) (-1)) (45 + 4 * n + 0) 100 = tSp t (n + 1) := by
  funext j
  by_cases h1 : j = 45 + 4 * n + 0
  · subst h1; rw [pk_us]; unfold tSp; rw [if_neg (by omega), if_pos (by omega)]
  · rw [pk_un h1]
    by_cases h2 : j = 15 + 5 * n + 3
    · subst h2; rw [pk_us]; unfold tSp; (repeat (first | rw [if_pos (by omega)] | rw [if_neg (by omega)]))
    · rw [pk_un h2]
      by_cases h3 : j = 15 + 5 * n + 2
      · subst h3; rw [pk_us]; unfold tSp; (repeat (first | rw [if_pos (by omega)] | rw [if_neg (by omega)]))
      · rw [pk_un h3]
        by_cases h4 : j = 15 + 5 * n + 1
        · subst h4; rw [pk_us]; unfold tSp; (repeat (first | rw [if_pos (by omega)] | rw [if_neg (by omega)]))
        · rw [pk_un h4]
          by_cases h5 : j = 15 + 5 * n + 0
          · subst h5; rw [pk_us]; unfold tSp; (repeat (first | rw [if_pos (by omega)] | rw [if_neg (by omega)]))
          · rw [pk_un h5]
            unfold tSp
            by_cases q : 15 ≤ j ∧ j < 15 + 5 * n
            · rw [if_pos q, if_pos (show 15 ≤ j ∧ j < 15 + 5 * (n + 1) by omega)]
            · rw [if_neg q]
              by_cases q2 : 15 ≤ j ∧ j < 15 + 5 * (n + 1)
              · rw [if_pos q2, if_neg (by omega), if_neg (by omega), if_neg (by omega), if_neg (by omega)]
              · rw [if_neg q2]
                by_cases q3 : 45 ≤ j ∧ j < 45 + 4 * n ∧ (j - 45) % 4 = 0
                · rw [if_pos q3, if_pos (by omega)]
                · rw [if_neg q3, if_neg (by omega)]
theorem init_c : wp_X2_init (c0 (fun _ => 0)) (fun σ1 => c0 (c_row σ1) = c0 R0) := by
  unfold wp_X2_init
  refine w_fill 0 6 rfl rfl (by decide) ?_
  refine w_fill 6 6 rfl rfl (by decide) ?_
  refine w_fill 12 6 rfl rfl (by decide) ?_
  refine w_fill 18 6 rfl rfl (by decide) ?_
  refine w_fill 30 6 rfl rfl (by decide) ?_
  refine w_put 162 0 rfl rfl (by decide) ?_
  refine w_put 162 1 rfl rfl (by decide) ?_
  refine w_put 162 2 rfl rfl (by decide) ?_
  refine w_put 166 0 rfl rfl (by decide) ?_
  refine w_put 167 0 rfl rfl (by decide) ?_
  refine congrArg c0 (funext fun j => ?_)
  show upd (upd (upd (upd (upd (fillF (fillF (fillF (fillF (fillF (fun _ => 0) 0 6 5) 6 6 100) 12 6 (-1)) 18 6 (-1)) 30 6 100) 162 2) 163 1) 164 10) 166 600) 167 1 j = R0 j
  by_cases h167 : j = 167
  · subst h167; rw [pk_us]; rfl
  rw [pk_un h167]
  by_cases h166 : j = 166
  · subst h166; rw [pk_us]; rfl
  rw [pk_un h166]
  by_cases h164 : j = 164
  · subst h164; rw [pk_us]; rfl
  rw [pk_un h164]
  by_cases h163 : j = 163
  · subst h163; rw [pk_us]; rfl
  rw [pk_un h163]
  by_cases h162 : j = 162
  · subst h162; rw [pk_us]; rfl
  rw [pk_un h162]
  unfold fillF R0
  by_cases a1 : j < 6
  · (repeat (first | rw [if_pos (by omega)] | rw [if_neg (by omega)]))
  by_cases a2 : j < 12
  · (repeat (first | rw [if_pos (by omega)] | rw [if_neg (by omega)]))
  by_cases a3 : j < 18
  · (repeat (first | rw [if_pos (by omega)] | rw [if_neg (by omega)]))
  by_cases a4 : j < 24
  · (repeat (first | rw [if_pos (by omega)] | rw [if_neg (by omega)]))
  by_cases a5 : 30 ≤ j ∧ j < 36
  · (repeat (first | rw [if_pos (by omega)] | rw [if_neg (by omega)]))
  · (repeat (first | rw [if_pos (by omega)] | rw [if_neg (by omega)]))
set_option maxRecDepth 100000 in
theorem rl_0 : Rl 0 R0 T0 := by
  refine ⟨?_, ?_, ?_, ?_, ?_, ?_, ?_⟩
  · intro i j hij
    unfold PI at hij
    rcases hij with ⟨h1, rfl⟩ | ⟨h1, h2, rfl⟩ | ⟨h1, h2, rfl⟩ | ⟨h1, h2, rfl⟩ | ⟨h1, h2, rfl⟩ | ⟨h1, h2, rfl⟩ | ⟨h1, h2, rfl⟩ | ⟨h1, h2, rfl⟩ | ⟨h1, h2, rfl⟩ | hij
    · unfold T0 tSp R0; (repeat (first | rw [if_pos (by omega)] | rw [if_neg (by omega)]))
    · unfold T0 tSp R0; (repeat (first | rw [if_pos (by omega)] | rw [if_neg (by omega)]))
    · unfold T0 tSp R0; (repeat (first | rw [if_pos (by omega)] | rw [if_neg (by omega)]))
    · unfold T0 tSp R0; (repeat (first | rw [if_pos (by omega)] | rw [if_neg (by omega)]))
    · unfold T0 tSp R0 tGone tA; (repeat (first | rw [if_pos (by omega)] | rw [if_neg (by omega)])); (repeat (first | rw [pk_us] | rw [pk_un (by omega)]))
    · unfold T0 tSp R0; (repeat (first | rw [if_pos (by omega)] | rw [if_neg (by omega)]))
    · unfold T0 tSp R0 tGone tA; (repeat (first | rw [if_pos (by omega)] | rw [if_neg (by omega)])); (repeat (first | rw [pk_us] | rw [pk_un (by omega)]))
    · unfold T0 tSp R0 tGone tA; (repeat (first | rw [if_pos (by omega)] | rw [if_neg (by omega)])); (repeat (first | rw [pk_us] | rw [pk_un (by omega)]))
    · unfold T0 tSp R0 tGone tA; (repeat (first | rw [if_pos (by omega)] | rw [if_neg (by omega)])); (repeat (first | rw [pk_us] | rw [pk_un (by omega)]))
    · rcases hij with ⟨h1, h2, rfl⟩ | ⟨rfl, rfl⟩ | ⟨rfl, rfl⟩ | ⟨rfl, rfl⟩ | ⟨rfl, rfl⟩ | ⟨rfl, rfl⟩ | ⟨rfl, rfl⟩ | ⟨rfl, rfl⟩ | ⟨rfl, rfl⟩ | ⟨rfl, rfl⟩
      · rcases (show i = 162 ∨ i = 163 ∨ i = 164 by omega) with rfl | rfl | rfl <;> decide +kernel
      all_goals decide +kernel
  · intro b s hb hs
    refine Or.inl ⟨?_, ?_⟩
    · unfold R0; (repeat (first | rw [if_pos (by omega)] | rw [if_neg (by omega)]))
    · unfold T0 tSp tGone; (repeat (first | rw [if_pos (by omega)] | rw [if_neg (by omega)]))
  · unfold RelS; decide +kernel
  · intro i
    have go : ∀ (v : Int32) (n : Int), R0 i = v → v.toInt = n → Rng 0 i n → Rng 0 i (R0 i).toInt := fun v n e1 e2 h => by rw [e1, e2]; exact h
    by_cases a1 : i < 6
    · exact go 5 5 (by unfold R0; (repeat (first | rw [if_pos (by omega)] | rw [if_neg (by omega)]))) (by decide) (by unfold Rng; omega)
    by_cases a2 : i < 12
    · exact go 100 100 (by unfold R0; (repeat (first | rw [if_pos (by omega)] | rw [if_neg (by omega)]))) (by decide) (by unfold Rng; omega)
    by_cases a3 : i < 24
    · exact go (-1) (-1) (by unfold R0; (repeat (first | rw [if_pos (by omega)] | rw [if_neg (by omega)]))) (by decide) (by unfold Rng; omega)
    by_cases a4 : 30 ≤ i ∧ i < 36
    · exact go 100 100 (by unfold R0; (repeat (first | rw [if_pos (by omega)] | rw [if_neg (by omega)]))) (by decide) (by unfold Rng; omega)
    by_cases a5 : i = 162
    · exact go 2 2 (by unfold R0; (repeat (first | rw [if_pos (by omega)] | rw [if_neg (by omega)]))) (by decide) (by unfold Rng; omega)
    by_cases a6 : i = 163
    · exact go 1 1 (by unfold R0; (repeat (first | rw [if_pos (by omega)] | rw [if_neg (by omega)]))) (by decide) (by unfold Rng; omega)
    by_cases a7 : i = 164
    · exact go 10 10 (by unfold R0; (repeat (first | rw [if_pos (by omega)] | rw [if_neg (by omega)]))) (by decide) (by unfold Rng; omega)
    by_cases a8 : i = 166
    · exact go 600 600 (by unfold R0; (repeat (first | rw [if_pos (by omega)] | rw [if_neg (by omega)]))) (by decide) (by unfold Rng; omega)
    by_cases a9 : i = 167
    · exact go 1 1 (by unfold R0; (repeat (first | rw [if_pos (by omega)] | rw [if_neg (by omega)]))) (by decide) (by unfold Rng; omega)
    · exact go 0 0 (by unfold R0; (repeat (first | rw [if_pos (by omega)] | rw [if_neg (by omega)]))) (by decide) (by unfold Rng; omega)
  · intro b s hb hs h
    exact absurd (show R0 (54 + (b * 6 + s)) = 0 by unfold R0; (repeat (first | rw [if_pos (by omega)] | rw [if_neg (by omega)]))) h
  · unfold O3; decide +kernel
  · intro _; decide +kernel
