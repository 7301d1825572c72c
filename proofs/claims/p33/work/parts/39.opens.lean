/-! pure part: the opening, both sides together -/
def tGiveU (u : Nat → Int32) (s b : Nat) (x : Int32) : Nat → Int32 := upd (upd (upd (upd (upd (upd u (15 + 5 * s + 2) (nI b)) (15 + 5 * s + 3) x) (45 + 4 * b + 0) (u (45 + 4 * b + 0) + -x)) (45 + 4 * b + 2) (u (45 + 4 * b + 2) + x)) 3 (u 3 + x)) 6 (u 6 + x)
def tGive (t : Nat → Int32) (s b : Nat) (x : Int32) : Nat → Int32 := upd (upd (upd (upd (upd (upd (upd t (15 + 5 * s + 2) (nI b)) (15 + 5 * s + 3) x) (45 + 4 * b + 0) (t (45 + 4 * b + 0) + -x)) 3 (t 3 + x)) (45 + 4 * b + 2) (t (45 + 4 * b + 2) + x)) 6 (t 6 + x)) 7 (t 7 + 1)
theorem give_eq {u : Nat → Int32} {s b : Nat} {x c : Int32} (hs : s < 6) (hb : b < 6) : upd (upd (tGiveU u s b x) 2 1) 7 (c + 1) = tGive (upd (upd u 2 1) 7 c) s b x := by
  funext j
  unfold tGiveU tGive
  by_cases e1 : j = 7
  · subst e1; (repeat (first | rw [pk_us] | rw [pk_un (by omega)]))
  · by_cases e2 : j = 2
    · subst e2; (repeat (first | rw [pk_us] | rw [pk_un (by omega)]))
    · by_cases e3 : j = 3
      · subst e3; (repeat (first | rw [pk_us] | rw [pk_un (by omega)]))
      · by_cases e6 : j = 6
        · subst e6; (repeat (first | rw [pk_us] | rw [pk_un (by omega)]))
        · by_cases e4 : j = 45 + 4 * b + 2
          · subst e4; (repeat (first | rw [pk_us] | rw [pk_un (by omega)]))
          · by_cases e5 : j = 45 + 4 * b + 0
            · subst e5; (repeat (first | rw [pk_us] | rw [pk_un (by omega)]))
            · by_cases e7 : j = 15 + 5 * s + 3
              · subst e7; (repeat (first | rw [pk_us] | rw [pk_un (by omega)]))
              · by_cases e8 : j = 15 + 5 * s + 2
                · subst e8; (repeat (first | rw [pk_us] | rw [pk_un (by omega)]))
                · (repeat (first | rw [pk_us] | rw [pk_un (by omega)]))
theorem rl_give {m : Nat} {r t : Nat → Int32} (R : Rl m r t) {s b D : Nat} (hs : s < 6) (hb : b < 6) (h9 : r 169 = 1) (hD : (D : Int) ≤ (r (30 + b)).toInt) (hm : m ≤ 1000000) (hg : (r 173).toInt + 1 ≤ 6 * m) : Rl m (rGive r s b (nI D)) (tGive t s b (nI D)) := by
  have hsm := O3.small R.o1 R.o3
  have hpu := purse_le R.o1 R.o3 hb
  have hpr := prices_le R.o1 R.o3 hb
  have hp0 := R.o1.purse hb
  have hq0 := R.o1.prices hb
  have hch := R.o1.chest
  have hgv := R.o1.given
  have h3 := R.o3.2.2.2
  have hFt : (nI D).toInt = D := nI_toInt (by omega)
  have hneg : (-(nI D)).toInt = -(D : Int) := by rw [tI_neg (by omega) (by omega), hFt]
  have a1 : (r (30 + b) + -(nI D)).toInt = (r (30 + b)).toInt - D := by rw [tI_add (by omega) (by omega), hneg]; omega
  have a2 : (r 165 + nI D).toInt = (r 165).toInt + D := by rw [tI_add (by omega) (by omega), hFt]
  have a3 : (r (42 + b) + nI D).toInt = (r (42 + b)).toInt + D := by rw [tI_add (by omega) (by omega), hFt]
  have hb5 : (nI b).toInt = b := nI_toInt (by omega)
  have a4 : (r 173 + 1).toInt = (r 173).toInt + 1 := by rw [tI_add (by rw [tI1]; omega) (by rw [tI1]; omega), tI1]
  have e30 := R.P _ _ (PI_purse hb)
  have e42 := R.P _ _ (PI_prices hb)
  have e3 := R.P _ _ PI_chest
  have e7 := R.P _ _ PI_given
  have e9 : rGive r s b (nI D) 169 = 1 := by unfold rGive; (repeat (first | rw [pk_us] | rw [pk_un (by omega)])); exact h9
  refine ⟨?_, ?_, ?_, ?_, ?_, ?_, ?_⟩
  · unfold rGive tGive
    rw [e30, e42, e3, e7]
    exact ((((((R.P.both (PI_owner hs) _).both (PI_paid hs) _).both (PI_purse hb) _).both PI_chest _).both (PI_prices hb) _).updT (by omega) _).both PI_given _
  · unfold rGive tGive
    exact ((((((((((((R.B.updR (by omega) _).updR (by omega) _).updR (by omega) _).updR (by omega) _).updR (by omega) _).updR (by omega) _).updT (by omega) _).updT (by omega) _).updT (by omega) _).updT (by omega) _).updT (by omega) _).updT (by omega) _).updT (by omega) _
  · unfold rGive tGive
    refine RelS.updT (RelS.updR ?_ (by omega) _) (by omega) _
    refine RelS.prices (v := nI D) ?_ hb ?_ ?_
    · exact ((((((((R.S.updR (by omega) _).updR (by omega) _).updR (by omega) _).updR (by omega) _).updT (by omega) _).updT (by omega) _).updT (by omega) _).updT (by omega) _).updT (by omega) _
    · (repeat (first | rw [pk_us] | rw [pk_un (by omega)]))
    · (repeat (first | rw [pk_us] | rw [pk_un (by omega)]))
  · unfold rGive
    refine (((((R.o1.cell ?_).cell ?_).cell ?_).cell ?_).cell ?_).cell ?_
    · rw [hb5]; unfold Rng; omega
    · rw [hFt]; unfold Rng; omega
    · rw [a1]; unfold Rng; omega
    · rw [a2]; unfold Rng; omega
    · rw [a3]; unfold Rng; omega
    · rw [a4]; unfold Rng; omega
  · unfold rGive
    exact (((((R.o2.cell (by omega) _).cell (by omega) _).cell (by omega) _).cell (by omega) _).cell (by omega) _).cell (by omega) _
  · unfold rGive
    refine O3.cell ?_ (by omega) _
    have h4 := (R.o3.cell (i := 12 + s) (by omega) (nI b)).cell (i := 18 + s) (by omega) (nI D)
    have ei : ∀ i, i ≠ 12 + s → i ≠ 18 + s → upd (upd r (12 + s) (nI b)) (18 + s) (nI D) i = r i := fun i h h' => by (repeat (first | rw [pk_us] | rw [pk_un (by omega)]))
    have f1 := ei (30 + b) (by omega) (by omega)
    have f2 := ei 165 (by omega) (by omega)
    have f3 := ei (42 + b) (by omega) (by omega)
    generalize upd (upd r (12 + s) (nI b)) (18 + s) (nI D) = r1 at h4 f1 f2 f3 ⊢
    unfold O3 at h4 ⊢
    rw [S6_out (k := 30) (i := 42 + b) (by omega), S6_out (k := 30) (i := 165) (by omega), S6_in hb, pk_un (show 165 ≠ 42 + b by omega), pk_us, pk_un (show 166 ≠ 42 + b by omega), pk_un (show 166 ≠ 165 by omega), pk_un (show 166 ≠ 30 + b by omega), S6_in (k := 42) hb, S6_out (k := 42) (i := 165) (by omega), S6_out (k := 42) (i := 30 + b) (by omega), S6_out (k := 48) (i := 42 + b) (by omega), S6_out (k := 48) (i := 165) (by omega), S6_out (k := 48) (i := 30 + b) (by omega), pk_un (show 42 + b ≠ 165 by omega), pk_un (show 42 + b ≠ 30 + b by omega), a1, a2, a3]
    rw [f2] at h4
    rw [f1, f3]
    omega
  · intro h; rw [e9] at h; exact absurd h (by decide)
theorem i_ring2 (a X c : Nat) (h : X ≤ a + c) : (nI a - nI X) + nI c = nI (a + c - X) := by
  rw [Int32.sub_eq_add_neg, Int32.add_assoc, Int32.add_comm (-nI X), ← Int32.add_assoc, nI_add, ← Int32.sub_eq_add_neg, pk_sub h]
/-- what is due is at most the purse -/
theorem due_nat {m : Nat} {r : Nat → Int32} (h1 : O1 m r) {s : Nat} (hs : s < 6) (h : own (BC r) s < 6) : ∃ D : Nat, dueV r (BC r) s = nI D ∧ (D : Int) ≤ (r (30 + own (BC r) s)).toInt := by
  have hb0 := (own_lt hs h).2
  have hlow := due_low (BC_81 r) s hs h
  have hup := due_up (BC r) (2 ^ own (BC r) s)
  have hX := XX_sm (BC_le h1) (d := 6) (t := 0) (Nat.le_refl _)
  have hO : own (BC r) s ≠ 6 := by omega
  unfold dueV
  rw [if_neg hO]
  have hpr := h1.price hs
  have hbv := BC_in (r := r) h hs
  have ham := h1.amount h hs
  generalize XX (BC r) 6 (2 ^ own (BC r) s) / 8 = W at *
  generalize XX (BC r) 6 0 / 8 = X at *
  generalize BC r (own (BC r) s) s = B at *
  generalize own (BC r) s = b at *
  generalize r (54 + (b * 6 + s)) = x at *
  generalize r (30 + b) = u at *
  have ep := tI_of hpr.1
  generalize hp : (r s).toInt.toNat = p at ep
  unfold brg at hbv
  by_cases q1 : x = 0
  · rw [if_pos q1] at hbv; exact absurd hbv hb0
  · rw [if_neg q1] at hbv
    by_cases q2 : x < r s
    · rw [if_pos q2] at hbv; exact absurd hbv hb0
    · rw [if_neg q2] at hbv
      by_cases q3 : x ≤ u
      · rw [if_pos q3] at hbv
        rw [tI_le] at q3
        rw [tI_lt] at q2
        refine ⟨p + W + B / 8 - X, ?_, by omega⟩
        rw [ep, nI_add, i_ring2 (p + W) X (B / 8) (by omega)]
      · rw [if_neg q3] at hbv; exact absurd hbv hb0
def cntF (B : Nat → Nat → Nat) : Nat → Nat
  | 0 => 0
  | s + 1 => if own B s = 6 then cntF B s else cntF B s + 1
theorem cntF_le (B : Nat → Nat → Nat) : ∀ s, cntF B s ≤ s
  | 0 => Nat.le_refl _
  | s + 1 => by
    have := cntF_le B s
    unfold cntF
    by_cases h : own B s = 6
    · rw [if_pos h]; omega
    · rw [if_neg h]; omega
def gF (r : Nat → Int32) (B : Nat → Nat → Nat) : Nat → Nat → Int32
  | 0 => upd r 169 1
  | s + 1 => if own B s = 6 then gF r B s else rGive (gF r B s) s (own B s) (dueV r B s)
def hF (t r : Nat → Int32) (B : Nat → Nat → Nat) : Nat → Nat → Int32
  | 0 => t
  | s + 1 => if own B s = 6 then upd (upd (hF t r B s) (15 + 5 * s + 2) (-1)) (15 + 5 * s + 3) (-1) else tGiveU (hF t r B s) s (own B s) (dueV r B s)
theorem gF_price (r : Nat → Int32) (B : Nat → Nat → Nat) {k : Nat} (hk : k < 12) : ∀ s, s ≤ 6 → gF r B s k = r k
  | 0, _ => pk_un (by omega)
  | s + 1, hs => by
    have ih := gF_price r B hk s (by omega)
    have hO := own_le B s
    unfold gF
    by_cases h : own B s = 6
    · rw [if_pos h]; exact ih
    · rw [if_neg h]
      unfold rGive
      (repeat (first | rw [pk_us] | rw [pk_un (by omega)]))
      exact ih
theorem gF_open (r : Nat → Int32) (B : Nat → Nat → Nat) : ∀ s, s ≤ 6 → gF r B s 169 = 1
  | 0, _ => pk_us
  | s + 1, hs => by
    have ih := gF_open r B s (by omega)
    have hO := own_le B s
    unfold gF
    by_cases h : own B s = 6
    · rw [if_pos h]; exact ih
    · rw [if_neg h]
      unfold rGive
      (repeat (first | rw [pk_us] | rw [pk_un (by omega)]))
      exact ih
theorem gF_late (r : Nat → Int32) (B : Nat → Nat → Nat) {k : Nat} (hk : k < 6) (h0 : r (12 + k) = -1 ∧ r (18 + k) = -1) : ∀ s, s ≤ k → gF r B s (12 + k) = -1 ∧ gF r B s (18 + k) = -1
  | 0, _ => by unfold gF; (repeat (first | rw [pk_us] | rw [pk_un (by omega)])); exact h0
  | s + 1, hs => by
    have ih := gF_late r B hk h0 s (by omega)
    have hO := own_le B s
    unfold gF
    by_cases h : own B s = 6
    · rw [if_pos h]; exact ih
    · rw [if_neg h]
      unfold rGive
      (repeat (first | rw [pk_us] | rw [pk_un (by omega)]))
      exact ih
theorem gF_purse (r : Nat → Int32) (B : Nat → Nat → Nat) {b : Nat} (hb : b < 6) : ∀ s, s ≤ 6 → (∀ q, q < s → own B q ≠ b) → gF r B s (30 + b) = r (30 + b)
  | 0, _, _ => pk_un (by omega)
  | s + 1, hs, hq => by
    have ih := gF_purse r B hb s (by omega) (fun q h => hq q (by omega))
    have hO := own_le B s
    have hne := hq s (by omega)
    unfold gF
    by_cases h : own B s = 6
    · rw [if_pos h]; exact ih
    · rw [if_neg h]
      unfold rGive
      (repeat (first | rw [pk_us] | rw [pk_un (by omega)]))
      exact ih
theorem gF_given (r : Nat → Int32) (B : Nat → Nat → Nat) : ∀ s, s ≤ 6 → gF r B s 173 = r 173 + nI (cntF B s)
  | 0, _ => by show upd r 169 1 173 = r 173 + nI 0; rw [pk_un (by omega), nI_0, Int32.add_zero]
  | s + 1, hs => by
    have ih := gF_given r B s (by omega)
    have hO := own_le B s
    unfold gF cntF
    by_cases h : own B s = 6
    · rw [if_pos h, if_pos h]; exact ih
    · rw [if_neg h, if_neg h]
      unfold rGive
      rw [pk_us, ih, Int32.add_assoc, nI_1]
theorem hF_7 (t r : Nat → Int32) (B : Nat → Nat → Nat) {j : Nat} (hj : j = 7 ∨ j = 2) : ∀ s, s ≤ 6 → hF t r B s j = t j
  | 0, _ => rfl
  | s + 1, hs => by
    have ih := hF_7 t r B hj s (by omega)
    have hO := own_le B s
    unfold hF
    by_cases h : own B s = 6
    · rw [if_pos h]; (repeat (first | rw [pk_us] | rw [pk_un (by omega)])); exact ih
    · rw [if_neg h]; unfold tGiveU; (repeat (first | rw [pk_us] | rw [pk_un (by omega)])); exact ih
theorem rl_gF {m : Nat} {r t : Nat → Int32} (R : Rl m r t) (hm : m < 1000000) (h0 : r 169 = 0) : ∀ s, s ≤ 6 → Rl (m + 1) (gF r (BC r) s) (upd (upd (hF t r (BC r) s) 2 1) 7 (gF r (BC r) s 173))
  | 0, _ => by
    have e7 := R.P _ _ PI_given
    have e : upd (upd t 2 1) 7 (upd r 169 1 173) = upd t 2 1 := by
      rw [pk_un (by omega)]
      funext j
      by_cases q : j = 7
      · subst q; rw [pk_us, pk_un (by omega), e7]
      · rw [pk_un q]
    show Rl (m + 1) (upd r 169 1) (upd (upd t 2 1) 7 (upd r 169 1 173))
    rw [e]
    exact ⟨R.P.both PI_opened _, (R.B.updR (by omega) _).updT (by omega) _, (R.S.updR (by omega) _).updT (by omega) _, (R.o1.mono (Nat.le_succ m)).cell (by rw [tI1]; unfold Rng; omega), R.o2.cell (by omega) _, R.o3.cell (by omega) _, fun h => absurd h (by rw [pk_us]; decide)⟩
  | s + 1, hs => by
    have ih := rl_gF R hm h0 s (by omega)
    have hO := own_le (BC r) s
    have hg := gF_given r (BC r) s (by omega)
    have hc := cntF_le (BC r) s
    have hgv := R.o1.given
    have h9 := gF_open r (BC r) s (by omega)
    have hlate := gF_late r (BC r) (k := s) (by omega) (R.o4 h0 s (by omega)) s (Nat.le_refl _)
    by_cases h : own (BC r) s = 6
    · have e1 : gF r (BC r) (s + 1) = gF r (BC r) s := if_pos h
      have e2 : hF t r (BC r) (s + 1) = upd (upd (hF t r (BC r) s) (15 + 5 * s + 2) (-1)) (15 + 5 * s + 3) (-1) := if_pos h
      rw [e1, e2]
      have p1 := ih.P _ _ (PI_owner (k := s) (by omega))
      have p2 := ih.P _ _ (PI_paid (k := s) (by omega))
      rw [hlate.1] at p1
      rw [hlate.2] at p2
      have ee : upd (upd (upd (upd (hF t r (BC r) s) (15 + 5 * s + 2) (-1)) (15 + 5 * s + 3) (-1)) 2 1) 7 (gF r (BC r) s 173) = upd (upd (hF t r (BC r) s) 2 1) 7 (gF r (BC r) s 173) := by
        funext j
        by_cases q1 : j = 15 + 5 * s + 3
        · subst q1
          rw [p2]; (repeat (first | rw [pk_us] | rw [pk_un (by omega)]))
        · by_cases q2 : j = 15 + 5 * s + 2
          · subst q2
            rw [p1]; (repeat (first | rw [pk_us] | rw [pk_un (by omega)]))
          · by_cases q3 : j = 7
            · subst q3; (repeat (first | rw [pk_us] | rw [pk_un (by omega)]))
            · by_cases q4 : j = 2
              · subst q4; (repeat (first | rw [pk_us] | rw [pk_un (by omega)]))
              · (repeat (first | rw [pk_us] | rw [pk_un (by omega)]))
      rw [ee]; exact ih
    · have e1 : gF r (BC r) (s + 1) = rGive (gF r (BC r) s) s (own (BC r) s) (dueV r (BC r) s) := if_neg h
      have e2 : hF t r (BC r) (s + 1) = tGiveU (hF t r (BC r) s) s (own (BC r) s) (dueV r (BC r) s) := if_neg h
      have h6 : own (BC r) s < 6 := by omega
      obtain ⟨D, hD, hDu⟩ := due_nat R.o1 (s := s) (by omega) h6
      have hpu := gF_purse r (BC r) h6 s (by omega) (fun q hq e => by
        have := own_inj (B := BC r) (s := q) (s' := s) (by omega) (by omega) (by omega) e
        omega)
      rw [e1, e2]
      have e3 : rGive (gF r (BC r) s) s (own (BC r) s) (dueV r (BC r) s) 173 = gF r (BC r) s 173 + 1 := pk_us
      rw [e3, give_eq (by omega) h6, hD]
      refine rl_give ih (by omega) h6 h9 (by rw [hpu]; exact hDu) (by omega) ?_
      have e4 : (nI (cntF (BC r) s)).toInt = cntF (BC r) s := nI_toInt (by omega)
      rw [hg, tI_add (by omega) (by omega), e4]
      omega
