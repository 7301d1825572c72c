/-! pure part: what an opening leaves -/
theorem gF_out (r : Nat → Int32) (B : Nat → Nat → Nat) {j : Nat} (hj : j < 12 ∨ (24 ≤ j ∧ j < 30) ∨ (36 ≤ j ∧ j < 42) ∨ (48 ≤ j ∧ j ≠ 165 ∧ j ≠ 169 ∧ j ≠ 173)) : ∀ s, s ≤ 6 → gF r B s j = r j
  | 0, _ => pk_un (by omega)
  | s + 1, hs => by
    have ih := gF_out r B hj s (by omega)
    have hO := own_le B s
    unfold gF
    by_cases h : own B s = 6
    · rw [if_pos h]; exact ih
    · rw [if_neg h]
      unfold rGive
      (repeat (first | rw [pk_us] | rw [pk_un (by omega)]))
      exact ih
theorem gF_owner (r : Nat → Int32) (B : Nat → Nat → Nat) (h0 : ∀ k, k < 6 → r (12 + k) = -1 ∧ r (18 + k) = -1) : ∀ s, s ≤ 6 → ∀ k, k < s → gF r B s (12 + k) = ownV B k ∧ gF r B s (18 + k) = dueV r B k
  | 0, _, k, hk => absurd hk (Nat.not_lt_zero _)
  | s + 1, hs, k, hk => by
    have ih := gF_owner r B h0 s (by omega)
    have hO := own_le B s
    have hl := gF_late r B (k := s) (by omega) (h0 s (by omega)) s (Nat.le_refl _)
    by_cases h : own B s = 6
    · have e1 : gF r B (s + 1) = gF r B s := if_pos h
      rw [e1]
      by_cases q : k = s
      · subst q
        unfold ownV dueV
        rw [if_pos h, if_pos h]; exact hl
      · exact ih k (by omega)
    · have e1 : gF r B (s + 1) = rGive (gF r B s) s (own B s) (dueV r B s) := if_neg h
      rw [e1]
      by_cases q : k = s
      · subst q
        have e2 : ownV B k = nI (own B k) := if_neg h
        rw [e2]
        unfold rGive
        (repeat (first | rw [pk_us] | rw [pk_un (by omega)]))
        exact ⟨rfl, rfl⟩
      · unfold rGive
        (repeat (first | rw [pk_us] | rw [pk_un (by omega)]))
        exact ih k (by omega)
theorem brg_ne {x p u : Int32} (h : ¬ brg x p u = 0) : ¬ x = 0 ∧ p.toInt ≤ x.toInt ∧ x.toInt ≤ u.toInt ∧ brg x p u = 8 * (x.toInt - p.toInt).toNat + 1 := by
  unfold brg at h ⊢
  by_cases q1 : x = 0
  · rw [if_pos q1] at h; exact absurd rfl h
  · rw [if_neg q1] at h ⊢
    by_cases q2 : x < p
    · rw [if_pos q2] at h; exact absurd rfl h
    · rw [if_neg q2] at h ⊢
      by_cases q3 : x ≤ u
      · rw [if_pos q3]
        rw [tI_le] at q3
        rw [tI_lt] at q2
        exact ⟨q1, by omega, q3, rfl⟩
      · rw [if_neg q3] at h; exact absurd rfl h
/-- what is due: no less than the least price, no more than the bid -/
theorem due_gen {r : Nat → Int32} {B : Nat → Nat → Nat} {k : Nat} {y u : Int32} (hk : k < 6) (h81 : B81 B) (hp0 : 0 ≤ (r k).toInt) (h : own B k < 6) (hy : B (own B k) k = brg y (r k) u) (hy99 : y.toInt ≤ 99) : ∃ D : Nat, D ≤ 99 ∧ dueV r B k = nI D ∧ (r k).toInt ≤ (D : Int) ∧ (D : Int) ≤ y.toInt := by
  have hb0 := (own_lt hk h).2
  have hlow := due_low h81 k hk h
  have hup := due_up B (2 ^ own B k)
  have hO : own B k ≠ 6 := by omega
  obtain ⟨c1, c2, c3, c4⟩ := brg_ne (fun q => hb0 (hy.trans q))
  unfold dueV
  rw [if_neg hO]
  rw [c4] at hy
  generalize XX B 6 (2 ^ own B k) / 8 = W at *
  generalize XX B 6 0 / 8 = X at *
  generalize B (own B k) k = c at *
  have ep := tI_of hp0
  generalize hp : (r k).toInt.toNat = p at ep
  refine ⟨p + W + c / 8 - X, by omega, ?_, by omega, by omega⟩
  rw [ep, nI_add, i_ring2 (p + W) X (c / 8) (by omega)]
theorem gF_S6 {m : Nat} {r : Nat → Int32} (h : G m r) (hm : m ≤ 100) (h0 : r 169 = 0) : ∀ s, s ≤ 6 → S6 (gF r (BC r) s) 42 ≤ S6 r 42 + 99 * (cntF (BC r) s : Int)
  | 0, _ => by
    show S6 (upd r 169 1) 42 ≤ S6 r 42 + 99 * ((0 : Nat) : Int)
    rw [S6_out (by omega)]; omega
  | s + 1, hs => by
    have ih := gF_S6 h hm h0 s (by omega)
    have hO := own_le (BC r) s
    by_cases q : own (BC r) s = 6
    · have e1 : gF r (BC r) (s + 1) = gF r (BC r) s := if_pos q
      have e2 : cntF (BC r) (s + 1) = cntF (BC r) s := if_pos q
      rw [e1, e2]; exact ih
    · have e1 : gF r (BC r) (s + 1) = rGive (gF r (BC r) s) s (own (BC r) s) (dueV r (BC r) s) := if_neg q
      have e2 : cntF (BC r) (s + 1) = cntF (BC r) s + 1 := if_neg q
      have h6 : own (BC r) s < 6 := by omega
      obtain ⟨t, R⟩ := h.rl
      have Rs := rl_gF R (by omega) h0 s (by omega)
      obtain ⟨D, hD99, hD, _, _⟩ := due_gen (r := r) (B := BC r) (k := s) (y := r (54 + (own (BC r) s * 6 + s))) (u := r (30 + own (BC r) s)) (by omega) (BC_81 r) (h.o1.price (by omega)).1 h6 (BC_in h6 (by omega)) (h.o1.amount h6 (by omega)).2
      rw [e1, e2, hD]
      have hp := Rs.o1.prices h6
      have hle := prices_le Rs.o1 Rs.o3 h6
      have hsm := O3.small Rs.o1 Rs.o3
      have h3 := Rs.o3
      generalize gF r (BC r) s = g at *
      generalize own (BC r) s = b at *
      have e3 : S6 (rGive g s b (nI D)) 42 = S6 (upd g (42 + b) (g (42 + b) + nI D)) 42 := S6_congr (fun i hi => by
        unfold rGive
        by_cases q2 : i = b
        · subst q2; rw [pk_un (by omega), pk_us, pk_us]; (repeat (first | rw [pk_us] | rw [pk_un (by omega)]))
        · (repeat (first | rw [pk_us] | rw [pk_un (by omega)])))
      have e4 : (g (42 + b) + nI D).toInt = (g (42 + b)).toInt + D := by
        obtain ⟨_, _, _, h34⟩ := h3
        rw [tI_add (by rw [tI_n (by omega)]; omega) (by rw [tI_n (by omega)]; omega), tI_n (by omega)]
      rw [e3, S6_in h6, e4]
      omega
theorem g_open {m : Nat} {r : Nat → Int32} (h : G m r) (hm : m ≤ 100) (h0 : r 169 = 0) : G (m + 1) (gF r (BC r) 6) := by
  obtain ⟨t, R⟩ := h.rl
  have hno := h.o4 h0
  have e : ∀ j, (j < 12 ∨ (24 ≤ j ∧ j < 30) ∨ (36 ≤ j ∧ j < 42) ∨ (48 ≤ j ∧ j ≠ 165 ∧ j ≠ 169 ∧ j ≠ 173)) → gF r (BC r) 6 j = r j := fun j hj => gF_out r (BC r) hj 6 (Nat.le_refl _)
  have ho := gF_owner r (BC r) hno 6 (Nat.le_refl _)
  refine ⟨⟨_, rl_gF R (by omega) h0 6 (Nat.le_refl _)⟩, h.x1.congr (Nat.le_succ m) (fun k hk => e _ (by omega)) (e _ (by omega)) (e _ (by omega)), h.x2.congr (fun j h1 h2 => e j (by omega)), ⟨fun k hk => ?_, fun k k' hk hk' he hne => ?_⟩, ?_, ?_, h.x6.congr (Nat.le_succ m) (e _ (by omega)), h.z.congr (fun j h1 => e j (by omega))⟩
  · have hO := own_le (BC r) k
    unfold own1
    rw [(ho k hk).1, (ho k hk).2]
    by_cases q : own (BC r) k = 6
    · unfold ownV dueV
      rw [if_pos q, if_pos q]; exact Or.inl ⟨rfl, rfl⟩
    · have h6 : own (BC r) k < 6 := by omega
      obtain ⟨D, hD99, hD, hD1, hD2⟩ := due_gen (r := r) (B := BC r) (k := k) (y := r (54 + (own (BC r) k * 6 + k))) (u := r (30 + own (BC r) k)) hk (BC_81 r) (h.o1.price hk).1 h6 (BC_in h6 hk) (h.o1.amount h6 hk).2
      have hb0 := (own_lt hk h6).2
      rw [BC_in h6 hk] at hb0
      refine Or.inr ⟨own (BC r) k, h6, if_neg q, ?_⟩
      rw [hD, tI_n (by omega), e (54 + (own (BC r) k * 6 + k)) (by omega)]
      exact ⟨by omega, hD2, (brg_ne hb0).1⟩
  · rw [(ho k hk).1] at he hne
    rw [(ho k' hk').1] at he
    have a1 := own_le (BC r) k
    have a2 := own_le (BC r) k'
    unfold ownV at he hne
    by_cases q : own (BC r) k = 6
    · rw [if_pos q] at hne; exact absurd rfl hne
    · rw [if_neg q] at he
      by_cases q2 : own (BC r) k' = 6
      · rw [if_pos q2] at he; exact absurd he (nI_m1 (by omega))
      · rw [if_neg q2, nI_eq (by omega) (by omega)] at he
        by_cases q3 : k = k'
        · exact q3
        · have := own_inj hk hk' q3 he
          omega
  · unfold X4
    rw [sumF_congr (r := r) 6 (fun i hi => e (24 + i) (by omega)), sumF_congr (r := r) (k := 36) 6 (fun i hi => e (36 + i) (by omega))]
    exact h.x4
  · have h5 := h.x5
    have hs := gF_S6 h hm h0 6 (Nat.le_refl _)
    have hg := gF_given r (BC r) 6 (Nat.le_refl _)
    have hc := cntF_le (BC r) 6
    have hgv := h.o1.given
    have e4 : (nI (cntF (BC r) 6)).toInt = cntF (BC r) 6 := nI_toInt (by omega)
    unfold X5 at h5 ⊢
    rw [hg, tI_add (by omega) (by omega), e4]
    omega
