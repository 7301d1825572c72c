/-! pure part: isAhead() -/
section
variable {m : Nat} {r z : Nat → Int32} {b s a : Nat} {post : Int32 → CS → Prop} {σ : CS}
theorem a681 (hG : G m r) (hA : At r z σ) (hp : ∀ σ, At r z σ → post 1 σ) : wps_L_isAhead_681 σ (looksV r) post := by
  unfold wps_L_isAhead_681 wps_L_isAhead_686
  refine ⟨fun q => absurd q one_ne, fun _ => ?_⟩
  refine w_looks (hA.o1 hG) ?_
  rw [hA.1]
  refine ⟨fun q => absurd (lg_refl _) q, fun _ => ?_⟩
  exact ⟨by decide, hp σ hA⟩
/-- the last question: least() -/
theorem a617 (hG : G m r) (hb : b < 6) (hs : s < 6) (ha0 : 1 ≤ a) (ha : a ≤ 99) (hA : At r z σ) (hp : ∀ σ, At r z σ → post 1 σ) : wps_L_isAhead_617 σ (nI b) (nI s) (nI a) (looksV r) (leastF (winsP r b s) 99 1) (wonV (BQ r b s (nI a)) b) post := by
  unfold wps_L_isAhead_617
  rcases leastF_spec (winsP r b s) 99 1 with ⟨e, hk⟩ | ⟨i, i1, i2, e, hi, hj⟩
  · rw [e]
    refine ⟨fun q => absurd q (by decide), fun _ => ⟨fun q => ?_, fun _ => a681 hG hA hp⟩⟩
    have := (winsP_won hb hs).mpr q
    rw [hk a ha0 (by omega)] at this
    exact absurd this (by decide)
  · rw [e]
    refine ⟨fun _ => ?_, fun q => absurd (nI_pos' (by omega)) q⟩
    refine W_ifBid (k := 0) (hA.o1 hG) hb hs (ltI (n := 1) (by decide) (by rw [tI_n (by omega)]; omega)) (nI_le (b := 99) (by omega) (by decide)) (by decide) (fun g1 g2 => ?_)
    rw [hA.1, bidV_0, (winsP_won hb hs).mp hi]
    have hA2 : At r z (cs_most (cs_keys σ g1) g2) := hA
    generalize cs_most (cs_keys σ g1) g2 = σ2 at hA2 ⊢
    refine ⟨fun q => absurd rfl q, fun _ => ⟨fun hle => ?_, fun hgt => ?_⟩⟩
    · have hle := (nI_leI (by omega) (by omega)).mp hle
      refine ⟨fun _ => a681 hG hA2 hp, fun hne => ⟨fun q => ?_, fun _ => a681 hG hA2 hp⟩⟩
      have h1 := (winsP_won hb hs).mpr q
      by_cases z1 : a = i
      · exact absurd (congrArg nI z1) hne
      · rw [hj a ha0 (by omega)] at h1
        exact absurd h1 (by decide)
    · have hgt : i < a := Nat.lt_of_not_le fun q => hgt (nI_le q (by omega))
      refine w_bidderE (k := 0) hb (by decide) (v := r (30 + b)) (by rw [hA2.1]; rfl) ⟨fun _ => a681 hG hA2 hp, fun q => ?_⟩
      have hpu : (a : Int) ≤ (r (30 + b)).toInt := by
        rw [tI_lt, tI_n (by omega)] at q; omega
      have hw := (winsP_won hb hs).mp (winsP_mono hG.o1 hb hs (Nat.le_of_lt hgt) ha hpu hi)
      exact ⟨fun q => absurd hw q, fun _ => a681 hG hA2 hp⟩
theorem a530 (hG : G m r) (hb : b < 6) (hs : s < 6) (ha0 : 1 ≤ a) (ha : a ≤ 99) (hA : At r z σ) (hp : ∀ σ, At r z σ → post 1 σ) : wps_L_isAhead_530 σ (nI b) (nI s) (nI a) (looksV r) 1 post := by
  have x1 : ¬ nI a < 1 := ltI (n := 1) (by decide) (by rw [tI_n (by omega)]; omega)
  have x2 : nI a ≤ 99 := nI_le (b := 99) ha (by decide)
  unfold wps_L_isAhead_530
  refine W_least (hA.o1 hG) hb hs (fun g1 g2 => ?_)
  rw [hA.1]
  have hA2 : At r z (cs_most (cs_keys σ g1) g2) := hA
  generalize cs_most (cs_keys σ g1) g2 = σ2 at hA2 ⊢
  refine W_ifBid (k := 0) (hA2.o1 hG) hb hs x1 x2 (by decide) (fun g1 g2 => ?_)
  rw [hA2.1, bidV_0]
  have hA3 : At r z (cs_most (cs_keys σ2 g1) g2) := hA2
  generalize cs_most (cs_keys σ2 g1) g2 = σ3 at hA3 ⊢
  refine W_ifBid (k := 1) (hA3.o1 hG) hb hs x1 x2 (by decide) (fun g1 g2 => ?_)
  rw [hA3.1]
  have hA4 : At r z (cs_most (cs_keys σ3 g1) g2) := hA3
  generalize cs_most (cs_keys σ3 g1) g2 = σ4 at hA4 ⊢
  refine ⟨fun q => absurd q one_ne, fun _ => ?_⟩
  have fin := a617 hG hb hs ha0 ha hA4 hp
  rcases won_due hG.o1 hb hs ha with h | ⟨k, D, hk, hD, h, hd, hd1, hd2⟩
  · rw [bidV_1n h]
    rw [h] at fin ⊢
    refine ⟨fun q => absurd rfl q, fun _ => ?_⟩
    unfold wps_L_isAhead_574
    refine ⟨fun q => absurd rfl q, fun _ => ?_⟩
    unfold wps_L_isAhead_585
    refine ⟨fun q => absurd rfl q, fun _ => ⟨fun _ => ?_, fun q => absurd m1_lt q⟩⟩
    unfold wps_L_isAhead_605
    exact ⟨fun _ => fin, fun q => absurd q.symm (nI_m1 (by omega))⟩
  · rw [bidV_1 hk h, hd]
    rw [h] at fin ⊢
    refine ⟨fun _ => ?_, fun q => absurd q (nI_m1 (by omega))⟩
    unfold wps_L_isAhead_574
    refine ⟨fun _ => ?_, fun q => absurd q (nI_m1 (by omega))⟩
    unfold wps_L_isAhead_585
    refine ⟨fun q => absurd rfl q, fun _ => ⟨fun q => absurd q (nI_pos (by omega)), fun _ => ?_⟩⟩
    refine w_spotE (k := 0) hk (by decide) (v := r k) (by rw [hA4.1]; rfl) ⟨fun q => ?_, fun _ => ?_⟩
    · exfalso
      rw [tI_lt, tI_n (by omega)] at q
      omega
    · unfold wps_L_isAhead_605
      refine ⟨fun _ => fin, fun q => ⟨fun q2 => ?_, fun _ => fin⟩⟩
      exfalso
      have e := (nI_eq (by omega) (by omega)).mp q
      have := hd2 e
      exact absurd q2 (nI_nlt (by omega) (by omega))
theorem a435 (hG : G m r) (hm : m ≤ 50) (hb : b < 6) (hs : s < 6) (ha0 : 1 ≤ a) (ha : a ≤ 99) (hA : At r z σ) (hp : ∀ σ, At r z σ → post 1 σ) : wps_L_isAhead_435 σ (nI b) (nI s) (nI a) (looksV r) 1 post := by
  unfold wps_L_isAhead_435
  refine ⟨fun q => absurd q one_ne, fun _ => ?_⟩
  by_cases q : r (12 + s) = -1
  · exact w_spotE (k := 2) hs (by decide) (v := -1) (by rw [hA.1]; exact q) ⟨fun _ => a530 hG hb hs ha0 ha hA hp, fun h => absurd m1_lt h⟩
  · obtain ⟨w, hw, ho⟩ := owner_nat hG.o1 hs q
    obtain ⟨T, hT, eT, eH⟩ := haul_V hG.o1 hs
    obtain ⟨n, hn, hsv⟩ := hA.2.1
    have h9 : ¬ r 169 = 0 := fun q => by
      have := (hG.o4 q s hs).1
      rw [ho] at this
      exact nI_m1 (by omega) this
    have hg := g_fish hG hs hw
    have hO := hA.o1 hG
    have er := hA.1
    refine w_spotE (k := 2) hs (by decide) (v := nI w) (by rw [er]; exact ho) ⟨fun h => absurd h (nI_pos (by omega)), fun _ => ?_⟩
    refine w_spotE (k := 1) hs (by decide) (v := nI T) (by rw [er]; exact eT) ?_
    refine w_countE hO (k := 10) (by decide) (v := sumF r 6 6) (by rw [er]; rfl) ?_
    refine W_fish hn hsv hs hw (by rw [er]; exact h9) (by rw [er]; exact ho) (fun σ1 A => ?_)
    rw [er] at A ⊢
    rw [eH]
    have es := fish_sum hs hw (r := r)
    rw [eH] at es
    have tail : wps_L_isAhead_499 σ1 (nI b) (nI s) (nI a) (looksV r) (sumF r 6 6) (nI (if T / 4 + 1 < T then T / 4 + 1 else T)) 0 0 post ∧ wps_L_isAhead_499 σ1 (nI b) (nI s) (nI a) (looksV r) (sumF r 6 6) (nI (if T / 4 + 1 < T then T / 4 + 1 else T)) 1 1 post := by
      have t0 : wp_X4_count σ1 10 (fun r_14001 => ((¬ r_14001 = (sumF r 6 6 - nI (if T / 4 + 1 < T then T / 4 + 1 else T)) → wps_L_isAhead_527 σ1 (nI b) (nI s) (nI a) (looksV r) post) ∧ (r_14001 = (sumF r 6 6 - nI (if T / 4 + 1 < T then T / 4 + 1 else T)) → wp_X4_undo σ1 (fun r_14002 σ_14003 => ((r_14002 < 0 → wps_L_isAhead_527 σ_14003 (nI b) (nI s) (nI a) (looksV r) post) ∧ (¬ r_14002 < 0 → wps_L_isAhead_528 σ_14003 (nI b) (nI s) (nI a) (looksV r) 1 post))) (fun _ => False)))) (fun _ => False) := by
        refine w_countE (m := m + 1) (by rw [A.1]; exact hg.o1) (k := 10) (by decide) (v := sumF (rFish r s w) 6 6) (by rw [A.1]; rfl) ⟨fun h => absurd es h, fun _ => ?_⟩
        refine back hG.z hg.z hA hn A (fun σ2 hA2 _ => ?_)
        exact ⟨fun h => absurd h (nI_pos (Nat.lt_of_le_of_lt (if6 hn) (by decide))), fun _ => a530 hG hb hs ha0 ha hA2 hp⟩
      exact ⟨⟨fun h => absurd rfl h, fun _ => t0⟩, ⟨fun h => absurd rfl h, fun _ => t0⟩⟩
    have hle : (if T / 4 + 1 < T then T / 4 + 1 else T) ≤ T := by
      by_cases z1 : T / 4 + 1 < T
      · rw [if_pos z1]; omega
      · rw [if_neg z1]; exact Nat.le_refl _
    have hpos : T = 0 ↔ (if T / 4 + 1 < T then T / 4 + 1 else T) = 0 := by
      by_cases z1 : T / 4 + 1 < T
      · rw [if_pos z1]; omega
      · rw [if_neg z1]
    generalize (if T / 4 + 1 < T then T / 4 + 1 else T) = H at *
    refine ⟨fun h => absurd h (nI_nlt hle (by omega)), fun _ => ?_⟩
    by_cases z1 : T = 0
    · have zH := hpos.mp z1
      subst z1; subst zH
      refine ⟨fun _ => ?_, fun h => absurd (by decide) h⟩
      unfold wps_L_isAhead_489
      exact ⟨fun _ => tail.1, fun h => absurd (by decide) h⟩
    · have zH : ¬ H = 0 := fun q => z1 (hpos.mpr q)
      refine ⟨fun h => absurd h (nI_nle (by omega) (by omega)), fun _ => ?_⟩
      unfold wps_L_isAhead_489
      exact ⟨fun h => absurd h (nI_nle (by omega) (by omega)), fun _ => tail.2⟩
theorem a301 (hG : G m r) (hm : m ≤ 50) (hb : b < 6) (hs : s < 6) (ha0 : 1 ≤ a) (ha : a ≤ 99) (hA : At r z σ) (hp : ∀ σ, At r z σ → post 1 σ) : wps_L_isAhead_301 σ (nI b) (nI s) (nI a) (looksV r) 1 post := by
  unfold wps_L_isAhead_301
  refine ⟨fun q => absurd q one_ne, fun _ => ?_⟩
  refine w_countE (hA.o1 hG) (k := 2) (by decide) (v := r 169) (by rw [hA.1]; rfl) ⟨fun _ => a435 hG hm hb hs ha0 ha hA hp, fun h0 => ?_⟩
  refine W_ifOpened (k := 0) (hA.o1 hG) hs (by decide) (fun g1 g2 => ?_)
  rw [if_pos (show nI 0 = 0 from rfl), hA.1]
  have hA2 : At r z (cs_most (cs_keys σ g1) g2) := hA
  generalize cs_most (cs_keys σ g1) g2 = σ2 at hA2 ⊢
  refine W_ifOpened (k := 1) (hA2.o1 hG) hs (by decide) (fun g1 g2 => ?_)
  rw [if_neg (show ¬ nI 1 = 0 by decide), hA2.1]
  have hA3 : At r z (cs_most (cs_keys σ2 g1) g2) := hA2
  generalize cs_most (cs_keys σ2 g1) g2 = σ3 at hA3 ⊢
  obtain ⟨n, hn, hsv⟩ := hA3.2.1
  have er := hA3.1
  have hg := g_open hG (by omega) h0
  have hno := hG.o4 h0
  have ho := gF_owner r (BC r) hno 6 (Nat.le_refl _)
  refine W_open hn hsv (hA3.o1 hG) (by rw [er]; exact h0) (fun σ1 A => ?_)
  rw [er] at A ⊢
  have eA := A.1
  refine ⟨fun n v w => ∃ i : Nat, i ≤ 6 ∧ n = 6 - i ∧ w = nI i ∧ v = nI (cntF (BC r) i), ⟨6, 0, Nat.zero_le _, rfl, rfl, rfl⟩, ?_⟩
  rintro n1 v w ⟨i, hi, rfl, rfl, rfl⟩
  refine ⟨fun h9 => ?_, fun h9 => ?_⟩
  · have e : i = 6 := Nat.le_antisymm hi ((nI_leI (a := 6) (by omega) (by omega)).mp h9)
    subst e
    refine ⟨fun q => absurd rfl q, fun _ => ?_⟩
    refine w_spotE (k := 2) hs (by decide) (v := ownV (BC r) s) (by rw [eA]; exact (ho s hs).1) ⟨fun q => absurd rfl q, fun _ => ?_⟩
    refine w_spotE (k := 3) hs (by decide) (v := dueV r (BC r) s) (by rw [eA]; exact (ho s hs).2) ⟨fun q => absurd rfl q, fun _ => ?_⟩
    have fin : wps_L_isAhead_421 σ1 (nI b) (nI s) (nI a) (looksV r) post := by
      unfold wps_L_isAhead_421
      refine back hG.z hg.z hA3 hn A (fun σ2 hA2 _ => ?_)
      exact ⟨fun h => absurd h (nI_pos (Nat.lt_of_le_of_lt (if6 hn) (by decide))), fun _ => a435 hG hm hb hs ha0 ha hA2 hp⟩
    refine ⟨fun _ => fin, fun hne => ?_⟩
    refine w_spotE (k := 0) hs (by decide) (v := r s) (by rw [eA]; exact gF_price r (BC r) (by omega) 6 (Nat.le_refl _)) ⟨fun q => ?_, fun _ => fin⟩
    exfalso
    have hO := own_le (BC r) s
    by_cases z1 : own (BC r) s = 6
    · exact hne (if_pos z1)
    · have h6 : own (BC r) s < 6 := by omega
      obtain ⟨D, hD99, hD, hD1, _⟩ := due_gen (r := r) (B := BC r) (k := s) (y := r (54 + (own (BC r) s * 6 + s))) (u := r (30 + own (BC r) s)) hs (BC_81 r) (hG.o1.price hs).1 h6 (BC_in h6 hs) (hG.o1.amount h6 hs).2
      rw [hD, tI_lt, tI_n (by omega)] at q
      omega
  · have e : i < 6 := Nat.lt_of_not_le fun q => h9 (nI_le (a := 6) q (by omega))
    refine w_spotE (k := 2) e (by decide) (v := ownV (BC r) i) (by rw [eA]; exact (ho i e).1) ?_
    have hO := own_le (BC r) i
    by_cases z1 : own (BC r) i = 6
    · have e1 : ownV (BC r) i = -1 := if_pos z1
      have e2 : cntF (BC r) (i + 1) = cntF (BC r) i := if_pos z1
      rw [e1]
      refine ⟨fun _ => ?_, fun q => absurd m1_lt q⟩
      intro v hv w hw
      exact ⟨6 - (i + 1), by omega, i + 1, by omega, rfl, by rw [hw, nI_1], by rw [hv, e2, Int32.add_zero]⟩
    · have e1 : ownV (BC r) i = nI (own (BC r) i) := if_neg z1
      have e2 : cntF (BC r) (i + 1) = cntF (BC r) i + 1 := if_neg z1
      rw [e1]
      refine ⟨fun q => absurd q (nI_pos (by omega)), fun _ => ?_⟩
      intro v hv w hw
      exact ⟨6 - (i + 1), by omega, i + 1, by omega, rfl, by rw [hw, nI_1], by rw [hv, e2, nI_1]⟩
theorem a197 (hG : G m r) (hm : m ≤ 50) (hb : b < 6) (hs : s < 6) (ha0 : 1 ≤ a) (ha : a ≤ 99) (hA : At r z σ) (hp : ∀ σ, At r z σ → post 1 σ) : wps_L_isAhead_197 σ (nI b) (nI s) (nI a) (looksV r) 1 post := by
  unfold wps_L_isAhead_197
  refine ⟨fun q => absurd q one_ne, fun _ => ?_⟩
  have er := hA.1
  refine w_sealedE (k := 4) hb hs (by decide) (v := rWhyW r b s) (by rw [er]; rfl) ⟨fun _ => a301 hG hm hb hs ha0 ha hA hp, fun h0 => ?_⟩
  obtain ⟨w1, w2⟩ := kept_open h0
  obtain ⟨n, hn, hsv⟩ := hA.2.1
  have hg := g_take hG (by omega) hb hs h0
  have v3 : sealedV r b s 3 = rFee r b s := if_neg w2
  refine w_sealedE (k := 3) hb hs (by decide) (v := rFee r b s) (by rw [er]; exact v3) ?_
  refine w_bidderE (k := 0) hb (by decide) (v := r (30 + b)) (by rw [er]; rfl) ?_
  refine w_countE (hA.o1 hG) (k := 7) (by decide) (v := sumF r 48 6) (by rw [er]; rfl) ?_
  refine W_withdraw hn hsv hb hs (by rw [er]; exact h0) (fun σ1 A => ?_)
  rw [er] at A ⊢
  have eA := A.1
  have e30 : rTake r b s (30 + b) = r (30 + b) - rFee r b s := by
    rw [Int32.sub_eq_add_neg]; unfold rTake; (repeat (first | rw [pk_us] | rw [pk_un (by omega)]))
  have e48 : sumF (rTake r b s) 48 6 = sumF r 48 6 + rFee r b s := by
    rw [← sumF_add (rFee r b s) 6 b hb]
    refine sumF_congr 6 (fun i hi => ?_)
    unfold rTake
    by_cases q : i = b
    · subst q; rw [pk_un (by omega), pk_us, pk_us]; (repeat (first | rw [pk_us] | rw [pk_un (by omega)]))
    · (repeat (first | rw [pk_us] | rw [pk_un (by omega)]))
  have e54 : rTake r b s (54 + (b * 6 + s)) = 0 := by unfold rTake; (repeat (first | rw [pk_us] | rw [pk_un (by omega)]))
  refine ⟨fun q => absurd rfl q, fun _ => ?_⟩
  refine w_bidderE (k := 0) hb (by decide) (v := r (30 + b) - rFee r b s) (by rw [eA]; exact e30) ⟨fun q => absurd rfl q, fun _ => ?_⟩
  refine w_countE (m := m + 1) (by rw [eA]; exact hg.o1) (k := 7) (by decide) (v := sumF r 48 6 + rFee r b s) (by rw [eA]; exact e48) ⟨fun q => absurd rfl q, fun _ => ?_⟩
  refine w_sealedE (k := 0) hb hs (by decide) (v := -1) (by rw [eA]; exact if_pos e54) ⟨fun q => absurd rfl q, fun _ => ?_⟩
  refine back hG.z hg.z hA hn A (fun σ2 hA2 _ => ?_)
  exact ⟨fun h => absurd h (nI_pos (Nat.lt_of_le_of_lt (if6 hn) (by decide))), fun _ => a301 hG hm hb hs ha0 ha hA2 hp⟩
theorem a86 (hG : G m r) (hm : m ≤ 50) (hb : b < 6) (hs : s < 6) (ha0 : 1 ≤ a) (ha : a ≤ 99) (hA : At r z σ) (hp : ∀ σ, At r z σ → post 1 σ) : wps_L_isAhead_86 σ (nI b) (nI s) (nI a) (looksV r) (rWhyN r b s (nI a)) 1 post := by
  unfold wps_L_isAhead_86
  have er := hA.1
  refine w_countE (hA.o1 hG) (k := 12) (by decide) (v := r 171) (by rw [er]; rfl) ⟨fun q => absurd q one_ne, fun _ => ⟨fun _ => a197 hG hm hb hs ha0 ha hA hp, fun h0 => ?_⟩⟩
  have ea := tI_n (n := a) (by omega)
  have x1 : ¬ nI a < 1 := ltI (n := 1) (by decide) (by omega)
  have x2 : nI a ≤ 99 := nI_le (b := 99) ha (by decide)
  obtain ⟨n, hn, hsv⟩ := hA.2.1
  have hg := g_seal hG (by omega) hb hs (x := nI a) (by omega) (by omega) h0
  obtain ⟨q, hq, hv⟩ := sealV_nat (x := nI a) hG.o1 (by omega) hb hs (by omega) (by omega)
  refine W_bid hn hsv hb hs x1 x2 (by rw [er]; exact h0) (fun σ1 A => ?_)
  rw [er] at A ⊢
  have eA := A.1
  have hx1 : ¬ nI a = 0 := nI_ne0 (by omega) (by omega)
  have e54 : rSeal r b s (nI a) (54 + (b * 6 + s)) = nI a := by unfold rSeal; (repeat (first | rw [pk_us] | rw [pk_un (by omega)]))
  have e90 : rSeal r b s (nI a) (90 + (b * 6 + s)) = sealV r b s (nI a) := by unfold rSeal; (repeat (first | rw [pk_us] | rw [pk_un (by omega)]))
  have e126 : rSeal r b s (nI a) (126 + (b * 6 + s)) = r 168 := by unfold rSeal; (repeat (first | rw [pk_us] | rw [pk_un (by omega)]))
  have e171 : rSeal r b s (nI a) 171 = r 171 + 1 := by unfold rSeal; (repeat (first | rw [pk_us] | rw [pk_un (by omega)]))
  have e168 : rSeal r b s (nI a) 168 = r 168 := by unfold rSeal; (repeat (first | rw [pk_us] | rw [pk_un (by omega)]))
  have e162 : rSeal r b s (nI a) 162 = r 162 := by unfold rSeal; (repeat (first | rw [pk_us] | rw [pk_un (by omega)]))
  have hne : ¬ rSeal r b s (nI a) (54 + (b * 6 + s)) = 0 := by rw [e54]; exact hx1
  have v0 : sealedV (rSeal r b s (nI a)) b s 0 = sealV r b s (nI a) := (if_neg hne).trans e90
  have v1 : sealedV (rSeal r b s (nI a)) b s 1 = r 168 := (if_neg hne).trans e126
  have v3 : sealedV (rSeal r b s (nI a)) b s 3 = r 162 := by
    refine (if_neg hne).trans ?_
    unfold rFee
    rw [e126, e168, e162, Int32.sub_self, Int32.mul_zero, Int32.add_zero]
  have hO : O1 (m + 1) (c_row σ1) := by rw [eA]; exact hg.o1
  have c1 : ¬ sealV r b s (nI a) < 0 := by rw [hv]; exact nI_pos (by omega)
  have c2 : ¬ 4096 ≤ sealV r b s (nI a) := by rw [hv]; exact nI_ge (b := 4096) hq (by decide)
  refine ⟨fun q => absurd q c1, fun _ => ⟨fun q => absurd q c2, fun _ => ?_⟩⟩
  refine w_sealedE (k := 0) hb hs (by decide) (v := sealV r b s (nI a)) (by rw [eA]; exact v0) ⟨fun q => absurd rfl q, fun _ => ?_⟩
  refine w_sealedE (k := 1) hb hs (by decide) (v := r 168) (by rw [eA]; exact v1) ?_
  refine w_countE hO (k := 1) (by decide) (v := r 168) (by rw [eA]; exact e168) ⟨fun q => absurd rfl q, fun _ => ?_⟩
  refine w_sealedE (k := 3) hb hs (by decide) (v := r 162) (by rw [eA]; exact v3) ?_
  refine w_setting (σ := σ1) 0 (by decide) ?_
  rw [eA]
  refine ⟨fun q => absurd e162.symm q, fun _ => ?_⟩
  refine w_countE hO (k := 12) (by decide) (v := r 171 + 1) (by rw [eA]; exact e171) ⟨fun q => absurd rfl q, fun _ => ?_⟩
  refine back hG.z hg.z hA hn A (fun σ2 hA2 _ => ?_)
  exact ⟨fun h => absurd h (nI_pos (Nat.lt_of_le_of_lt (if6 hn) (by decide))), fun _ => a197 hG hm hb hs ha0 ha hA2 hp⟩
theorem p_isAhead (hG : G m r) (hm : m ≤ 50) (hb : b < 6) (hs : s < 6) (ha0 : 1 ≤ a) (ha : a ≤ 99) (hA : At r z σ) (hp : ∀ σ, At r z σ → post 1 σ) : wp_L_isAhead σ (nI b) (nI s) (nI a) post := by
  have ea := tI_n (n := a) (by omega)
  have x1 : ¬ nI a < 1 := ltI (n := 1) (by decide) (by omega)
  have x2 : nI a ≤ 99 := nI_le (b := 99) ha (by decide)
  have hB := BC_le hG.o1
  have hk := keenF_le (BC r) 5
  have s1 := WV_sm hB 6
  have s2 := WV_sm hB b
  have s3 := WV_sm hB (keenF (BC r) 5)
  have d1 := WV_6 (BC r) b
  have d2 := keen_min (BC r) 5 b (by omega)
  unfold wp_L_isAhead
  refine w_looks (hA.o1 hG) ?_
  refine W_why hb hs x1 x2 ?_
  rw [hA.1]
  have step : ∀ {w k : Nat} (hw : w ≤ 6) (hk : k ≤ 1) {σ : CS} (hA : At r z σ) {post : Int32 → CS → Prop}, (∀ σ, At r z σ → post (nI (WV (BC r) w / 8)) σ) → wp_X4_worth σ (nI w) (nI k) post (fun _ => False) := fun hw hk σ hA post h => W_worth (hA.o1 hG) hw hk (fun g1 g2 => by rw [hA.1]; exact h _ hA)
  refine step (w := 6) (k := 0) (by omega) (by omega) hA (fun σ hA => ?_)
  refine step (w := 6) (k := 1) (by omega) (by omega) hA (fun σ hA => ?_)
  refine ⟨fun q => absurd rfl q, fun _ => ?_⟩
  refine step (w := b) (k := 0) (by omega) (by omega) hA (fun σ hA => ?_)
  refine step (w := b) (k := 1) (by omega) (by omega) hA (fun σ hA => ?_)
  refine ⟨fun q => absurd rfl q, fun _ => ?_⟩
  refine step (w := b) (k := 0) (by omega) (by omega) hA (fun σ hA => ?_)
  refine step (w := 6) (k := 0) (by omega) (by omega) hA (fun σ hA => ?_)
  refine ⟨fun q => absurd q (nI_nlt d1 (by omega)), fun _ => ?_⟩
  refine w_keenest (hA.o1 hG) (fun g1 g2 => ?_)
  rw [hA.1]
  have hA2 : At r z (cs_most (cs_keys σ g1) g2) := hA
  generalize cs_most (cs_keys σ g1) g2 = σ2 at hA2 ⊢
  refine step (w := keenF (BC r) 5) (k := 0) (by omega) (by omega) hA2 (fun σ hA => ?_)
  refine step (w := b) (k := 0) (by omega) (by omega) hA (fun σ hA => ?_)
  refine ⟨fun q => absurd q (nI_nlt d2 (by omega)), fun _ => ?_⟩
  exact a86 hG hm hb hs ha0 ha hA hp
end
