/-! pure part: a deed of the law -/
def Deed (m : Nat) (r z : Nat → Int32) (wp : CS → (Int32 → CS → Prop) → Prop) : Prop := ∃ (ans : Int32) (r' : Nat → Int32), G (m + 1) r' ∧ ¬ ans < 0 ∧ ∀ (σ : CS) (n : Nat), n ≤ 6 → c_saved σ = nI n → c_row σ = r → c_snap σ = z → c_taken σ = 1 → ∀ post : Int32 → CS → Prop, (∀ σ1, After σ σ1 r' n → post ans σ1) → wp σ post
abbrev NoX : String → Prop := fun _ => False
theorem nI_nn {n : Nat} (h : n < 2147483648) : 0 ≤ (nI n).toInt := by rw [tI_n (by omega)]; omega
theorem nI_le99 {n M : Nat} (h : n ≤ M) (hM : M < 2147483648) : (nI n).toInt ≤ M := by rw [tI_n (by omega)]; omega
section
variable {m : Nat} {r z : Nat → Int32}
theorem D_price (hG : G m r) {s j : Nat} (hs : s < 6) (hj : j < 100) : Deed m r z (fun σ post => wp_X4_price σ (nI s) (nI j) post NoX) :=
  ⟨_, _, g_price hG hs (v := nI j) (nI_nn (by omega)) (nI_le99 (n := j) (M := 99) (by omega) (by decide)), nonneg (hG.o1.price hs).1, fun σ n hn h1 h2 h3 h4 post hp => by
    subst h2
    exact W_price hn h1 hs (nI_pos (by omega)) (nI_le (b := 99) (by omega) (by decide)) hp⟩
theorem D_pay (hG : G m r) (hm : m ≤ 50) {b j : Nat} (hb : b < 6) (hj0 : 1 ≤ j) (hj : j ≤ 60) : Deed m r z (fun σ post => wp_X4_pay σ (nI b) (nI j) post NoX) := by
  have e := tI_n (n := j) (by omega)
  obtain ⟨e1, e2⟩ := pay_ok hG (by omega) (x := nI j) (by omega) (by omega)
  have hpu := hG.o1.purse hb
  have hle := purse_le hG.o1 hG.o3 hb
  have hsm := O3.small hG.o1 hG.o3
  refine ⟨_, _, g_pay hG (by omega) hb (x := nI j) (by omega) (by omega), nonneg (a := r (30 + b) + nI j) (by rw [tI_add (by omega) (by omega)]; omega), fun σ n hn h1 h2 h3 h4 post hp => ?_⟩
  subst h2
  exact W_pay hn h1 hb (ltI (n := 1) (by decide) (by omega)) (nI_le (b := 99) (by omega) (by decide)) (by rw [tI_le, e1, show (9999 : Int32).toInt = 9999 from by decide]; omega) hp
theorem D_set (hG : G m r) {k j : Nat} (hk : k < 3) (h0 : k = 0 → j ≤ 20) (h1 : k = 1 → j ≤ 9) (h2 : k = 2 → j ≤ 50) (hj : j < 100) : Deed m r z (fun σ post => wp_X4_set σ (nI k) (nI j) post NoX) := by
  have e := tI_n (n := j) (by omega)
  have q0 := hG.o1.set0
  have q1 := hG.o1.set1
  have q2 := hG.o1.set2
  refine ⟨r (162 + k), _, g_set hG hk (v := nI j) (by unfold Rng; omega), ?_, fun σ n hn h1' h2' h3 h4 post hp => ?_⟩
  · refine nonneg ?_
    rcases (show k = 0 ∨ k = 1 ∨ k = 2 by omega) with rfl | rfl | rfl
    · exact q0.1
    · exact q1.1
    · exact q2.1
  · subst h2'
    exact W_set hn h1' hk (nI_pos (by omega)) (fun q => nI_le (b := 20) (h0 q) (by decide)) (fun q => nI_le (b := 9) (h1 q) (by decide)) (fun q => nI_le (b := 50) (h2 q) (by decide)) hp
theorem D_pause (hG : G m r) {j : Nat} (hj0 : 1 ≤ j) (hj : j ≤ 23) : Deed m r z (fun σ post => wp_X4_pause σ (nI j) post NoX) := by
  have e := tI_n (n := j) (by omega)
  have hg := g_hour hG (x := nI j) (by omega) (by omega)
  have hh := hg.o1.hour
  rw [pk_us] at hh
  refine ⟨_, _, hg, nonneg hh.1, fun σ n hn h1 h2 h3 h4 post hp => ?_⟩
  subst h2
  exact W_pause hn h1 (ltI (n := 1) (by decide) (by omega)) (nI_le (b := 23) hj (by decide)) hp
theorem D_bid (hG : G m r) (hm : m ≤ 50) {b s j : Nat} (hb : b < 6) (hs : s < 6) (hj0 : 1 ≤ j) (hj : j ≤ 99) (h0 : rWhyN r b s (nI j) = 0) : Deed m r z (fun σ post => wp_X4_bid σ (nI b) (nI s) (nI j) post NoX) := by
  have e := tI_n (n := j) (by omega)
  obtain ⟨q, hq, hv⟩ := sealV_nat (x := nI j) hG.o1 (by omega) hb hs (by omega) (by omega)
  refine ⟨_, _, g_seal hG (by omega) hb hs (x := nI j) (by omega) (by omega) h0, nonneg (a := sealV r b s (nI j)) (by rw [hv]; exact nI_nn (by omega)), fun σ n hn h1 h2 h3 h4 post hp => ?_⟩
  subst h2
  exact W_bid hn h1 hb hs (ltI (n := 1) (by decide) (by omega)) (nI_le (b := 99) hj (by decide)) h0 hp
theorem D_withdraw (hG : G m r) (hm : m ≤ 50) {b s : Nat} (hb : b < 6) (hs : s < 6) (h0 : rWhyW r b s = 0) : Deed m r z (fun σ post => wp_X4_withdraw σ (nI b) (nI s) post NoX) := by
  obtain ⟨t, R⟩ := hG.rl
  obtain ⟨F, hF, hv⟩ := fee_nat R hb hs (kept_open h0).2
  refine ⟨_, _, g_take hG (by omega) hb hs h0, nonneg (a := rFee r b s) (by rw [hv]; exact nI_nn (by omega)), fun σ n hn h1 h2 h3 h4 post hp => ?_⟩
  subst h2
  exact W_withdraw hn h1 hb hs h0 hp
theorem D_open (hG : G m r) (hm : m ≤ 50) (h0 : r 169 = 0) : Deed m r z (fun σ post => wp_X4_open σ post NoX) := by
  have hc := cntF_le (BC r) 6
  refine ⟨_, _, g_open hG (by omega) h0, nI_pos (n := cntF (BC r) 6) (by omega), fun σ n hn h1 h2 h3 h4 post hp => ?_⟩
  subst h2
  exact W_open hn h1 hG.o1 h0 hp
theorem D_fish (hG : G m r) {s w : Nat} (hs : s < 6) (hw : w < 6) (ho : r (12 + s) = nI w) : Deed m r z (fun σ post => wp_X4_fish σ (nI s) post NoX) := by
  have h9 : ¬ r 169 = 0 := fun q => by
    have := (hG.o4 q s hs).1
    rw [ho] at this
    exact nI_m1 (by omega) this
  obtain ⟨t, R⟩ := hG.rl
  obtain ⟨H, hH, hH2⟩ := haul_nat R hs
  have hfi := hG.o1.fish hs
  refine ⟨_, _, g_fish hG hs hw, nonneg (a := haulV r s) (by rw [hH]; exact nI_nn (by omega)), fun σ n hn h1 h2 h3 h4 post hp => ?_⟩
  subst h2
  exact W_fish hn h1 hs hw h9 ho hp
theorem sumG_nn {f : Nat → Int32} {M : Nat} : ∀ n, (∀ i, i < n → 0 ≤ (f i).toInt ∧ (f i).toInt ≤ M) → n * M < 2147483648 → 0 ≤ (sumG f n).toInt ∧ (sumG f n).toInt ≤ n * M
  | 0, _, _ => by show 0 ≤ (0 : Int32).toInt ∧ (0 : Int32).toInt ≤ _; rw [tI0]; omega
  | n + 1, h, hM => by
    have e : (n + 1) * M = n * M + M := Nat.succ_mul n M
    have ih := sumG_nn (f := f) (M := M) n (fun i hi => h i (by omega)) (by omega)
    have hl := h n (by omega)
    show 0 ≤ (sumG f n + f n).toInt ∧ (sumG f n + f n).toInt ≤ _
    have e2 : ((n * M : Nat) : Int) = (n : Int) * (M : Int) := Int.natCast_mul n M
    have e3 : (((n + 1) * M : Nat) : Int) = ((n + 1 : Nat) : Int) * (M : Int) := Int.natCast_mul (n + 1) M
    rw [tI_add (by omega) (by omega)]
    omega
theorem D_nextDay (hG : G m r) : Deed m r z (fun σ post => wp_X4_nextDay σ post) := by
  have hs := sumG_nn (f := moreV r) (M := 200) 6 (fun i hi => by
    have h := more_nat hG.o1 hi
    have hf := hG.o1.fish hi
    omega) (by decide)
  refine ⟨_, _, g_day hG, nonneg hs.1, fun σ n hn h1 h2 h3 h4 post hp => ?_⟩
  subst h2
  exact W_nextDay hn h1 hp
theorem back_eq {f g : Nat → Int32} (hf : Zr f) (hg : Zr g) : cpyF f g 0 0 174 = g := by
  funext j
  by_cases q : j < 174
  · rw [cpyF_in (by omega) (by omega)]; exact congrArg g (by omega)
  · rw [cpyF_out (by omega), hf j (by omega), hg j (by omega)]
theorem D_goBack (hG : G m r) (hZ : G m z) : Deed m r z (fun σ post => wp_X4_goBack σ post NoX) := by
  refine ⟨z 165, z, hZ.mono (Nat.le_succ m), nonneg hZ.o1.chest, fun σ n hn h1 h2 h3 h4 post hp => ?_⟩
  subst h2; subst h3
  refine W_goBack hn h1 h4 (fun σ1 A => hp σ1 ?_)
  rw [back_eq hG.z hZ.z] at A
  exact A

set_option maxHeartbeats 4000000 in
theorem act38 (hG : G m r) (hZ : G m z) (hm : m ≤ 50) (x y : Int32) {b s M k0 : Nat} (hb : b < 6) (hs : s < 6) {t0 t1 : Int32} (hM : t0 = nI M) (hM0 : 0 < M) (hM2 : M < 2 ^ 31) (e0 : (t1 &&& 2147483647) - (t1 &&& 2147483647) / nI M * nI M = nI k0) (hk0 : k0 < 99) : Deed m r z (fun σ post => wps_L_act_38 σ x y (nI b) (nI s) t0 t1 1 post) := by
  obtain ⟨k, hk, ek⟩ := up_ok x (n := 20) (by decide) (by decide)
  have ea : (1 : Int32) + nI k0 = nI (1 + k0) := nI_add 1 k0
  rcases (show k = 0 ∨ k = 1 ∨ k = 2 ∨ k = 3 ∨ k = 4 ∨ k = 5 ∨ k = 6 ∨ k = 7 ∨ k = 8 ∨ k = 9 ∨ k = 10 ∨ k = 11 ∨ 12 ≤ k by omega) with rfl | rfl | rfl | rfl | rfl | rfl | rfl | rfl | rfl | rfl | rfl | rfl | hk12
  · by_cases q : ((y >>> (14 &&& 31)) &&& 3) = 0
    · obtain ⟨j, hj, ej⟩ := up_ok (y >>> (6 &&& 31)) (n := 100) (by decide) (by decide)
      obtain ⟨ans, r', g, nn, H⟩ := D_price (z := z) hG hs (j := j) (by omega)
      refine ⟨ans, r', g, nn, fun σ n hn h1 h2 h3 h4 post hp => ?_⟩
      refine w_up hM hM0 hM2 e0 ?_
      intro v5 hv5
      rw [ea] at hv5
      subst hv5
      refine w_up (n := 20) rfl (by decide) (by decide) ek ?_
      intro w hw
      subst hw
      refine ⟨fun _ => ?_, fun h => absurd rfl h⟩
      refine ⟨fun h => absurd q h, fun _ => ?_⟩
      unfold wps_L_act_135
      refine w_up (n := 100) rfl (by decide) (by decide) ej ?_
      exact H σ n hn h1 h2 h3 h4 _ (fun σ1 A => hp σ1 A)
    · obtain ⟨j, hj, ej⟩ := up_ok (y >>> (6 &&& 31)) (n := 25) (by decide) (by decide)
      obtain ⟨ans, r', g, nn, H⟩ := D_price (z := z) hG hs (j := j) (by omega)
      refine ⟨ans, r', g, nn, fun σ n hn h1 h2 h3 h4 post hp => ?_⟩
      refine w_up hM hM0 hM2 e0 ?_
      intro v5 hv5
      rw [ea] at hv5
      subst hv5
      refine w_up (n := 20) rfl (by decide) (by decide) ek ?_
      intro w hw
      subst hw
      refine ⟨fun _ => ?_, fun h => absurd rfl h⟩
      refine ⟨fun _ => ?_, fun h => absurd h q⟩
      unfold wps_L_act_135
      refine w_up (n := 25) rfl (by decide) (by decide) ej ?_
      exact H σ n hn h1 h2 h3 h4 _ (fun σ1 A => hp σ1 A)
  · obtain ⟨j, hj, ej⟩ := up_ok (y >>> (6 &&& 31)) (n := 60) (by decide) (by decide)
    obtain ⟨ans, r', g, nn, H⟩ := D_pay (z := z) hG hm hb (j := 1 + j) (by omega) (by omega)
    refine ⟨ans, r', g, nn, fun σ n hn h1 h2 h3 h4 post hp => ?_⟩
    refine w_up hM hM0 hM2 e0 ?_
    intro v5 hv5
    rw [ea] at hv5
    subst hv5
    refine w_up (n := 20) rfl (by decide) (by decide) ek ?_
    intro w hw
    subst hw
    refine ⟨fun h => absurd h (by decide), fun _ => ?_⟩
    refine ⟨fun _ => ?_, fun h => absurd rfl h⟩
    refine w_up (n := 60) rfl (by decide) (by decide) ej ?_
    rw [show (1 : Int32) + nI j = nI (1 + j) from nI_add 1 j]
    exact H σ n hn h1 h2 h3 h4 _ (fun σ1 A => hp σ1 A)
  · obtain ⟨c, hc, ec⟩ := up_ok y (n := 3) (by decide) (by decide)
    rcases (show c = 0 ∨ c = 1 ∨ c = 2 by omega) with rfl | rfl | rfl
    · obtain ⟨j, hj, ej⟩ := up_ok (y >>> (2 &&& 31)) (n := 21) (by decide) (by decide)
      obtain ⟨ans, r', g, nn, H⟩ := D_set (z := z) hG (k := 0) (j := j) (by decide) (fun _ => by omega) (fun _ => by omega) (fun _ => by omega) (by omega)
      refine ⟨ans, r', g, nn, fun σ n hn h1 h2 h3 h4 post hp => ?_⟩
      refine w_up hM hM0 hM2 e0 ?_
      intro v5 hv5
      rw [ea] at hv5
      subst hv5
      refine w_up (n := 20) rfl (by decide) (by decide) ek ?_
      intro w hw
      subst hw
      refine ⟨fun h => absurd h (by decide), fun _ => ?_⟩
      refine ⟨fun h => absurd h (by decide), fun _ => ?_⟩
      refine ⟨fun _ => ?_, fun h => absurd rfl h⟩
      refine w_up (n := 3) rfl (by decide) (by decide) ec ?_
      refine ⟨fun h => absurd rfl h, fun _ => ?_⟩
      unfold wps_L_act_195
      refine w_up (n := 21) rfl (by decide) (by decide) ej ?_
      exact H σ n hn h1 h2 h3 h4 _ (fun σ1 A => hp σ1 A)
    · obtain ⟨j, hj, ej⟩ := up_ok (y >>> (2 &&& 31)) (n := 10) (by decide) (by decide)
      obtain ⟨ans, r', g, nn, H⟩ := D_set (z := z) hG (k := 1) (j := j) (by decide) (fun _ => by omega) (fun _ => by omega) (fun _ => by omega) (by omega)
      refine ⟨ans, r', g, nn, fun σ n hn h1 h2 h3 h4 post hp => ?_⟩
      refine w_up hM hM0 hM2 e0 ?_
      intro v5 hv5
      rw [ea] at hv5
      subst hv5
      refine w_up (n := 20) rfl (by decide) (by decide) ek ?_
      intro w hw
      subst hw
      refine ⟨fun h => absurd h (by decide), fun _ => ?_⟩
      refine ⟨fun h => absurd h (by decide), fun _ => ?_⟩
      refine ⟨fun _ => ?_, fun h => absurd rfl h⟩
      refine w_up (n := 3) rfl (by decide) (by decide) ec ?_
      refine ⟨fun _ => ⟨fun h => absurd rfl h, fun _ => ?_⟩, fun h => absurd h (by decide)⟩
      unfold wps_L_act_195
      refine w_up (n := 10) rfl (by decide) (by decide) ej ?_
      exact H σ n hn h1 h2 h3 h4 _ (fun σ1 A => hp σ1 A)
    · obtain ⟨j, hj, ej⟩ := up_ok (y >>> (2 &&& 31)) (n := 51) (by decide) (by decide)
      obtain ⟨ans, r', g, nn, H⟩ := D_set (z := z) hG (k := 2) (j := j) (by decide) (fun _ => by omega) (fun _ => by omega) (fun _ => by omega) (by omega)
      refine ⟨ans, r', g, nn, fun σ n hn h1 h2 h3 h4 post hp => ?_⟩
      refine w_up hM hM0 hM2 e0 ?_
      intro v5 hv5
      rw [ea] at hv5
      subst hv5
      refine w_up (n := 20) rfl (by decide) (by decide) ek ?_
      intro w hw
      subst hw
      refine ⟨fun h => absurd h (by decide), fun _ => ?_⟩
      refine ⟨fun h => absurd h (by decide), fun _ => ?_⟩
      refine ⟨fun _ => ?_, fun h => absurd rfl h⟩
      refine w_up (n := 3) rfl (by decide) (by decide) ec ?_
      refine ⟨fun _ => ⟨fun _ => ?_, fun h => absurd h (by decide)⟩, fun h => absurd h (by decide)⟩
      unfold wps_L_act_195
      refine w_up (n := 51) rfl (by decide) (by decide) ej ?_
      exact H σ n hn h1 h2 h3 h4 _ (fun σ1 A => hp σ1 A)
  · obtain ⟨j, hj, ej⟩ := up_ok y (n := 23) (by decide) (by decide)
    obtain ⟨ans, r', g, nn, H⟩ := D_pause (z := z) hG (j := 1 + j) (by omega) (by omega)
    refine ⟨ans, r', g, nn, fun σ n hn h1 h2 h3 h4 post hp => ?_⟩
    refine w_up hM hM0 hM2 e0 ?_
    intro v5 hv5
    rw [ea] at hv5
    subst hv5
    refine w_up (n := 20) rfl (by decide) (by decide) ek ?_
    intro w hw
    subst hw
    refine ⟨fun h => absurd h (by decide), fun _ => ?_⟩
    refine ⟨fun h => absurd h (by decide), fun _ => ?_⟩
    refine ⟨fun h => absurd h (by decide), fun _ => ?_⟩
    refine ⟨fun _ => ?_, fun h => absurd rfl h⟩
    refine w_up (n := 23) rfl (by decide) (by decide) ej ?_
    rw [show (1 : Int32) + nI j = nI (1 + j) from nI_add 1 j]
    exact H σ n hn h1 h2 h3 h4 _ (fun σ1 A => hp σ1 A)
  · by_cases q : rWhyW r b s = 0
    · skip
      obtain ⟨ans, r', g, nn, H⟩ := D_withdraw (z := z) hG hm hb hs q
      refine ⟨ans, r', g, nn, fun σ n hn h1 h2 h3 h4 post hp => ?_⟩
      refine w_up hM hM0 hM2 e0 ?_
      intro v5 hv5
      rw [ea] at hv5
      subst hv5
      refine w_up (n := 20) rfl (by decide) (by decide) ek ?_
      intro w hw
      subst hw
      refine ⟨fun h => absurd h (by decide), fun _ => ?_⟩
      refine ⟨fun h => absurd h (by decide), fun _ => ?_⟩
      refine ⟨fun h => absurd h (by decide), fun _ => ?_⟩
      refine ⟨fun h => absurd h (by decide), fun _ => ?_⟩
      refine ⟨fun _ => ?_, fun h => absurd rfl h⟩
      refine w_sealedE (k := 4) hb hs (by decide) (v := 0) (by rw [h2]; exact q) ⟨fun h => absurd rfl h, fun _ => ?_⟩
      exact H σ n hn h1 h2 h3 h4 _ (fun σ1 A => hp σ1 A)
    · skip
      obtain ⟨ans, r', g, nn, H⟩ := D_pause (z := z) hG (j := 1) (by omega) (by omega)
      refine ⟨ans, r', g, nn, fun σ n hn h1 h2 h3 h4 post hp => ?_⟩
      refine w_up hM hM0 hM2 e0 ?_
      intro v5 hv5
      rw [ea] at hv5
      subst hv5
      refine w_up (n := 20) rfl (by decide) (by decide) ek ?_
      intro w hw
      subst hw
      refine ⟨fun h => absurd h (by decide), fun _ => ?_⟩
      refine ⟨fun h => absurd h (by decide), fun _ => ?_⟩
      refine ⟨fun h => absurd h (by decide), fun _ => ?_⟩
      refine ⟨fun h => absurd h (by decide), fun _ => ?_⟩
      refine ⟨fun _ => ?_, fun h => absurd rfl h⟩
      refine w_sealedE (k := 4) hb hs (by decide) (v := rWhyW r b s) (by rw [h2]; rfl) ⟨fun _ => ?_, fun h => absurd h q⟩
      exact H σ n hn h1 h2 h3 h4 _ (fun σ1 A => hp σ1 A)
  · by_cases q : rWhyW r b s = 0
    · skip
      obtain ⟨ans, r', g, nn, H⟩ := D_withdraw (z := z) hG hm hb hs q
      refine ⟨ans, r', g, nn, fun σ n hn h1 h2 h3 h4 post hp => ?_⟩
      refine w_up hM hM0 hM2 e0 ?_
      intro v5 hv5
      rw [ea] at hv5
      subst hv5
      refine w_up (n := 20) rfl (by decide) (by decide) ek ?_
      intro w hw
      subst hw
      refine ⟨fun h => absurd h (by decide), fun _ => ?_⟩
      refine ⟨fun h => absurd h (by decide), fun _ => ?_⟩
      refine ⟨fun h => absurd h (by decide), fun _ => ?_⟩
      refine ⟨fun h => absurd h (by decide), fun _ => ?_⟩
      refine ⟨fun h => absurd h (by decide), fun _ => ?_⟩
      refine ⟨fun _ => ?_, fun h => absurd rfl h⟩
      refine w_sealedE (k := 4) hb hs (by decide) (v := 0) (by rw [h2]; exact q) ⟨fun h => absurd rfl h, fun _ => ?_⟩
      exact H σ n hn h1 h2 h3 h4 _ (fun σ1 A => hp σ1 A)
    · skip
      obtain ⟨ans, r', g, nn, H⟩ := D_pause (z := z) hG (j := 1) (by omega) (by omega)
      refine ⟨ans, r', g, nn, fun σ n hn h1 h2 h3 h4 post hp => ?_⟩
      refine w_up hM hM0 hM2 e0 ?_
      intro v5 hv5
      rw [ea] at hv5
      subst hv5
      refine w_up (n := 20) rfl (by decide) (by decide) ek ?_
      intro w hw
      subst hw
      refine ⟨fun h => absurd h (by decide), fun _ => ?_⟩
      refine ⟨fun h => absurd h (by decide), fun _ => ?_⟩
      refine ⟨fun h => absurd h (by decide), fun _ => ?_⟩
      refine ⟨fun h => absurd h (by decide), fun _ => ?_⟩
      refine ⟨fun h => absurd h (by decide), fun _ => ?_⟩
      refine ⟨fun _ => ?_, fun h => absurd rfl h⟩
      refine w_sealedE (k := 4) hb hs (by decide) (v := rWhyW r b s) (by rw [h2]; rfl) ⟨fun _ => ?_, fun h => absurd h q⟩
      exact H σ n hn h1 h2 h3 h4 _ (fun σ1 A => hp σ1 A)
  · by_cases q : r 169 = 0
    · skip
      obtain ⟨ans, r', g, nn, H⟩ := D_open (z := z) hG hm q
      refine ⟨ans, r', g, nn, fun σ n hn h1 h2 h3 h4 post hp => ?_⟩
      refine w_up hM hM0 hM2 e0 ?_
      intro v5 hv5
      rw [ea] at hv5
      subst hv5
      refine w_up (n := 20) rfl (by decide) (by decide) ek ?_
      intro w hw
      subst hw
      refine ⟨fun h => absurd h (by decide), fun _ => ?_⟩
      refine ⟨fun h => absurd h (by decide), fun _ => ?_⟩
      refine ⟨fun h => absurd h (by decide), fun _ => ?_⟩
      refine ⟨fun h => absurd h (by decide), fun _ => ?_⟩
      refine ⟨fun h => absurd h (by decide), fun _ => ?_⟩
      refine ⟨fun h => absurd h (by decide), fun _ => ?_⟩
      refine ⟨fun _ => ?_, fun h => absurd rfl h⟩
      refine w_countE (m := m) (by rw [h2]; exact hG.o1) (k := 2) (by decide) (v := 0) (by rw [h2]; exact q) ⟨fun h => absurd rfl h, fun _ => ?_⟩
      exact H σ n hn h1 h2 h3 h4 _ (fun σ1 A => hp σ1 A)
    · skip
      obtain ⟨ans, r', g, nn, H⟩ := D_nextDay (z := z) hG
      refine ⟨ans, r', g, nn, fun σ n hn h1 h2 h3 h4 post hp => ?_⟩
      refine w_up hM hM0 hM2 e0 ?_
      intro v5 hv5
      rw [ea] at hv5
      subst hv5
      refine w_up (n := 20) rfl (by decide) (by decide) ek ?_
      intro w hw
      subst hw
      refine ⟨fun h => absurd h (by decide), fun _ => ?_⟩
      refine ⟨fun h => absurd h (by decide), fun _ => ?_⟩
      refine ⟨fun h => absurd h (by decide), fun _ => ?_⟩
      refine ⟨fun h => absurd h (by decide), fun _ => ?_⟩
      refine ⟨fun h => absurd h (by decide), fun _ => ?_⟩
      refine ⟨fun h => absurd h (by decide), fun _ => ?_⟩
      refine ⟨fun _ => ?_, fun h => absurd rfl h⟩
      refine w_countE (m := m) (by rw [h2]; exact hG.o1) (k := 2) (by decide) (v := r 169) (by rw [h2]; rfl) ⟨fun _ => ?_, fun h => absurd h q⟩
      exact H σ n hn h1 h2 h3 h4 _ (fun σ1 A => hp σ1 A)
  · by_cases q : r 169 = 0
    · skip
      obtain ⟨ans, r', g, nn, H⟩ := D_open (z := z) hG hm q
      refine ⟨ans, r', g, nn, fun σ n hn h1 h2 h3 h4 post hp => ?_⟩
      refine w_up hM hM0 hM2 e0 ?_
      intro v5 hv5
      rw [ea] at hv5
      subst hv5
      refine w_up (n := 20) rfl (by decide) (by decide) ek ?_
      intro w hw
      subst hw
      refine ⟨fun h => absurd h (by decide), fun _ => ?_⟩
      refine ⟨fun h => absurd h (by decide), fun _ => ?_⟩
      refine ⟨fun h => absurd h (by decide), fun _ => ?_⟩
      refine ⟨fun h => absurd h (by decide), fun _ => ?_⟩
      refine ⟨fun h => absurd h (by decide), fun _ => ?_⟩
      refine ⟨fun h => absurd h (by decide), fun _ => ?_⟩
      refine ⟨fun h => absurd h (by decide), fun _ => ?_⟩
      refine ⟨fun _ => ?_, fun h => absurd rfl h⟩
      refine w_countE (m := m) (by rw [h2]; exact hG.o1) (k := 2) (by decide) (v := 0) (by rw [h2]; exact q) ⟨fun h => absurd rfl h, fun _ => ?_⟩
      exact H σ n hn h1 h2 h3 h4 _ (fun σ1 A => hp σ1 A)
    · skip
      obtain ⟨ans, r', g, nn, H⟩ := D_nextDay (z := z) hG
      refine ⟨ans, r', g, nn, fun σ n hn h1 h2 h3 h4 post hp => ?_⟩
      refine w_up hM hM0 hM2 e0 ?_
      intro v5 hv5
      rw [ea] at hv5
      subst hv5
      refine w_up (n := 20) rfl (by decide) (by decide) ek ?_
      intro w hw
      subst hw
      refine ⟨fun h => absurd h (by decide), fun _ => ?_⟩
      refine ⟨fun h => absurd h (by decide), fun _ => ?_⟩
      refine ⟨fun h => absurd h (by decide), fun _ => ?_⟩
      refine ⟨fun h => absurd h (by decide), fun _ => ?_⟩
      refine ⟨fun h => absurd h (by decide), fun _ => ?_⟩
      refine ⟨fun h => absurd h (by decide), fun _ => ?_⟩
      refine ⟨fun h => absurd h (by decide), fun _ => ?_⟩
      refine ⟨fun _ => ?_, fun h => absurd rfl h⟩
      refine w_countE (m := m) (by rw [h2]; exact hG.o1) (k := 2) (by decide) (v := r 169) (by rw [h2]; rfl) ⟨fun _ => ?_, fun h => absurd h q⟩
      exact H σ n hn h1 h2 h3 h4 _ (fun σ1 A => hp σ1 A)
  · by_cases q : (y &&& 3) = 0
    · skip
      obtain ⟨ans, r', g, nn, H⟩ := D_goBack hG hZ
      refine ⟨ans, r', g, nn, fun σ n hn h1 h2 h3 h4 post hp => ?_⟩
      refine w_up hM hM0 hM2 e0 ?_
      intro v5 hv5
      rw [ea] at hv5
      subst hv5
      refine w_up (n := 20) rfl (by decide) (by decide) ek ?_
      intro w hw
      subst hw
      refine ⟨fun h => absurd h (by decide), fun _ => ?_⟩
      refine ⟨fun h => absurd h (by decide), fun _ => ?_⟩
      refine ⟨fun h => absurd h (by decide), fun _ => ?_⟩
      refine ⟨fun h => absurd h (by decide), fun _ => ?_⟩
      refine ⟨fun h => absurd h (by decide), fun _ => ?_⟩
      refine ⟨fun h => absurd h (by decide), fun _ => ?_⟩
      refine ⟨fun h => absurd h (by decide), fun _ => ?_⟩
      refine ⟨fun h => absurd h (by decide), fun _ => ?_⟩
      refine ⟨fun _ => ?_, fun h => absurd rfl h⟩
      refine ⟨fun h => absurd q h, fun _ => ?_⟩
      exact H σ n hn h1 h2 h3 h4 _ (fun σ1 A => hp σ1 A)
    · skip
      obtain ⟨ans, r', g, nn, H⟩ := D_nextDay (z := z) hG
      refine ⟨ans, r', g, nn, fun σ n hn h1 h2 h3 h4 post hp => ?_⟩
      refine w_up hM hM0 hM2 e0 ?_
      intro v5 hv5
      rw [ea] at hv5
      subst hv5
      refine w_up (n := 20) rfl (by decide) (by decide) ek ?_
      intro w hw
      subst hw
      refine ⟨fun h => absurd h (by decide), fun _ => ?_⟩
      refine ⟨fun h => absurd h (by decide), fun _ => ?_⟩
      refine ⟨fun h => absurd h (by decide), fun _ => ?_⟩
      refine ⟨fun h => absurd h (by decide), fun _ => ?_⟩
      refine ⟨fun h => absurd h (by decide), fun _ => ?_⟩
      refine ⟨fun h => absurd h (by decide), fun _ => ?_⟩
      refine ⟨fun h => absurd h (by decide), fun _ => ?_⟩
      refine ⟨fun h => absurd h (by decide), fun _ => ?_⟩
      refine ⟨fun _ => ?_, fun h => absurd rfl h⟩
      refine ⟨fun _ => ?_, fun h => absurd h q⟩
      exact H σ n hn h1 h2 h3 h4 _ (fun σ1 A => hp σ1 A)
  · by_cases q : r (12 + s) = -1
    · by_cases q2 : rWhyN r b s (nI (1 + k0)) = 0
      · skip
        obtain ⟨ans, r', g, nn, H⟩ := D_bid (z := z) hG hm hb hs (j := 1 + k0) (by omega) (by omega) q2
        refine ⟨ans, r', g, nn, fun σ n hn h1 h2 h3 h4 post hp => ?_⟩
        refine w_up hM hM0 hM2 e0 ?_
        intro v5 hv5
        rw [ea] at hv5
        subst hv5
        refine w_up (n := 20) rfl (by decide) (by decide) ek ?_
        intro w hw
        subst hw
        refine ⟨fun h => absurd h (by decide), fun _ => ?_⟩
        refine ⟨fun h => absurd h (by decide), fun _ => ?_⟩
        refine ⟨fun h => absurd h (by decide), fun _ => ?_⟩
        refine ⟨fun h => absurd h (by decide), fun _ => ?_⟩
        refine ⟨fun h => absurd h (by decide), fun _ => ?_⟩
        refine ⟨fun h => absurd h (by decide), fun _ => ?_⟩
        refine ⟨fun h => absurd h (by decide), fun _ => ?_⟩
        refine ⟨fun h => absurd h (by decide), fun _ => ?_⟩
        refine ⟨fun h => absurd h (by decide), fun _ => ?_⟩
        refine ⟨fun _ => ?_, fun h => absurd rfl h⟩
        refine w_spotE (k := 2) hs (by decide) (v := -1) (by rw [h2]; exact q) ⟨fun _ => ?_, fun h => absurd m1_lt h⟩
        refine W_why hb hs (ltI (n := 1) (by decide) (by rw [tI_n (by omega)]; omega)) (nI_le (b := 99) (by omega) (by decide)) ?_
        rw [h2]
        refine ⟨fun h => absurd q2 h, fun _ => ?_⟩
        exact H σ n hn h1 h2 h3 h4 _ (fun σ1 A => hp σ1 A)
      · skip
        obtain ⟨ans, r', g, nn, H⟩ := D_pause (z := z) hG (j := 1) (by omega) (by omega)
        refine ⟨ans, r', g, nn, fun σ n hn h1 h2 h3 h4 post hp => ?_⟩
        refine w_up hM hM0 hM2 e0 ?_
        intro v5 hv5
        rw [ea] at hv5
        subst hv5
        refine w_up (n := 20) rfl (by decide) (by decide) ek ?_
        intro w hw
        subst hw
        refine ⟨fun h => absurd h (by decide), fun _ => ?_⟩
        refine ⟨fun h => absurd h (by decide), fun _ => ?_⟩
        refine ⟨fun h => absurd h (by decide), fun _ => ?_⟩
        refine ⟨fun h => absurd h (by decide), fun _ => ?_⟩
        refine ⟨fun h => absurd h (by decide), fun _ => ?_⟩
        refine ⟨fun h => absurd h (by decide), fun _ => ?_⟩
        refine ⟨fun h => absurd h (by decide), fun _ => ?_⟩
        refine ⟨fun h => absurd h (by decide), fun _ => ?_⟩
        refine ⟨fun h => absurd h (by decide), fun _ => ?_⟩
        refine ⟨fun _ => ?_, fun h => absurd rfl h⟩
        refine w_spotE (k := 2) hs (by decide) (v := -1) (by rw [h2]; exact q) ⟨fun _ => ?_, fun h => absurd m1_lt h⟩
        refine W_why hb hs (ltI (n := 1) (by decide) (by rw [tI_n (by omega)]; omega)) (nI_le (b := 99) (by omega) (by decide)) ?_
        rw [h2]
        refine ⟨fun _ => ?_, fun h => absurd h q2⟩
        exact H σ n hn h1 h2 h3 h4 _ (fun σ1 A => hp σ1 A)
    · obtain ⟨w, hw, ho⟩ := owner_nat hG.o1 hs q
      obtain ⟨ans, r', g, nn, H⟩ := D_fish (z := z) hG hs hw ho
      refine ⟨ans, r', g, nn, fun σ n hn h1 h2 h3 h4 post hp => ?_⟩
      refine w_up hM hM0 hM2 e0 ?_
      intro v5 hv5
      rw [ea] at hv5
      subst hv5
      refine w_up (n := 20) rfl (by decide) (by decide) ek ?_
      intro w hw
      subst hw
      refine ⟨fun h => absurd h (by decide), fun _ => ?_⟩
      refine ⟨fun h => absurd h (by decide), fun _ => ?_⟩
      refine ⟨fun h => absurd h (by decide), fun _ => ?_⟩
      refine ⟨fun h => absurd h (by decide), fun _ => ?_⟩
      refine ⟨fun h => absurd h (by decide), fun _ => ?_⟩
      refine ⟨fun h => absurd h (by decide), fun _ => ?_⟩
      refine ⟨fun h => absurd h (by decide), fun _ => ?_⟩
      refine ⟨fun h => absurd h (by decide), fun _ => ?_⟩
      refine ⟨fun h => absurd h (by decide), fun _ => ?_⟩
      refine ⟨fun _ => ?_, fun h => absurd rfl h⟩
      refine w_spotE (k := 2) hs (by decide) (v := nI w) (by rw [h2]; exact ho) ⟨fun h => absurd h (nI_pos (by omega)), fun _ => ?_⟩
      exact H σ n hn h1 h2 h3 h4 _ (fun σ1 A => hp σ1 A)
  · by_cases q : r (12 + s) = -1
    · by_cases q2 : rWhyN r b s (nI (1 + k0)) = 0
      · skip
        obtain ⟨ans, r', g, nn, H⟩ := D_bid (z := z) hG hm hb hs (j := 1 + k0) (by omega) (by omega) q2
        refine ⟨ans, r', g, nn, fun σ n hn h1 h2 h3 h4 post hp => ?_⟩
        refine w_up hM hM0 hM2 e0 ?_
        intro v5 hv5
        rw [ea] at hv5
        subst hv5
        refine w_up (n := 20) rfl (by decide) (by decide) ek ?_
        intro w hw
        subst hw
        refine ⟨fun h => absurd h (by decide), fun _ => ?_⟩
        refine ⟨fun h => absurd h (by decide), fun _ => ?_⟩
        refine ⟨fun h => absurd h (by decide), fun _ => ?_⟩
        refine ⟨fun h => absurd h (by decide), fun _ => ?_⟩
        refine ⟨fun h => absurd h (by decide), fun _ => ?_⟩
        refine ⟨fun h => absurd h (by decide), fun _ => ?_⟩
        refine ⟨fun h => absurd h (by decide), fun _ => ?_⟩
        refine ⟨fun h => absurd h (by decide), fun _ => ?_⟩
        refine ⟨fun h => absurd h (by decide), fun _ => ?_⟩
        refine ⟨fun h => absurd h (by decide), fun _ => ?_⟩
        refine ⟨fun _ => ?_, fun h => absurd rfl h⟩
        refine w_spotE (k := 2) hs (by decide) (v := -1) (by rw [h2]; exact q) ⟨fun _ => ?_, fun h => absurd m1_lt h⟩
        refine W_why hb hs (ltI (n := 1) (by decide) (by rw [tI_n (by omega)]; omega)) (nI_le (b := 99) (by omega) (by decide)) ?_
        rw [h2]
        refine ⟨fun h => absurd q2 h, fun _ => ?_⟩
        exact H σ n hn h1 h2 h3 h4 _ (fun σ1 A => hp σ1 A)
      · skip
        obtain ⟨ans, r', g, nn, H⟩ := D_pause (z := z) hG (j := 1) (by omega) (by omega)
        refine ⟨ans, r', g, nn, fun σ n hn h1 h2 h3 h4 post hp => ?_⟩
        refine w_up hM hM0 hM2 e0 ?_
        intro v5 hv5
        rw [ea] at hv5
        subst hv5
        refine w_up (n := 20) rfl (by decide) (by decide) ek ?_
        intro w hw
        subst hw
        refine ⟨fun h => absurd h (by decide), fun _ => ?_⟩
        refine ⟨fun h => absurd h (by decide), fun _ => ?_⟩
        refine ⟨fun h => absurd h (by decide), fun _ => ?_⟩
        refine ⟨fun h => absurd h (by decide), fun _ => ?_⟩
        refine ⟨fun h => absurd h (by decide), fun _ => ?_⟩
        refine ⟨fun h => absurd h (by decide), fun _ => ?_⟩
        refine ⟨fun h => absurd h (by decide), fun _ => ?_⟩
        refine ⟨fun h => absurd h (by decide), fun _ => ?_⟩
        refine ⟨fun h => absurd h (by decide), fun _ => ?_⟩
        refine ⟨fun h => absurd h (by decide), fun _ => ?_⟩
        refine ⟨fun _ => ?_, fun h => absurd rfl h⟩
        refine w_spotE (k := 2) hs (by decide) (v := -1) (by rw [h2]; exact q) ⟨fun _ => ?_, fun h => absurd m1_lt h⟩
        refine W_why hb hs (ltI (n := 1) (by decide) (by rw [tI_n (by omega)]; omega)) (nI_le (b := 99) (by omega) (by decide)) ?_
        rw [h2]
        refine ⟨fun _ => ?_, fun h => absurd h q2⟩
        exact H σ n hn h1 h2 h3 h4 _ (fun σ1 A => hp σ1 A)
    · obtain ⟨w, hw, ho⟩ := owner_nat hG.o1 hs q
      obtain ⟨ans, r', g, nn, H⟩ := D_fish (z := z) hG hs hw ho
      refine ⟨ans, r', g, nn, fun σ n hn h1 h2 h3 h4 post hp => ?_⟩
      refine w_up hM hM0 hM2 e0 ?_
      intro v5 hv5
      rw [ea] at hv5
      subst hv5
      refine w_up (n := 20) rfl (by decide) (by decide) ek ?_
      intro w hw
      subst hw
      refine ⟨fun h => absurd h (by decide), fun _ => ?_⟩
      refine ⟨fun h => absurd h (by decide), fun _ => ?_⟩
      refine ⟨fun h => absurd h (by decide), fun _ => ?_⟩
      refine ⟨fun h => absurd h (by decide), fun _ => ?_⟩
      refine ⟨fun h => absurd h (by decide), fun _ => ?_⟩
      refine ⟨fun h => absurd h (by decide), fun _ => ?_⟩
      refine ⟨fun h => absurd h (by decide), fun _ => ?_⟩
      refine ⟨fun h => absurd h (by decide), fun _ => ?_⟩
      refine ⟨fun h => absurd h (by decide), fun _ => ?_⟩
      refine ⟨fun h => absurd h (by decide), fun _ => ?_⟩
      refine ⟨fun _ => ?_, fun h => absurd rfl h⟩
      refine w_spotE (k := 2) hs (by decide) (v := nI w) (by rw [h2]; exact ho) ⟨fun h => absurd h (nI_pos (by omega)), fun _ => ?_⟩
      exact H σ n hn h1 h2 h3 h4 _ (fun σ1 A => hp σ1 A)
  · by_cases q : r (12 + s) = -1
    · by_cases q2 : rWhyN r b s (nI (1 + k0)) = 0
      · skip
        obtain ⟨ans, r', g, nn, H⟩ := D_bid (z := z) hG hm hb hs (j := 1 + k0) (by omega) (by omega) q2
        refine ⟨ans, r', g, nn, fun σ n hn h1 h2 h3 h4 post hp => ?_⟩
        refine w_up hM hM0 hM2 e0 ?_
        intro v5 hv5
        rw [ea] at hv5
        subst hv5
        refine w_up (n := 20) rfl (by decide) (by decide) ek ?_
        intro w hw
        subst hw
        refine ⟨fun h => absurd h (by decide), fun _ => ?_⟩
        refine ⟨fun h => absurd h (by decide), fun _ => ?_⟩
        refine ⟨fun h => absurd h (by decide), fun _ => ?_⟩
        refine ⟨fun h => absurd h (by decide), fun _ => ?_⟩
        refine ⟨fun h => absurd h (by decide), fun _ => ?_⟩
        refine ⟨fun h => absurd h (by decide), fun _ => ?_⟩
        refine ⟨fun h => absurd h (by decide), fun _ => ?_⟩
        refine ⟨fun h => absurd h (by decide), fun _ => ?_⟩
        refine ⟨fun h => absurd h (by decide), fun _ => ?_⟩
        refine ⟨fun h => absurd h (by decide), fun _ => ?_⟩
        refine ⟨fun h => absurd h (by decide), fun _ => ?_⟩
        refine ⟨fun _ => ?_, fun h => absurd rfl h⟩
        refine w_spotE (k := 2) hs (by decide) (v := -1) (by rw [h2]; exact q) ⟨fun _ => ?_, fun h => absurd m1_lt h⟩
        refine W_why hb hs (ltI (n := 1) (by decide) (by rw [tI_n (by omega)]; omega)) (nI_le (b := 99) (by omega) (by decide)) ?_
        rw [h2]
        refine ⟨fun h => absurd q2 h, fun _ => ?_⟩
        exact H σ n hn h1 h2 h3 h4 _ (fun σ1 A => hp σ1 A)
      · skip
        obtain ⟨ans, r', g, nn, H⟩ := D_pause (z := z) hG (j := 1) (by omega) (by omega)
        refine ⟨ans, r', g, nn, fun σ n hn h1 h2 h3 h4 post hp => ?_⟩
        refine w_up hM hM0 hM2 e0 ?_
        intro v5 hv5
        rw [ea] at hv5
        subst hv5
        refine w_up (n := 20) rfl (by decide) (by decide) ek ?_
        intro w hw
        subst hw
        refine ⟨fun h => absurd h (by decide), fun _ => ?_⟩
        refine ⟨fun h => absurd h (by decide), fun _ => ?_⟩
        refine ⟨fun h => absurd h (by decide), fun _ => ?_⟩
        refine ⟨fun h => absurd h (by decide), fun _ => ?_⟩
        refine ⟨fun h => absurd h (by decide), fun _ => ?_⟩
        refine ⟨fun h => absurd h (by decide), fun _ => ?_⟩
        refine ⟨fun h => absurd h (by decide), fun _ => ?_⟩
        refine ⟨fun h => absurd h (by decide), fun _ => ?_⟩
        refine ⟨fun h => absurd h (by decide), fun _ => ?_⟩
        refine ⟨fun h => absurd h (by decide), fun _ => ?_⟩
        refine ⟨fun h => absurd h (by decide), fun _ => ?_⟩
        refine ⟨fun _ => ?_, fun h => absurd rfl h⟩
        refine w_spotE (k := 2) hs (by decide) (v := -1) (by rw [h2]; exact q) ⟨fun _ => ?_, fun h => absurd m1_lt h⟩
        refine W_why hb hs (ltI (n := 1) (by decide) (by rw [tI_n (by omega)]; omega)) (nI_le (b := 99) (by omega) (by decide)) ?_
        rw [h2]
        refine ⟨fun _ => ?_, fun h => absurd h q2⟩
        exact H σ n hn h1 h2 h3 h4 _ (fun σ1 A => hp σ1 A)
    · obtain ⟨w, hw, ho⟩ := owner_nat hG.o1 hs q
      obtain ⟨ans, r', g, nn, H⟩ := D_fish (z := z) hG hs hw ho
      refine ⟨ans, r', g, nn, fun σ n hn h1 h2 h3 h4 post hp => ?_⟩
      refine w_up hM hM0 hM2 e0 ?_
      intro v5 hv5
      rw [ea] at hv5
      subst hv5
      refine w_up (n := 20) rfl (by decide) (by decide) ek ?_
      intro w hw
      subst hw
      refine ⟨fun h => absurd h (by decide), fun _ => ?_⟩
      refine ⟨fun h => absurd h (by decide), fun _ => ?_⟩
      refine ⟨fun h => absurd h (by decide), fun _ => ?_⟩
      refine ⟨fun h => absurd h (by decide), fun _ => ?_⟩
      refine ⟨fun h => absurd h (by decide), fun _ => ?_⟩
      refine ⟨fun h => absurd h (by decide), fun _ => ?_⟩
      refine ⟨fun h => absurd h (by decide), fun _ => ?_⟩
      refine ⟨fun h => absurd h (by decide), fun _ => ?_⟩
      refine ⟨fun h => absurd h (by decide), fun _ => ?_⟩
      refine ⟨fun h => absurd h (by decide), fun _ => ?_⟩
      refine ⟨fun h => absurd h (by decide), fun _ => ?_⟩
      refine ⟨fun _ => ?_, fun h => absurd rfl h⟩
      refine w_spotE (k := 2) hs (by decide) (v := nI w) (by rw [h2]; exact ho) ⟨fun h => absurd h (nI_pos (by omega)), fun _ => ?_⟩
      exact H σ n hn h1 h2 h3 h4 _ (fun σ1 A => hp σ1 A)
  · have hne : ∀ j, j < 12 → ¬ nI k = nI j := fun j hj q => by
      have := (nI_eq (by omega) (by omega)).mp q
      omega
    by_cases q2 : rWhyN r b s (nI (1 + k0)) = 0
    · skip
      obtain ⟨ans, r', g, nn, H⟩ := D_bid (z := z) hG hm hb hs (j := 1 + k0) (by omega) (by omega) q2
      refine ⟨ans, r', g, nn, fun σ n hn h1 h2 h3 h4 post hp => ?_⟩
      refine w_up hM hM0 hM2 e0 ?_
      intro v5 hv5
      rw [ea] at hv5
      subst hv5
      refine w_up (n := 20) rfl (by decide) (by decide) ek ?_
      intro w hw
      subst hw
      refine ⟨fun h => absurd h (hne 0 (by decide)), fun _ => ?_⟩
      refine ⟨fun h => absurd h (hne 1 (by decide)), fun _ => ?_⟩
      refine ⟨fun h => absurd h (hne 2 (by decide)), fun _ => ?_⟩
      refine ⟨fun h => absurd h (hne 3 (by decide)), fun _ => ?_⟩
      refine ⟨fun h => absurd h (hne 4 (by decide)), fun _ => ?_⟩
      refine ⟨fun h => absurd h (hne 5 (by decide)), fun _ => ?_⟩
      refine ⟨fun h => absurd h (hne 6 (by decide)), fun _ => ?_⟩
      refine ⟨fun h => absurd h (hne 7 (by decide)), fun _ => ?_⟩
      refine ⟨fun h => absurd h (hne 8 (by decide)), fun _ => ?_⟩
      refine ⟨fun h => absurd h (hne 9 (by decide)), fun _ => ?_⟩
      refine ⟨fun h => absurd h (hne 10 (by decide)), fun _ => ?_⟩
      refine ⟨fun h => absurd h (hne 11 (by decide)), fun _ => ?_⟩
      refine W_why hb hs (ltI (n := 1) (by decide) (by rw [tI_n (by omega)]; omega)) (nI_le (b := 99) (by omega) (by decide)) ?_
      rw [h2]
      refine ⟨fun h => absurd q2 h, fun _ => ?_⟩
      exact H σ n hn h1 h2 h3 h4 _ (fun σ1 A => hp σ1 A)
    · by_cases q : r 169 = 1
      · skip
        obtain ⟨ans, r', g, nn, H⟩ := D_nextDay (z := z) hG
        refine ⟨ans, r', g, nn, fun σ n hn h1 h2 h3 h4 post hp => ?_⟩
        refine w_up hM hM0 hM2 e0 ?_
        intro v5 hv5
        rw [ea] at hv5
        subst hv5
        refine w_up (n := 20) rfl (by decide) (by decide) ek ?_
        intro w hw
        subst hw
        refine ⟨fun h => absurd h (hne 0 (by decide)), fun _ => ?_⟩
        refine ⟨fun h => absurd h (hne 1 (by decide)), fun _ => ?_⟩
        refine ⟨fun h => absurd h (hne 2 (by decide)), fun _ => ?_⟩
        refine ⟨fun h => absurd h (hne 3 (by decide)), fun _ => ?_⟩
        refine ⟨fun h => absurd h (hne 4 (by decide)), fun _ => ?_⟩
        refine ⟨fun h => absurd h (hne 5 (by decide)), fun _ => ?_⟩
        refine ⟨fun h => absurd h (hne 6 (by decide)), fun _ => ?_⟩
        refine ⟨fun h => absurd h (hne 7 (by decide)), fun _ => ?_⟩
        refine ⟨fun h => absurd h (hne 8 (by decide)), fun _ => ?_⟩
        refine ⟨fun h => absurd h (hne 9 (by decide)), fun _ => ?_⟩
        refine ⟨fun h => absurd h (hne 10 (by decide)), fun _ => ?_⟩
        refine ⟨fun h => absurd h (hne 11 (by decide)), fun _ => ?_⟩
        refine W_why hb hs (ltI (n := 1) (by decide) (by rw [tI_n (by omega)]; omega)) (nI_le (b := 99) (by omega) (by decide)) ?_
        rw [h2]
        refine ⟨fun _ => ?_, fun h => absurd h q2⟩
        refine w_countE (m := m) (by rw [h2]; exact hG.o1) (k := 2) (by decide) (v := 1) (by rw [h2]; exact q) ⟨fun h => absurd rfl h, fun _ => ?_⟩
        exact H σ n hn h1 h2 h3 h4 _ (fun σ1 A => hp σ1 A)
      · skip
        obtain ⟨ans, r', g, nn, H⟩ := D_pause (z := z) hG (j := 1) (by omega) (by omega)
        refine ⟨ans, r', g, nn, fun σ n hn h1 h2 h3 h4 post hp => ?_⟩
        refine w_up hM hM0 hM2 e0 ?_
        intro v5 hv5
        rw [ea] at hv5
        subst hv5
        refine w_up (n := 20) rfl (by decide) (by decide) ek ?_
        intro w hw
        subst hw
        refine ⟨fun h => absurd h (hne 0 (by decide)), fun _ => ?_⟩
        refine ⟨fun h => absurd h (hne 1 (by decide)), fun _ => ?_⟩
        refine ⟨fun h => absurd h (hne 2 (by decide)), fun _ => ?_⟩
        refine ⟨fun h => absurd h (hne 3 (by decide)), fun _ => ?_⟩
        refine ⟨fun h => absurd h (hne 4 (by decide)), fun _ => ?_⟩
        refine ⟨fun h => absurd h (hne 5 (by decide)), fun _ => ?_⟩
        refine ⟨fun h => absurd h (hne 6 (by decide)), fun _ => ?_⟩
        refine ⟨fun h => absurd h (hne 7 (by decide)), fun _ => ?_⟩
        refine ⟨fun h => absurd h (hne 8 (by decide)), fun _ => ?_⟩
        refine ⟨fun h => absurd h (hne 9 (by decide)), fun _ => ?_⟩
        refine ⟨fun h => absurd h (hne 10 (by decide)), fun _ => ?_⟩
        refine ⟨fun h => absurd h (hne 11 (by decide)), fun _ => ?_⟩
        refine W_why hb hs (ltI (n := 1) (by decide) (by rw [tI_n (by omega)]; omega)) (nI_le (b := 99) (by omega) (by decide)) ?_
        rw [h2]
        refine ⟨fun _ => ?_, fun h => absurd h q2⟩
        refine w_countE (m := m) (by rw [h2]; exact hG.o1) (k := 2) (by decide) (v := r 169) (by rw [h2]; rfl) ⟨fun _ => ?_, fun h => absurd h q⟩
        exact H σ n hn h1 h2 h3 h4 _ (fun σ1 A => hp σ1 A)
theorem act_ok (hG : G m r) (hZ : G m z) (hm : m ≤ 50) (x y : Int32) : Deed m r z (fun σ post => wp_L_act σ x y post) := by
  obtain ⟨b, hb, eb⟩ := up_ok y (n := 6) (by decide) (by decide)
  obtain ⟨s, hs, es⟩ := up_ok (y >>> (3 &&& 31)) (n := 6) (by decide) (by decide)
  by_cases q : ((y >>> (15 &&& 31)) &&& 1) = 0
  · obtain ⟨k0, hk0, e0⟩ := up_ok (y >>> (6 &&& 31)) (n := 99) (by decide) (by decide)
    obtain ⟨ans, r', g, nn, H⟩ := act38 (t0 := 99) (t1 := y >>> (6 &&& 31)) hG hZ hm x y hb hs (M := 99) rfl (by decide) (by decide) e0 hk0
    refine ⟨ans, r', g, nn, fun σ n hn h1 h2 h3 h4 post hp => ?_⟩
    refine w_up (n := 6) rfl (by decide) (by decide) eb ?_
    refine w_up (n := 6) rfl (by decide) (by decide) es ?_
    exact ⟨fun h => absurd q h, fun _ => H σ n hn h1 h2 h3 h4 _ hp⟩
  · obtain ⟨k0, hk0, e0⟩ := up_ok (y >>> (6 &&& 31)) (n := 40) (by decide) (by decide)
    obtain ⟨ans, r', g, nn, H⟩ := act38 (t0 := 40) (t1 := y >>> (6 &&& 31)) hG hZ hm x y hb hs (M := 40) rfl (by decide) (by decide) e0 (by omega)
    refine ⟨ans, r', g, nn, fun σ n hn h1 h2 h3 h4 post hp => ?_⟩
    refine w_up (n := 6) rfl (by decide) (by decide) eb ?_
    refine w_up (n := 6) rfl (by decide) (by decide) es ?_
    exact ⟨fun _ => H σ n hn h1 h2 h3 h4 _ hp, fun h => absurd h q⟩
end
