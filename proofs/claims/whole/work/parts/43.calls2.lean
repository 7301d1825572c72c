/-! pure part: set, bid, withdraw, pause -/
theorem m_changed {μ : MS} {n : Nat} (hn : n ≤ 6) (hs : m_saved μ = nI n) {idx x : Int32} (j : Nat) (hi : idx = nI j) (hj : j < 1416) {post : Int32 → MS → Prop} (hp : post (m_s (saveM μ n) j) (ms_s (saveM μ n) (upd (m_s (saveM μ n)) j x))) : wp_X5_changed μ idx x post := by
  subst hi
  unfold wp_X5_changed
  refine m_save n hn hs ?_
  rw [nI_clamp (by omega)]
  refine ⟨q_in (by omega) (by decide), ?_⟩
  intro v3 hv3
  refine ⟨q_in (by omega) (by decide), ?_⟩
  intro s3 hs3
  rw [hv3, hs3]; exact hp
theorem set_tail {m : Nat} {σ : CS} {f : Nat → Int64} {μ : MS} {K : KK} (I : Inv m σ μ) (hK : Nx m K) {k : Nat} (hk : k < 3) {x : Int32} (hx : Rng m (162 + k) x.toInt) {P : Int32 → CS → (Nat → Int64) → Prop} (hP : ∀ σ2 f2 v, (∀ Q : Int32 → MS → Prop, (∀ μ2, m_thrown μ2 = 0 → Inv (m + 61) σ2 μ2 → Q v μ2) → wp_X5_changed (ms_thrown μ 0) (12 + nI k) x Q) → f2 = vp_updL f ((0 : Int32)).toNatClampNeg v.toInt64 → P 0 σ2 f2) : wp_X0_save σ (fun σ_2 => wp_X2_get σ_2 162 (nI k) (fun r_3 => wp_X2_put σ_2 162 (nI k) x (fun σ_4 => P 0 σ_4 (vp_updL f ((0 : Int32)).toNatClampNeg r_3.toInt64)))) := by
  obtain ⟨n, hn, hc, hs⟩ := I.n
  refine w_save n hn hc ?_
  have I' := (I.thr 0).save hn hc
  have ht : m_thrown (saveM (ms_thrown μ 0) n) = 0 := saveM_thr _ _
  refine w_get 162 k rfl rfl (by omega) ?_
  refine w_put 162 k rfl rfl (by omega) ?_
  refine hP _ _ _ (fun Q hQ => ?_) rfl
  refine m_changed (μ := ms_thrown μ 0) (n := n) hn hs (12 + k) (nI_add 12 k) (by omega) ?_
  have e := I'.R.P _ _ (PI_set hk)
  rw [e]
  refine hQ _ ht ?_
  exact (I'.deed (Nat.le_refl _) (I'.R.one (PI_set hk) (by omega) hx) (fun j hj => pk_un (by omega))).mono (Nat.le_add_right _ _)
theorem case_2 {m L : Nat} {xs : Nat → Int32} {σ : CS} {f : Nat → Int64} {μ : MS} {v4 : Int32} {K : KK} (A : Args L v4) (I : Inv m σ μ) (hK : Nx m K) : wpl_2 L xs σ f μ v4 K := by
  refine ⟨A.1, A.2.1, ?_⟩
  generalize xs (v4 + 1).toNatClampNeg = a
  generalize xs (v4 + 2).toNatClampNeg = x
  unfold wp_L_set wp_X4_set
  by_cases ha : a < 0 ∨ ¬ a < 3
  · refine cP_bad ha (Or.inl ⟨rfl, A.1, A.2.1, ?_⟩)
    have ha2 : a < 0 ∨ 2 < a := by
      rcases ha with h | h
      · exact Or.inl h
      · refine Or.inr ?_
        rw [tI_lt, show (3 : Int32).toInt = 3 from by decide] at h
        rw [tI_lt, show (2 : Int32).toInt = 2 from by decide]
        omega
    refine m_in0 ha2 ⟨fun h => absurd rfl h, fun _ => ?_⟩
    exact m_holdsN z1 ⟨fun _ => bad I hK z1, fun h => absurd rfl h⟩
  · obtain ⟨k, hk, rfl⟩ := q_of (p := a) (M := 3) 3 rfl (by decide) (fun h => ha (Or.inl h)) (Classical.byContradiction fun h => ha (Or.inr h))
    refine cP_N (n := 3) rfl hk (by decide) ?_
    have hin : ∀ {post : Int32 → Prop}, post 1 → wp_X5_in (nI k) 0 2 post := fun hp => m_in1 (nI_pos (by omega)) (nI_nlt (a := 2) (by omega) (by omega)) hp
    intro w hw
    subst hw
    have hne : ∀ j : Nat, j < 3 → k ≠ j → ¬ nI k = nI j := fun j hj h q => h ((nI_eq (by omega) (by omega)).mp q)
    have hb9 : (9 : Int32).toInt = 9 := by decide
    have hb20 : (20 : Int32).toInt = 20 := by decide
    have hb50 : (50 : Int32).toInt = 50 := by decide
    refine ⟨fun h => ?_, fun h => ⟨fun h2 => ?_, fun h2 => ?_⟩⟩
    · have ek : k = 0 := (nI_eq (b := 0) (by omega) (by omega)).mp h
      rcases rg x 0 20 with hb | ⟨hb1, hb2⟩
      · refine cR_bad hb (Or.inr ⟨rfl, A.1, A.2.1, ?_⟩)
        refine hin ⟨fun _ => ⟨fun q => absurd h q, fun _ => ?_⟩, fun h => absurd h (by decide)⟩
        refine m_in0 (rgm hb) ⟨fun h => absurd rfl h, fun _ => ?_⟩
        exact m_holdsN z2 ⟨fun _ => bad I hK z2, fun h => absurd rfl h⟩
      · refine cR_ok hb1 hb2 ?_
        have hbt := rgt hb1 hb2
        rw [tI0, hb20] at hbt
        refine set_tail (f := f) I hK hk (x := x) (by unfold Rng; omega) (P := fun r_1 σ_2 f_3 => vp_in (v4 + 1) L ∧ vp_in (v4 + 2) L ∧ wp_X5_set μ (nI k) x (fun r_4 μ_5 => wp_X5_thrown μ_5 (fun r_6 => ((r_6 = r_1 → ((¬ r_1 = 0 → K σ_2 f_3 μ_5) ∧ (r_1 = 0 → (((lg_cmp (f_3 ((0 : Int32)).toNatClampNeg) (r_4).toInt64) = 0 → K σ_2 f_3 μ_5) ∧ (¬ (lg_cmp (f_3 ((0 : Int32)).toNatClampNeg) (r_4).toInt64) = 0 → False))))) ∧ (¬ r_6 = r_1 → False))))) (fun σ2 f2 v hch hf2 => ⟨A.1, A.2.1, ?_⟩)
        refine hin ⟨fun _ => ⟨fun q => absurd h q, fun _ => ?_⟩, fun h => absurd h (by decide)⟩
        refine m_in1 hb1 (rgn hb2) ⟨fun _ => ?_, fun h => absurd h (by decide)⟩
        refine m_holds0 ⟨fun h => absurd h (by decide), fun _ => ?_⟩
        refine hch _ (fun μ2 ht I2 => ?_)
        subst hf2
        exact fin0 ht (hK _ _ _ I2)
    · have ek : k = 1 := (nI_eq (b := 1) (by omega) (by omega)).mp h2
      rcases rg x 0 9 with hb | ⟨hb1, hb2⟩
      · refine cR_bad hb (Or.inr ⟨rfl, A.1, A.2.1, ?_⟩)
        refine hin ⟨fun _ => ⟨fun _ => ⟨fun q => absurd h2 q, fun _ => ?_⟩, fun q => absurd q h⟩, fun h => absurd h (by decide)⟩
        refine m_in0 (rgm hb) ⟨fun h => absurd rfl h, fun _ => ?_⟩
        exact m_holdsN z2 ⟨fun _ => bad I hK z2, fun h => absurd rfl h⟩
      · refine cR_ok hb1 hb2 ?_
        have hbt := rgt hb1 hb2
        rw [tI0, hb9] at hbt
        refine set_tail (f := f) I hK hk (x := x) (by unfold Rng; omega) (P := fun r_1 σ_2 f_3 => vp_in (v4 + 1) L ∧ vp_in (v4 + 2) L ∧ wp_X5_set μ (nI k) x (fun r_4 μ_5 => wp_X5_thrown μ_5 (fun r_6 => ((r_6 = r_1 → ((¬ r_1 = 0 → K σ_2 f_3 μ_5) ∧ (r_1 = 0 → (((lg_cmp (f_3 ((0 : Int32)).toNatClampNeg) (r_4).toInt64) = 0 → K σ_2 f_3 μ_5) ∧ (¬ (lg_cmp (f_3 ((0 : Int32)).toNatClampNeg) (r_4).toInt64) = 0 → False))))) ∧ (¬ r_6 = r_1 → False))))) (fun σ2 f2 v hch hf2 => ⟨A.1, A.2.1, ?_⟩)
        refine hin ⟨fun _ => ⟨fun _ => ⟨fun q => absurd h2 q, fun _ => ?_⟩, fun q => absurd q h⟩, fun h => absurd h (by decide)⟩
        refine m_in1 hb1 (rgn hb2) ⟨fun _ => ?_, fun h => absurd h (by decide)⟩
        refine m_holds0 ⟨fun h => absurd h (by decide), fun _ => ?_⟩
        refine hch _ (fun μ2 ht I2 => ?_)
        subst hf2
        exact fin0 ht (hK _ _ _ I2)
    · have ek0 : k ≠ 0 := fun q => h (by rw [q]; rfl)
      have ek1 : k ≠ 1 := fun q => h2 (by rw [q]; rfl)
      have ek : k = 2 := by omega
      rcases rg x 0 50 with hb | ⟨hb1, hb2⟩
      · refine cR_bad hb (Or.inr ⟨rfl, A.1, A.2.1, ?_⟩)
        refine hin ⟨fun _ => ⟨fun _ => ⟨fun _ => ?_, fun q => absurd q h2⟩, fun q => absurd q h⟩, fun h => absurd h (by decide)⟩
        refine m_in0 (rgm hb) ⟨fun h => absurd rfl h, fun _ => ?_⟩
        exact m_holdsN z2 ⟨fun _ => bad I hK z2, fun h => absurd rfl h⟩
      · refine cR_ok hb1 hb2 ?_
        have hbt := rgt hb1 hb2
        rw [tI0, hb50] at hbt
        refine set_tail (f := f) I hK hk (x := x) (by unfold Rng; omega) (P := fun r_1 σ_2 f_3 => vp_in (v4 + 1) L ∧ vp_in (v4 + 2) L ∧ wp_X5_set μ (nI k) x (fun r_4 μ_5 => wp_X5_thrown μ_5 (fun r_6 => ((r_6 = r_1 → ((¬ r_1 = 0 → K σ_2 f_3 μ_5) ∧ (r_1 = 0 → (((lg_cmp (f_3 ((0 : Int32)).toNatClampNeg) (r_4).toInt64) = 0 → K σ_2 f_3 μ_5) ∧ (¬ (lg_cmp (f_3 ((0 : Int32)).toNatClampNeg) (r_4).toInt64) = 0 → False))))) ∧ (¬ r_6 = r_1 → False))))) (fun σ2 f2 v hch hf2 => ⟨A.1, A.2.1, ?_⟩)
        refine hin ⟨fun _ => ⟨fun _ => ⟨fun _ => ?_, fun q => absurd q h2⟩, fun q => absurd q h⟩, fun h => absurd h (by decide)⟩
        refine m_in1 hb1 (rgn hb2) ⟨fun _ => ?_, fun h => absurd h (by decide)⟩
        refine m_holds0 ⟨fun h => absurd h (by decide), fun _ => ?_⟩
        refine hch _ (fun μ2 ht I2 => ?_)
        subst hf2
        exact fin0 ht (hK _ _ _ I2)
theorem rWhyN_nat (r : Nat → Int32) (b s : Nat) (x : Int32) : rWhyN r b s x = 0 ∨ (¬ rWhyN r b s x = 0 ∧ ¬ rWhyN r b s x ≤ 0) := by
  have : rWhyN r b s x = 0 ∨ rWhyN r b s x = 1 ∨ rWhyN r b s x = 2 ∨ rWhyN r b s x = 3 ∨ rWhyN r b s x = 4 := by
    unfold rWhyN
    by_cases h1 : r 169 = 0
    · rw [if_pos h1]
      by_cases h2 : r (54 + (b * 6 + s)) = 0
      · rw [if_pos h2]
        by_cases h3 : r s ≤ x
        · rw [if_pos h3]
          by_cases h4 : x ≤ r (30 + b)
          · rw [if_pos h4]; exact Or.inl rfl
          · rw [if_neg h4]; exact Or.inr (Or.inr (Or.inr (Or.inr rfl)))
        · rw [if_neg h3]; exact Or.inr (Or.inr (Or.inr (Or.inl rfl)))
      · rw [if_neg h2]; exact Or.inr (Or.inr (Or.inl rfl))
    · rw [if_neg h1]; exact Or.inr (Or.inl rfl)
  rcases this with h | h | h | h | h
  · exact Or.inl h
  all_goals exact Or.inr ⟨by rw [h]; decide, by rw [h]; decide⟩
theorem rWhyW_nat (r : Nat → Int32) (b s : Nat) : rWhyW r b s = 0 ∨ (¬ rWhyW r b s = 0 ∧ ¬ rWhyW r b s ≤ 0) := by
  have : rWhyW r b s = 0 ∨ rWhyW r b s = 1 ∨ rWhyW r b s = 2 ∨ rWhyW r b s = 3 := by
    unfold rWhyW
    by_cases h1 : r 169 = 0
    · rw [if_pos h1]
      by_cases h2 : r (54 + (b * 6 + s)) = 0
      · rw [if_pos h2]; exact Or.inr (Or.inr (Or.inl rfl))
      · rw [if_neg h2]
        by_cases h3 : rFee r b s ≤ r (30 + b)
        · rw [if_pos h3]; exact Or.inl rfl
        · rw [if_neg h3]; exact Or.inr (Or.inr (Or.inr rfl))
    · rw [if_neg h1]; exact Or.inr (Or.inl rfl)
  rcases this with h | h | h | h
  · exact Or.inl h
  all_goals exact Or.inr ⟨by rw [h]; decide, by rw [h]; decide⟩
theorem tSeal_out {t r : Nat → Int32} {b s j : Nat} {x : Int32} (hb : b < 6) (hs : s < 6) (hj : 177 ≤ j) : tSeal t r b s x j = t j := by
  unfold tSeal
  (repeat (first | rw [pk_us] | rw [pk_un (by omega)]))
theorem tTake_out {t r : Nat → Int32} {b s j : Nat} (hb : b < 6) (hs : s < 6) (hj : 177 ≤ j) : tTake t r b s j = t j := by
  unfold tTake
  (repeat (first | rw [pk_us] | rw [pk_un (by omega)]))
theorem case_3 {m L : Nat} {xs : Nat → Int32} {σ : CS} {f : Nat → Int64} {μ : MS} {v4 : Int32} {K : KK} (hm : m ≤ 100000) (A : Args L v4) (I : Inv m σ μ) (hK : Nx m K) : wpl_3 L xs σ f μ v4 K := by
  refine ⟨A.1, A.2.1, A.2.2.1, ?_⟩
  generalize xs (v4 + 1).toNatClampNeg = a
  generalize xs (v4 + 2).toNatClampNeg = c
  generalize xs (v4 + 3).toNatClampNeg = x
  unfold wp_L_bid wp_X4_bid
  rcases pl6 a with ha | ⟨b, hb, rfl⟩
  · refine cP_bad ha (Or.inl ⟨rfl, A.1, A.2.1, A.2.2.1, ?_⟩)
    refine m_isOne0 (pl6m ha) ⟨fun _ => ?_, fun h => absurd rfl h⟩
    exact m_holdsN z1 ⟨fun h => absurd rfl h, fun _ => bad I hK z1⟩
  · refine cP_N rfl hb (by decide) ?_
    rcases pl6 c with ha | ⟨s, hs, rfl⟩
    · refine cP_bad ha (Or.inl ⟨rfl, A.1, A.2.1, A.2.2.1, ?_⟩)
      refine m_isOneN b hb ⟨fun h => absurd h (by decide), fun _ => ?_⟩
      refine m_isOne0 (pl6m ha) ⟨fun _ => ?_, fun h => absurd rfl h⟩
      exact m_holdsN z1 ⟨fun h => absurd rfl h, fun _ => bad I hK z1⟩
    · refine cP_N rfl hs (by decide) ?_
      rcases rg x 1 99 with hx | ⟨hx1, hx2⟩
      · refine cR_bad hx (Or.inr (Or.inl ⟨rfl, A.1, A.2.1, A.2.2.1, ?_⟩))
        refine m_isOneN b hb ⟨fun h => absurd h (by decide), fun _ => ?_⟩
        refine m_isOneN s hs ⟨fun h => absurd h (by decide), fun _ => ?_⟩
        refine m_isAmount0 (rgm hx) ⟨fun h => absurd rfl h, fun _ => ?_⟩
        exact m_holdsN z2 ⟨fun h => absurd rfl h, fun _ => bad I hK z2⟩
      · refine cR_ok hx1 hx2 ?_
        have hbt := rgt hx1 hx2
        rw [tI1, show (99 : Int32).toInt = 99 from by decide] at hbt
        refine w_whyNotSealed b s x hb hs ?_
        rcases rWhyN_nat (c_row σ) b s x with h0 | ⟨h0, h1⟩
        · refine ⟨fun h => absurd h0 h, fun _ => cS_1 ?_⟩
          obtain ⟨n, hn, hc, hsv⟩ := I.n
          refine w_save n hn hc ?_
          have I' := (I.thr 0).save hn hc
          have ht : m_thrown (saveM (ms_thrown μ 0) n) = 0 := saveM_thr _ _
          refine w_sealBid b s x hb hs ?_
          refine ⟨A.1, A.2.1, A.2.2.1, ?_⟩
          refine m_isOneN b hb ⟨fun h => absurd h (by decide), fun _ => ?_⟩
          refine m_isOneN s hs ⟨fun h => absurd h (by decide), fun _ => ?_⟩
          refine m_isAmount1 hx1 (rgn hx2) ⟨fun _ => ?_, fun h => absurd h (by decide)⟩
          refine m_reason I.R b s x hb hs ?_
          rw [h0]
          refine ⟨fun _ => ?_, fun h => absurd (by decide) h⟩
          refine m_holds0 ⟨fun _ => ?_, fun h => absurd h (by decide)⟩
          refine m_save (μ := ms_thrown μ 0) n hn hsv ?_
          generalize saveC σ n = σ2 at *
          generalize saveM (ms_thrown μ 0) n = μ2 at *
          refine m_seals I'.R b s x hb hs ?_
          refine fin0 ht (hK _ _ _ ?_)
          exact (I'.deed (Nat.le_succ m) (rl_seal I'.R (by omega) hb hs hbt.1 hbt.2) (fun j hj => tSeal_out hb hs hj)).mono (by omega)
        · refine ⟨fun _ => cS_0 ?_, fun h => absurd h h0⟩
          refine Or.inr (Or.inr ⟨rfl, A.1, A.2.1, A.2.2.1, ?_⟩)
          refine m_isOneN b hb ⟨fun h => absurd h (by decide), fun _ => ?_⟩
          refine m_isOneN s hs ⟨fun h => absurd h (by decide), fun _ => ?_⟩
          refine m_isAmount1 hx1 (rgn hx2) ⟨fun _ => ?_, fun h => absurd h (by decide)⟩
          refine m_reason I.R b s x hb hs ?_
          refine ⟨fun h => absurd h h1, fun _ => ?_⟩
          exact m_holdsN z3 ⟨fun h => absurd rfl h, fun _ => bad I hK z3⟩
theorem case_4 {m L : Nat} {xs : Nat → Int32} {σ : CS} {f : Nat → Int64} {μ : MS} {v4 : Int32} {K : KK} (A : Args L v4) (I : Inv m σ μ) (hK : Nx m K) : wpl_4 L xs σ f μ v4 K := by
  refine ⟨A.1, A.2.1, ?_⟩
  generalize xs (v4 + 1).toNatClampNeg = a
  generalize xs (v4 + 2).toNatClampNeg = c
  unfold wp_L_withdraw wp_X4_withdraw
  rcases pl6 a with ha | ⟨b, hb, rfl⟩
  · refine cP_bad ha (Or.inl ⟨rfl, A.1, A.2.1, ?_⟩)
    refine m_isOne0 (pl6m ha) ⟨fun _ => ?_, fun h => absurd rfl h⟩
    exact m_holdsN z1 ⟨fun h => absurd rfl h, fun _ => bad I hK z1⟩
  · refine cP_N rfl hb (by decide) ?_
    rcases pl6 c with ha | ⟨s, hs, rfl⟩
    · refine cP_bad ha (Or.inl ⟨rfl, A.1, A.2.1, ?_⟩)
      refine m_isOneN b hb ⟨fun h => absurd h (by decide), fun _ => ?_⟩
      refine m_isOne0 (pl6m ha) ⟨fun _ => ?_, fun h => absurd rfl h⟩
      exact m_holdsN z1 ⟨fun h => absurd rfl h, fun _ => bad I hK z1⟩
    · refine cP_N rfl hs (by decide) ?_
      refine w_whyNotWithdrawn b s hb hs ?_
      rcases rWhyW_nat (c_row σ) b s with h0 | ⟨h0, h1⟩
      · refine ⟨fun h => absurd h0 h, fun _ => cS_1 ?_⟩
        obtain ⟨n, hn, hc, hsv⟩ := I.n
        refine w_save n hn hc ?_
        have I' := (I.thr 0).save hn hc
        have ht : m_thrown (saveM (ms_thrown μ 0) n) = 0 := saveM_thr _ _
        have er : c_row (saveC σ n) = c_row σ := saveC_row σ n
        refine w_takeBack b s hb hs ?_
        refine ⟨A.1, A.2.1, ?_⟩
        refine m_isOneN b hb ⟨fun h => absurd h (by decide), fun _ => ?_⟩
        refine m_isOneN s hs ⟨fun h => absurd h (by decide), fun _ => ?_⟩
        refine m_whyKept I.R b s hb hs ?_
        rw [h0]
        refine ⟨fun _ => ?_, fun h => absurd (by decide) h⟩
        refine m_holds0 ⟨fun _ => ?_, fun h => absurd h (by decide)⟩
        refine m_save (μ := ms_thrown μ 0) n hn hsv ?_
        rw [← er] at h0
        generalize saveC σ n = σ2 at *
        generalize saveM (ms_thrown μ 0) n = μ2 at *
        have hbid : ¬ c_row σ2 (54 + (b * 6 + s)) = 0 := fun e => by
          unfold rWhyW at h0
          by_cases q : c_row σ2 169 = 0
          · rw [if_pos q, if_pos e] at h0; exact absurd h0 (by decide)
          · rw [if_neg q] at h0; exact absurd h0 (by decide)
        refine m_withdraws I'.R b s hb hs hbid ?_
        refine fin0 ht (hK _ _ _ ?_)
        exact (I'.deed (Nat.le_succ m) (rl_take I'.R hb hs h0) (fun j hj => tTake_out hb hs hj)).mono (by omega)
      · refine ⟨fun _ => cS_0 ?_, fun h => absurd h h0⟩
        refine Or.inr ⟨rfl, A.1, A.2.1, ?_⟩
        refine m_isOneN b hb ⟨fun h => absurd h (by decide), fun _ => ?_⟩
        refine m_isOneN s hs ⟨fun h => absurd h (by decide), fun _ => ?_⟩
        refine m_whyKept I.R b s hb hs ?_
        refine ⟨fun h => absurd h h1, fun _ => ?_⟩
        exact m_holdsN z2 ⟨fun h => absurd rfl h, fun _ => bad I hK z2⟩
theorem case_5 {m L : Nat} {xs : Nat → Int32} {σ : CS} {f : Nat → Int64} {μ : MS} {v4 : Int32} {K : KK} (A : Args L v4) (I : Inv m σ μ) (hK : Nx m K) : wpl_5 L xs σ f μ v4 K := by
  refine ⟨A.1, ?_⟩
  generalize xs (v4 + 1).toNatClampNeg = x
  unfold wp_L_pause wp_X4_pause
  rcases rg x 1 23 with hx | ⟨hx1, hx2⟩
  · refine cR_bad hx ⟨rfl, A.1, ?_⟩
    refine m_in0 (rgm hx) ⟨fun _ => ?_, fun h => absurd rfl h⟩
    exact m_holdsN z1 ⟨fun h => absurd rfl h, fun _ => bad I hK z1⟩
  · refine cR_ok hx1 hx2 ?_
    have hbt := rgt hx1 hx2
    rw [tI1, show (23 : Int32).toInt = 23 from by decide] at hbt
    obtain ⟨n, hn, hc, hsv⟩ := I.n
    refine w_save n hn hc ?_
    have I' := (I.thr 0).save hn hc
    have ht : m_thrown (saveM (ms_thrown μ 0) n) = 0 := saveM_thr _ _
    refine w_passHours x ?_
    refine ⟨A.1, ?_⟩
    refine m_in1 hx1 (rgn hx2) ⟨fun h => absurd h (by decide), fun _ => ?_⟩
    refine m_holds0 ⟨fun _ => ?_, fun h => absurd h (by decide)⟩
    refine m_save (μ := ms_thrown μ 0) n hn hsv ?_
    generalize saveC σ n = σ2 at *
    generalize saveM (ms_thrown μ 0) n = μ2 at *
    refine m_pauses I'.R x ?_
    refine fin0 ht (hK _ _ _ ?_)
    exact (I'.deed (Nat.le_succ m) (rl_hour I'.R hbt.1 hbt.2) (fun j hj => pk_un (by omega))).mono (by omega)
