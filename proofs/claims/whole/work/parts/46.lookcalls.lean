/-! pure part: the calls that only look -/
theorem nm (p : Int32) (n : Nat) (M : Int32) (hM : M = nI n) (hn : n < 2147483647) : (p < 0 ∨ ¬ p ≤ M) ∨ ∃ k, k ≤ n ∧ p = nI k := by
  subst hM; exact num_or p n hn
theorem in_ok {k n : Nat} {M : Int32} (hM : M = nI n) (h : k ≤ n) (hn : n < 2147483647) {post : Int32 → Prop} (hp : post 1) : wp_X5_in (nI k) 0 M post := by
  subst hM; exact m_in1 (nI_pos (by omega)) (nI_nlt (by omega) (by omega)) hp
theorem cR_N {σ : CS} {k n : Nat} {M : Int32} {post : Prop} {px : String → Prop} (hM : M = nI n) (h : k ≤ n) (hn : n < 2147483648) (hp : post) : wp_X4_needRange σ (nI k) 0 M post px := cR_ok (nI_pos (by omega)) (by rw [hM]; exact nI_le h (by omega)) hp
theorem thrs (μ : MS) (k : Int32) : m_s (ms_thrown μ k) = m_s μ := rfl
section
variable {m L : Nat} {xs : Nat → Int32} {σ : CS} {f : Nat → Int64} {μ : MS} {v4 : Int32} {K : KK}
theorem ok0 (I : Inv m σ μ) (hK : Nx m K) {r4 : Int32} : wp_X5_thrown (ms_thrown μ 0) (fun r_6 => ((r_6 = 0 → ((¬ (0 : Int32) = 0 → K σ (vp_updL f ((0 : Int32)).toNatClampNeg (r4).toInt64) (ms_thrown μ 0)) ∧ ((0 : Int32) = 0 → (((lg_cmp (vp_updL f ((0 : Int32)).toNatClampNeg (r4).toInt64 ((0 : Int32)).toNatClampNeg) (r4).toInt64) = 0 → K σ (vp_updL f ((0 : Int32)).toNatClampNeg (r4).toInt64) (ms_thrown μ 0)) ∧ (¬ (lg_cmp (vp_updL f ((0 : Int32)).toNatClampNeg (r4).toInt64 ((0 : Int32)).toNatClampNeg) (r4).toInt64) = 0 → False))))) ∧ (¬ r_6 = 0 → False))) :=
  fin0 rfl (hK _ _ _ ((I.thr 0).mono (Nat.le_add_right _ _)))
theorem case_16 (A : Args L v4) (I : Inv m σ μ) (hK : Nx m K) : wpl_16 L xs σ f μ v4 K := by
  refine ⟨A.1, A.2.1, ?_⟩
  generalize xs (v4 + 1).toNatClampNeg = a
  generalize xs (v4 + 2).toNatClampNeg = x
  unfold wp_L_spot
  rcases pl6 a with ha | ⟨s, hs, rfl⟩
  · unfold wp_X4_spot
    refine cP_bad ha (Or.inl ⟨rfl, A.1, A.2.1, ?_⟩)
    refine m_isOne0 (pl6m ha) ⟨fun h => absurd rfl h, fun _ => ?_⟩
    exact m_holdsN z1 ⟨fun _ => bad I hK z1, fun h => absurd rfl h⟩
  · rcases nm x 5 5 rfl (by decide) with hx | ⟨k, hk, rfl⟩
    · refine w_spotBad s x hs hx (Or.inr ⟨rfl, A.1, A.2.1, ?_⟩)
      refine m_isOneN s hs ⟨fun _ => ?_, fun h => absurd h (by decide)⟩
      refine m_in0 (rgm hx) ⟨fun h => absurd rfl h, fun _ => ?_⟩
      exact m_holdsN z2 ⟨fun _ => bad I hK z2, fun h => absurd rfl h⟩
    · refine w_spot s k hs hk ⟨A.1, A.2.1, ?_⟩
      refine m_isOneN s hs ⟨fun _ => ?_, fun h => absurd h (by decide)⟩
      refine in_ok (n := 5) rfl hk (by decide) ⟨fun _ => ?_, fun h => absurd h (by decide)⟩
      refine m_holds0 ⟨fun h => absurd h (by decide), fun _ => ?_⟩
      refine m_ofSpot (I.thr 0).R s k hs hk ?_
      exact ok0 I hK
theorem case_17 (A : Args L v4) (I : Inv m σ μ) (hK : Nx m K) : wpl_17 L xs σ f μ v4 K := by
  refine ⟨A.1, A.2.1, ?_⟩
  generalize xs (v4 + 1).toNatClampNeg = a
  generalize xs (v4 + 2).toNatClampNeg = x
  unfold wp_L_bidder
  rcases pl6 a with ha | ⟨s, hs, rfl⟩
  · unfold wp_X4_bidder
    refine cP_bad ha (Or.inl ⟨rfl, A.1, A.2.1, ?_⟩)
    refine m_isOne0 (pl6m ha) ⟨fun h => absurd rfl h, fun _ => ?_⟩
    exact m_holdsN z1 ⟨fun _ => bad I hK z1, fun h => absurd rfl h⟩
  · rcases nm x 5 5 rfl (by decide) with hx | ⟨k, hk, rfl⟩
    · refine w_bidderBad s x hs hx (Or.inr ⟨rfl, A.1, A.2.1, ?_⟩)
      refine m_isOneN s hs ⟨fun _ => ?_, fun h => absurd h (by decide)⟩
      refine m_in0 (rgm hx) ⟨fun h => absurd rfl h, fun _ => ?_⟩
      exact m_holdsN z2 ⟨fun _ => bad I hK z2, fun h => absurd rfl h⟩
    · refine w_bidder s k hs hk ⟨A.1, A.2.1, ?_⟩
      refine m_isOneN s hs ⟨fun _ => ?_, fun h => absurd h (by decide)⟩
      refine in_ok (n := 5) rfl hk (by decide) ⟨fun _ => ?_, fun h => absurd h (by decide)⟩
      refine m_holds0 ⟨fun h => absurd h (by decide), fun _ => ?_⟩
      refine m_ofBidder (I.thr 0).R s k hs hk ?_
      exact ok0 I hK
theorem case_18 (A : Args L v4) (I : Inv m σ μ) (hK : Nx m K) : wpl_18 L xs σ f μ v4 K := by
  refine ⟨A.1, A.2.1, A.2.2.1, ?_⟩
  generalize xs (v4 + 1).toNatClampNeg = a
  generalize xs (v4 + 2).toNatClampNeg = c
  generalize xs (v4 + 3).toNatClampNeg = x
  unfold wp_L_sealed
  rcases pl6 a with ha | ⟨b, hb, rfl⟩
  · unfold wp_X4_sealed
    refine cP_bad ha (Or.inl ⟨rfl, A.1, A.2.1, A.2.2.1, ?_⟩)
    refine m_isOne0 (pl6m ha) ⟨fun _ => ?_, fun h => absurd rfl h⟩
    exact m_holdsN z1 ⟨fun _ => bad I hK z1, fun h => absurd rfl h⟩
  · rcases pl6 c with ha | ⟨s, hs, rfl⟩
    · unfold wp_X4_sealed
      refine cP_N rfl hb (by decide) ?_
      refine cP_bad ha (Or.inl ⟨rfl, A.1, A.2.1, A.2.2.1, ?_⟩)
      refine m_isOneN b hb ⟨fun h => absurd h (by decide), fun _ => ?_⟩
      refine m_isOne0 (pl6m ha) ⟨fun _ => ?_, fun h => absurd rfl h⟩
      exact m_holdsN z1 ⟨fun _ => bad I hK z1, fun h => absurd rfl h⟩
    · rcases nm x 4 4 rfl (by decide) with hx | ⟨k, hk, rfl⟩
      · unfold wp_X4_sealed
        refine cP_N rfl hb (by decide) ?_
        refine cP_N rfl hs (by decide) ?_
        refine cR_bad hx (Or.inr ⟨rfl, A.1, A.2.1, A.2.2.1, ?_⟩)
        refine m_isOneN b hb ⟨fun h => absurd h (by decide), fun _ => ?_⟩
        refine m_isOneN s hs ⟨fun h => absurd h (by decide), fun _ => ?_⟩
        refine m_in0 (rgm hx) ⟨fun h => absurd rfl h, fun _ => ?_⟩
        exact m_holdsN z2 ⟨fun _ => bad I hK z2, fun h => absurd rfl h⟩
      · refine w_sealed b s k hb hs hk ⟨A.1, A.2.1, A.2.2.1, ?_⟩
        refine m_isOneN b hb ⟨fun h => absurd h (by decide), fun _ => ?_⟩
        refine m_isOneN s hs ⟨fun h => absurd h (by decide), fun _ => ?_⟩
        refine in_ok (n := 4) rfl hk (by decide) ⟨fun _ => ?_, fun h => absurd h (by decide)⟩
        refine m_holds0 ⟨fun h => absurd h (by decide), fun _ => ?_⟩
        refine m_ofBid (I.thr 0).R b s k hb hs hk ?_
        exact ok0 I hK
theorem case_19 (A : Args L v4) (I : Inv m σ μ) (hK : Nx m K) : wpl_19 L xs σ f μ v4 K := by
  refine ⟨A.1, ?_⟩
  generalize xs (v4 + 1).toNatClampNeg = x
  unfold wp_L_count
  rcases nm x 14 14 rfl (by decide) with hx | ⟨k, hk, rfl⟩
  · refine w_countBad x hx ⟨rfl, A.1, ?_⟩
    refine m_in0 (rgm hx) ⟨fun _ => ?_, fun h => absurd rfl h⟩
    exact m_holdsN z1 ⟨fun _ => bad I hK z1, fun h => absurd rfl h⟩
  · refine w_count I.R.o1 k hk ⟨A.1, ?_⟩
    refine in_ok (n := 14) rfl hk (by decide) ⟨fun h => absurd h (by decide), fun _ => ?_⟩
    refine m_holds0 ⟨fun h => absurd h (by decide), fun _ => ?_⟩
    obtain ⟨n, hn, hc, hs⟩ := I.n
    have e : m_saved (ms_thrown μ 0) = c_saved σ := by rw [hc]; exact hs
    refine m_counted (I.thr 0).R k hk ?_
    rw [e]
    exact ok0 I hK
theorem case_20 (A : Args L v4) (I : Inv m σ μ) (hK : Nx m K) : wpl_20 L xs σ f μ v4 K := by
  refine ⟨A.1, ?_⟩
  generalize xs (v4 + 1).toNatClampNeg = a
  unfold wp_L_setting
  by_cases ha : a < 0 ∨ ¬ a < 3
  · unfold wp_X4_setting
    refine cP_bad ha ⟨rfl, A.1, ?_⟩
    have ha2 : a < 0 ∨ 2 < a := by
      rcases ha with h | h
      · exact Or.inl h
      · refine Or.inr ?_
        rw [tI_lt, show (3 : Int32).toInt = 3 from by decide] at h
        rw [tI_lt, show (2 : Int32).toInt = 2 from by decide]
        omega
    refine m_in0 ha2 ⟨fun _ => ?_, fun h => absurd rfl h⟩
    exact m_holdsN z1 ⟨fun _ => bad I hK z1, fun h => absurd rfl h⟩
  · obtain ⟨k, hk, rfl⟩ := q_of (p := a) (M := 3) 3 rfl (by decide) (fun h => ha (Or.inl h)) (Classical.byContradiction fun h => ha (Or.inr h))
    refine w_setting k hk ⟨A.1, ?_⟩
    refine in_ok (n := 2) rfl (by omega) (by decide) ⟨fun h => absurd h (by decide), fun _ => ?_⟩
    refine m_holds0 ⟨fun h => absurd h (by decide), fun _ => ?_⟩
    have e12 : (12 : Int32) + nI k = nI (12 + k) := nI_add 12 k
    rw [e12, nI_clamp (by omega)]
    have ev := (I.thr 0).R.P _ _ (PI_set hk)
    rw [ev]
    exact ⟨q_in (by omega) (by decide), ok0 I hK⟩
theorem case_21 (A : Args L v4) (I : Inv m σ μ) (hK : Nx m K) : wpl_21 L xs σ f μ v4 K := by
  refine ⟨A.1, A.2.1, A.2.2.1, ?_⟩
  generalize xs (v4 + 1).toNatClampNeg = a
  generalize xs (v4 + 2).toNatClampNeg = c
  generalize xs (v4 + 3).toNatClampNeg = x
  unfold wp_L_why wp_X4_why
  rcases pl6 a with ha | ⟨b, hb, rfl⟩
  · refine cP_bad ha (Or.inl ⟨rfl, A.1, A.2.1, A.2.2.1, ?_⟩)
    refine m_isOne0 (pl6m ha) ⟨fun _ => ?_, fun h => absurd rfl h⟩
    exact m_holdsN z1 ⟨fun _ => bad I hK z1, fun h => absurd rfl h⟩
  · refine cP_N rfl hb (by decide) ?_
    rcases pl6 c with ha | ⟨s, hs, rfl⟩
    · refine cP_bad ha (Or.inl ⟨rfl, A.1, A.2.1, A.2.2.1, ?_⟩)
      refine m_isOneN b hb ⟨fun h => absurd h (by decide), fun _ => ?_⟩
      refine m_isOne0 (pl6m ha) ⟨fun _ => ?_, fun h => absurd rfl h⟩
      exact m_holdsN z1 ⟨fun _ => bad I hK z1, fun h => absurd rfl h⟩
    · refine cP_N rfl hs (by decide) ?_
      rcases rg x 1 99 with hx | ⟨hx1, hx2⟩
      · refine cR_bad hx (Or.inr ⟨rfl, A.1, A.2.1, A.2.2.1, ?_⟩)
        refine m_isOneN b hb ⟨fun h => absurd h (by decide), fun _ => ?_⟩
        refine m_isOneN s hs ⟨fun h => absurd h (by decide), fun _ => ?_⟩
        refine m_isAmount0 (rgm hx) ⟨fun h => absurd rfl h, fun _ => ?_⟩
        exact m_holdsN z2 ⟨fun _ => bad I hK z2, fun h => absurd rfl h⟩
      · refine cR_ok hx1 hx2 ?_
        refine w_whyNotSealed b s x hb hs ⟨A.1, A.2.1, A.2.2.1, ?_⟩
        refine m_isOneN b hb ⟨fun h => absurd h (by decide), fun _ => ?_⟩
        refine m_isOneN s hs ⟨fun h => absurd h (by decide), fun _ => ?_⟩
        refine m_isAmount1 hx1 (rgn hx2) ⟨fun _ => ?_, fun h => absurd h (by decide)⟩
        refine m_holds0 ⟨fun h => absurd h (by decide), fun _ => ?_⟩
        refine m_reason (I.thr 0).R b s x hb hs ?_
        exact ok0 I hK
/-- the end of a look that leaves its own traces -/
theorem okS (I : Inv m σ μ) (hK : Nx m K) (g1 g2 : Nat → Int64) {r4 : Int32} {μ' : MS} (S : Sm (ms_thrown μ 0) μ') : wp_X5_thrown μ' (fun r_6 => ((r_6 = 0 → ((¬ (0 : Int32) = 0 → K (cs_most (cs_keys σ g1) g2) (vp_updL f ((0 : Int32)).toNatClampNeg (r4).toInt64) μ') ∧ ((0 : Int32) = 0 → (((lg_cmp (vp_updL f ((0 : Int32)).toNatClampNeg (r4).toInt64 ((0 : Int32)).toNatClampNeg) (r4).toInt64) = 0 → K (cs_most (cs_keys σ g1) g2) (vp_updL f ((0 : Int32)).toNatClampNeg (r4).toInt64) μ') ∧ (¬ (lg_cmp (vp_updL f ((0 : Int32)).toNatClampNeg (r4).toInt64 ((0 : Int32)).toNatClampNeg) (r4).toInt64) = 0 → False))))) ∧ (¬ r_6 = 0 → False))) :=
  fin0 S.1 (hK _ _ _ ((((I.thr 0).sm S).key g1 g2).mono (Nat.le_add_right _ _)))
theorem case_22 (A : Args L v4) (I : Inv m σ μ) (hK : Nx m K) : wpl_22 L xs σ f μ v4 K := by
  refine ⟨A.1, A.2.1, ?_⟩
  generalize xs (v4 + 1).toNatClampNeg = a
  generalize xs (v4 + 2).toNatClampNeg = x
  unfold wp_L_worth wp_X4_worth
  rcases nm a 6 6 rfl (by decide) with ha | ⟨w, hw, rfl⟩
  · refine cR_bad ha ⟨rfl, A.1, A.2.1, ?_⟩
    refine m_in0 (rgm ha) ⟨fun _ => ?_, fun h => absurd rfl h⟩
    exact m_holdsN z1 ⟨fun _ => bad I hK z1, fun h => absurd rfl h⟩
  · refine cR_N (n := 6) rfl hw (by decide) ?_
    rcases nm x 1 1 rfl (by decide) with hx | ⟨k, hk, rfl⟩
    · refine cR_bad hx ⟨rfl, A.1, A.2.1, ?_⟩
      refine in_ok (n := 6) rfl hw (by decide) ⟨fun h => absurd h (by decide), fun _ => ?_⟩
      refine m_in0 (rgm hx) ⟨fun _ => ?_, fun h => absurd rfl h⟩
      exact m_holdsN z1 ⟨fun _ => bad I hK z1, fun h => absurd rfl h⟩
    · refine cR_N (n := 1) rfl hk (by decide) ?_
      refine w_findSharing I.R.o1 (fun g1 g2 H => ?_)
      have hB := BC_le I.R.o1
      have fin : vp_in (v4 + 1) L ∧ vp_in (v4 + 2) L ∧ wp_X5_worth μ (nI w) (nI k) (fun r_4 μ_5 => wp_X5_thrown μ_5 (fun r_6 => ((r_6 = 0 → ((¬ (0 : Int32) = 0 → K (cs_most (cs_keys σ g1) g2) (vp_updL f ((0 : Int32)).toNatClampNeg (nI (WV (BC (c_row σ)) w / 8)).toInt64) μ_5) ∧ ((0 : Int32) = 0 → (((lg_cmp (vp_updL f ((0 : Int32)).toNatClampNeg (nI (WV (BC (c_row σ)) w / 8)).toInt64 ((0 : Int32)).toNatClampNeg) (r_4).toInt64) = 0 → K (cs_most (cs_keys σ g1) g2) (vp_updL f ((0 : Int32)).toNatClampNeg (nI (WV (BC (c_row σ)) w / 8)).toInt64) μ_5) ∧ (¬ (lg_cmp (vp_updL f ((0 : Int32)).toNatClampNeg (nI (WV (BC (c_row σ)) w / 8)).toInt64 ((0 : Int32)).toNatClampNeg) (r_4).toInt64) = 0 → False))))) ∧ (¬ r_6 = 0 → False)))) := by
        refine ⟨A.1, A.2.1, ?_⟩
        refine in_ok (n := 6) rfl hw (by decide) ⟨fun h => absurd h (by decide), fun _ => ?_⟩
        refine in_ok (n := 1) rfl hk (by decide) ⟨fun h => absurd h (by decide), fun _ => ?_⟩
        refine m_holds0 ⟨fun h => absurd h (by decide), fun _ => ?_⟩
        refine m_worthWV (I.thr 0).R (I.thr 0).ask w hw (fun μ' S => ?_)
        exact okS I hK g1 g2 S
      refine ⟨fun _ => ?_, fun _ => ?_⟩
      · exact w_worthWV hB H w hw fin
      · exact w_worthByTrying hB (BC_81 _) H.1 w hw fin
theorem m_opened {r : Nat → Int32} (R : Rl m r (m_s μ)) (e0 : Ask0 μ) (s : Nat) (hs : s < 6) {p : Int32} {post : Int32 → MS → Prop} (hp : ∀ μ', Sm μ μ' → post (if p = 0 then ownV (BC r) s else dueV r (BC r) s) μ') : wp_X5_opened μ (nI s) p post := by
  refine m_shares R e0.M e0.2.1 e0.2.2 (fun f g h hg hh => ?_)
  rw [BA_none] at hg hh
  have hp := hp _ (Sm.all μ f g h)
  refine ⟨fun q => ⟨q_in hs (by decide), ?_⟩, fun q => ⟨q_in hs (by decide), ?_⟩⟩
  · rw [if_neg q] at hp
    rw [g_du, nI_clamp (by omega), hh s hs]; exact hp
  · rw [if_pos q] at hp
    rw [g_shdu, g_sh, nI_clamp (by omega), hg s hs]; exact hp
theorem case_23 (A : Args L v4) (I : Inv m σ μ) (hK : Nx m K) : wpl_23 L xs σ f μ v4 K := by
  refine ⟨A.1, A.2.1, ?_⟩
  generalize xs (v4 + 1).toNatClampNeg = a
  generalize xs (v4 + 2).toNatClampNeg = x
  unfold wp_L_ifOpened wp_X4_ifOpened
  rcases pl6 a with ha | ⟨s, hs, rfl⟩
  · refine cP_bad ha (Or.inl ⟨rfl, A.1, A.2.1, ?_⟩)
    refine m_isOne0 (pl6m ha) ⟨fun h => absurd rfl h, fun _ => ?_⟩
    exact m_holdsN z1 ⟨fun _ => bad I hK z1, fun h => absurd rfl h⟩
  · refine cP_N rfl hs (by decide) ?_
    rcases nm x 1 1 rfl (by decide) with hx | ⟨k, hk, rfl⟩
    · refine cR_bad hx (Or.inr ⟨rfl, A.1, A.2.1, ?_⟩)
      refine m_isOneN s hs ⟨fun _ => ?_, fun h => absurd h (by decide)⟩
      refine m_in0 (rgm hx) ⟨fun h => absurd rfl h, fun _ => ?_⟩
      exact m_holdsN z2 ⟨fun _ => bad I hK z2, fun h => absurd rfl h⟩
    · refine cR_N (n := 1) rfl hk (by decide) ?_
      refine w_findSharing I.R.o1 (fun g1 g2 H => ?_)
      have hB := BC_le I.R.o1
      refine ⟨fun hne => ?_, fun he => ?_⟩
      · refine w_priceOf hB H s hs ⟨A.1, A.2.1, ?_⟩
        refine m_isOneN s hs ⟨fun _ => ?_, fun h => absurd h (by decide)⟩
        refine in_ok (n := 1) rfl hk (by decide) ⟨fun _ => ?_, fun h => absurd h (by decide)⟩
        refine m_holds0 ⟨fun h => absurd h (by decide), fun _ => ?_⟩
        refine m_opened (I.thr 0).R (I.thr 0).ask s hs (fun μ' S => ?_)
        rw [if_neg hne]
        exact okS I hK g1 g2 S
      · refine w_ownerOf hB H s hs ⟨A.1, A.2.1, ?_⟩
        refine m_isOneN s hs ⟨fun _ => ?_, fun h => absurd h (by decide)⟩
        refine in_ok (n := 1) rfl hk (by decide) ⟨fun _ => ?_, fun h => absurd h (by decide)⟩
        refine m_holds0 ⟨fun h => absurd h (by decide), fun _ => ?_⟩
        refine m_opened (I.thr 0).R (I.thr 0).ask s hs (fun μ' S => ?_)
        rw [if_pos he]
        exact okS I hK g1 g2 S
theorem case_24 (A : Args L v4) (I : Inv m σ μ) (hK : Nx m K) : wpl_24 L xs σ f μ v4 K := by
  refine ⟨A.1, A.2.1, A.2.2.1, A.2.2.2, ?_⟩
  generalize xs (v4 + 1).toNatClampNeg = a
  generalize xs (v4 + 2).toNatClampNeg = c
  generalize xs (v4 + 3).toNatClampNeg = x
  generalize xs (v4 + 4).toNatClampNeg = y
  unfold wp_L_ifBid wp_X4_ifBid
  rcases pl6 a with ha | ⟨b, hb, rfl⟩
  · refine cP_bad ha (Or.inl ⟨rfl, A.1, A.2.1, A.2.2.1, A.2.2.2, ?_⟩)
    refine m_isOne0 (pl6m ha) ⟨fun _ => ?_, fun h => absurd rfl h⟩
    exact m_holdsN z1 ⟨fun _ => bad I hK z1, fun h => absurd rfl h⟩
  · refine cP_N rfl hb (by decide) ?_
    rcases pl6 c with ha | ⟨s, hs, rfl⟩
    · refine cP_bad ha (Or.inl ⟨rfl, A.1, A.2.1, A.2.2.1, A.2.2.2, ?_⟩)
      refine m_isOneN b hb ⟨fun h => absurd h (by decide), fun _ => ?_⟩
      refine m_isOne0 (pl6m ha) ⟨fun _ => ?_, fun h => absurd rfl h⟩
      exact m_holdsN z1 ⟨fun _ => bad I hK z1, fun h => absurd rfl h⟩
    · refine cP_N rfl hs (by decide) ?_
      rcases rg x 1 99 with hx | ⟨hx1, hx2⟩
      · refine cR_bad hx (Or.inr ⟨rfl, A.1, A.2.1, A.2.2.1, A.2.2.2, ?_⟩)
        refine m_isOneN b hb ⟨fun h => absurd h (by decide), fun _ => ?_⟩
        refine m_isOneN s hs ⟨fun h => absurd h (by decide), fun _ => ?_⟩
        refine m_isAmount0 (rgm hx) ⟨fun _ => ?_, fun h => absurd rfl h⟩
        exact m_holdsN z2 ⟨fun _ => bad I hK z2, fun h => absurd rfl h⟩
      · refine cR_ok hx1 hx2 ?_
        have hbt := rgt hx1 hx2
        rw [tI1, show (99 : Int32).toInt = 99 from by decide] at hbt
        rcases nm y 1 1 rfl (by decide) with hy | ⟨k, hk, rfl⟩
        · refine cR_bad hy (Or.inr ⟨rfl, A.1, A.2.1, A.2.2.1, A.2.2.2, ?_⟩)
          refine m_isOneN b hb ⟨fun h => absurd h (by decide), fun _ => ?_⟩
          refine m_isOneN s hs ⟨fun h => absurd h (by decide), fun _ => ?_⟩
          refine m_isAmount1 hx1 (rgn hx2) ⟨fun h => absurd h (by decide), fun _ => ?_⟩
          refine m_in0 (rgm hy) ⟨fun h => absurd rfl h, fun _ => ?_⟩
          exact m_holdsN z2 ⟨fun _ => bad I hK z2, fun h => absurd rfl h⟩
        · refine cR_N (n := 1) rfl hk (by decide) ?_
          refine w_ifBidV I.R.o1 b s x (nI k) hb hs (by omega) hbt.2 (fun g1 g2 => ?_)
          refine ⟨A.1, A.2.1, A.2.2.1, A.2.2.2, ?_⟩
          refine m_isOneN b hb ⟨fun h => absurd h (by decide), fun _ => ?_⟩
          refine m_isOneN s hs ⟨fun h => absurd h (by decide), fun _ => ?_⟩
          refine m_isAmount1 hx1 (rgn hx2) ⟨fun h => absurd h (by decide), fun _ => ?_⟩
          refine in_ok (n := 1) rfl hk (by decide) ⟨fun _ => ?_, fun h => absurd h (by decide)⟩
          refine m_holds0 ⟨fun h => absurd h (by decide), fun _ => ?_⟩
          refine m_wouldBid (I.thr 0).R b s x (nI k) hb hs (by omega) hbt.2 (fun μ' S => ?_)
          exact okS I hK g1 g2 S
theorem case_25 (A : Args L v4) (I : Inv m σ μ) (hK : Nx m K) : wpl_25 L xs σ f μ v4 K := by
  refine ⟨A.1, A.2.1, ?_⟩
  generalize xs (v4 + 1).toNatClampNeg = a
  generalize xs (v4 + 2).toNatClampNeg = c
  unfold wp_L_least wp_X4_least
  rcases pl6 a with ha | ⟨b, hb, rfl⟩
  · refine cP_bad ha ⟨rfl, A.1, A.2.1, ?_⟩
    refine m_isOne0 (pl6m ha) ⟨fun _ => ?_, fun h => absurd rfl h⟩
    exact m_holdsN z1 ⟨fun _ => bad I hK z1, fun h => absurd rfl h⟩
  · refine cP_N rfl hb (by decide) ?_
    rcases pl6 c with ha | ⟨s, hs, rfl⟩
    · refine cP_bad ha ⟨rfl, A.1, A.2.1, ?_⟩
      refine m_isOneN b hb ⟨fun h => absurd h (by decide), fun _ => ?_⟩
      refine m_isOne0 (pl6m ha) ⟨fun _ => ?_, fun h => absurd rfl h⟩
      exact m_holdsN z1 ⟨fun _ => bad I hK z1, fun h => absurd rfl h⟩
    · refine cP_N rfl hs (by decide) ?_
      refine w_least I.R.o1 b s hb hs (fun g1 g2 => ?_)
      refine ⟨A.1, A.2.1, ?_⟩
      refine m_isOneN b hb ⟨fun h => absurd h (by decide), fun _ => ?_⟩
      refine m_isOneN s hs ⟨fun h => absurd h (by decide), fun _ => ?_⟩
      refine m_holds0 ⟨fun h => absurd h (by decide), fun _ => ?_⟩
      refine m_least (I.thr 0).R b s hb hs (fun μ' S => ?_)
      exact okS I hK g1 g2 S
theorem case_26 (I : Inv m σ μ) (hK : Nx m K) : wpl_26 L xs σ f μ v4 K := by
  unfold wpl_26
  refine w_keenest I.R.o1 (fun g1 g2 => ?_)
  intro s1 h1
  subst h1
  refine m_keen (I.thr 0).R (I.thr 0).ask (fun μ' S => ?_)
  exact ⟨fun _ => hK _ _ _ ((((I.thr 0).sm S).key g1 g2).mono (Nat.le_add_right _ _)), fun h => absurd rfl h⟩
end
