/-! pure part: shareOut() and opens() -/
theorem gF_due (r : Nat → Int32) (B : Nat → Nat → Nat) {s k : Nat} (hk : k < 6) (hs : s ≤ 6) : dueV (gF r B s) B k = dueV r B k := by
  unfold dueV
  rw [gF_price r B (by omega) s hs]
theorem w_shareOut {m : Nat} {σ : CS} (h1 : O1 m (c_row σ)) {post : Int32 → CS → Prop} (hp : ∀ f g, post (nI (cntF (BC (c_row σ)) 6)) (cs_row (cs_most (cs_keys σ f) g) (gF (c_row σ) (BC (c_row σ)) 6))) : wp_X4_shareOut σ post := by
  refine w_findSharing h1 (fun f g H => ?_)
  have hB := BC_le h1
  have hp := hp f g
  have er : c_row (cs_most (cs_keys σ f) g) = c_row σ := rfl
  generalize cs_most (cs_keys σ f) g = σ1 at *
  generalize c_row σ = r at *
  have hdue := fun s k (hk : k < 6) (hs : s ≤ 6) => gF_due r (BC r) (s := s) (k := k) hk hs
  generalize BC r = B at *
  unfold wp_X2_openBids
  refine w_put 169 0 rfl rfl (by decide) ?_
  rw [er]
  refine ⟨fun n v1 v2 s => ∃ i : Nat, i ≤ 6 ∧ n = 6 - i ∧ v1 = nI (cntF B i) ∧ v2 = nI i ∧ s = cs_row σ1 (gF r B i), ⟨6, 0, Nat.zero_le _, rfl, rfl, rfl, rfl⟩, ?_⟩
  rintro n v1 v2 s ⟨i, hi, rfl, rfl, rfl, rfl⟩
  refine ⟨fun h9 => ?_, fun h9 => ?_⟩
  · have e : i = 6 := Nat.le_antisymm hi ((nI_leI (a := 6) (by omega) (by omega)).mp h9)
    subst e; exact hp
  · have e : i < 6 := Nat.lt_of_not_le fun q => h9 (nI_le (a := 6) q (by omega))
    have hO := own_le B i
    refine w_ownerOf hB (H.row (gF r B i)) i e ?_
    unfold ownV
    by_cases h : own B i = 6
    · have e1 : gF r B (i + 1) = gF r B i := if_pos h
      have e2 : cntF B (i + 1) = cntF B i := if_pos h
      rw [if_pos h]
      refine ⟨fun _ => ?_, fun h => absurd rfl h⟩
      intro w hw
      exact ⟨6 - (i + 1), by omega, i + 1, by omega, rfl, by rw [e2], by rw [hw, nI_1], by rw [e1]⟩
    · have e1 : gF r B (i + 1) = rGive (gF r B i) i (own B i) (dueV r B i) := if_neg h
      have e2 : cntF B (i + 1) = cntF B i + 1 := if_neg h
      rw [if_neg h]
      have h6 : own B i < 6 := by omega
      refine ⟨fun q => absurd q (neg1_ne h6), fun _ => ?_⟩
      refine w_priceOf hB (H.row (gF r B i)) i e ?_
      rw [show c_row (cs_row σ1 (gF r B i)) = gF r B i from rfl, hdue i i e (by omega)]
      refine w_giveSpot i (own B i) _ h6 e ?_
      intro w1 hw1 w hw
      exact ⟨6 - (i + 1), by omega, i + 1, by omega, rfl, by rw [hw1, e2, nI_1], by rw [hw, nI_1], by rw [e1]; rfl⟩
theorem ss_ss (σ : MS) (a b : Nat → Int32) : ms_s (ms_s σ a) b = ms_s σ b := by simp only [m_thrown, ms_thrown, m_s, ms_s, m_saved, ms_saved, m_isKept, ms_isKept, m_text, ms_text, m_length, ms_length, m_at, ms_at, m_part, ms_part, m_first, ms_first, m_second, ms_second, m_third, ms_third, m_asker, ms_asker, m_askedSpot, ms_askedSpot, m_askedAmount, ms_askedAmount, m_best, ms_best, m_shared, ms_shared, m_due, ms_due, m_hash, ms_hash, and_self, and_true, true_and, eq_self, imp_self]
theorem g_shs (σ : MS) (a : Nat → Int32) : m_shared (ms_s σ a) = m_shared σ := by simp only [m_thrown, ms_thrown, m_s, ms_s, m_saved, ms_saved, m_isKept, ms_isKept, m_text, ms_text, m_length, ms_length, m_at, ms_at, m_part, ms_part, m_first, ms_first, m_second, ms_second, m_third, ms_third, m_asker, ms_asker, m_askedSpot, ms_askedSpot, m_askedAmount, ms_askedAmount, m_best, ms_best, m_shared, ms_shared, m_due, ms_due, m_hash, ms_hash, and_self, and_true, true_and, eq_self, imp_self]
theorem g_dus (σ : MS) (a : Nat → Int32) : m_due (ms_s σ a) = m_due σ := by simp only [m_thrown, ms_thrown, m_s, ms_s, m_saved, ms_saved, m_isKept, ms_isKept, m_text, ms_text, m_length, ms_length, m_at, ms_at, m_part, ms_part, m_first, ms_first, m_second, ms_second, m_third, ms_third, m_asker, ms_asker, m_askedSpot, ms_askedSpot, m_askedAmount, ms_askedAmount, m_best, ms_best, m_shared, ms_shared, m_due, ms_due, m_hash, ms_hash, and_self, and_true, true_and, eq_self, imp_self]
theorem Sm.s {μ μ1 : MS} (h : Sm μ μ1) (X : Nat → Int32) : Sm (ms_s μ X) (ms_s μ1 X) := ⟨h.1, rfl, h.2.2.1, h.2.2.2.1, h.2.2.2.2.1, h.2.2.2.2.2.1, h.2.2.2.2.2.2.1, h.2.2.2.2.2.2.2.1, h.2.2.2.2.2.2.2.2⟩
def tOpen (t r : Nat → Int32) : Nat → Int32 := upd (upd (hF t r (BC r) 6) 2 1) 7 (gF r (BC r) 6 173)
theorem m_opens {m : Nat} {r : Nat → Int32} {μ : MS} (R : Rl m r (m_s μ)) (e0 : Ask0 μ) {post : Int32 → MS → Prop} (hp : ∀ μ', Sm (ms_s μ (tOpen (m_s μ) r)) μ' → post (nI (cntF (BC r) 6)) μ') : wp_X5_opens μ post := by
  refine m_shares R e0.M e0.2.1 e0.2.2 (fun f g h hg hh => ?_)
  rw [BA_none] at hg hh
  have hS := (Sm.all μ f g h).s (tOpen (m_s μ) r)
  have f1 : m_shared (ms_due (ms_shared (ms_best μ f) g) h) = g := by rw [g_shdu, g_sh]
  have f2 : m_due (ms_due (ms_shared (ms_best μ f) g) h) = h := by rw [g_du]
  have f3 : m_s (ms_due (ms_shared (ms_best μ f) g) h) = m_s μ := by rw [s_du, s_sh, s_be]
  have e7 := R.P _ _ PI_given
  have hgv := gF_given r (BC r) 6 (Nat.le_refl _)
  have h7 := hF_7 (m_s μ) r (BC r) (j := 7) (Or.inl rfl) 6 (Nat.le_refl _)
  have hp := hp _ hS
  clear hS
  generalize ms_due (ms_shared (ms_best μ f) g) h = μ1 at *
  unfold tOpen at hp
  generalize BC r = B at *
  refine ⟨fun n v1 v2 s => ∃ i : Nat, i ≤ 6 ∧ n = 6 - i ∧ v1 = nI (cntF B i) ∧ v2 = nI i ∧ s = ms_s μ1 (hF (m_s μ) r B i), ⟨6, 0, Nat.zero_le _, rfl, rfl, rfl, ?_⟩, ?_⟩
  · show μ1 = ms_s μ1 (m_s μ)
    rw [← f3]; rfl
  rintro n v1 v2 s ⟨i, hi, rfl, rfl, rfl, rfl⟩
  refine ⟨fun h9 => ?_, fun h9 => ?_⟩
  · have e : i = 6 := Nat.le_antisymm hi ((nI_leI (a := 6) (by omega) (by omega)).mp h9)
    subst e
    intro s3 h3 s4 h4
    subst h3; subst h4
    rw [show ((7 : Int32)).toNatClampNeg = 7 from by decide, show ((2 : Int32)).toNatClampNeg = 2 from by decide]
    simp only [msss, ss_ss]
    rw [h7, e7, ← hgv, upd_comm (by decide)]
    exact hp
  · have e : i < 6 := Nat.lt_of_not_le fun q => h9 (nI_le (a := 6) q (by omega))
    have hO := own_le B i
    have hgi := hg i e
    have hhi := hh i e
    have hin : vp_in (nI i) 6 := q_in e (by decide)
    rw [nI_clamp (by omega)]
    refine ⟨hin, ?_⟩
    refine m_lay i 2 rfl rfl e (by decide) ?_
    refine ⟨hin, ?_⟩
    simp only [msss, ss_ss, g_shs, g_dus]
    rw [f1, f2, hgi, hhi]
    refine m_lay i 3 rfl rfl e (by decide) ?_
    refine ⟨hin, ?_⟩
    simp only [msss, ss_ss, g_shs, g_dus]
    rw [f1, hgi]
    unfold ownV
    by_cases q : own B i = 6
    · have e1 : hF (m_s μ) r B (i + 1) = upd (upd (hF (m_s μ) r B i) (15 + 5 * i + 2) (-1)) (15 + 5 * i + 3) (-1) := if_pos q
      have e2 : cntF B (i + 1) = cntF B i := if_pos q
      have e3 : dueV r B i = -1 := if_pos q
      rw [if_pos q]
      refine ⟨fun _ => ?_, fun h => absurd rfl h⟩
      intro w hw
      exact ⟨6 - (i + 1), by omega, i + 1, by omega, rfl, by rw [e2], by rw [hw, nI_1], by rw [e1, e3]⟩
    · have e1 : hF (m_s μ) r B (i + 1) = tGiveU (hF (m_s μ) r B i) i (own B i) (dueV r B i) := if_neg q
      have e2 : cntF B (i + 1) = cntF B i + 1 := if_neg q
      have h6 : own B i < 6 := by omega
      rw [if_neg q]
      refine ⟨fun h => absurd h (neg1_ne h6), fun _ => ⟨hin, hin, ?_⟩⟩
      rw [f2, hhi]
      refine m_adds (own B i) 0 rfl rfl h6 (by decide) ?_
      refine ⟨hin, hin, ?_⟩
      simp only [msss, ss_ss, g_shs, g_dus]
      rw [f1, f2, hgi, hhi]
      unfold ownV
      rw [if_neg q]
      refine m_adds (own B i) 2 rfl rfl h6 (by decide) ?_
      refine ⟨hin, ?_⟩
      intro s10 h10
      refine ⟨hin, ?_⟩
      intro s11 h11 w1 hw1 w hw
      subst h10
      rw [show ((3 : Int32)).toNatClampNeg = 3 from by decide, show ((6 : Int32)).toNatClampNeg = 6 from by decide] at h11
      simp only [msss, ss_ss, g_shs, g_dus] at h11
      rw [f2, hhi] at h11
      refine ⟨6 - (i + 1), by omega, i + 1, by omega, rfl, by rw [hw1, e2, nI_1], by rw [hw, nI_1], ?_⟩
      rw [h11, e1]
      unfold tGiveU
      congr 1
      (repeat (first | rw [pk_us] | rw [pk_un (by omega)]))
