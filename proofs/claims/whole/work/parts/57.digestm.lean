/-! pure part: the digest, in the reference; the call -/
def Hh (μ s : MS) (h : Int64) : Prop := m_thrown s = m_thrown μ ∧ m_s s = m_s μ ∧ m_saved s = m_saved μ ∧ m_isKept s = m_isKept μ ∧ m_text s = m_text μ ∧ m_length s = m_length μ ∧ (Ask0 μ → Ask0 s) ∧ m_hash s = h
theorem Hh.hash {μ s : MS} {h : Int64} (H : Hh μ s h) : m_hash s = h := H.2.2.2.2.2.2.2
theorem Hh.ask {μ s : MS} {h : Int64} (H : Hh μ s h) (e : Ask0 μ) : Ask0 s := H.2.2.2.2.2.2.1 e
theorem Hh.mix {μ s : MS} {h : Int64} (H : Hh μ s h) (v : Int64) : Hh μ (ms_hash s v) v := by
  obtain ⟨x1, x2, x3, x4, x5, x6, x7, x8, x9, x10, x11, x12, x13, x14, x15, x16, x17, x18⟩ := s
  unfold Hh Ask0 at H ⊢
  revert H
  simp only [m_thrown, ms_thrown, m_s, ms_s, m_saved, ms_saved, m_isKept, ms_isKept, m_text, ms_text, m_length, ms_length, m_at, ms_at, m_part, ms_part, m_first, ms_first, m_second, ms_second, m_third, ms_third, m_asker, ms_asker, m_askedSpot, ms_askedSpot, m_askedAmount, ms_askedAmount, m_best, ms_best, m_shared, ms_shared, m_due, ms_due, m_hash, ms_hash, and_self, and_true, true_and, eq_self, imp_self]
  intro H
  exact ⟨H.1, H.2.1, H.2.2.1, H.2.2.2.1, H.2.2.2.2.1, H.2.2.2.2.2.1, H.2.2.2.2.2.2.1⟩
theorem Hh.sm {μ s s' : MS} {h : Int64} (H : Hh μ s h) (S : Sm s s') : Hh μ s' h := ⟨S.1.trans H.1, S.2.1.trans H.2.1, S.2.2.1.trans H.2.2.1, S.2.2.2.1.trans H.2.2.2.1, S.2.2.2.2.1.trans H.2.2.2.2.1, S.2.2.2.2.2.1.trans H.2.2.2.2.2.1, fun e => S.ask (H.ask e), S.2.2.2.2.2.2.1.trans H.hash⟩
theorem m_mixh {μ s : MS} {h v : Int64} (H : Hh μ s h) {post : MS → Prop} (hp : ∀ s', Hh μ s' (31 * h + v) → post s') : wp_X5_mix s v post := by
  intro s1 h1
  rw [H.hash] at h1
  subst h1
  exact hp _ (H.mix _)
theorem mixF_0 (h : Int64) (f : Nat → Int32) : mixF h f 0 = h := rfl
theorem spotsF_0 (r : Nat → Int32) (h : Int64) : spotsF r h 0 = h := rfl
theorem bidrsF_0 (r : Nat → Int32) (h : Int64) : bidrsF r h 0 = h := rfl
theorem worthsF_0 (r : Nat → Int32) (h : Int64) : worthsF r h 0 = h := rfl
section
variable {m : Nat} {r : Nat → Int32} {μ : MS}
theorem Hh.R {s : MS} {h : Int64} (H : Hh μ s h) (R : Rl m r (m_s μ)) : Rl m r (m_s s) := by rw [H.2.1]; exact R
theorem m_mixSpots {s : MS} {h : Int64} (R : Rl m r (m_s μ)) (e0 : Ask0 μ) (H : Hh μ s h) {post : MS → Prop} (hp : ∀ s', Hh μ s' (mixF (bidrsF r (spotsF r h 6) 6) (bidsV r) 180) → post s') : wp_X5_mixSpots s post := by
  refine ⟨fun n v s => ∃ i, i ≤ 6 ∧ n = 6 - i ∧ v = nI i ∧ Hh μ s (spotsF r h i), ⟨6, 0, Nat.zero_le _, rfl, rfl, by rw [spotsF_0]; exact H⟩, ?_⟩
  rintro n v s ⟨i, hi, rfl, rfl, H⟩
  refine ⟨fun h9 => ?_, fun h9 => ?_⟩
  · have e : i = 6 := Nat.le_antisymm hi ((nI_leI (a := 6) (by omega) (by omega)).mp h9)
    subst e
    generalize spotsF r h 6 = hA at H hp
    refine ⟨fun n v s => ∃ i, i ≤ 6 ∧ n = 6 - i ∧ v = nI i ∧ Hh μ s (bidrsF r hA i), ⟨6, 0, Nat.zero_le _, rfl, rfl, by rw [bidrsF_0]; exact H⟩, ?_⟩
    rintro n v s ⟨i, hi, rfl, rfl, H⟩
    refine ⟨fun h9 => ?_, fun h9 => ?_⟩
    · have e : i = 6 := Nat.le_antisymm hi ((nI_leI (a := 6) (by omega) (by omega)).mp h9)
      subst e
      generalize bidrsF r hA 6 = hB at H hp
      refine ⟨fun n v s => ∃ i, i ≤ 180 ∧ n = 180 - i ∧ v = nI i ∧ Hh μ s (mixF hB (bidsV r) i), ⟨180, 0, Nat.zero_le _, rfl, rfl, by rw [mixF_0]; exact H⟩, ?_⟩
      rintro n v s ⟨i, hi, rfl, rfl, H⟩
      refine ⟨fun h9 => ?_, fun h9 => ?_⟩
      · have e : i = 180 := Nat.le_antisymm hi ((nI_leI (a := 180) (by omega) (by omega)).mp h9)
        subst e
        exact hp s H
      · have e : i < 180 := Nat.lt_of_not_le fun q => h9 (nI_le (a := 180) q (by omega))
        have a1 : nI i / 30 = nI (i / 30) := pk_div (d := 30) (by omega) (by decide) (by decide)
        have a2 : nI i / 5 = nI (i / 5) := pk_div (d := 5) (by omega) (by decide) (by decide)
        have a3 : nI (i / 5) - nI (i / 5) / 6 * 6 = nI (i / 5 % 6) := pk_rem (d := 6) (by omega) (by decide) (by decide)
        have a4 : nI i - nI i / 5 * 5 = nI (i % 5) := pk_rem (d := 5) (by omega) (by decide) (by decide)
        rw [a4, a1, a2, a3]
        refine m_ofBid (H.R R) (i / 30) (i / 5 % 6) (i % 5) (by omega) (by omega) (by omega) ?_
        refine m_mixh H (fun s' H' => ?_)
        intro w hw
        exact ⟨180 - (i + 1), by omega, i + 1, by omega, rfl, by rw [hw, nI_1], H'⟩
    · have e : i < 6 := Nat.lt_of_not_le fun q => h9 (nI_le (a := 6) q (by omega))
      refine ⟨fun n v s => ∃ k, k ≤ 6 ∧ n = 6 - k ∧ v = nI k ∧ Hh μ s (mixF (bidrsF r hA i) (bidrV r i) k), ⟨6, 0, Nat.zero_le _, rfl, rfl, by rw [mixF_0]; exact H⟩, ?_⟩
      rintro n v s ⟨k, hk, rfl, rfl, H⟩
      refine ⟨fun h8 => ?_, fun h8 => ?_⟩
      · have ek : k = 6 := Nat.le_antisymm hk ((nI_leI (a := 6) (by omega) (by omega)).mp h8)
        subst ek
        intro w hw
        exact ⟨6 - (i + 1), by omega, i + 1, e, rfl, by rw [hw, nI_1], H⟩
      · have ek : k < 6 := Nat.lt_of_not_le fun q => h8 (nI_le (a := 6) q (by omega))
        refine m_ofBidder (H.R R) i k e (by omega) ?_
        refine m_mixh H (fun s' H' => ?_)
        intro w hw
        exact ⟨6 - (k + 1), by omega, k + 1, by omega, rfl, by rw [hw, nI_1], H'⟩
  · have e : i < 6 := Nat.lt_of_not_le fun q => h9 (nI_le (a := 6) q (by omega))
    refine ⟨fun n v s => ∃ k, k ≤ 6 ∧ n = 6 - k ∧ v = nI k ∧ Hh μ s (mixF (spotsF r h i) (spotV r i) k), ⟨6, 0, Nat.zero_le _, rfl, rfl, by rw [mixF_0]; exact H⟩, ?_⟩
    rintro n v s ⟨k, hk, rfl, rfl, H⟩
    refine ⟨fun h8 => ?_, fun h8 => ?_⟩
    · have ek : k = 6 := Nat.le_antisymm hk ((nI_leI (a := 6) (by omega) (by omega)).mp h8)
      subst ek
      refine m_opened (H.R R) (H.ask e0) i e (p := 0) (fun s1 S1 => ?_)
      rw [if_pos rfl]
      refine m_mixh (H.sm S1) (fun s2 H2 => ?_)
      refine m_opened (H2.R R) (H2.ask e0) i e (p := 1) (fun s3 S3 => ?_)
      rw [if_neg (by decide)]
      refine m_mixh (H2.sm S3) (fun s4 H4 => ?_)
      intro w hw
      exact ⟨6 - (i + 1), by omega, i + 1, e, rfl, by rw [hw, nI_1], H4⟩
    · have ek : k < 6 := Nat.lt_of_not_le fun q => h8 (nI_le (a := 6) q (by omega))
      refine m_ofSpot (H.R R) i k e (by omega) ?_
      refine m_mixh H (fun s' H' => ?_)
      intro w hw
      exact ⟨6 - (k + 1), by omega, k + 1, by omega, rfl, by rw [hw, nI_1], H'⟩
theorem m_mixText {s : MS} {h : Int64} {t : Nat → Int32} {l : Nat} (hc : Chr t l) (T : TxM μ t l) (H : Hh μ s h) {post : Int64 → MS → Prop} (hp : ∀ s', Hh μ s' (mixF (31 * h + (nI l).toInt64) t l) → post (mixF (31 * h + (nI l).toInt64) t l) s') : wp_X5_mix s ((m_length s)).toInt64 (fun σ_26 => ∃ I27 : Nat → Int32 → MS → Prop, (∃ n : Nat, I27 n 0 (σ_26)) ∧ ∀ (n27 : Nat) (v1_27 : Int32) (σ_27 : MS), I27 n27 v1_27 σ_27 → (((m_length σ_27) ≤ v1_27 → post (m_hash σ_27) σ_27) ∧ (¬ (m_length σ_27) ≤ v1_27 → vp_in v1_27 60 ∧ wp_X5_mix σ_27 (((m_text σ_27) (v1_27).toNatClampNeg)).toInt64 (fun σ_28 => ∀ v1_29 : Int32, v1_29 = v1_27 + 1 → ∃ n' : Nat, n' < n27 ∧ I27 n' v1_29 (σ_28))))) := by
  have hl := hc.1
  have hlen : ∀ {s : MS} {h : Int64}, Hh μ s h → m_length s = nI l ∧ m_text s = t := fun H => ⟨H.2.2.2.2.2.1.trans T.2, H.2.2.2.2.1.trans T.1⟩
  rw [(hlen H).1]
  refine m_mixh H (fun s1 H1 => ?_)
  refine ⟨fun n v s => ∃ i, i ≤ l ∧ n = l - i ∧ v = nI i ∧ Hh μ s (mixF (31 * h + (nI l).toInt64) t i), ⟨l, 0, Nat.zero_le _, rfl, rfl, H1⟩, ?_⟩
  rintro n v s ⟨i, hi, rfl, rfl, H⟩
  rw [(hlen H).1, (hlen H).2]
  refine ⟨fun h9 => ?_, fun h9 => ?_⟩
  · have e : i = l := Nat.le_antisymm hi ((nI_leI (by omega) (by omega)).mp h9)
    subst e
    rw [H.hash]
    exact hp s H
  · rw [nI_leI (by omega) (by omega)] at h9
    rw [nI_clamp (by omega)]
    refine ⟨q_in (by omega) (by decide), ?_⟩
    refine m_mixh H (fun s' H' => ?_)
    intro w hw
    exact ⟨l - (i + 1), by omega, i + 1, by omega, rfl, by rw [hw, nI_1], H'⟩
theorem m_digest (R : Rl m r (m_s μ)) (e0 : Ask0 μ) (hm : m ≤ 100000) {t : Nat → Int32} {l : Nat} (hc : Chr t l) (T : TxM μ t l) {b : Int64} {b2 : Int32} (hb : ∀ post : Int64 → Prop, post b → wp_X5_bits (shV r) post) (hf : ∀ post : Int32 → Prop, post b2 → wp_X5_floatBits (mpV r) post) {post : Int64 → MS → Prop} (hp : ∀ s' h', Hh (ms_thrown μ 0) s' h' → post (DC t l (if m_isKept μ = 0 then 0 else 1) (31 * (31 * DB r (DA r (m_saved μ)) + b) + b2.toInt64)) s') : wp_X5_digest μ post := by
  intro s1 hs1 s2 hs2
  have R : Rl m r (m_s (ms_thrown μ 0)) := R
  have e0 : Ask0 (ms_thrown μ 0) := e0
  have T : TxM (ms_thrown μ 0) t l := T
  have ekp : m_isKept μ = m_isKept (ms_thrown μ 0) := rfl
  have esv : m_saved μ = m_saved (ms_thrown μ 0) := rfl
  rw [ekp, esv] at hp
  subst hs1
  have H2 : Hh (ms_thrown μ 0) s2 3797 := by
    rw [hs2]
    exact Hh.mix (h := m_hash (ms_thrown μ 0)) ⟨rfl, rfl, rfl, rfl, rfl, rfl, id, rfl⟩ _
  clear hs2
  generalize ms_thrown μ 0 = μ at *
  refine ⟨fun n v s => ∃ i, i ≤ 15 ∧ n = 15 - i ∧ v = nI i ∧ Hh μ s (mixF 3797 (cntV r (m_saved μ)) i), ⟨15, 0, Nat.zero_le _, rfl, rfl, by rw [mixF_0]; exact H2⟩, ?_⟩
  rintro n v s ⟨i, hi, rfl, rfl, H⟩
  refine ⟨fun h9 => ?_, fun h9 => ?_⟩
  · have e : i = 15 := Nat.le_antisymm hi ((nI_leI (a := 15) (by omega) (by omega)).mp h9)
    subst e
    have hp : ∀ s' h', Hh μ s' h' → post (DC t l (if m_isKept μ = 0 then 0 else 1) (31 * (31 * DB r (worthsF r (mixF (bidrsF r (spotsF r (mixF (mixF 3797 (cntV r (m_saved μ)) 15) (fun k => r (162 + k)) 3) 6) 6) (bidsV r) 180) 7) + b) + b2.toInt64)) s' := hp
    generalize mixF 3797 (cntV r (m_saved μ)) 15 = hA at H hp
    refine ⟨fun n v s => ∃ i, i ≤ 3 ∧ n = 3 - i ∧ v = nI i ∧ Hh μ s (mixF hA (fun k => r (162 + k)) i), ⟨3, 0, Nat.zero_le _, rfl, rfl, by rw [mixF_0]; exact H⟩, ?_⟩
    rintro n v s ⟨i, hi, rfl, rfl, H⟩
    refine ⟨fun h9 => ?_, fun h9 => ?_⟩
    · have e : i = 3 := Nat.le_antisymm hi ((nI_leI (a := 3) (by omega) (by omega)).mp h9)
      subst e
      generalize mixF hA (fun k => r (162 + k)) 3 = hC at H hp
      refine m_mixSpots R e0 H (fun s3 H3 => ?_)
      generalize mixF (bidrsF r (spotsF r hC 6) 6) (bidsV r) 180 = hD at H3 hp
      refine ⟨fun n v s => ∃ i, i ≤ 7 ∧ n = 7 - i ∧ v = nI i ∧ Hh μ s (worthsF r hD i), ⟨7, 0, Nat.zero_le _, rfl, rfl, by rw [worthsF_0]; exact H3⟩, ?_⟩
      rintro n v s ⟨i, hi, rfl, rfl, H⟩
      refine ⟨fun h9 => ?_, fun h9 => ?_⟩
      · have e : i = 7 := by
          have := (nI_ltI (a := 6) (by omega) (by omega)).mp h9
          omega
        subst e
        generalize worthsF r hD 7 = HA at H hp
        refine m_wouldBid (H.R R) 1 2 (nI 20) (nI 0) (by decide) (by decide) (by decide) (by decide) (fun s1 S1 => ?_)
        refine m_mixh (H.sm S1) (fun s2 H2 => ?_)
        refine m_wouldBid (H2.R R) 1 2 (nI 20) (nI 1) (by decide) (by decide) (by decide) (by decide) (fun s3 S3 => ?_)
        refine m_mixh (H2.sm S3) (fun s4 H4 => ?_)
        refine m_least (H4.R R) 0 0 (by decide) (by decide) (fun s5 S5 => ?_)
        refine m_mixh (H4.sm S5) (fun s6 H6 => ?_)
        refine m_keen (H6.R R) (H6.ask e0) (fun s7 S7 => ?_)
        refine m_mixh (H6.sm S7) (fun s8 H8 => ?_)
        refine m_share (H8.R R) ?_
        refine hb _ ?_
        refine m_mixh H8 (fun s9 H9 => ?_)
        refine m_mean (H9.R R) hm ?_
        refine hf _ ?_
        refine m_mixh H9 (fun s10 H10 => ?_)
        have hk : m_isKept s10 = m_isKept μ := H10.2.2.2.1
        unfold DC DB at hp
        refine ⟨fun z => ?_, fun z => ?_⟩
        · refine m_mixh H10 (fun s11 H11 => ?_)
          rw [hk] at z
          rw [if_pos z] at hp
          exact m_mixText hc T H11 (fun s' H' => hp s' _ H')
        · refine m_mixh H10 (fun s11 H11 => ?_)
          rw [hk] at z
          rw [if_neg z] at hp
          exact m_mixText hc T H11 (fun s' H' => hp s' _ H')
      · have e : i ≤ 6 := by
          rcases Nat.lt_or_ge i 7 with z | z
          · omega
          · exact absurd (nI_lt (a := 6) (by omega) (by omega)) h9
        refine m_worthWV (H.R R) (H.ask e0) i e (fun s1 S1 => ?_)
        refine m_mixh (H.sm S1) (fun s2 H2 => ?_)
        refine m_mixh H2 (fun s3 H3 => ?_)
        intro w hw
        exact ⟨7 - (i + 1), by omega, i + 1, by omega, rfl, by rw [hw, nI_1], H3⟩
    · have e : i < 3 := Nat.lt_of_not_le fun q => h9 (nI_le (a := 3) q (by omega))
      have e12 : (12 : Int32) + nI i = nI (12 + i) := nI_add 12 i
      rw [e12, nI_clamp (by omega), (H.R R).P _ _ (PI_set e)]
      refine ⟨q_in (by omega) (by decide), ?_⟩
      refine m_mixh H (fun s' H' => ?_)
      intro w hw
      exact ⟨3 - (i + 1), by omega, i + 1, by omega, rfl, by rw [hw, nI_1], H'⟩
  · have e : i < 15 := Nat.lt_of_not_le fun q => h9 (nI_le (a := 15) q (by omega))
    refine m_counted (H.R R) i (by omega) ?_
    rw [H.2.2.1]
    refine m_mixh H (fun s' H' => ?_)
    intro w hw
    exact ⟨15 - (i + 1), by omega, i + 1, by omega, rfl, by rw [hw, nI_1], H'⟩
end
theorem Inv.hh {m : Nat} {σ : CS} {μ s : MS} {h : Int64} (I : Inv m σ μ) (H : Hh μ s h) : Inv m σ s := by
  obtain ⟨s1, s2, s3, s4, s5, s6, s7, s8⟩ := H
  refine ⟨by rw [s2]; exact I.R, ?_, ?_, ?_, s7 I.ask⟩
  · rw [s2, s3]; exact I.sv
  · have := I.kp
    unfold Kp at this ⊢
    rw [s2, s4]; exact this
  · have := I.tx
    unfold Tx at this ⊢
    rw [s5, s6]; exact this
theorem case_29 {m L : Nat} {xs : Nat → Int32} {σ : CS} {f : Nat → Int64} {μ : MS} {v4 : Int32} {K : KK} (hm : m ≤ 100000) (I : Inv m σ μ) (hK : Nx m K) : wpl_29 L xs σ f μ v4 K := by
  unfold wpl_29
  obtain ⟨l, hch, TC, TM⟩ := I.txt
  obtain ⟨b, hb1, hb2⟩ := bits_pair (shV_ok I.R.o1 I.R.o3).2
  obtain ⟨hv, -, b2, hf1, hf2⟩ := fbits_pair (mpV_ok I.R.o1 I.R.o3 hm)
  obtain ⟨n, hn, hc, hs⟩ := I.n
  have htk : (c_taken σ = 0 ∧ m_isKept μ = 0) ∨ (c_taken σ = 1 ∧ m_isKept μ = 1) := by
    rcases I.kp with z | z
    · exact Or.inl z
    · exact Or.inr ⟨z.1, z.2.1⟩
  refine w_digest I.R.o1 I.R.o3 hm TC hch (htk.imp (fun z => z.1) (fun z => z.1)) hb1 hf1 hv (fun σ' Kσ => ?_)
  refine m_digest I.R I.ask hm hch TM hb2 hf2 (fun s' h' H' => ?_)
  have e1 : c_saved σ = m_saved μ := hc.trans hs.symm
  have e2 : (if c_taken σ = 0 then (0 : Int64) else 1) = if m_isKept μ = 0 then 0 else 1 := by
    rcases htk with ⟨a, c⟩ | ⟨a, c⟩
    · rw [a, c]
    · rw [a, c]
  rw [e1, e2]
  refine ⟨fun _ => hK _ _ _ ?_, fun z => z (lg_refl _)⟩
  obtain ⟨f2, g2, rfl⟩ := Kσ
  exact (((I.thr 0).hh H').key f2 g2).mono (by omega)
