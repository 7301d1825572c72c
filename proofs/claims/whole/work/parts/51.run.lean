/-! pure part: firstError and run -/
theorem Inv.pz {m : Nat} {σ : CS} {μ μ' : MS} (h : Inv m σ μ) (S : Pz μ μ') : Inv m σ μ' := by
  obtain ⟨s1, s2, s3, s4, s5, s6, s7, s8, s9⟩ := S
  refine ⟨by rw [s2]; exact h.R, ?_, ?_, ?_, ?_⟩
  · rw [s2, s3]; exact h.sv
  · have := h.kp
    unfold Kp at this ⊢
    rw [s2, s4]; exact this
  · have := h.tx
    unfold Tx at this ⊢
    rw [s5, s6]; exact this
  · have := h.ask
    unfold Ask0 at this ⊢
    rw [s8, s9]; exact this
theorem Inv.txt {m : Nat} {σ : CS} {μ : MS} (h : Inv m σ μ) : ∃ l, Chr (m_text μ) l ∧ TxC σ (m_text μ) l ∧ TxM μ (m_text μ) l := by
  obtain ⟨l, h1, h2, h3, h4⟩ := h.tx
  exact ⟨l, ⟨h1, fun i hi => (h4 i hi).2⟩, ⟨h2, fun i hi => (h4 i hi).1⟩, rfl, h3⟩
section
variable {m L : Nat} {xs : Nat → Int32} {σ : CS} {f : Nat → Int64} {μ : MS} {v4 : Int32} {K : KK}
theorem case_11 (I : Inv m σ μ) (hK : Nx m K) : wpl_11 L xs σ f μ v4 K := by
  unfold wpl_11 wp_X4_firstError
  have I0 := I.thr 0
  obtain ⟨l, hch, TC, TM⟩ := I0.txt
  generalize m_text (ms_thrown μ 0) = t at *
  refine w_firstWrong TC hch (fun e he h1 h2 => ?_)
  intro s1 hs1
  subst hs1
  refine m_isAuction TM hch (fun s' hz ha hac hnw => ?_) (fun s' e' hz ha he' h1' h2' _ => ?_)
  · have ee : e = l := err_uniq h1 h2 hnw (st_end (Nat.le_refl _))
    refine ⟨fun _ => hK _ _ _ ((I0.pz hz).mono (by omega)), fun h => h ?_⟩
    rw [ha, ee]
  · have ee : e = e' := err_uniq h1 h2 h1' h2'
    refine ⟨fun _ => hK _ _ _ ((I0.pz hz).mono (by omega)), fun h => h ?_⟩
    rw [ha, ee]
end
/-- the rows behind k parts, and where the next part begins -/
def sq (r0 t : Nat → Int32) (l : Nat) : Nat → (Nat → Int32) × Nat
  | 0 => (r0, 0)
  | k + 1 => (pRow (sq r0 t l k).1 t l (sq r0 t l k).2 (qOf t l (sq r0 t l k).2), qOf t l (sq r0 t l k).2 + 1)
def StpR (r0 t : Nat → Int32) (l k : Nat) : Prop := l < (sq r0 t l k).2 ∨ pOk (sq r0 t l k).1 t l (sq r0 t l k).2 (qOf t l (sq r0 t l k).2) = false
def Rn (r0 t : Nat → Int32) (l k : Nat) : Prop := ∀ j, j < k → ¬ StpR r0 t l j
theorem Rn.s {r0 t : Nat → Int32} {l k : Nat} (h : Rn r0 t l k) (h2 : ¬ StpR r0 t l k) : Rn r0 t l (k + 1) := fun j hj => by
  by_cases e : j = k
  · subst e; exact h2
  · exact h j (by omega)
theorem Rn.uniq {r0 t : Nat → Int32} {l k k' : Nat} (h : Rn r0 t l k) (h2 : StpR r0 t l k) (h' : Rn r0 t l k') (h2' : StpR r0 t l k') : k = k' := by
  rcases Nat.lt_trichotomy k k' with q | q | q
  · exact absurd h2 (h' k q)
  · exact q
  · exact absurd h2' (h k' q)
/-- a part's deed keeps the relation -/
theorem rl_part {m : Nat} {r t2 t : Nat → Int32} {l p q : Nat} {c f g k : Int32} (R : Rl m r t2) (hm : m ≤ 900000) (P : PR t l p q c f g k) (hok : pOk r t l p q = true) : ∃ t', Rl (m + 1) (pRow r t l p q) t' := by
  rcases P with ⟨-, hc, a, b, n, ha, hb, hn1, hn99, -, -, -, hca, hcb, hN⟩ | ⟨-, hc, a, b, ha, hb, -, -, hca, hcb, -⟩ | ⟨-, hc, n, hn1, hn23, -, hN⟩ | ⟨-, hc, a, ha, -, hca, -⟩ | ⟨-, hc, -⟩ | ⟨-, hc, -⟩
  · have N : NumAt t l (p + 3) q n := hN
    obtain ⟨e1, e2⟩ := pRow_98 (r := r) hc hca hcb N.is
    have hnt : (nI n).toInt = n := nI_toInt (by omega)
    rw [e1]
    exact ⟨_, rl_seal R (by omega) ha hb (by omega) (by omega)⟩
  · obtain ⟨e1, e2⟩ := pRow_119 (r := r) (q := q) hc hca hcb
    rw [e2] at hok
    rw [e1]
    exact ⟨_, rl_take R ha hb (of_decide_eq_true hok)⟩
  · have N : NumAt t l (p + 1) q n := hN
    obtain ⟨e1, e2⟩ := pRow_104 (r := r) hc N.is
    have hnt : (nI n).toInt = n := nI_toInt (by omega)
    rw [e1]
    exact ⟨_, rl_hour R (by omega) (by omega)⟩
  · obtain ⟨e1, e2⟩ := pRow_102 (r := r) (q := q) hc hca
    rw [e2] at hok
    have h1 := of_decide_eq_true hok
    rcases rCan_01 r a with h0 | ⟨h0, h2⟩
    · rw [h0] at h1; exact absurd h1 (by decide)
    · obtain ⟨w, hw, ho⟩ := owner_nat R.o1 ha h2
      have ew : (r (12 + a)).toInt.toNat = w := by rw [ho, nI_toInt (by omega)]; omega
      rw [e1, ew]
      exact ⟨_, (rl_high (rl_low (rl_haul R ha hw) ha) ha).mono (Nat.le_succ m)⟩
  · obtain ⟨e1, e2⟩ := pRow_111 (r := r) (q := q) hc
    rw [e2] at hok
    rw [e1]
    exact ⟨_, rl_gF R (by omega) (of_decide_eq_true hok) 6 (Nat.le_refl _)⟩
  · obtain ⟨e1, e2⟩ := pRow_110 (r := r) (q := q) hc
    rw [e1]
    exact ⟨_, rl_day R⟩
theorem sq_ok {m : Nat} {r0 t0 t : Nat → Int32} {l : Nat} (R : Rl m r0 t0) (hm : m ≤ 800000) (hl : l ≤ 60) (C : acc (st t l l)) : ∀ k, Rn r0 t l k → k ≤ (sq r0 t l k).2 ∧ (sq r0 t l k).2 ≤ l + 1 ∧ ((sq r0 t l k).2 ≤ l → st t l (sq r0 t l k).2 = 0) ∧ ∃ t', Rl (m + k) (sq r0 t l k).1 t'
  | 0, _ => ⟨Nat.zero_le _, Nat.zero_le _, fun _ => rfl, t0, R⟩
  | k + 1, h => by
    obtain ⟨h1, h2, h3, t1, h4⟩ := sq_ok R hm hl C k (fun j hj => h j (by omega))
    have hs := h k (Nat.lt_succ_self k)
    have hb : (sq r0 t l k).2 ≤ l := by
      rcases Nat.lt_or_ge l (sq r0 t l k).2 with q | q
      · exact absurd (Or.inl q) hs
      · exact q
    have hok : pOk (sq r0 t l k).1 t l (sq r0 t l k).2 (qOf t l (sq r0 t l k).2) = true := by
      cases e : pOk (sq r0 t l k).1 t l (sq r0 t l k).2 (qOf t l (sq r0 t l k).2)
      · exact absurd (Or.inr e) hs
      · rfl
    obtain ⟨q, c, f, g, x, G, P⟩ := parse C hb (h3 hb)
    obtain ⟨eq, hq⟩ := good_q C G
    rw [eq] at hok
    obtain ⟨t2, h5⟩ := rl_part h4 (by omega) P hok
    have e1 : (sq r0 t l (k + 1)).2 = q + 1 := by show qOf t l (sq r0 t l k).2 + 1 = _; rw [eq]
    have e2 : (sq r0 t l (k + 1)).1 = pRow (sq r0 t l k).1 t l (sq r0 t l k).2 q := by show pRow _ t l _ (qOf t l (sq r0 t l k).2) = _; rw [eq]
    rw [e1, e2]
    refine ⟨by have := G.1; omega, by have := G.2.1; omega, fun hle => ?_, t2, h5⟩
    rcases hq with hq | hq
    · omega
    · exact hq.2.2
/-- the class's loop over the parts -/
theorem w_runLoop {m : Nat} {σ : CS} {t t0 : Nat → Int32} {l : Nat} (T : TxC σ t l) (h : Chr t l) (R : Rl m (c_row σ) t0) (hm : m ≤ 800000) (C : acc (st t l l)) {post : Int32 → CS → Prop} (hp : ∀ k f g, Rn (c_row σ) t l k → StpR (c_row σ) t l k → post (nI k) (cs_len (cs_row (cs_most (cs_keys σ f) g) (sq (c_row σ) t l k).1) 0)) : ∃ I3 : Nat → Int32 → Int32 → Int32 → Int32 → CS → Prop, (∃ n : Nat, I3 n 0 0 1 0 σ) ∧ ∀ (n3 : Nat) (v1_3 : Int32) (v2_3 : Int32) (v3_3 : Int32) (v4_3 : Int32) (σ_3 : CS), I3 n3 v1_3 v2_3 v3_3 v4_3 σ_3 → ((v3_3 = 0 → wp_X3_empty σ_3 (fun r_4 σ_5 => post v1_3 σ_5)) ∧ (¬ v3_3 = 0 → wp_X3_length σ_3 (fun r_6 => ((r_6 < v4_3 → wp_X3_empty σ_3 (fun r_7 σ_8 => post v1_3 σ_8)) ∧ (¬ r_6 < v4_3 → wp_X3_isEndOfPart σ_3 v4_3 (fun r_9 => ((r_9 = 0 → ∀ v4_10 : Int32, v4_10 = v4_3 + 1 → ∃ n' : Nat, n' < n3 ∧ I3 n' v1_3 v2_3 v3_3 v4_10 (σ_3)) ∧ (¬ r_9 = 0 → wp_X4_doPart σ_3 v2_3 v4_3 (fun r_11 σ_12 => ((r_11 = 0 → ∀ v1_13 : Int32, v1_13 = (v1_3 + 0) → ∀ v2_14 : Int32, v2_14 = (v4_3 + 1) → ∀ v4_15 : Int32, v4_15 = v4_3 + 1 → ∃ n' : Nat, n' < n3 ∧ I3 n' v1_13 v2_14 r_11 v4_15 (σ_12)) ∧ (¬ r_11 = 0 → ∀ v1_16 : Int32, v1_16 = (v1_3 + 1) → ∀ v2_17 : Int32, v2_17 = (v4_3 + 1) → ∀ v4_18 : Int32, v4_18 = v4_3 + 1 → ∃ n' : Nat, n' < n3 ∧ I3 n' v1_16 v2_17 r_11 v4_18 (σ_12)))))))))))) := by
  have hl := h.1
  have hok := sq_ok R hm hl C
  generalize hr0 : c_row σ = r0 at *
  refine ⟨fun n v1 v2 v3 v4 s => ∃ k, Rn r0 t l k ∧ v1 = nI k ∧ (∃ f g, s = cs_row (cs_most (cs_keys σ f) g) (sq r0 t l k).1) ∧ ((n = 0 ∧ v3 = 0 ∧ StpR r0 t l k) ∨ ∃ e, n = l + 2 - e ∧ v3 = 1 ∧ v2 = nI (sq r0 t l k).2 ∧ v4 = nI e ∧ (sq r0 t l k).2 ≤ e ∧ e ≤ l + 1 ∧ ∀ i, (sq r0 t l k).2 ≤ i → i < e → i ≠ l ∧ cN t l i ≠ 59), ⟨l + 2 - 0, 0, fun j hj => absurd hj (Nat.not_lt_zero _), rfl, ⟨c_keys σ, c_most σ, ?_⟩, Or.inr ⟨0, rfl, rfl, rfl, rfl, Nat.le_refl _, Nat.zero_le _, fun i h1 h2 => absurd h2 (Nat.not_lt_zero _)⟩⟩, ?_⟩
  · rw [key_self]
    show σ = cs_row σ r0
    rw [← hr0]; rfl
  rintro n v1 v2 v3 v4 s ⟨k, hR, rfl, ⟨f, g, rfl⟩, hcase⟩
  have hpf := hp k f g hR
  rcases hcase with ⟨rfl, rfl, hS⟩ | ⟨e, rfl, rfl, rfl, rfl, hbe, hel, hsc⟩
  · refine ⟨fun _ => ?_, fun q => absurd rfl q⟩
    intro v hv s2 hs2
    rw [hs2]
    exact hpf hS
  · obtain ⟨o1, o2, o3, t', o4⟩ := hok k hR
    have T' : TxC (cs_row (cs_most (cs_keys σ f) g) (sq r0 t l k).1) t l := T
    refine ⟨fun q => absurd q (by decide), fun _ => ?_⟩
    have elen : c_len (cs_row (cs_most (cs_keys σ f) g) (sq r0 t l k).1) = nI l := T.1
    unfold wp_X3_length
    rw [elen]
    refine ⟨fun hlt => ?_, fun hlt => ?_⟩
    · have hlt := (nI_ltI (by omega) (by omega)).mp hlt
      have ee : e = l + 1 := by omega
      have hS : StpR r0 t l k := by
        refine Or.inl ?_
        rcases Nat.lt_or_ge l (sq r0 t l k).2 with q | q
        · exact q
        · exact absurd rfl (hsc l q (by omega)).1
      intro v hv s2 hs2
      rw [hs2]
      exact hpf hS
    · rw [nI_ltI (by omega) (by omega)] at hlt
      have hle : e ≤ l := by omega
      unfold wp_X3_isEndOfPart
      rw [elen]
      have next : cN t l e ≠ 59 → e ≠ l → ∀ w : Int32, w = nI e + 1 → ∃ n', n' < l + 2 - e ∧ ∃ k', Rn r0 t l k' ∧ nI k = nI k' ∧ (∃ f' g', cs_row (cs_most (cs_keys σ f) g) (sq r0 t l k).1 = cs_row (cs_most (cs_keys σ f') g') (sq r0 t l k').1) ∧ ((n' = 0 ∧ (1 : Int32) = 0 ∧ StpR r0 t l k') ∨ ∃ e', n' = l + 2 - e' ∧ (1 : Int32) = 1 ∧ nI (sq r0 t l k).2 = nI (sq r0 t l k').2 ∧ w = nI e' ∧ (sq r0 t l k').2 ≤ e' ∧ e' ≤ l + 1 ∧ ∀ i, (sq r0 t l k').2 ≤ i → i < e' → i ≠ l ∧ cN t l i ≠ 59) := by
        intro h1 h2 w hw
        refine ⟨l + 2 - (e + 1), by omega, k, hR, rfl, ⟨f, g, rfl⟩, Or.inr ⟨e + 1, rfl, rfl, rfl, by rw [hw, nI_1], by omega, by omega, fun i a b => ?_⟩⟩
        by_cases q : i = e
        · subst q; exact ⟨h2, h1⟩
        · exact hsc i a (by omega)
      have part : (e = l ∨ cN t l e = 59) → wp_X4_doPart (cs_row (cs_most (cs_keys σ f) g) (sq r0 t l k).1) (nI (sq r0 t l k).2) (nI e) (fun r_11 σ_12 => ((r_11 = 0 → ∀ v1_13 : Int32, v1_13 = (nI k + 0) → ∀ v2_14 : Int32, v2_14 = (nI e + 1) → ∀ v4_15 : Int32, v4_15 = nI e + 1 → ∃ n' : Nat, n' < l + 2 - e ∧ ∃ k', Rn r0 t l k' ∧ v1_13 = nI k' ∧ (∃ f' g', σ_12 = cs_row (cs_most (cs_keys σ f') g') (sq r0 t l k').1) ∧ ((n' = 0 ∧ r_11 = 0 ∧ StpR r0 t l k') ∨ ∃ e', n' = l + 2 - e' ∧ r_11 = 1 ∧ v2_14 = nI (sq r0 t l k').2 ∧ v4_15 = nI e' ∧ (sq r0 t l k').2 ≤ e' ∧ e' ≤ l + 1 ∧ ∀ i, (sq r0 t l k').2 ≤ i → i < e' → i ≠ l ∧ cN t l i ≠ 59)) ∧ (¬ r_11 = 0 → ∀ v1_16 : Int32, v1_16 = (nI k + 1) → ∀ v2_17 : Int32, v2_17 = (nI e + 1) → ∀ v4_18 : Int32, v4_18 = nI e + 1 → ∃ n' : Nat, n' < l + 2 - e ∧ ∃ k', Rn r0 t l k' ∧ v1_16 = nI k' ∧ (∃ f' g', σ_12 = cs_row (cs_most (cs_keys σ f') g') (sq r0 t l k').1) ∧ ((n' = 0 ∧ r_11 = 0 ∧ StpR r0 t l k') ∨ ∃ e', n' = l + 2 - e' ∧ r_11 = 1 ∧ v2_17 = nI (sq r0 t l k').2 ∧ v4_18 = nI e' ∧ (sq r0 t l k').2 ≤ e' ∧ e' ≤ l + 1 ∧ ∀ i, (sq r0 t l k').2 ≤ i → i < e' → i ≠ l ∧ cN t l i ≠ 59)))) := by
        intro hend
        have hq : qOf t l (sq r0 t l k).2 = e := qOf_eq hbe hle (fun i a b => (hsc i a b).2) hend
        obtain ⟨q, c, f1, g1, x, G, P⟩ := parse C (by omega) (o3 (by omega))
        obtain ⟨eq, hq2⟩ := good_q C G
        have eqe : q = e := eq.symm.trans hq
        subst eqe
        refine w_doPart T' h o4.o1 P (by omega) (fun hok1 f' g' => ?_) (fun hok0 => ?_)
        · have hok1 : pOk (sq r0 t l k).1 t l (sq r0 t l k).2 q = true := hok1
          refine ⟨fun z => absurd z (by decide), fun _ => ?_⟩
          intro w1 hw1 w2 hw2 w4 hw4
          have hns : ¬ StpR r0 t l k := by
            rintro (z | z)
            · omega
            · rw [hq, hok1] at z; exact absurd z (by decide)
          have e1 : (sq r0 t l (k + 1)).2 = q + 1 := by show qOf t l (sq r0 t l k).2 + 1 = _; rw [hq]
          have e2 : (sq r0 t l (k + 1)).1 = pRow (sq r0 t l k).1 t l (sq r0 t l k).2 q := by show pRow _ t l _ (qOf t l (sq r0 t l k).2) = _; rw [hq]
          refine ⟨l + 2 - (q + 1), by omega, k + 1, hR.s hns, by rw [hw1, nI_1], ⟨f', g', by rw [e2]; rfl⟩, Or.inr ⟨q + 1, rfl, rfl, by rw [hw2, e1, nI_1], by rw [hw4, nI_1], by omega, by omega, fun i a b => by omega⟩⟩
        · have hok0 : pOk (sq r0 t l k).1 t l (sq r0 t l k).2 q = false := hok0
          refine ⟨fun _ => ?_, fun z => absurd rfl z⟩
          intro w1 hw1 w2 hw2 w4 hw4
          exact ⟨0, by omega, k, hR, by rw [hw1, Int32.add_zero], ⟨f, g, rfl⟩, Or.inl ⟨rfl, rfl, Or.inr (by rw [hq]; exact hok0)⟩⟩
      refine ⟨fun he => ?_, fun he => ?_⟩
      · have he : e = l := (nI_eq (by omega) (by omega)).mp he
        exact ⟨fun z => absurd z (by decide), fun _ => part (Or.inl he)⟩
      · have hne : e ≠ l := fun z => he (by rw [z])
        refine w_code T' h e (by omega) ?_
        have hk := cN_lt h e
        refine ⟨fun z => ⟨fun _ => next (fun y => z (by rw [y]; rfl)) hne, fun y => absurd rfl y⟩, fun z => ⟨fun y => absurd y (by decide), fun _ => part (Or.inr ((nI_eq (b := 59) (by omega) (by omega)).mp z))⟩⟩
/-- nothing is read where no part begins -/
theorem m_readsNone {s : MS} {t : Nat → Int32} {l p : Nat} (T : TxM s t l) (h : Chr t l) (ha : m_at s = nI p) (hpl : p ≤ l) (hc : cN t l p = 0) {post : Int32 → MS → Prop} (hb : ∀ s', Pz s s' → m_at s' = nI p → post 0 s') : wp_X5_readsPart s post := by
  have hl := h.1
  refine m_sign T h ha (by omega) ?_
  intro s2 hs2
  have H2 : St s s2 p (nI (cN t l p)) (m_first s) (m_second s) (m_third s) := by
    rw [hs2]
    exact St.part (c := m_part s) ⟨Pz.refl s, ha, rfl, rfl, rfl, rfl⟩ _
  clear hs2
  refine m_takes (T.z H2.z) h H2.a (by omega) 111 rfl (by decide) (fun q => by omega) (fun _ => ⟨fun q => absurd rfl q, fun _ => ?_⟩)
  refine m_takes (T.z H2.z) h H2.a (by omega) 110 rfl (by decide) (fun q => by omega) (fun _ => ⟨fun _ => ?_, fun q => absurd rfl q⟩)
  refine m_takes (T.z H2.z) h H2.a (by omega) 104 rfl (by decide) (fun q => by omega) (fun _ => ⟨fun _ => ?_, fun q => absurd rfl q⟩)
  refine m_takes (T.z H2.z) h H2.a (by omega) 102 rfl (by decide) (fun q => by omega) (fun _ => ⟨fun _ => ?_, fun q => absurd rfl q⟩)
  refine m_takes (T.z H2.z) h H2.a (by omega) 98 rfl (by decide) (fun q => by omega) (fun _ => ⟨fun q => absurd rfl q, fun _ => ?_⟩)
  refine m_takes (T.z H2.z) h H2.a (by omega) 119 rfl (by decide) (fun q => by omega) (fun _ => ⟨fun _ => ?_, fun q => absurd rfl q⟩)
  intro s32 h32
  have H4 := H2.first (-1)
  rw [← h32] at H4
  exact t2bad H4 (fun s' H' => hb s' H'.z H'.a)
/-- the reference's loop over the parts -/
theorem m_runLoop {m : Nat} {σ : CS} {s0 : MS} {t : Nat → Int32} {l : Nat} (I : Inv m σ s0) (T : TxM s0 t l) (h : Chr t l) (hm : m ≤ 800000) (C : acc (st t l l)) (hth : m_thrown s0 = 0) {post : Int32 → MS → Prop} (hp : ∀ k s, Rn (c_row σ) t l k → StpR (c_row σ) t l k → k ≤ 61 → Inv (m + k) (cs_row σ (sq (c_row σ) t l k).1) s → m_thrown s = 0 → post (nI k) (ms_length s 0)) : ∀ s1 : MS, s1 = ms_at s0 0 → ∃ I7 : Nat → Int32 → MS → Prop, (∃ n : Nat, I7 n 0 s1) ∧ ∀ (n7 : Nat) (v1_7 : Int32) (σ_7 : MS), I7 n7 v1_7 σ_7 → wp_X5_readsPart σ_7 (fun r_8 σ_9 => ((r_8 = 0 → ∀ σ_10 : MS, σ_10 = ms_length σ_9 0 → post v1_7 σ_10) ∧ (¬ r_8 = 0 → wp_X5_isDone σ_9 (fun r_11 σ_12 => ((r_11 = 0 → ∀ σ_13 : MS, σ_13 = ms_length σ_12 0 → post v1_7 σ_13) ∧ (¬ r_11 = 0 → ∀ v1_14 : Int32, v1_14 = v1_7 + 1 → wp_X5_takes σ_12 59 (fun r_15 σ_16 => ∃ n' : Nat, n' < n7 ∧ I7 n' v1_14 (σ_16)))))))) := by
  intro s1 hs1
  have hl := h.1
  have hok := sq_ok I.R hm hl C
  generalize hr0 : c_row σ = r0 at *
  have zat : ∀ (s : MS) (v : Int32), Pz s (ms_at s v) := by
    intro s v
    obtain ⟨x1, x2, x3, x4, x5, x6, x7, x8, x9, x10, x11, x12, x13, x14, x15, x16, x17, x18⟩ := s; unfold Pz; simp only [m_thrown, ms_thrown, m_s, ms_s, m_saved, ms_saved, m_isKept, ms_isKept, m_text, ms_text, m_length, ms_length, m_at, ms_at, m_part, ms_part, m_first, ms_first, m_second, ms_second, m_third, ms_third, m_asker, ms_asker, m_askedSpot, ms_askedSpot, m_askedAmount, ms_askedAmount, m_best, ms_best, m_shared, ms_shared, m_due, ms_due, m_hash, ms_hash, and_self, and_true, true_and, eq_self, imp_self]
  have hz1 := zat s0 0
  have I0 : Inv m (cs_row σ r0) s1 := by
    rw [hs1, ← hr0]
    exact I.pz hz1
  refine ⟨fun n v s => ∃ k, Rn r0 t l k ∧ n = l + 2 - (sq r0 t l k).2 ∧ v = nI k ∧ Inv (m + k) (cs_row σ (sq r0 t l k).1) s ∧ m_thrown s = 0 ∧ TxM s t l ∧ m_at s = nI (min (sq r0 t l k).2 l), ⟨l + 2 - 0, 0, fun j hj => absurd hj (Nat.not_lt_zero _), rfl, rfl, I0, ?_, ?_, ?_⟩, ?_⟩
  · rw [hs1]; exact hz1.1.trans hth
  · rw [hs1]; exact T.z hz1
  · rw [hs1]; show m_at (ms_at s0 0) = nI (min 0 l); rw [(at_len s0 0).2.2, Nat.zero_min]; rfl
  rintro n v s ⟨k, hR, rfl, rfl, Ik, hts, Ts, has⟩
  obtain ⟨o1, o2, o3, t', o4⟩ := hok k hR
  by_cases hb : (sq r0 t l k).2 ≤ l
  · rw [Nat.min_eq_left hb] at has
    refine m_readsPart Ts h (Pz.refl s) has hb (o3 hb) (fun s' e hz ha B => ?_) (fun s' q hz ha G P => ?_)
    · -- a complete auction has no error
      exfalso
      obtain ⟨b1, b2, b3, b4, b5⟩ := B
      rcases Nat.lt_or_ge e l with z | z
      · exact st_nw C (j := e + 1) (by omega) b5
      · obtain rfl : e = l := by omega
        exact b4 C
    · refine ⟨fun z => absurd z (by decide), fun _ => ?_⟩
      obtain ⟨eq, hq2⟩ := good_q C G
      have Is := Ik.pz hz
      have hts' : m_thrown s' = 0 := hz.1.trans hts
      have Ts' := Ts.z hz
      refine m_isDone (r := (sq r0 t l k).1) Is.R Is.ask (by omega) P (fun hok1 t2 s2 R2 ho2 S2 => ?_) (fun hok0 => ?_)
      · refine ⟨fun z => absurd z (by decide), fun _ => ?_⟩
        intro w hw
        have hns : ¬ StpR r0 t l k := by
          rintro (z | z)
          · omega
          · rw [eq, hok1] at z; exact absurd z (by decide)
        have e1 : (sq r0 t l (k + 1)).2 = q + 1 := by show qOf t l (sq r0 t l k).2 + 1 = _; rw [eq]
        have e2 : (sq r0 t l (k + 1)).1 = pRow (sq r0 t l k).1 t l (sq r0 t l k).2 q := by show pRow _ t l _ (qOf t l (sq r0 t l k).2) = _; rw [eq]
        have I2 : Inv (m + k + 1) (cs_row σ (sq r0 t l (k + 1)).1) s2 := by
          rw [e2]
          exact (Is.deed (Nat.le_succ _) R2 ho2).sm S2
        have hts2 : m_thrown s2 = 0 := S2.1.trans hts'
        have Ts2 : TxM s2 t l := ⟨S2.2.2.2.2.1.trans Ts'.1, S2.2.2.2.2.2.1.trans Ts'.2⟩
        have ha2 : m_at s2 = nI q := S2.2.2.2.2.2.2.2.1.trans ha
        have g1 := G.1
        have g2 := G.2.1
        refine m_takes Ts2 h ha2 (by omega) 59 rfl (by decide) (fun hc => ?_) (fun hc => ?_)
        · have hql : q < l := by
            have := cN_in2 (t := t) (l := l) (i := q) (by omega)
            exact this
          have hz3 := zat s2 (nI (q + 1))
          refine ⟨l + 2 - (q + 1), by omega, k + 1, hR.s hns, by rw [e1], by rw [hw, nI_1], I2.pz hz3, hz3.1.trans hts2, Ts2.z hz3, ?_⟩
          rw [(at_len s2 _).2.2, e1, Nat.min_eq_left (by omega)]
        · have hql : q = l := by
            rcases hq2 with z | z
            · exact z
            · exact absurd z.2.1 hc
          refine ⟨l + 2 - (q + 1), by omega, k + 1, hR.s hns, by rw [e1], by rw [hw, nI_1], I2, hts2, Ts2, ?_⟩
          rw [ha2, e1, Nat.min_eq_right (by omega), hql]
      · refine ⟨fun _ => ?_, fun z => absurd rfl z⟩
        intro s13 h13
        rw [h13]
        exact hp k s' hR (Or.inr (by rw [eq]; exact hok0)) (by omega) Is hts'
  · rw [Nat.min_eq_right (by omega)] at has
    refine m_readsNone Ts h has (Nat.le_refl _) (cN_ge (Nat.le_refl _)) (fun s' hz ha => ?_)
    refine ⟨fun _ => ?_, fun z => absurd rfl z⟩
    intro s10 h10
    rw [h10]
    exact hp k s' hR (Or.inl (by omega)) (by omega) (Ik.pz hz) (hz.1.trans hts)
theorem saveC_txt {σ : CS} {n : Nat} {t : Nat → Int32} {l : Nat} (T : TxC σ t l) : TxC (saveC σ n) t l := by
  unfold saveC
  by_cases h : n = 6
  · rw [if_pos h]; exact T
  · rw [if_neg h]; exact T
theorem saveM_txt {s : MS} {n : Nat} {t : Nat → Int32} {l : Nat} (T : TxM s t l) : TxM (saveM s n) t l := by
  unfold saveM
  by_cases h : n = 6
  · rw [if_pos h]; exact T
  · rw [if_neg h]; exact T
theorem case_12 {m L : Nat} {xs : Nat → Int32} {σ : CS} {f : Nat → Int64} {μ : MS} {v4 : Int32} {K : KK} (hm : m ≤ 100000) (I : Inv m σ μ) (hK : Nx m K) : wpl_12 L xs σ f μ v4 K := by
  unfold wpl_12 wp_L_run wp_X4_run
  obtain ⟨l, hch, TC, TM⟩ := I.txt
  generalize m_text μ = t at *
  refine w_isComplete TC hch (fun C => ⟨fun _ => ?_, fun q => absurd q (by decide)⟩) (fun C => ⟨fun q => absurd rfl q, fun _ => ⟨rfl, ?_⟩⟩)
  · obtain ⟨n, hn, hc, hs⟩ := I.n
    refine w_save n hn hc ?_
    have IC := I.save hn hc
    refine w_runLoop (saveC_txt TC) hch IC.R (by omega) C (fun k f2 g2 hRn hSt => ?_)
    refine m_isAuction TM hch (fun s' hz ha hac hnw => ?_) (fun s' e' hz ha he' h1' h2' hna => absurd C hna)
    refine ⟨fun q => absurd q (by decide), fun _ => ?_⟩
    refine m_holds0 ⟨fun _ => ?_, fun h => absurd h (by decide)⟩
    have I' := (I.pz hz).thr 0
    have hs' : m_saved (ms_thrown s' 0) = nI n := hz.2.2.1.trans hs
    refine m_save (μ := ms_thrown s' 0) n hn hs' ?_
    have I2 := I'.save hn hc
    have T1 : TxM s' t l := TM.z hz
    have T2 : TxM (saveM (ms_thrown s' 0) n) t l := saveM_txt (s := ms_thrown s' 0) T1
    have ht : m_thrown (saveM (ms_thrown s' 0) n) = 0 := saveM_thr _ _
    generalize saveM (ms_thrown s' 0) n = μ2 at *
    generalize saveC σ n = σ2 at *
    refine m_runLoop I2 T2 hch (by omega) C ht (fun k' s hRn' hSt' hk61 Ik hts => ?_)
    have ek : k' = k := Rn.uniq hRn' hSt' hRn hSt
    subst ek
    have et : m_thrown (ms_length s 0) = 0 := hts
    refine fin0 et (hK _ _ _ ?_)
    have Ik2 := (Ik.key f2 g2).mono (m' := m + 61) (by omega)
    exact ⟨Ik2.R, Ik2.sv, Ik2.kp, ⟨0, by omega, rfl, rfl, fun i hi => absurd hi (Nat.not_lt_zero _)⟩, Ik2.ask⟩
  · refine m_isAuction TM hch (fun s' hz ha hac hnw => absurd hac C) (fun s' e' hz ha he' h1' h2' hna => ?_)
    refine ⟨fun _ => ?_, fun q => absurd rfl q⟩
    refine m_holdsN z1 ⟨fun h => absurd rfl h, fun _ => ?_⟩
    exact finK rfl z1 (hK _ _ _ (((I.pz hz).thr 1).mono (by omega)))
