/-! pure part: the calls that change the state -/
theorem cP_bad {σ : CS} {p n : Int32} {post : Prop} {px : String → Prop} (h : p < 0 ∨ ¬ p < n) (hp : px "java/lang/IndexOutOfBoundsException") : wp_X4_needPlace σ p n post px := ⟨fun _ => hp, fun h1 => ⟨fun h2 => absurd h2 (h.resolve_left h1), fun _ => hp⟩⟩
theorem cP_ok {σ : CS} {p n : Int32} {post : Prop} {px : String → Prop} (h1 : ¬ p < 0) (h2 : p < n) (hp : post) : wp_X4_needPlace σ p n post px := ⟨fun h => absurd h h1, fun _ => ⟨fun _ => hp, fun h => absurd h2 h⟩⟩
theorem cP_N {σ : CS} {k n : Nat} {M : Int32} {post : Prop} {px : String → Prop} (hM : M = nI n) (h : k < n) (hn : n < 2147483648) (hp : post) : wp_X4_needPlace σ (nI k) M post px := cP_ok (nI_pos (by omega)) (by rw [hM]; exact nI_lt h (by omega)) hp
theorem cR_bad {σ : CS} {p a b : Int32} {post : Prop} {px : String → Prop} (h : p < a ∨ ¬ p ≤ b) (hp : px "java/lang/IllegalArgumentException") : wp_X4_needRange σ p a b post px := ⟨fun _ => hp, fun h1 => ⟨fun h2 => absurd h2 (h.resolve_left h1), fun _ => hp⟩⟩
theorem cR_ok {σ : CS} {p a b : Int32} {post : Prop} {px : String → Prop} (h1 : ¬ p < a) (h2 : p ≤ b) (hp : post) : wp_X4_needRange σ p a b post px := ⟨fun h => absurd h h1, fun _ => ⟨fun _ => hp, fun h => absurd h2 h⟩⟩
theorem cS_1 {σ : CS} {post : Prop} {px : String → Prop} (hp : post) : wp_X4_needState σ 1 post px := ⟨fun _ => hp, fun h => absurd h (by decide)⟩
theorem cS_0 {σ : CS} {post : Prop} {px : String → Prop} (hp : px "java/lang/IllegalStateException") : wp_X4_needState σ 0 post px := ⟨fun h => absurd rfl h, fun _ => hp⟩
theorem pl6 (p : Int32) : (p < 0 ∨ ¬ p < 6) ∨ ∃ k, k < 6 ∧ p = nI k := by
  by_cases h : p < 0
  · exact Or.inl (Or.inl h)
  · by_cases h2 : p < 6
    · exact Or.inr (q_of (M := 6) 6 rfl (by decide) h h2)
    · exact Or.inl (Or.inr h2)
theorem pl6m {p : Int32} (h : p < 0 ∨ ¬ p < 6) : p < 0 ∨ 5 < p := by
  rcases h with h | h
  · exact Or.inl h
  · refine Or.inr ?_
    rw [tI_lt, show (6 : Int32).toInt = 6 from by decide] at h
    rw [tI_lt, show (5 : Int32).toInt = 5 from by decide]
    omega
theorem rg (p a b : Int32) : (p < a ∨ ¬ p ≤ b) ∨ (¬ p < a ∧ p ≤ b) := by
  by_cases h : p < a
  · exact Or.inl (Or.inl h)
  · by_cases h2 : p ≤ b
    · exact Or.inr ⟨h, h2⟩
    · exact Or.inl (Or.inr h2)
theorem rgm {p a b : Int32} (h : p < a ∨ ¬ p ≤ b) : p < a ∨ b < p := by
  rcases h with h | h
  · exact Or.inl h
  · refine Or.inr ?_
    rw [tI_le] at h
    rw [tI_lt]
    omega
theorem rgn {p b : Int32} (h : p ≤ b) : ¬ b < p := by
  rw [tI_le] at h
  rw [tI_lt]
  omega
theorem rgt {p a b : Int32} (h1 : ¬ p < a) (h2 : p ≤ b) : a.toInt ≤ p.toInt ∧ p.toInt ≤ b.toInt := by
  rw [tI_lt] at h1
  rw [tI_le] at h2
  omega
def Args (L : Nat) (v4 : Int32) : Prop := vp_in (v4 + 1) L ∧ vp_in (v4 + 2) L ∧ vp_in (v4 + 3) L ∧ vp_in (v4 + 4) L
abbrev KK := CS → (Nat → Int64) → MS → Prop
def Nx (m : Nat) (K : KK) : Prop := ∀ σ f μ, Inv (m + 61) σ μ → K σ f μ
theorem z1 : ¬ (1 : Int32) = 0 := by decide
theorem z2 : ¬ (2 : Int32) = 0 := by decide
theorem z3 : ¬ (3 : Int32) = 0 := by decide
theorem bad {m : Nat} {σ : CS} {μ : MS} {K : KK} (I : Inv m σ μ) (hK : Nx m K) {r4 : Int32} {f : Nat → Int64} {k : Int32} (hk : ¬ k = 0) : wp_X5_thrown (ms_thrown μ k) (fun r_6 => ((r_6 = k → ((¬ k = 0 → K σ f (ms_thrown μ k)) ∧ (k = 0 → (((lg_cmp (f ((0 : Int32)).toNatClampNeg) (r4).toInt64) = 0 → K σ f (ms_thrown μ k)) ∧ (¬ (lg_cmp (f ((0 : Int32)).toNatClampNeg) (r4).toInt64) = 0 → False))))) ∧ (¬ r_6 = k → False))) :=
  finK rfl hk (hK _ _ _ ((I.thr k).mono (Nat.le_add_right _ _)))
theorem case_0 {m L : Nat} {xs : Nat → Int32} {σ : CS} {f : Nat → Int64} {μ : MS} {v4 : Int32} {K : KK} (A : Args L v4) (I : Inv m σ μ) (hK : Nx m K) : wpl_0 L xs σ f μ v4 K := by
  refine ⟨A.1, A.2.1, ?_⟩
  generalize xs (v4 + 1).toNatClampNeg = a
  generalize xs (v4 + 2).toNatClampNeg = b
  unfold wp_L_price wp_X4_price
  rcases pl6 a with ha | ⟨k, hk, rfl⟩
  · refine cP_bad ha (Or.inl ⟨rfl, A.1, A.2.1, ?_⟩)
    refine m_isOne0 (pl6m ha) ⟨fun h => absurd rfl h, fun _ => ?_⟩
    exact m_holdsN z1 ⟨fun _ => bad I hK z1, fun h => absurd rfl h⟩
  · refine cP_N rfl hk (by decide) ?_
    rcases rg b 0 99 with hb | ⟨hb1, hb2⟩
    · refine cR_bad hb (Or.inr ⟨rfl, A.1, A.2.1, ?_⟩)
      refine m_isOneN k hk ⟨fun _ => ?_, fun h => absurd h (by decide)⟩
      refine m_in0 (rgm hb) ⟨fun h => absurd rfl h, fun _ => ?_⟩
      exact m_holdsN z2 ⟨fun _ => bad I hK z2, fun h => absurd rfl h⟩
    · refine cR_ok hb1 hb2 ?_
      have hbt := rgt hb1 hb2
      rw [tI0, show (99 : Int32).toInt = 99 from by decide] at hbt
      obtain ⟨n, hn, hc, hs⟩ := I.n
      refine w_save n hn hc ?_
      have I' := (I.thr 0).save hn hc
      have ht : m_thrown (saveM (ms_thrown μ 0) n) = 0 := saveM_thr _ _
      refine w_get 0 k rfl rfl (by omega) ?_
      refine w_put 0 k rfl rfl (by omega) ?_
      refine ⟨A.1, A.2.1, ?_⟩
      refine m_isOneN k hk ⟨fun _ => ?_, fun h => absurd h (by decide)⟩
      refine m_in1 hb1 (rgn hb2) ⟨fun _ => ?_, fun h => absurd h (by decide)⟩
      refine m_holds0 ⟨fun h => absurd h (by decide), fun _ => ?_⟩
      unfold wp_X5_changed
      refine m_save (μ := ms_thrown μ 0) n hn hs ?_
      generalize saveC σ n = σ2 at *
      generalize saveM (ms_thrown μ 0) n = μ2 at *
      have e0 : ((15 : Int32) + 5 * nI k) + 0 = nI (15 + 5 * k + 0) := x_of k 0
      rw [e0, nI_clamp (by omega)]
      refine ⟨q_in (by omega) (by decide), ?_⟩
      intro v3 hv3
      refine ⟨q_in (by omega) (by decide), ?_⟩
      intro s3 hs3
      have ev : v3 = c_row σ2 (0 + k) := by rw [hv3, Nat.zero_add]; exact I'.R.P _ _ (PI_price hk)
      subst ev; subst hs3
      refine fin0 ht (hK _ _ _ ?_)
      rw [Nat.zero_add]
      refine (I'.deed (Nat.le_refl _) (I'.R.one (PI_price hk) (by omega) ?_) (fun j hj => pk_un (by omega))).mono (Nat.le_add_right _ _)
      unfold Rng; omega
theorem case_1 {m L : Nat} {xs : Nat → Int32} {σ : CS} {f : Nat → Int64} {μ : MS} {v4 : Int32} {K : KK} (A : Args L v4) (I : Inv m σ μ) (hK : Nx m K) : wpl_1 L xs σ f μ v4 K := by
  refine ⟨A.1, A.2.1, ?_⟩
  generalize xs (v4 + 1).toNatClampNeg = a
  generalize xs (v4 + 2).toNatClampNeg = x
  have e4 : m_s μ ((4 : Int32)).toNatClampNeg = c_row σ 166 := I.R.P _ _ PI_coins
  unfold wp_L_pay wp_X4_pay
  rcases pl6 a with ha | ⟨k, hk, rfl⟩
  · refine cP_bad ha (Or.inl ⟨rfl, A.1, A.2.1, ?_⟩)
    refine m_isOne0 (pl6m ha) ⟨fun h => absurd rfl h, fun _ => ?_⟩
    exact m_holdsN z1 ⟨fun h => absurd rfl h, fun _ => bad I hK z1⟩
  · refine cP_N rfl hk (by decide) ?_
    rcases rg x 1 99 with hb | ⟨hb1, hb2⟩
    · refine cR_bad hb (Or.inr (Or.inl ⟨rfl, A.1, A.2.1, ?_⟩))
      refine m_isOneN k hk ⟨fun _ => ?_, fun h => absurd h (by decide)⟩
      refine m_in0 (rgm hb) ⟨fun h => absurd rfl h, fun _ => ?_⟩
      exact m_holdsN z2 ⟨fun h => absurd rfl h, fun _ => bad I hK z2⟩
    · refine cR_ok hb1 hb2 ?_
      have hbt := rgt hb1 hb2
      rw [tI1, show (99 : Int32).toInt = 99 from by decide] at hbt
      refine w_get_ 166 rfl (by decide) ?_
      refine ⟨fun h => ?_, fun h => ?_⟩
      · refine cS_0 (Or.inr (Or.inr ⟨rfl, A.1, A.2.1, ?_⟩))
        refine m_isOneN k hk ⟨fun _ => ?_, fun h => absurd h (by decide)⟩
        refine m_in1 hb1 (rgn hb2) ⟨fun _ => ?_, fun h => absurd h (by decide)⟩
        rw [e4]
        refine ⟨fun h2 => absurd h (rgn h2), fun _ => ?_⟩
        exact m_holdsN z3 ⟨fun h => absurd rfl h, fun _ => bad I hK z3⟩
      · refine cS_1 ?_
        obtain ⟨n, hn, hc, hs⟩ := I.n
        refine w_save n hn hc ?_
        have I' := (I.thr 0).save hn hc
        have ht : m_thrown (saveM (ms_thrown μ 0) n) = 0 := saveM_thr _ _
        have er : c_row (saveC σ n) = c_row σ := saveC_row σ n
        refine w_add 166 0 rfl rfl (by decide) ?_
        refine w_add 30 k rfl rfl (by omega) ?_
        refine w_get 30 k rfl rfl (by omega) ?_
        refine ⟨A.1, A.2.1, ?_⟩
        refine m_isOneN k hk ⟨fun _ => ?_, fun h => absurd h (by decide)⟩
        refine m_in1 hb1 (rgn hb2) ⟨fun _ => ?_, fun h => absurd h (by decide)⟩
        rw [e4]
        refine ⟨fun _ => ?_, fun h2 => absurd (show c_row σ 166 + x ≤ 9999 by rw [tI_le]; rw [tI_lt] at h; omega) h2⟩
        refine m_holds0 ⟨fun _ => ?_, fun h => absurd h (by decide)⟩
        refine m_save (μ := ms_thrown μ 0) n hn hs ?_
        rw [← er] at h
        generalize saveC σ n = σ2 at *
        generalize saveM (ms_thrown μ 0) n = μ2 at *
        have e45 := I'.R.P _ _ (PI_purse hk)
        have e4' := I'.R.P _ _ PI_coins
        refine m_adds k 0 rfl rfl hk (by decide) ?_
        intro s7 h7
        rw [show ((4 : Int32)).toNatClampNeg = 4 from by decide] at h7
        simp only [msss, ss_ss] at h7
        rw [pk_un (by omega), e4', e45] at h7
        subst h7
        refine m_has k 0 rfl rfl hk (by decide) ?_
        have R' := rl_pay I'.R hk (by omega) (by omega) h
        have ev : m_s (ms_s μ2 (upd (upd (m_s μ2) (45 + 4 * k + 0) (c_row σ2 (30 + k) + x)) 4 (c_row σ2 166 + x))) (45 + 4 * k + 0) = c_row σ2 (30 + k) + x := by
          rw [msss, pk_un (by omega), pk_us]
        rw [ev]
        have ec : ∀ g : Nat → Int32, g = upd (upd (c_row σ2) (166 + 0) (c_row σ2 (166 + 0) + x)) (30 + k) (upd (c_row σ2) (166 + 0) (c_row σ2 (166 + 0) + x) (30 + k) + x) → g = upd (upd (c_row σ2) 166 (c_row σ2 166 + x)) (30 + k) (c_row σ2 (30 + k) + x) := by
          intro g hg
          rw [hg, pk_un (show 30 + k ≠ 166 + 0 by omega)]
        have e1 : c_row (cs_row (cs_row σ2 (upd (c_row σ2) (166 + 0) (c_row σ2 (166 + 0) + x))) (upd (c_row (cs_row σ2 (upd (c_row σ2) (166 + 0) (c_row σ2 (166 + 0) + x)))) (30 + k) (c_row (cs_row σ2 (upd (c_row σ2) (166 + 0) (c_row σ2 (166 + 0) + x))) (30 + k) + x))) (30 + k) = c_row σ2 (30 + k) + x := by
          show upd (upd (c_row σ2) (166 + 0) _) (30 + k) (upd (c_row σ2) (166 + 0) _ (30 + k) + x) (30 + k) = _
          rw [pk_us, pk_un (by omega)]
        rw [e1]
        refine fin0 ht (hK _ _ _ ?_)
        have e2 : cs_row (cs_row σ2 (upd (c_row σ2) (166 + 0) (c_row σ2 (166 + 0) + x))) (upd (c_row (cs_row σ2 (upd (c_row σ2) (166 + 0) (c_row σ2 (166 + 0) + x)))) (30 + k) (c_row (cs_row σ2 (upd (c_row σ2) (166 + 0) (c_row σ2 (166 + 0) + x))) (30 + k) + x)) = cs_row σ2 (upd (upd (c_row σ2) 166 (c_row σ2 166 + x)) (30 + k) (c_row σ2 (30 + k) + x)) := by
          show cs_row σ2 (upd (upd (c_row σ2) (166 + 0) (c_row σ2 (166 + 0) + x)) (30 + k) (upd (c_row σ2) (166 + 0) (c_row σ2 (166 + 0) + x) (30 + k) + x)) = _
          rw [ec _ rfl]
        rw [e2]
        exact (I'.deed (Nat.le_succ m) R' (fun j hj => by (repeat (first | rw [pk_us] | rw [pk_un (by omega)])))).mono (by omega)
