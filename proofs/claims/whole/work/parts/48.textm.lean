/-! pure part: the text, in the reference -/
def Pz (μ μ' : MS) : Prop := m_thrown μ' = m_thrown μ ∧ m_s μ' = m_s μ ∧ m_saved μ' = m_saved μ ∧ m_isKept μ' = m_isKept μ ∧ m_text μ' = m_text μ ∧ m_length μ' = m_length μ ∧ m_hash μ' = m_hash μ ∧ m_asker μ' = m_asker μ ∧ m_askedAmount μ' = m_askedAmount μ
theorem Pz.refl (μ : MS) : Pz μ μ := ⟨rfl, rfl, rfl, rfl, rfl, rfl, rfl, rfl, rfl⟩
theorem Pz.trans {a b c : MS} (h : Pz a b) (k : Pz b c) : Pz a c := ⟨k.1.trans h.1, k.2.1.trans h.2.1, k.2.2.1.trans h.2.2.1, k.2.2.2.1.trans h.2.2.2.1, k.2.2.2.2.1.trans h.2.2.2.2.1, k.2.2.2.2.2.1.trans h.2.2.2.2.2.1, k.2.2.2.2.2.2.1.trans h.2.2.2.2.2.2.1, k.2.2.2.2.2.2.2.1.trans h.2.2.2.2.2.2.2.1, k.2.2.2.2.2.2.2.2.trans h.2.2.2.2.2.2.2.2⟩
def St (μ0 s : MS) (p : Nat) (c f g h : Int32) : Prop := Pz μ0 s ∧ m_at s = nI p ∧ m_part s = c ∧ m_first s = f ∧ m_second s = g ∧ m_third s = h
section
variable {μ0 s : MS} {p : Nat} {c f g h : Int32}
theorem St.z (H : St μ0 s p c f g h) : Pz μ0 s := H.1
theorem St.a (H : St μ0 s p c f g h) : m_at s = nI p := H.2.1
theorem St.pt (H : St μ0 s p c f g h) : m_part s = c := H.2.2.1
theorem St.fi (H : St μ0 s p c f g h) : m_first s = f := H.2.2.2.1
theorem St.se (H : St μ0 s p c f g h) : m_second s = g := H.2.2.2.2.1
theorem St.th (H : St μ0 s p c f g h) : m_third s = h := H.2.2.2.2.2
theorem St.at (H : St μ0 s p c f g h) (q : Nat) : St μ0 (ms_at s (nI q)) q c f g h := by
  obtain ⟨x1, x2, x3, x4, x5, x6, x7, x8, x9, x10, x11, x12, x13, x14, x15, x16, x17, x18⟩ := s; unfold St Pz at H ⊢; revert H; simp only [m_thrown, ms_thrown, m_s, ms_s, m_saved, ms_saved, m_isKept, ms_isKept, m_text, ms_text, m_length, ms_length, m_at, ms_at, m_part, ms_part, m_first, ms_first, m_second, ms_second, m_third, ms_third, m_asker, ms_asker, m_askedSpot, ms_askedSpot, m_askedAmount, ms_askedAmount, m_best, ms_best, m_shared, ms_shared, m_due, ms_due, m_hash, ms_hash, and_self, and_true, true_and, eq_self, imp_self]; intro H; exact ⟨H.1, H.2.2⟩
theorem St.part (H : St μ0 s p c f g h) (c' : Int32) : St μ0 (ms_part s c') p c' f g h := by
  obtain ⟨x1, x2, x3, x4, x5, x6, x7, x8, x9, x10, x11, x12, x13, x14, x15, x16, x17, x18⟩ := s; unfold St Pz at H ⊢; revert H; simp only [m_thrown, ms_thrown, m_s, ms_s, m_saved, ms_saved, m_isKept, ms_isKept, m_text, ms_text, m_length, ms_length, m_at, ms_at, m_part, ms_part, m_first, ms_first, m_second, ms_second, m_third, ms_third, m_asker, ms_asker, m_askedSpot, ms_askedSpot, m_askedAmount, ms_askedAmount, m_best, ms_best, m_shared, ms_shared, m_due, ms_due, m_hash, ms_hash, and_self, and_true, true_and, eq_self, imp_self]; intro H; exact ⟨H.1, H.2.1, H.2.2.2⟩
theorem St.first (H : St μ0 s p c f g h) (v : Int32) : St μ0 (ms_first s v) p c v g h := by
  obtain ⟨x1, x2, x3, x4, x5, x6, x7, x8, x9, x10, x11, x12, x13, x14, x15, x16, x17, x18⟩ := s; unfold St Pz at H ⊢; revert H; simp only [m_thrown, ms_thrown, m_s, ms_s, m_saved, ms_saved, m_isKept, ms_isKept, m_text, ms_text, m_length, ms_length, m_at, ms_at, m_part, ms_part, m_first, ms_first, m_second, ms_second, m_third, ms_third, m_asker, ms_asker, m_askedSpot, ms_askedSpot, m_askedAmount, ms_askedAmount, m_best, ms_best, m_shared, ms_shared, m_due, ms_due, m_hash, ms_hash, and_self, and_true, true_and, eq_self, imp_self]; intro H; exact ⟨H.1, H.2.1, H.2.2.1, H.2.2.2.2⟩
theorem St.second (H : St μ0 s p c f g h) (v : Int32) : St μ0 (ms_second s v) p c f v h := by
  obtain ⟨x1, x2, x3, x4, x5, x6, x7, x8, x9, x10, x11, x12, x13, x14, x15, x16, x17, x18⟩ := s; unfold St Pz at H ⊢; revert H; simp only [m_thrown, ms_thrown, m_s, ms_s, m_saved, ms_saved, m_isKept, ms_isKept, m_text, ms_text, m_length, ms_length, m_at, ms_at, m_part, ms_part, m_first, ms_first, m_second, ms_second, m_third, ms_third, m_asker, ms_asker, m_askedSpot, ms_askedSpot, m_askedAmount, ms_askedAmount, m_best, ms_best, m_shared, ms_shared, m_due, ms_due, m_hash, ms_hash, and_self, and_true, true_and, eq_self, imp_self]; intro H; exact ⟨H.1, H.2.1, H.2.2.1, H.2.2.2.1, H.2.2.2.2.2⟩
theorem St.third (H : St μ0 s p c f g h) (v : Int32) : St μ0 (ms_third s v) p c f g v := by
  obtain ⟨x1, x2, x3, x4, x5, x6, x7, x8, x9, x10, x11, x12, x13, x14, x15, x16, x17, x18⟩ := s; unfold St Pz at H ⊢; revert H; simp only [m_thrown, ms_thrown, m_s, ms_s, m_saved, ms_saved, m_isKept, ms_isKept, m_text, ms_text, m_length, ms_length, m_at, ms_at, m_part, ms_part, m_first, ms_first, m_second, ms_second, m_third, ms_third, m_asker, ms_asker, m_askedSpot, ms_askedSpot, m_askedAmount, ms_askedAmount, m_best, ms_best, m_shared, ms_shared, m_due, ms_due, m_hash, ms_hash, and_self, and_true, true_and, eq_self, imp_self]; intro H; exact ⟨H.1, H.2.1, H.2.2.1, H.2.2.2.1, H.2.2.2.2.1⟩
end
theorem at_self (s : MS) : ms_at s (m_at s + 0) = s := by
  rw [Int32.add_zero]
  obtain ⟨x1, x2, x3, x4, x5, x6, x7, x8, x9, x10, x11, x12, x13, x14, x15, x16, x17, x18⟩ := s; simp only [m_thrown, ms_thrown, m_s, ms_s, m_saved, ms_saved, m_isKept, ms_isKept, m_text, ms_text, m_length, ms_length, m_at, ms_at, m_part, ms_part, m_first, ms_first, m_second, ms_second, m_third, ms_third, m_asker, ms_asker, m_askedSpot, ms_askedSpot, m_askedAmount, ms_askedAmount, m_best, ms_best, m_shared, ms_shared, m_due, ms_due, m_hash, ms_hash, and_self, and_true, true_and, eq_self, imp_self]
theorem at_at (s : MS) (a b : Int32) : ms_at (ms_at s a) b = ms_at s b := by
  obtain ⟨x1, x2, x3, x4, x5, x6, x7, x8, x9, x10, x11, x12, x13, x14, x15, x16, x17, x18⟩ := s; simp only [m_thrown, ms_thrown, m_s, ms_s, m_saved, ms_saved, m_isKept, ms_isKept, m_text, ms_text, m_length, ms_length, m_at, ms_at, m_part, ms_part, m_first, ms_first, m_second, ms_second, m_third, ms_third, m_asker, ms_asker, m_askedSpot, ms_askedSpot, m_askedAmount, ms_askedAmount, m_best, ms_best, m_shared, ms_shared, m_due, ms_due, m_hash, ms_hash, and_self, and_true, true_and, eq_self, imp_self]
theorem at_len (s : MS) (a : Int32) : m_length (ms_at s a) = m_length s ∧ m_text (ms_at s a) = m_text s ∧ m_at (ms_at s a) = a := by
  obtain ⟨x1, x2, x3, x4, x5, x6, x7, x8, x9, x10, x11, x12, x13, x14, x15, x16, x17, x18⟩ := s; simp only [m_thrown, ms_thrown, m_s, ms_s, m_saved, ms_saved, m_isKept, ms_isKept, m_text, ms_text, m_length, ms_length, m_at, ms_at, m_part, ms_part, m_first, ms_first, m_second, ms_second, m_third, ms_third, m_asker, ms_asker, m_askedSpot, ms_askedSpot, m_askedAmount, ms_askedAmount, m_best, ms_best, m_shared, ms_shared, m_due, ms_due, m_hash, ms_hash, and_self, and_true, true_and, eq_self, imp_self]
def TxM (s : MS) (t : Nat → Int32) (l : Nat) : Prop := m_text s = t ∧ m_length s = nI l
theorem TxM.z {μ0 s : MS} {t : Nat → Int32} {l : Nat} (T : TxM μ0 t l) (h : Pz μ0 s) : TxM s t l := ⟨h.2.2.2.2.1.trans T.1, h.2.2.2.2.2.1.trans T.2⟩
section
variable {s : MS} {t : Nat → Int32} {l p : Nat}
theorem m_sign (T : TxM s t l) (h : Chr t l) (ha : m_at s = nI p) (hp0 : p < 2147483648) {post : Int32 → Prop} (hp : post (nI (cN t l p))) : wp_X5_sign s post := by
  have hl := h.1
  unfold wp_X5_sign
  rw [T.2, ha, T.1]
  refine ⟨fun q => ?_, fun q => ?_⟩
  · rw [nI_leI (by omega) (by omega)] at q
    rw [cN_ge q] at hp; exact hp
  · rw [nI_leI (by omega) (by omega)] at q
    rw [nI_clamp (by omega), cN_in h (by omega)]
    exact ⟨q_in (by omega) (by decide), hp⟩
theorem m_takes (T : TxM s t l) (h : Chr t l) (ha : m_at s = nI p) (hp0 : p < 2147483647) {C : Int32} (c : Nat) (hC : C = nI c) (hc : c < 127) {post : Int32 → MS → Prop} (hy : cN t l p = c → post 1 (ms_at s (nI (p + 1)))) (hn : cN t l p ≠ c → post 0 s) : wp_X5_takes s C post := by
  subst hC
  refine m_sign T h ha (by omega) ?_
  have hk := cN_lt h p
  refine ⟨fun q => ?_, fun q => ?_⟩
  · intro s2 h2
    rw [h2, at_self]
    exact hn (fun e => q (by rw [e]))
  · intro s3 h3
    rw [h3, ha, nI_1]
    exact hy ((nI_eq (by omega) (by omega)).mp q)
theorem m_fig (T : TxM s t l) (h : Chr t l) (ha : m_at s = nI p) (hp0 : p < 2147483647) {A B : Int32} (lo hi : Nat) (hA : A = nI lo) (hB : B = nI hi) (hh : lo ≤ hi ∧ hi ≤ 9) {post : Int32 → MS → Prop} (hy : ∀ d, lo ≤ d → d ≤ hi → cN t l p = 48 + d → post (nI d) (ms_at s (nI (p + 1)))) (hn : ¬ (48 + lo ≤ cN t l p ∧ cN t l p ≤ 48 + hi) → post (-1) s) : wp_X5_figure s A B post := by
  subst hA; subst hB
  refine m_sign T h ha (by omega) ?_
  have hk := cN_lt h p
  rw [show (48 : Int32) = nI 48 from rfl, nI_add, nI_add]
  by_cases q : 48 + lo ≤ cN t l p ∧ cN t l p ≤ 48 + hi
  · refine m_in1 (nI_nlt q.1 (by omega)) (nI_nlt q.2 (by omega)) ⟨fun h => absurd h (by decide), fun _ => ?_⟩
    refine m_sign T h ha (by omega) ?_
    intro v3 hv3
    rw [pk_sub (by omega)] at hv3
    subst hv3
    refine ⟨fun _ => ?_, fun e => absurd e (nI_m1 (by omega))⟩
    intro s6 h6
    rw [h6, ha, nI_1]
    exact hy (cN t l p - 48) (by omega) (by omega) (by omega)
  · refine m_in0 ?_ ⟨fun _ => ?_, fun h => absurd rfl h⟩
    · by_cases q1 : cN t l p < 48 + lo
      · exact Or.inl (nI_lt q1 (by omega))
      · exact Or.inr (nI_lt (by omega) (by omega))
    · intro s3 h3
      rw [h3, at_self]
      exact hn q
theorem m_readsNumber (T : TxM s t l) (h : Chr t l) (ha : m_at s = nI p) (hp0 : p < 2147483646) {A : Int32} (M : Nat) (hA : A = nI M) (hM : M < 100) {post : Int32 → MS → Prop} (hn : ¬ (49 ≤ cN t l p ∧ cN t l p ≤ 57) → post (-1) s) (h1 : ∀ d, 1 ≤ d → d ≤ 9 → cN t l p = 48 + d → (∀ e, e ≤ 9 → cN t l (p + 1) = 48 + e → M < 10 * d + e) → post (nI d) (ms_at s (nI (p + 1)))) (h2 : ∀ d e, 1 ≤ d → d ≤ 9 → e ≤ 9 → cN t l p = 48 + d → cN t l (p + 1) = 48 + e → 10 * d + e ≤ M → post (nI (10 * d + e)) (ms_at s (nI (p + 2)))) : wp_X5_readsNumber s A post := by
  subst hA
  refine m_fig T h ha (by omega) 1 9 rfl rfl (by decide) (fun d hd1 hd9 hd => ?_) (fun q => ?_)
  · refine ⟨fun e => absurd e (nI_m1 (by omega)), fun _ => ?_⟩
    have T2 : TxM (ms_at s (nI (p + 1))) t l := ⟨(at_len s _).2.1.trans T.1, (at_len s _).1.trans T.2⟩
    have a2 : m_at (ms_at s (nI (p + 1))) = nI (p + 1) := (at_len s _).2.2
    refine m_sign T2 h a2 (by omega) ?_
    have hk := cN_lt h (p + 1)
    by_cases q : 48 ≤ cN t l (p + 1) ∧ cN t l (p + 1) ≤ 57
    · refine m_in1 (nI_nlt (b := 48) q.1 (by omega)) (nI_nlt (a := 57) q.2 (by omega)) ⟨fun h => absurd h (by decide), fun _ => ?_⟩
      refine m_sign T2 h a2 (by omega) ?_
      obtain ⟨e, he, hce⟩ : ∃ e, e ≤ 9 ∧ cN t l (p + 1) = 48 + e := ⟨cN t l (p + 1) - 48, by omega, by omega⟩
      rw [hce, show (10 : Int32) = nI 10 from rfl, show (48 : Int32) = nI 48 from rfl, pk_mul, nI_add, pk_sub (by omega), show 10 * d + (48 + e) - 48 = 10 * d + e by omega]
      refine ⟨fun hm => ?_, fun hm => ?_⟩
      · rw [nI_ltI (by omega) (by omega)] at hm
        refine h1 d hd1 hd9 hd (fun e' he' hce' => ?_)
        have : e' = e := by omega
        subst this; exact hm
      · rw [nI_ltI (by omega) (by omega)] at hm
        refine m_fig T2 h a2 (by omega) 0 9 rfl rfl (by decide) (fun e2 _ he2 hce2 => ?_) (fun q2 => absurd q q2)
        intro v2 hv2
        have : e2 = e := by omega
        subst this
        rw [at_at, hv2, nI_add]
        exact h2 d e2 hd1 hd9 he hd hce (by omega)
    · refine m_in0 ?_ ⟨fun _ => ?_, fun h => absurd rfl h⟩
      · by_cases q1 : cN t l (p + 1) < 48
        · exact Or.inl (nI_lt (b := 48) q1 (by omega))
        · exact Or.inr (nI_lt (a := 57) (by omega) (by omega))
      · exact h1 d hd1 hd9 hd (fun e he hce => absurd ⟨by omega, by omega⟩ q)
  · exact ⟨fun _ => hn q, fun h => absurd rfl h⟩
end
/-- what a part holds that stands from p to q -/
def PR (t : Nat → Int32) (l p q : Nat) (c f g h : Int32) : Prop :=
  (c = 98 ∧ cN t l p = 98 ∧ ∃ a b n : Nat, a < 6 ∧ b < 6 ∧ 1 ≤ n ∧ n ≤ 99 ∧ f = nI a ∧ g = nI b ∧ h = nI n ∧ cN t l (p + 1) = 48 + a ∧ cN t l (p + 2) = 48 + b ∧ ((q = p + 4 ∧ cN t l (p + 3) = 48 + n) ∨ (q = p + 5 ∧ cN t l (p + 3) = 48 + n / 10 ∧ cN t l (p + 4) = 48 + n % 10))) ∨
  (c = 119 ∧ cN t l p = 119 ∧ ∃ a b : Nat, a < 6 ∧ b < 6 ∧ f = nI a ∧ g = nI b ∧ cN t l (p + 1) = 48 + a ∧ cN t l (p + 2) = 48 + b ∧ q = p + 3) ∨
  (c = 104 ∧ cN t l p = 104 ∧ ∃ n : Nat, 1 ≤ n ∧ n ≤ 23 ∧ f = nI n ∧ ((q = p + 2 ∧ cN t l (p + 1) = 48 + n) ∨ (q = p + 3 ∧ cN t l (p + 1) = 48 + n / 10 ∧ cN t l (p + 2) = 48 + n % 10))) ∨
  (c = 102 ∧ cN t l p = 102 ∧ ∃ a : Nat, a < 6 ∧ f = nI a ∧ cN t l (p + 1) = 48 + a ∧ q = p + 2) ∨
  (c = 111 ∧ cN t l p = 111 ∧ q = p + 1) ∨ (c = 110 ∧ cN t l p = 110 ∧ q = p + 1)
def BadP (t : Nat → Int32) (l p e : Nat) : Prop := p ≤ e ∧ e ≤ l ∧ st t l e ≠ -1 ∧ ¬ acc (st t l e) ∧ st t l (e + 1) = -1
def GoodP (t : Nat → Int32) (l p q : Nat) : Prop := p < q ∧ q ≤ l ∧ acc (st t l q) ∧ st t l (q + 1) = aEnd (cN t l q) ∧ ∀ i, p ≤ i → i < q → cN t l i ≠ 59
theorem st_s (t : Nat → Int32) (l i : Nat) {q : Int32} {k : Nat} (h1 : st t l i = q) (h2 : cN t l i = k) : st t l (i + 1) = aft q k := by
  show aft (st t l i) (cN t l i) = _
  rw [h1, h2]
theorem nacc {q : Int32} (h10 : q ≠ 10) (h4 : q ≠ 4) (h8 : q ≠ 8) (h9 : q ≠ 9) : ¬ acc q := by
  rintro (h | h | h | h)
  · exact h10 h
  · exact h4 h
  · exact h8 h
  · exact h9 h
def wT3 (σ : MS) (post : Int32 → MS → Prop) : Prop := ((m_second σ) = (-1) → ∀ s : MS, s = ms_third σ (m_second σ) → (((m_third s) = (-1) → post 0 s) ∧ (¬ (m_third s) = (-1) → post 1 s))) ∧ (¬ (m_second σ) = (-1) → ((¬ (m_part σ) = 98 → ∀ s : MS, s = ms_third σ (m_second σ) → (((m_third s) = (-1) → post 0 s) ∧ (¬ (m_third s) = (-1) → post 1 s))) ∧ ((m_part σ) = 98 → wp_X5_readsNumber σ 99 (fun r s2 => ∀ s : MS, s = ms_third s2 r → (((m_third s) = (-1) → post 0 s) ∧ (¬ (m_third s) = (-1) → post 1 s))))))
def wT2 (σ : MS) (post : Int32 → MS → Prop) : Prop := (¬ (m_first σ) = (-1) → wp_X5_figure σ 0 5 (fun r s => ∀ s2 : MS, s2 = ms_second s r → wT3 s2 post)) ∧ ((m_first σ) = (-1) → ∀ s2 : MS, s2 = ms_second σ (-1) → wT3 s2 post)
theorem t3bad {μ0 s : MS} {p : Nat} {c f h : Int32} (H : St μ0 s p c f (-1) h) {post : Int32 → MS → Prop} (hp : ∀ s', St μ0 s' p c f (-1) (-1) → post 0 s') : wT3 s post := by
  refine ⟨fun _ => ?_, fun q => absurd H.se q⟩
  intro s2 h2
  have H2 := H.third (m_second s)
  rw [← h2] at H2
  rw [H.se] at H2
  exact ⟨fun _ => hp s2 H2, fun q => absurd H2.th q⟩
theorem t2bad {μ0 s : MS} {p : Nat} {c g h : Int32} (H : St μ0 s p c (-1) g h) {post : Int32 → MS → Prop} (hp : ∀ s', St μ0 s' p c (-1) (-1) (-1) → post 0 s') : wT2 s post := by
  refine ⟨fun q => absurd H.fi q, fun _ => ?_⟩
  intro s2 h2
  have H2 := H.second (-1)
  rw [← h2] at H2
  exact t3bad H2 hp
theorem m_readsPart {μ0 s : MS} {t : Nat → Int32} {l p : Nat} (T : TxM μ0 t l) (h : Chr t l) (hz : Pz μ0 s) (ha : m_at s = nI p) (hpl : p ≤ l) (h0 : st t l p = 0) {post : Int32 → MS → Prop} (hb : ∀ s' e, Pz μ0 s' → m_at s' = nI e → BadP t l p e → post 0 s') (hg : ∀ s' q, Pz μ0 s' → m_at s' = nI q → GoodP t l p q → PR t l p q (m_part s') (m_first s') (m_second s') (m_third s') → post 1 s') : wp_X5_readsPart s post := by
  have hl := h.1
  have hk := cN_lt h p
  refine m_sign (T.z hz) h ha (by omega) ?_
  intro s2 hs2
  have H2 : St μ0 s2 p (nI (cN t l p)) (m_first s) (m_second s) (m_third s) := by
    rw [hs2]
    exact St.part (c := m_part s) ⟨hz, ha, rfl, rfl, rfl, rfl⟩ _
  clear hs2
  generalize m_first s = f0 at H2
  generalize m_second s = g0 at H2
  generalize m_third s = k0 at H2
  have hb' : ∀ s' e c f g k, St μ0 s' e c f g k → BadP t l p e → post 0 s' := fun s' e c f g k H B => hb s' e H.z H.a B
  have hg' : ∀ s' q c f g k, St μ0 s' q c f g k → GoodP t l p q → PR t l p q c f g k → post 1 s' := fun s' q c f g k H G P => hg s' q H.z H.a G (by rw [H.pt, H.fi, H.se, H.th]; exact P)
  have hpos : ∀ i, cN t l i ≠ 0 → i + 1 ≤ l := fun i hi => cN_in2 hi
  refine m_takes (T.z H2.z) h H2.a (by omega) 111 rfl (by decide) (fun hc => ⟨fun _ => ?_, fun q => absurd q (by decide)⟩) (fun n1 => ⟨fun q => absurd rfl q, fun _ => ?_⟩)
  · have e1 : st t l (p + 1) = 10 := st_s t l p h0 hc
    refine hg' _ (p + 1) _ _ _ _ (H2.at (p + 1)) ⟨by omega, hpos p (by omega), Or.inl e1, ?_, fun i h1 h2 => ?_⟩ ?_
    · rw [st_s t l (p + 1) e1 rfl, aft_10]
    · obtain rfl : i = p := by omega
      omega
    · exact Or.inr (Or.inr (Or.inr (Or.inr (Or.inl ⟨by rw [hc]; rfl, hc, rfl⟩))))
  refine m_takes (T.z H2.z) h H2.a (by omega) 110 rfl (by decide) (fun hc => ⟨fun q => absurd q (by decide), fun _ => ?_⟩) (fun n2 => ⟨fun _ => ?_, fun q => absurd rfl q⟩)
  · have e1 : st t l (p + 1) = 10 := st_s t l p h0 hc
    refine hg' _ (p + 1) _ _ _ _ (H2.at (p + 1)) ⟨by omega, hpos p (by omega), Or.inl e1, ?_, fun i h1 h2 => ?_⟩ ?_
    · rw [st_s t l (p + 1) e1 rfl, aft_10]
    · obtain rfl : i = p := by omega
      omega
    · exact Or.inr (Or.inr (Or.inr (Or.inr (Or.inr ⟨by rw [hc]; rfl, hc, rfl⟩))))
  refine m_takes (T.z H2.z) h H2.a (by omega) 104 rfl (by decide) (fun hc => ⟨fun q => absurd q (by decide), fun _ => ?_⟩) (fun n3 => ⟨fun _ => ?_, fun q => absurd rfl q⟩)
  · have e1 : st t l (p + 1) = 7 := st_s t l p h0 hc
    have hl1 := hpos p (by omega)
    have H3 := H2.at (p + 1)
    have end1 : ∀ (n : Nat) (q : Nat) (s68 : MS), St μ0 s68 q (nI (cN t l p)) f0 g0 k0 → n ≤ 99 → GoodP t l p q → PR t l p q (nI (cN t l p)) (nI n) g0 k0 → ∀ s69 : MS, s69 = ms_first s68 (nI n) → (((m_first s69) = (-1) → post 0 s69) ∧ (¬ (m_first s69) = (-1) → post 1 s69)) := by
      intro n q s68 H hn G P s69 h69
      have H4 := H.first (nI n)
      rw [← h69] at H4
      exact ⟨fun e => absurd (H4.fi.symm.trans e) (nI_m1 (by omega)), fun _ => hg' _ q _ _ _ _ H4 G P⟩
    refine m_readsNumber (T.z H3.z) h H3.a (by omega) 23 rfl (by decide) (fun hn => ?_) (fun d hd1 hd9 hd hs => ?_) (fun d e hd1 hd9 he hd hce hde => ?_)
    · intro s69 h69
      have H4 := H3.first (-1)
      rw [← h69] at H4
      refine ⟨fun _ => hb' _ (p + 1) _ _ _ _ H4 ⟨by omega, hl1, by rw [e1]; decide, by rw [e1]; exact nacc (by decide) (by decide) (by decide) (by decide), ?_⟩, fun q => absurd H4.fi q⟩
      rw [st_s t l (p + 1) e1 rfl, aft_7]
      unfold aHr
      rw [if_neg (by omega), if_neg (by omega), if_neg (by omega)]
    · have e2 : st t l (p + 2) = if d = 1 then 8 else if d = 2 then 9 else 10 := by
        rw [show p + 2 = (p + 1) + 1 from rfl, st_s t l (p + 1) e1 rfl, aft_7]
        unfold aHr
        by_cases q1 : d = 1
        · rw [if_pos (by omega), if_pos q1]
        · rw [if_neg (by omega), if_neg q1]
          by_cases q2 : d = 2
          · rw [if_pos (by omega), if_pos q2]
          · rw [if_neg (by omega), if_neg q2, if_pos (by omega)]
      have ez : st t l (p + 2 + 1) = aEnd (cN t l (p + 2)) := by
        rw [st_s t l (p + 2) e2 rfl]
        by_cases q1 : d = 1
        · rw [if_pos q1, aft_8, if_neg]
          intro q
          have := hs (cN t l (p + 2) - 48) (by omega) (by show cN t l (p + 2) = _; omega)
          omega
        · rw [if_neg q1]
          by_cases q2 : d = 2
          · rw [if_pos q2, aft_9, if_neg]
            intro q
            have := hs (cN t l (p + 2) - 48) (by omega) (by show cN t l (p + 2) = _; omega)
            omega
          · rw [if_neg q2, aft_10]
      have ea : acc (st t l (p + 2)) := by
        rw [e2]
        by_cases q1 : d = 1
        · rw [if_pos q1]; exact Or.inr (Or.inr (Or.inl rfl))
        · rw [if_neg q1]
          by_cases q2 : d = 2
          · rw [if_pos q2]; exact Or.inr (Or.inr (Or.inr rfl))
          · rw [if_neg q2]; exact Or.inl rfl
      rw [at_at]
      refine end1 d (p + 2) _ (H2.at (p + 2)) (by omega) ⟨by omega, hpos (p + 1) (by omega), ea, ez, fun i h1 h2 => ?_⟩ ?_
      · rcases (show i = p ∨ i = p + 1 by omega) with rfl | rfl <;> omega
      · exact Or.inr (Or.inr (Or.inl ⟨by rw [hc]; rfl, hc, d, hd1, by omega, rfl, Or.inl ⟨rfl, hd⟩⟩))
    · have e2 : st t l (p + 2) = if d = 1 then 8 else 9 := by
        rw [show p + 2 = (p + 1) + 1 from rfl, st_s t l (p + 1) e1 rfl, aft_7]
        unfold aHr
        by_cases q1 : d = 1
        · rw [if_pos (by omega), if_pos q1]
        · rw [if_neg (by omega), if_neg q1, if_pos (by omega)]
      have e3 : st t l (p + 3) = 10 := by
        rw [show p + 3 = (p + 2) + 1 from rfl, st_s t l (p + 2) e2 rfl]
        have hce : cN t l (p + 2) = 48 + e := hce
        by_cases q1 : d = 1
        · rw [if_pos q1, aft_8, if_pos (by omega)]
        · rw [if_neg q1, aft_9, if_pos (by omega)]
      rw [at_at]
      have hce : cN t l (p + 2) = 48 + e := hce
      refine end1 (10 * d + e) (p + 3) _ (H2.at (p + 3)) (by omega) ⟨by omega, hpos (p + 2) (by omega), Or.inl e3, ?_, fun i h1 h2 => ?_⟩ ?_
      · rw [st_s t l (p + 3) e3 rfl, aft_10]
      · rcases (show i = p ∨ i = p + 1 ∨ i = p + 2 by omega) with rfl | rfl | rfl <;> omega
      · exact Or.inr (Or.inr (Or.inl ⟨by rw [hc]; rfl, hc, 10 * d + e, by omega, by omega, rfl, Or.inr ⟨rfl, by omega, by omega⟩⟩))
  refine m_takes (T.z H2.z) h H2.a (by omega) 102 rfl (by decide) (fun hc => ⟨fun q => absurd q (by decide), fun _ => ?_⟩) (fun n4 => ⟨fun _ => ?_, fun q => absurd rfl q⟩)
  · have e1 : st t l (p + 1) = 6 := st_s t l p h0 hc
    have hl1 := hpos p (by omega)
    have H3 := H2.at (p + 1)
    refine m_fig (T.z H3.z) h H3.a (by omega) 0 5 rfl rfl (by decide) (fun d _ hd5 hd => ?_) (fun hn => ?_)
    · intro s69 h69
      rw [at_at] at h69
      have H4 := (H2.at (p + 2)).first (nI d)
      have h69 : s69 = ms_first (ms_at s2 (nI (p + 2))) (nI d) := h69
      rw [← h69] at H4
      have e2 : st t l (p + 2) = 10 := by
        rw [show p + 2 = (p + 1) + 1 from rfl, st_s t l (p + 1) e1 rfl, aft_6, if_pos (by omega)]
      refine ⟨fun e => absurd (H4.fi.symm.trans e) (nI_m1 (by omega)), fun _ => hg' _ (p + 2) _ _ _ _ H4 ⟨by omega, hpos (p + 1) (by omega), Or.inl e2, ?_, fun i h1 h2 => ?_⟩ ?_⟩
      · rw [st_s t l (p + 2) e2 rfl, aft_10]
      · rcases (show i = p ∨ i = p + 1 by omega) with rfl | rfl <;> omega
      · exact Or.inr (Or.inr (Or.inr (Or.inl ⟨by rw [hc]; rfl, hc, d, by omega, rfl, hd, rfl⟩)))
    · intro s69 h69
      have H4 := H3.first (-1)
      rw [← h69] at H4
      refine ⟨fun _ => hb' _ (p + 1) _ _ _ _ H4 ⟨by omega, hl1, by rw [e1]; decide, by rw [e1]; exact nacc (by decide) (by decide) (by decide) (by decide), ?_⟩, fun q => absurd H4.fi q⟩
      rw [st_s t l (p + 1) e1 rfl, aft_6, if_neg (by omega)]
  -- b, w: two digits come first
  have two : ∀ (s1 : MS) (c : Nat) (q1 q2 q3 : Int32), St μ0 s1 (p + 1) (nI (cN t l p)) f0 g0 k0 → cN t l p = c → 60 ≤ c → st t l (p + 1) = q1 → (∀ k, aft q1 k = if 48 ≤ k ∧ k ≤ 53 then q2 else -1) → (∀ k, aft q2 k = if 48 ≤ k ∧ k ≤ 53 then q3 else -1) → q1 ≠ -1 → ¬ acc q1 → q2 ≠ -1 → ¬ acc q2 → (∀ a b s3, a < 6 → b < 6 → cN t l (p + 1) = 48 + a → cN t l (p + 2) = 48 + b → st t l (p + 3) = q3 → p + 3 ≤ l → St μ0 s3 (p + 3) (nI (cN t l p)) (nI a) (nI b) k0 → wT3 s3 post) → wp_X5_figure s1 0 5 (fun r s => ∀ s2 : MS, s2 = ms_first s r → wT2 s2 post) := by
    intro s1 c q1 q2 q3 H3 hc hc60 e1 A1 A2 z1 z2 z3 z4 hnext
    have hl1 := hpos p (by omega)
    refine m_fig (T.z H3.z) h H3.a (by omega) 0 5 rfl rfl (by decide) (fun a _ ha5 hca => ?_) (fun hn => ?_)
    · intro s15 h15
      have H4 := (H3.at (p + 1 + 1)).first (nI a)
      rw [← h15] at H4
      have e2 : st t l (p + 1 + 1) = q2 := by rw [st_s t l (p + 1) e1 rfl, A1, if_pos (by omega)]
      have hl2 := hpos (p + 1) (by omega)
      refine ⟨fun _ => ?_, fun e => absurd (H4.fi.symm.trans e) (nI_m1 (by omega))⟩
      refine m_fig (T.z H4.z) h H4.a (by omega) 0 5 rfl rfl (by decide) (fun b _ hb5 hcb => ?_) (fun hn => ?_)
      · intro s18 h18
        have H5 := (H4.at (p + 1 + 1 + 1)).second (nI b)
        rw [← h18] at H5
        have e3 : st t l (p + 1 + 1 + 1) = q3 := by rw [st_s t l (p + 1 + 1) e2 rfl, A2, if_pos (by omega)]
        exact hnext a b s18 (by omega) (by omega) hca hcb e3 (hpos (p + 1 + 1) (by omega)) H5
      · intro s18 h18
        have H5 := H4.second (-1)
        rw [← h18] at H5
        refine t3bad H5 (fun s' H' => hb' _ _ _ _ _ _ H' ⟨by omega, by omega, by rw [e2]; exact z3, by rw [e2]; exact z4, ?_⟩)
        rw [st_s t l (p + 1 + 1) e2 rfl, A2, if_neg (by omega)]
    · intro s15 h15
      have H4 := H3.first (-1)
      rw [← h15] at H4
      refine t2bad H4 (fun s' H' => hb' _ _ _ _ _ _ H' ⟨by omega, by omega, by rw [e1]; exact z1, by rw [e1]; exact z2, ?_⟩)
      rw [st_s t l (p + 1) e1 rfl, A1, if_neg (by omega)]
  refine m_takes (T.z H2.z) h H2.a (by omega) 98 rfl (by decide) (fun hc => ⟨fun _ => ?_, fun q => absurd q (by decide)⟩) (fun n5 => ⟨fun q => absurd rfl q, fun _ => ?_⟩)
  · have e1 : st t l (p + 1) = 1 := st_s t l p h0 hc
    refine two _ 98 1 2 3 (H2.at (p + 1)) hc (by decide) e1 aft_1 aft_2 (by decide) (nacc (by decide) (by decide) (by decide) (by decide)) (by decide) (nacc (by decide) (by decide) (by decide) (by decide)) (fun a b s3 ha6 hb6 hca hcb e3 hl3 H3 => ?_)
    refine ⟨fun e => absurd (H3.se.symm.trans e) (nI_m1 (by omega)), fun _ => ⟨fun q => absurd (H3.pt.trans (by rw [hc]; rfl)) q, fun _ => ?_⟩⟩
    have end1 : ∀ (n : Nat) (q : Nat) (s22 : MS), St μ0 s22 q (nI (cN t l p)) (nI a) (nI b) k0 → n ≤ 99 → GoodP t l p q → PR t l p q (nI (cN t l p)) (nI a) (nI b) (nI n) → ∀ s23 : MS, s23 = ms_third s22 (nI n) → (((m_third s23) = (-1) → post 0 s23) ∧ (¬ (m_third s23) = (-1) → post 1 s23)) := by
      intro n q s22 H hn G P s23 h23
      have H4 := H.third (nI n)
      rw [← h23] at H4
      exact ⟨fun e => absurd (H4.th.symm.trans e) (nI_m1 (by omega)), fun _ => hg' _ q _ _ _ _ H4 G P⟩
    refine m_readsNumber (T.z H3.z) h H3.a (by omega) 99 rfl (by decide) (fun hn => ?_) (fun d hd1 hd9 hd hs => ?_) (fun d e hd1 hd9 he hd hce hde => ?_)
    · intro s23 h23
      have H4 := H3.third (-1)
      rw [← h23] at H4
      refine ⟨fun _ => hb' _ _ _ _ _ _ H4 ⟨by omega, hl3, by rw [e3]; decide, by rw [e3]; exact nacc (by decide) (by decide) (by decide) (by decide), ?_⟩, fun q => absurd H4.th q⟩
      rw [st_s t l (p + 3) e3 rfl, aft_3, if_neg (by omega)]
    · have e4 : st t l (p + 3 + 1) = 4 := by rw [st_s t l (p + 3) e3 rfl, aft_3, if_pos (by omega)]
      refine end1 d (p + 3 + 1) _ (H3.at (p + 3 + 1)) (by omega) ⟨by omega, hpos (p + 3) (by omega), Or.inr (Or.inl e4), ?_, fun i h1 h2 => ?_⟩ ?_
      · rw [st_s t l (p + 3 + 1) e4 rfl, aft_4, if_neg]
        intro q
        have := hs (cN t l (p + 3 + 1) - 48) (by omega) (by omega)
        omega
      · rcases (show i = p ∨ i = p + 1 ∨ i = p + 2 ∨ i = p + 3 by omega) with rfl | rfl | rfl | rfl <;> omega
      · exact Or.inl ⟨by rw [hc]; rfl, hc, a, b, d, ha6, hb6, hd1, by omega, rfl, rfl, rfl, hca, hcb, Or.inl ⟨rfl, hd⟩⟩
    · have e4 : st t l (p + 3 + 1) = 4 := by rw [st_s t l (p + 3) e3 rfl, aft_3, if_pos (by omega)]
      have e5 : st t l (p + 3 + 2) = 10 := by
        rw [show p + 3 + 2 = (p + 3 + 1) + 1 from rfl, st_s t l (p + 3 + 1) e4 rfl, aft_4, if_pos (by omega)]
      refine end1 (10 * d + e) (p + 3 + 2) _ (H3.at (p + 3 + 2)) (by omega) ⟨by omega, hpos (p + 3 + 1) (by omega), Or.inl e5, ?_, fun i h1 h2 => ?_⟩ ?_
      · rw [st_s t l (p + 3 + 2) e5 rfl, aft_10]
      · have hce : cN t l (p + 4) = 48 + e := hce
        rcases (show i = p ∨ i = p + 1 ∨ i = p + 2 ∨ i = p + 3 ∨ i = p + 4 by omega) with rfl | rfl | rfl | rfl | rfl <;> omega
      · exact Or.inl ⟨by rw [hc]; rfl, hc, a, b, 10 * d + e, ha6, hb6, by omega, by omega, rfl, rfl, rfl, hca, hcb, Or.inr ⟨rfl, by omega, by rw [show (10 * d + e) % 10 = e by omega]; exact hce⟩⟩
  refine m_takes (T.z H2.z) h H2.a (by omega) 119 rfl (by decide) (fun hc => ⟨fun q => absurd q (by decide), fun _ => ?_⟩) (fun n6 => ⟨fun _ => ?_, fun q => absurd rfl q⟩)
  · have e1 : st t l (p + 1) = 5 := st_s t l p h0 hc
    refine two _ 119 5 6 10 (H2.at (p + 1)) hc (by decide) e1 aft_5 aft_6 (by decide) (nacc (by decide) (by decide) (by decide) (by decide)) (by decide) (nacc (by decide) (by decide) (by decide) (by decide)) (fun a b s3 ha6 hb6 hca hcb e3 hl3 H3 => ?_)
    refine ⟨fun e => absurd (H3.se.symm.trans e) (nI_m1 (by omega)), fun _ => ⟨fun _ => ?_, fun q => absurd (H3.pt.symm.trans q) (by rw [hc]; decide)⟩⟩
    intro s20 h20
    have H4 := H3.third (m_second s3)
    rw [← h20, H3.se] at H4
    refine ⟨fun e => absurd (H4.th.symm.trans e) (nI_m1 (by omega)), fun _ => hg' _ (p + 3) _ _ _ _ H4 ⟨by omega, hl3, Or.inl e3, ?_, fun i h1 h2 => ?_⟩ ?_⟩
    · rw [st_s t l (p + 3) e3 rfl, aft_10]
    · rcases (show i = p ∨ i = p + 1 ∨ i = p + 2 by omega) with rfl | rfl | rfl <;> omega
    · exact Or.inr (Or.inl ⟨by rw [hc]; rfl, hc, a, b, ha6, hb6, rfl, rfl, hca, hcb, rfl⟩)
  · intro s32 h32
    have H4 := H2.first (-1)
    rw [← h32] at H4
    refine t2bad H4 (fun s' H' => hb' _ _ _ _ _ _ H' ⟨by omega, hpl, by rw [h0]; decide, by rw [h0]; exact nacc (by decide) (by decide) (by decide) (by decide), ?_⟩)
    rw [st_s t l p h0 rfl, aft_0]
    unfold aLet
    rw [if_neg n5, if_neg n4, if_neg n3, if_neg n2, if_neg n1, if_neg n6]
theorem m_isAuction {μ0 : MS} {t : Nat → Int32} {l : Nat} (T : TxM μ0 t l) (h : Chr t l) {post : Int32 → MS → Prop} (h1 : ∀ s', Pz μ0 s' → m_at s' = nI l → acc (st t l l) → st t l l ≠ -1 → post 1 s') (h0 : ∀ s' e, Pz μ0 s' → m_at s' = nI e → e ≤ l → st t l e ≠ -1 → st t l (e + 1) = -1 → ¬ acc (st t l l) → post 0 s') : wp_X5_isAuction μ0 post := by
  have hl := h.1
  intro s1 hs1
  have z1 : Pz μ0 s1 := by
    rw [hs1]
    obtain ⟨x1, x2, x3, x4, x5, x6, x7, x8, x9, x10, x11, x12, x13, x14, x15, x16, x17, x18⟩ := μ0; unfold Pz; simp only [m_thrown, ms_thrown, m_s, ms_s, m_saved, ms_saved, m_isKept, ms_isKept, m_text, ms_text, m_length, ms_length, m_at, ms_at, m_part, ms_part, m_first, ms_first, m_second, ms_second, m_third, ms_third, m_asker, ms_asker, m_askedSpot, ms_askedSpot, m_askedAmount, ms_askedAmount, m_best, ms_best, m_shared, ms_shared, m_due, ms_due, m_hash, ms_hash, and_self, and_true, true_and, eq_self, imp_self]
  have a1 : m_at s1 = nI 0 := by rw [hs1]; exact (at_len μ0 0).2.2
  refine ⟨fun n s => ∃ p : Nat, p ≤ l ∧ n = l - p ∧ Pz μ0 s ∧ m_at s = nI p ∧ st t l p = 0, ⟨l, 0, Nat.zero_le _, rfl, z1, a1, rfl⟩, ?_⟩
  rintro n s ⟨p, hp, rfl, hz, ha, hst⟩
  have hnl : ∀ e, e ≤ l → st t l (e + 1) = -1 → st t l e ≠ -1 → (e = l → ¬ acc (st t l l)) → ¬ acc (st t l l) := by
    intro e he h1 h2 h3
    by_cases q : e = l
    · exact h3 q
    · have := st_w h1 (l - (e + 1))
      rw [show e + 1 + (l - (e + 1)) = l by omega] at this
      rw [this]
      exact nacc (by decide) (by decide) (by decide) (by decide)
  refine m_readsPart T h hz ha hp hst (fun s' e hz' ha' B => ?_) (fun s' q hz' ha' G P => ?_)
  · refine ⟨fun _ => h0 s' e hz' ha' B.2.1 B.2.2.1 B.2.2.2.2 (hnl e B.2.1 B.2.2.2.2 B.2.2.1 (fun q => by have := B.2.2.2.1; rw [q] at this; exact this)), fun q => absurd rfl q⟩
  · obtain ⟨g1, g2, g3, g4, g5⟩ := G
    refine ⟨fun q => absurd q (by decide), fun _ => ⟨fun hne => ?_, fun he => ?_⟩⟩
    · have hql : q ≠ l := fun e => hne (by rw [ha', e]; exact ((T.z hz').2).symm)
      refine m_takes (T.z hz') h ha' (by omega) 59 rfl (by decide) (fun hc => ⟨fun _ => ?_, fun h => absurd h (by decide)⟩) (fun hc => ⟨fun h => absurd rfl h, fun _ => ?_⟩)
      · refine ⟨l - (q + 1), by omega, q + 1, by omega, rfl, ?_, (at_len s' _).2.2, ?_⟩
        · refine hz'.trans ?_
          obtain ⟨x1, x2, x3, x4, x5, x6, x7, x8, x9, x10, x11, x12, x13, x14, x15, x16, x17, x18⟩ := s'; unfold Pz; simp only [m_thrown, ms_thrown, m_s, ms_s, m_saved, ms_saved, m_isKept, ms_isKept, m_text, ms_text, m_length, ms_length, m_at, ms_at, m_part, ms_part, m_first, ms_first, m_second, ms_second, m_third, ms_third, m_asker, ms_asker, m_askedSpot, ms_askedSpot, m_askedAmount, ms_askedAmount, m_best, ms_best, m_shared, ms_shared, m_due, ms_due, m_hash, ms_hash, and_self, and_true, true_and, eq_self, imp_self]
        · rw [g4, hc]; rfl
      · have e2 : st t l (q + 1) = -1 := by rw [g4]; exact if_neg hc
        have hne1 : st t l q ≠ -1 := by
          rcases g3 with g | g | g | g <;> rw [g] <;> decide
        exact h0 s' q hz' ha' g2 hne1 e2 (hnl q g2 e2 hne1 (fun e => absurd e hql))
    · have hql : q = l := by
        rw [ha', (T.z hz').2] at he
        exact (nI_eq (by omega) (by omega)).mp he
      subst hql
      refine h1 s' hz' ha' g3 ?_
      rcases g3 with g | g | g | g <;> rw [g] <;> decide
