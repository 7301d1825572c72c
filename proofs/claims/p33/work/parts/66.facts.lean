/-! pure part: what is told ahead: facts -/
theorem lg_refl (x : Int64) : lg_cmp x x = 0 := by
  unfold lg_cmp
  rw [if_neg (by rw [gt_iff_lt]; exact Int64.lt_irrefl), if_pos rfl]
def At (r z : Nat → Int32) (σ : CS) : Prop := c_row σ = r ∧ (∃ n, n ≤ 6 ∧ c_saved σ = nI n) ∧ c_snap σ = z ∧ c_taken σ = 1
theorem At.o1 {m : Nat} {r z : Nat → Int32} {σ : CS} (h : At r z σ) (hG : G m r) : O1 m (c_row σ) := by rw [h.1]; exact hG.o1
theorem undo_row {r r' : Nat → Int32} {σ σ1 : CS} {n : Nat} (hz : Zr r) (hz' : Zr r') (e : c_row σ = r) (A : After σ σ1 r' n) : cpyF (c_row σ1) (c_rows σ1) 0 ((if n = 6 then 5 else n) * 174) 174 = r := by
  obtain ⟨a1, _, a3, _, _⟩ := A
  funext j
  by_cases q : j < 174
  · rw [cpyF_in (by omega) (by omega), show (if n = 6 then 5 else n) * 174 + (j - 0) = (if n = 6 then 5 else n) * 174 + j from rfl, a3 j q, e]
  · rw [cpyF_out (by omega), a1, hz' j (by omega), hz j (by omega)]
theorem if6 {n : Nat} (hn : n ≤ 6) : (if n = 6 then 5 else n) ≤ 5 := by
  by_cases h : n = 6
  · rw [if_pos h]; omega
  · rw [if_neg h]; omega
theorem back {r z r' : Nat → Int32} {σ σ1 : CS} {n : Nat} (hz : Zr r) (hz' : Zr r') (hA : At r z σ) (hn : n ≤ 6) (A : After σ σ1 r' n) {post : Int32 → CS → Prop} {px : String → Prop} (hp : ∀ σ2, At r z σ2 → c_saved σ2 = nI (if n = 6 then 5 else n) → post (nI (if n = 6 then 5 else n)) σ2) : wp_X4_undo σ1 post px := by
  have hk := if6 hn
  have hr := undo_row hz hz' hA.1 A
  obtain ⟨e1, _, e3, e4⟩ := hA
  obtain ⟨a1, a2, a3, a4, a5⟩ := A
  refine W_undo (k := if n = 6 then 5 else n) (by omega) a2 (fun σ2 b1 b2 b3 b4 => hp σ2 ⟨b1.trans hr, ⟨_, by omega, b2⟩, b3.trans (a4.trans e3), b4.trans (a5.trans e4)⟩ b2)
theorem keen_min (B : Nat → Nat → Nat) : ∀ i b, b ≤ i → WV B (keenF B i) / 8 ≤ WV B b / 8
  | 0, b, h => by
    have : b = 0 := by omega
    subst this
    exact Nat.le_refl _
  | i + 1, b, h => by
    have ih := keen_min B i
    unfold keenF
    by_cases q : WV B (i + 1) / 8 < WV B (keenF B i) / 8
    · rw [if_pos q]
      by_cases e : b = i + 1
      · subst e; exact Nat.le_refl _
      · have := ih b (by omega); omega
    · rw [if_neg q]
      by_cases e : b = i + 1
      · subst e; omega
      · exact ih b (by omega)
theorem WV_6 (B : Nat → Nat → Nat) (b : Nat) : WV B b / 8 ≤ WV B 6 / 8 := by
  have e : WV B 6 = XX B 6 0 := if_pos rfl
  rw [e]
  unfold WV
  by_cases h : b = 6
  · rw [if_pos h]; exact Nat.le_refl _
  · rw [if_neg h]; exact due_up B _
theorem leastF_spec (P : Nat → Bool) : ∀ n i, (leastF P n i = -1 ∧ ∀ k, i ≤ k → k < i + n → P k = false) ∨ ∃ k, i ≤ k ∧ k < i + n ∧ leastF P n i = nI k ∧ P k = true ∧ ∀ j, i ≤ j → j < k → P j = false
  | 0, i => Or.inl ⟨rfl, fun k h1 h2 => absurd h1 (by omega)⟩
  | n + 1, i => by
    rw [leastF_s]
    by_cases h : P i = true
    · rw [if_pos h]
      exact Or.inr ⟨i, Nat.le_refl _, by omega, rfl, h, fun j h1 h2 => absurd h1 (by omega)⟩
    · rw [if_neg h]
      have h0 : P i = false := by cases e : P i; rfl; exact absurd e h
      rcases leastF_spec P n (i + 1) with ⟨e, hk⟩ | ⟨k, k1, k2, e, hk, hj⟩
      · refine Or.inl ⟨e, fun k h1 h2 => ?_⟩
        by_cases q : k = i
        · subst q; exact h0
        · exact hk k (by omega) (by omega)
      · refine Or.inr ⟨k, by omega, by omega, e, hk, fun j h1 h2 => ?_⟩
        by_cases q : j = i
        · subst q; exact h0
        · exact hj j (by omega) h2
theorem winsP_won {r : Nat → Int32} {b s x : Nat} (hb : b < 6) (hs : s < 6) : winsP r b s x = true ↔ wonV (BQ r b s (nI x)) b = nI s := by
  unfold winsP
  rw [decide_eq_true_iff, wonV_iff _ b s hb hs]
theorem winsP_mono {m : Nat} {r : Nat → Int32} (h1 : O1 m r) {b s i a : Nat} (hb : b < 6) (hs : s < 6) (hia : i ≤ a) (ha : a ≤ 99) (hpu : (a : Int) ≤ (r (30 + b)).toInt) (h : winsP r b s i = true) : winsP r b s a = true := by
  have hi0 : brg (nI i) (r s) (r (30 + b)) ≠ 0 := fun q => winsP_0 hb hs q h
  obtain ⟨c1, c2, c3, c4⟩ := brg_ne hi0
  rw [tI_n (by omega)] at c2 c3 c4
  have hpr := h1.price hs
  have ha0 : brg (nI a) (r s) (r (30 + b)) = 8 * ((a : Int) - (r s).toInt).toNat + 1 := by
    unfold brg
    rw [if_neg (nI_ne0 (by
      rcases Nat.eq_zero_or_pos i with q | q
      · subst q; exact absurd nI_0 c1
      · omega) (by omega)), if_neg (fun q => by rw [tI_lt, tI_n (by omega)] at q; omega), if_pos (by rw [tI_le, tI_n (by omega)]; exact hpu), tI_n (by omega)]
  rw [winsP_iff h1 hb hs hi0] at h
  rw [winsP_iff h1 hb hs (by rw [ha0]; omega)]
  refine Nat.lt_of_lt_of_le h (Nat.add_le_add_left ?_ _)
  rw [c4, ha0]
  unfold keyN
  rw [if_neg (by omega), if_neg (by omega)]
  exact Nat.add_le_add_right (Nat.mul_le_mul_right _ (by omega)) _
theorem BQ_81 {r : Nat → Int32} {b s : Nat} {x : Int32} (hb : b < 6) (hs : s < 6) : B81 (BQ r b s x) := by
  unfold BQ
  rw [← BA_set1 hb hs]
  exact BA_81 _ _ _ _
/-- what a bid would bring: nothing, or a spot and its price -/
theorem won_due {m : Nat} {r : Nat → Int32} (h1 : O1 m r) {b s a : Nat} (hb : b < 6) (hs : s < 6) (ha : a ≤ 99) : wonV (BQ r b s (nI a)) b = -1 ∨ ∃ k D : Nat, k < 6 ∧ D ≤ 99 ∧ wonV (BQ r b s (nI a)) b = nI k ∧ dueV r (BQ r b s (nI a)) k = nI D ∧ (r k).toInt ≤ (D : Int) ∧ (k = s → D ≤ a) := by
  rcases wonV_or (BQ r b s (nI a)) b with h | ⟨k, hk, h⟩
  · exact Or.inl h
  · have ho := (wonV_iff _ b k hb hk).mp h
    by_cases q : k = s
    · subst q
      have hy : BQ r b k (nI a) (own (BQ r b k (nI a)) k) k = brg (nI a) (r k) (r (30 + b)) := by
        rw [ho]; exact if_pos ⟨rfl, rfl⟩
      obtain ⟨D, d1, d2, d3, d4⟩ := due_gen hk (BQ_81 hb hs) (h1.price hk).1 (by rw [ho]; exact hb) hy (nI_le99 (M := 99) ha (by decide))
      rw [tI_n (by omega)] at d4
      exact Or.inr ⟨k, D, hk, d1, h, d2, d3, fun _ => by omega⟩
    · have hy : BQ r b s (nI a) (own (BQ r b s (nI a)) k) k = brg (r (54 + (b * 6 + k))) (r k) (r (30 + b)) := by
        rw [ho]
        show set1 (BC r) b s _ b k = _
        unfold set1
        rw [if_neg (fun z => q z.2)]
        exact BC_in hb hk
      obtain ⟨D, d1, d2, d3, d4⟩ := due_gen hk (BQ_81 hb hs) (h1.price hk).1 (by rw [ho]; exact hb) hy (h1.amount hb hk).2
      exact Or.inr ⟨k, D, hk, d1, h, d2, d3, fun z => absurd z q⟩
theorem bidV_0 (r : Nat → Int32) (B : Nat → Nat → Nat) (b : Nat) : bidV r B b (nI 0) = wonV B b := if_pos rfl
theorem bidV_1 {r : Nat → Int32} {B : Nat → Nat → Nat} {b k : Nat} (hk : k < 6) (h : wonV B b = nI k) : bidV r B b (nI 1) = dueV r B k := by
  unfold bidV
  rw [if_neg (by decide), h, if_neg (nI_m1 (by omega)), nI_clamp (by omega)]
theorem bidV_1n {r : Nat → Int32} {B : Nat → Nat → Nat} {b : Nat} (h : wonV B b = -1) : bidV r B b (nI 1) = -1 := by
  unfold bidV
  rw [if_neg (by decide), h, if_pos rfl]
theorem haul_V {m : Nat} {r : Nat → Int32} (h1 : O1 m r) {s : Nat} (hs : s < 6) : ∃ T : Nat, T ≤ 200 ∧ r (6 + s) = nI T ∧ haulV r s = nI (if T / 4 + 1 < T then T / 4 + 1 else T) := by
  have hf := h1.fish hs
  obtain ⟨T, hT, e⟩ : ∃ T : Nat, T ≤ 200 ∧ r (6 + s) = nI T := ⟨(r (6 + s)).toInt.toNat, by omega, tI_of hf.1⟩
  refine ⟨T, hT, e, ?_⟩
  unfold haulV
  rw [e, show nI T / 4 = nI (T / 4) from q_div (d := 4) (by decide) (by decide) (by omega), nI_1]
  by_cases q : T / 4 + 1 < T
  · rw [if_pos (nI_lt q (by omega)), if_pos q]
  · rw [if_neg (nI_nlt (by omega) (by omega)), if_neg q]
theorem swim_sum {r : Nat → Int32} {s d : Nat} (hs : s < 6) (hd : d < 6) (hne : s ≠ d) : sumF (rSwim r s d) 6 6 = sumF r 6 6 := by
  unfold rSwim
  by_cases q : r (12 + d) = -1
  · rw [if_pos q]
    by_cases q2 : r (6 + s) ≤ r (6 + d)
    · rw [if_pos q2]
    · rw [if_neg q2]
      have e : upd (upd r (6 + s) (r (6 + s) + -(swimV r s d))) (6 + d) (r (6 + d) + swimV r s d) = upd (upd r (6 + s) (r (6 + s) + -(swimV r s d))) (6 + d) (upd r (6 + s) (r (6 + s) + -(swimV r s d)) (6 + d) + swimV r s d) := by
        rw [pk_un (show 6 + d ≠ 6 + s by omega)]
      rw [e, sumF_add _ 6 d hd, sumF_add _ 6 s hs, Int32.add_assoc, Int32.add_left_neg, Int32.add_zero]
  · rw [if_neg q]
theorem fish_sum {r : Nat → Int32} {s w : Nat} (hs : s < 6) (hw : w < 6) : sumF (rFish r s w) 6 6 = sumF r 6 6 - haulV r s := by
  have h1 : ∀ f : Nat → Int32, sumF (rHigh f s) 6 6 = sumF f 6 6 := fun f => by
    unfold rHigh
    by_cases q : s = 5
    · rw [if_pos q]
    · rw [if_neg q]; exact swim_sum hs (by omega) (by omega)
  have h2 : ∀ f : Nat → Int32, sumF (rLow f s) 6 6 = sumF f 6 6 := fun f => by
    unfold rLow
    by_cases q : s = 0
    · rw [if_pos q]
    · rw [if_neg q]; exact swim_sum hs (by omega) (by omega)
  unfold rFish
  rw [h1, h2]
  unfold rHaul
  rw [sumF_out (by omega), sumF_out (by omega), sumF_add _ 6 s hs, Int32.sub_eq_add_neg]
