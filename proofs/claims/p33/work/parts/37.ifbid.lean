/-! pure part: what a bid would bring, the least bid that wins -/
theorem findF_spec (f : Nat → Int32) (v : Int32) : ∀ n i, (findF f v n i = -1 ∧ ∀ k, i ≤ k → k < i + n → f k ≠ v) ∨ ∃ k, i ≤ k ∧ k < i + n ∧ f k = v ∧ findF f v n i = nI k
  | 0, i => Or.inl ⟨rfl, fun k h1 h2 => by omega⟩
  | n + 1, i => by
    unfold findF
    by_cases e : f i = v
    · rw [if_pos e]; exact Or.inr ⟨i, Nat.le_refl _, by omega, e, rfl⟩
    · rw [if_neg e]
      rcases findF_spec f v n (i + 1) with ⟨h1, h2⟩ | ⟨k, h1, h2, h3, h4⟩
      · refine Or.inl ⟨h1, fun k a b => ?_⟩
        by_cases q : k = i
        · rw [q]; exact e
        · exact h2 k (by omega) (by omega)
      · exact Or.inr ⟨k, by omega, by omega, h3, h4⟩
def wonV (B : Nat → Nat → Nat) (b : Nat) : Int32 := findF (ownV B) (nI b) 6 0
theorem wonV_or (B : Nat → Nat → Nat) (b : Nat) : wonV B b = -1 ∨ ∃ k, k < 6 ∧ wonV B b = nI k := by
  rcases findF_spec (ownV B) (nI b) 6 0 with ⟨h, _⟩ | ⟨k, _, h, _, h2⟩
  · exact Or.inl h
  · exact Or.inr ⟨k, by omega, h2⟩
theorem ownV_eq {B : Nat → Nat → Nat} {b s : Nat} (hb : b < 6) : ownV B s = nI b ↔ own B s = b := by
  unfold ownV
  have := own_le B s
  by_cases e : own B s = 6
  · rw [if_pos e]; exact ⟨fun h => absurd h.symm (neg1_ne hb), fun h => by omega⟩
  · rw [if_neg e]; exact nI_eq (by omega) (by omega)
theorem wonV_iff (B : Nat → Nat → Nat) (b s : Nat) (hb : b < 6) (hs : s < 6) : wonV B b = nI s ↔ own B s = b := by
  rw [← ownV_eq hb]
  rcases findF_spec (ownV B) (nI b) 6 0 with ⟨h, h2⟩ | ⟨k, _, hk, h, h2⟩
  · refine ⟨fun q => ?_, fun q => absurd q (h2 s (Nat.zero_le _) (by omega))⟩
    exact absurd (q.symm.trans h) (neg1_ne hs)
  · have hk6 : k < 6 := by omega
    refine ⟨fun q => ?_, fun q => ?_⟩
    · have := (nI_eq (by omega) (by omega)).mp (h2.symm.trans q)
      subst this; exact h
    · by_cases e : k = s
      · subst e; exact h2
      · have h3 := (ownV_eq hb).mp h
        have h4 := (ownV_eq hb).mp q
        have := own_inj (B := B) hk6 hs e (h3.trans h4.symm)
        omega
def bidV (r : Nat → Int32) (B : Nat → Nat → Nat) (b : Nat) (p : Int32) : Int32 := if p = 0 then wonV B b else if wonV B b = -1 then -1 else dueV r B (wonV B b).toNatClampNeg
theorem keys_set1 {f : Nat → Int64} {B : Nat → Nat → Nat} {b s : Nat} (y : Nat) (hs : s < 6) (h : keysOK f B) : keysOK (vp_updL f (b * 6 + s) (lN (keyN y b s))) (set1 B b s y) := by
  intro c k hc hk
  by_cases e : c * 6 + k = b * 6 + s
  · obtain rfl : c = b := by omega
    obtain rfl : k = s := by omega
    rw [pk_uLs, ← keyN_Bk]
    unfold set1
    rw [if_pos ⟨rfl, rfl⟩]
  · rw [pk_uLn e, h c k hc hk]
    unfold Bk set1
    rw [if_neg (show ¬ (c = b ∧ k = s) from fun q => e (by rw [q.1, q.2]))]
theorem set1_le {B : Nat → Nat → Nat} {b s y : Nat} (h : ∀ b s, B b s ≤ 793) (hy : y ≤ 793) : ∀ c k, set1 B b s y c k ≤ 793 := fun c k => by
  unfold set1
  by_cases e : c = b ∧ k = s
  · rw [if_pos e]; exact hy
  · rw [if_neg e]; exact h c k
/-- the bids with one of amount x asked about -/
def BQ (r : Nat → Int32) (b s : Nat) (x : Int32) : Nat → Nat → Nat := set1 (BC r) b s (brg x (r s) (r (30 + b)))
theorem BQ_le {m : Nat} {r : Nat → Int32} (h1 : O1 m r) (b : Nat) {s : Nat} (hs : s < 6) {x : Int32} (hx : x.toInt ≤ 99) : ∀ c k, BQ r b s x c k ≤ 793 := set1_le (BC_le h1) (brg_le hx (h1.price hs).1)
theorem w_ifBidV {m : Nat} {σ : CS} (h1 : O1 m (c_row σ)) (b s : Nat) (x p : Int32) (hb : b < 6) (hs : s < 6) (hx0 : 0 ≤ x.toInt) (hx : x.toInt ≤ 99) {post : Int32 → CS → Prop} (hp : KeyM σ (post (bidV (c_row σ) (BQ (c_row σ) b s x) b p))) : wp_X1_readBids σ (fun σ_1 => wp_X1_keyOf σ_1 (nI b) (nI s) x (fun r_2 => wp_X1_replaceBid σ_1 (nI b) (nI s) r_2 (fun σ_3 => wp_X1_find σ_3 (-1) (fun σ_4 => wp_X1_spotOf σ_4 (nI b) (fun r_5 => ((p = 0 → post r_5 σ_4) ∧ (¬ p = 0 → ((¬ r_5 = (-1) → wp_X1_priceOf σ_4 r_5 (fun r_6 => post r_6 σ_4)) ∧ (r_5 = (-1) → post r_5 σ_4))))))))) := by
  refine w_readBids h1 (fun f hf => ?_)
  refine w_keyOf (m := m) (σ := cs_keys σ f) b s x hb hs h1 hx0 hx ?_
  refine w_replaceBid b s _ hb hs ?_
  have hB := BQ_le h1 b hs hx
  have hk : keysOK (vp_updL f (b * 6 + s) (lN (keyN (brg x (c_row σ s) (c_row σ (30 + b))) b s))) (BQ (c_row σ) b s x) := keys_set1 _ hs hf
  refine w_findAll (σ := cs_keys σ (vp_updL f (b * 6 + s) (lN (keyN (brg x (c_row σ s) (c_row σ (30 + b))) b s)))) hB hk (fun g H => ?_)
  have hp := hp (vp_updL f (b * 6 + s) (lN (keyN (brg x (c_row σ s) (c_row σ (30 + b))) b s))) g
  refine w_spotOf hB H (nI b) ?_
  unfold bidV at hp
  have hw := wonV_or (BQ (c_row σ) b s x) b
  show ((p = 0 → post (wonV (BQ (c_row σ) b s x) b) _) ∧ (¬ p = 0 → ((¬ (wonV (BQ (c_row σ) b s x) b) = (-1) → _) ∧ ((wonV (BQ (c_row σ) b s x) b) = (-1) → post (wonV (BQ (c_row σ) b s x) b) _))))
  refine ⟨fun h => ?_, fun h => ⟨fun h2 => ?_, fun h2 => ?_⟩⟩
  · rw [if_pos h] at hp; exact hp
  · rw [if_neg h, if_neg h2] at hp
    rcases hw with hw | ⟨k, hk6, hw⟩
    · exact absurd hw h2
    · rw [hw, nI_clamp (by omega)] at hp
      have hw' : findF (ownV (BQ (c_row σ) b s x)) (nI b) 6 0 = nI k := hw
      rw [hw']
      exact w_priceOf hB H k hk6 hp
  · rw [if_neg h, if_pos h2] at hp
    rw [h2]; exact hp
-- the least bid that wins
def leastF (P : Nat → Bool) : Nat → Nat → Int32
  | 0, _ => -1
  | n + 1, i => if P i = true then nI i else leastF P n (i + 1)
theorem leastF_s (P : Nat → Bool) (n i : Nat) : leastF P (n + 1) i = if P i = true then nI i else leastF P n (i + 1) := rfl
def winsP (r : Nat → Int32) (b s : Nat) (x : Nat) : Bool := decide (own (BQ r b s (nI x)) s = b)
theorem lg_le {a b : Nat} (ha : a < 2147483648) (hb : b < 2147483648) : lg_cmp (lN a) (lN b) ≤ 0 ↔ a ≤ b := by
  unfold lg_cmp
  by_cases q : b < a
  · rw [if_pos (by rw [gt_iff_lt, lN_lt (by omega) (by omega)]; exact q)]
    exact ⟨fun h => absurd h (by decide), fun h => by omega⟩
  · rw [if_neg (by rw [gt_iff_lt, lN_lt (by omega) (by omega)]; exact q)]
    refine ⟨fun _ => by omega, fun _ => ?_⟩
    by_cases e : lN a = lN b
    · rw [if_pos e]; decide
    · rw [if_neg e]; decide
theorem keyN_sm {y b s : Nat} (hy : y ≤ 793) : keyN y b s ≤ 268435456 := by
  unfold keyN
  by_cases e : y = 0
  · rw [if_pos e]; omega
  · rw [if_neg e]
    have h2 := dgs_le (b := b) (s := s)
    generalize (6 - b) * 8 ^ (5 - s) = Z at h2 ⊢
    omega
theorem keyN_0 {y b s : Nat} : keyN y b s = 0 ↔ y = 0 := by
  unfold keyN
  by_cases e : y = 0
  · rw [if_pos e]; exact ⟨fun _ => e, fun _ => rfl⟩
  · rw [if_neg e]; exact ⟨fun h => by omega, fun h => absurd h e⟩
theorem zs_BIG {K : Nat → Nat → Nat} (h : BIG K) (s : Nat) : BIG (zs K s) := fun b k => by
  unfold zs
  by_cases e : k = s
  · rw [if_pos e]; exact Nat.zero_le _
  · rw [if_neg e]; exact h b k
theorem winsP_iff {m : Nat} {r : Nat → Int32} (h1 : O1 m r) {b s x : Nat} (hb : b < 6) (hs : s < 6) (hy : brg (nI x) (r s) (r (30 + b)) ≠ 0) : winsP r b s x = true ↔ FF (Bk (set1 (BC r) b s 0)) 6 63 < FF (zs (Bk (set1 (BC r) b s 0)) s) 6 (sw 63 b) + keyN (brg (nI x) (r s) (r (30 + b))) b s := by
  unfold winsP BQ
  rw [decide_eq_true_iff, least_iff (BC r) b s _ hb hs hy]
  unfold keyN
  rw [if_neg hy]
theorem winsP_0 {r : Nat → Int32} {b s x : Nat} (hb : b < 6) (hs : s < 6) (hy : brg (nI x) (r s) (r (30 + b)) = 0) : ¬ winsP r b s x = true := by
  unfold winsP BQ
  rw [hy]
  intro h
  have h := of_decide_eq_true h
  have := (own_lt (B := set1 (BC r) b s 0) hs (by omega)).2
  rw [h] at this
  exact this (if_pos ⟨rfl, rfl⟩)
theorem w_least {m : Nat} {σ : CS} (h1 : O1 m (c_row σ)) (b s : Nat) (hb : b < 6) (hs : s < 6) {post : Int32 → CS → Prop} (hp : KeyM σ (post (leastF (winsP (c_row σ) b s) 99 1))) : wp_X4_leastWinning σ (nI b) (nI s) post := by
  refine w_readBids h1 (fun f hf => ?_)
  refine w_replaceBid b s _ hb hs ?_
  have hk : keysOK (vp_updL f (b * 6 + s) (lN (keyN 0 b s))) (set1 (BC (c_row σ)) b s 0) := keys_set1 0 hs hf
  have hB : ∀ c k, set1 (BC (c_row σ)) b s 0 c k ≤ 793 := set1_le (BC_le h1) (Nat.zero_le _)
  have e0 : lN (keyN 0 b s) = 0 := rfl
  rw [e0] at hk
  have hpp := fun g => hp (vp_updL f (b * 6 + s) 0) g
  have hW0 := fun x hy => winsP_0 (r := c_row σ) (x := x) hb hs hy
  have hW := fun x hy => winsP_iff (r := c_row σ) (x := x) h1 hb hs hy
  refine w_findAll (σ := cs_keys σ (vp_updL f (b * 6 + s) 0)) hB hk (fun g H => ?_)
  refine w_keyAll H ?_
  rw [← FF_all]
  generalize winsP (c_row σ) b s = P at hpp hW0 hW
  have hBg := Bk_le hB
  generalize hB1 : Bk (set1 (BC (c_row σ)) b s 0) = K at hBg hW
  have hkK : keysOK (vp_updL f (b * 6 + s) 0) (set1 (BC (c_row σ)) b s 0) := hk
  refine w_find (σ := cs_most (cs_keys σ (vp_updL f (b * 6 + s) 0)) g) (K := zs K s) (x := nI s) (zs_BIG hBg s) (fun c k hc hk2 hne => ?_) (fun c k hc hk2 he => ?_) (fun g2 hg2 => ?_)
  · have := hkK c k hc hk2
    rw [hB1] at this
    unfold zs
    rw [if_neg (fun q => hne (by rw [q]))]
    exact this
  · unfold zs
    exact if_pos ((nI_eq (by omega) (by omega)).mp he)
  · refine w_setWithout 63 b (by decide) hb ?_
    refine w_mostOf _ (sw63 b hb) ?_
    have em : c_most (cs_most (cs_most (cs_keys σ (vp_updL f (b * 6 + s) 0)) g) g2) (sw 63 b) = lN (FF (zs K s) 6 (sw 63 b)) := hg2 _ (sw63 b hb)
    rw [em]
    have z1 := FF_sm hBg (j := 6) (S := 63) (Nat.le_refl _)
    have z2 := FF_sm (zs_BIG hBg s) (j := 6) (S := sw 63 b) (Nat.le_refl _)
    generalize FF K 6 63 = A at z1 hW ⊢
    generalize FF (zs K s) 6 (sw 63 b) = Z at z2 hW ⊢
    refine ⟨fun n v => ∃ i : Nat, i ≤ 99 ∧ n = 99 - i ∧ v = nI (i + 1) ∧ leastF P 99 1 = leastF P (99 - i) (i + 1), ⟨99, 0, Nat.zero_le _, rfl, rfl, rfl⟩, ?_⟩
    rintro n v ⟨i, hi, rfl, rfl, hq⟩
    refine ⟨fun h9 => ?_, fun h9 => ?_⟩
    · have e : i = 99 := by
        have := (nI_ltI (a := 99) (by omega) (by omega)).mp h9
        omega
      subst e
      have := hpp g2
      rw [hq] at this
      exact this
    · have e : i < 99 := by
        rcases Nat.lt_or_ge i 99 with q | q
        · exact q
        · exact absurd (nI_lt (a := 99) (by omega) (by omega)) h9
      have hi1 : (nI (i + 1)).toInt = ((i + 1 : Nat) : Int) := nI_toInt (by omega)
      refine w_keyOf (m := m) (σ := cs_most (cs_most (cs_keys σ (vp_updL f (b * 6 + s) 0)) g) g2) b s (nI (i + 1)) hb hs h1 (by omega) (by omega) ?_
      have hy := brg_le (x := nI (i + 1)) (p := c_row σ s) (u := c_row σ (30 + b)) (by omega) (h1.price hs).1
      have w0 := hW0 (i + 1)
      have w1 := hW (i + 1)
      have er : c_row (cs_most (cs_most (cs_keys σ (vp_updL f (b * 6 + s) 0)) g) g2) = c_row σ := rfl
      rw [er]
      generalize brg (nI (i + 1)) (c_row σ s) (c_row σ (30 + b)) = y at hy w0 w1 ⊢
      have hks := keyN_sm (b := b) (s := s) hy
      have hstep : ¬ P (i + 1) = true → leastF P 99 1 = leastF P (99 - (i + 1)) (i + 1 + 1) := by
        intro hn
        rw [hq, show 99 - i = (99 - (i + 1)) + 1 by omega]
        rw [leastF_s, if_neg hn]
      refine ⟨fun h => ?_, fun h => ⟨fun h2 => ?_, fun h2 => ?_⟩⟩
      · intro w hw
        have hy0 : y = 0 := keyN_0.mp ((lg_lN (by omega)).mp h)
        exact ⟨99 - (i + 1), by omega, i + 1, by omega, rfl, by rw [hw, nI_1], hstep (w0 hy0)⟩
      · intro w hw
        have hy0 : y ≠ 0 := fun q => h ((lg_lN (by omega)).mpr (keyN_0.mpr q))
        rw [lN_add, lg_le (by omega) (by omega)] at h2
        exact ⟨99 - (i + 1), by omega, i + 1, by omega, rfl, by rw [hw, nI_1], hstep (fun q => by have := (w1 hy0).mp q; omega)⟩
      · have hy0 : y ≠ 0 := fun q => h ((lg_lN (by omega)).mpr (keyN_0.mpr q))
        rw [lN_add, lg_le (by omega) (by omega)] at h2
        have hP : P (i + 1) = true := (w1 hy0).mpr (by omega)
        have := hpp g2
        rw [hq, show 99 - i = (99 - (i + 1)) + 1 by omega] at this
        rw [leastF_s, if_pos hP] at this
        exact this
