/-! pure part: the digest, in the class -/
def mixF (h : Int64) (f : Nat → Int32) : Nat → Int64
  | 0 => h
  | n + 1 => 31 * mixF h f n + (f n).toInt64
def spotsF (r : Nat → Int32) (h : Int64) : Nat → Int64
  | 0 => h
  | s + 1 => 31 * (31 * mixF (spotsF r h s) (spotV r s) 6 + (ownV (BC r) s).toInt64) + (dueV r (BC r) s).toInt64
def bidrsF (r : Nat → Int32) (h : Int64) : Nat → Int64
  | 0 => h
  | b + 1 => mixF (bidrsF r h b) (bidrV r b) 6
def bidsV (r : Nat → Int32) (k : Nat) : Int32 := sealedV r (k / 30) (k / 5 % 6) (k % 5)
def worthsF (r : Nat → Int32) (h : Int64) : Nat → Int64
  | 0 => h
  | w + 1 => 31 * (31 * worthsF r h w + (nI (WV (BC r) w / 8)).toInt64) + (nI (WV (BC r) w / 8)).toInt64
/-- all that is mixed before the shares -/
def DA (r : Nat → Int32) (sv : Int32) : Int64 := worthsF r (mixF (bidrsF r (spotsF r (mixF (mixF 3797 (cntV r sv) 15) (fun k => r (162 + k)) 3) 6) 6) (bidsV r) 180) 7
def DB (r : Nat → Int32) (h : Int64) : Int64 := 31 * (31 * (31 * (31 * h + (bidV r (BQ r 1 2 (nI 20)) 1 (nI 0)).toInt64) + (bidV r (BQ r 1 2 (nI 20)) 1 (nI 1)).toInt64) + (leastF (winsP r 0 0) 99 1).toInt64) + (nI (keenF (BC r) 5)).toInt64
def DC (t : Nat → Int32) (l : Nat) (kp h : Int64) : Int64 := mixF (31 * (31 * h + kp) + (nI l).toInt64) t l
/-- a class state but for its Sharing -/
def Kq (σ σ' : CS) : Prop := ∃ f g, σ' = cs_most (cs_keys σ f) g
theorem Kq.row {σ σ' : CS} (h : Kq σ σ') : c_row σ' = c_row σ := by
  obtain ⟨f, g, rfl⟩ := h; rfl
theorem Kq.trans {a b c : CS} (h : Kq a b) (k : Kq b c) : Kq a c := by
  obtain ⟨f, g, rfl⟩ := h
  obtain ⟨f2, g2, rfl⟩ := k
  exact ⟨f2, g2, rfl⟩
theorem Kq.rest {σ σ' : CS} (h : Kq σ σ') : c_saved σ' = c_saved σ ∧ c_taken σ' = c_taken σ ∧ c_len σ' = c_len σ ∧ c_codes σ' = c_codes σ := by
  obtain ⟨f, g, rfl⟩ := h; exact ⟨rfl, rfl, rfl, rfl⟩
section
variable {m : Nat} {σ : CS}
theorem w_mixSpots (h1 : O1 m (c_row σ)) (h : Int64) {post : Int64 → CS → Prop} (hp : ∀ σ', Kq σ σ' → post (spotsF (c_row σ) h 6) σ') : wp_X4_mixSpots σ h post := by
  unfold wp_X4_mixSpots wp_X4_mix
  refine w_findSharing h1 (fun f g H => ?_)
  have hB := BC_le h1
  have hp := hp _ ⟨f, g, rfl⟩
  have er : c_row (cs_most (cs_keys σ f) g) = c_row σ := rfl
  generalize cs_most (cs_keys σ f) g = σ1 at *
  generalize c_row σ = r at *
  refine ⟨fun n v3 v5 => ∃ i, i ≤ 6 ∧ n = 6 - i ∧ v5 = nI i ∧ v3 = spotsF r h i, ⟨6, 0, Nat.zero_le _, rfl, rfl, rfl⟩, ?_⟩
  rintro n v3 v5 ⟨i, hi, rfl, rfl, rfl⟩
  refine ⟨fun h9 => ?_, fun h9 => ?_⟩
  · have e : i = 6 := Nat.le_antisymm hi ((nI_leI (a := 6) (by omega) (by omega)).mp h9)
    subst e; exact hp
  · have e : i < 6 := Nat.lt_of_not_le fun q => h9 (nI_le (a := 6) q (by omega))
    refine ⟨fun n v3 v6 => ∃ k, k ≤ 6 ∧ n = 6 - k ∧ v6 = nI k ∧ v3 = mixF (spotsF r h i) (spotV r i) k, ⟨6, 0, Nat.zero_le _, rfl, rfl, rfl⟩, ?_⟩
    rintro n v3 v6 ⟨k, hk, rfl, rfl, rfl⟩
    refine ⟨fun h8 => ?_, fun h8 => ?_⟩
    · have ek : k = 6 := by
        have := (nI_ltI (a := 5) (by omega) (by omega)).mp h8
        omega
      subst ek
      refine w_ownerOf hB H i e ?_
      refine w_priceOf hB H i e ?_
      rw [er]
      intro w hw
      exact ⟨6 - (i + 1), by omega, i + 1, e, rfl, by rw [hw, nI_1], rfl⟩
    · have ek : k < 6 := by
        rcases Nat.lt_or_ge k 6 with z | z
        · exact z
        · exact absurd (nI_lt (a := 5) (by omega) (by omega)) h8
      refine w_spot i k e (by omega) ?_
      rw [er]
      intro w hw
      exact ⟨6 - (k + 1), by omega, k + 1, by omega, rfl, by rw [hw, nI_1], rfl⟩
theorem w_mixBidders (h : Int64) {post : Int64 → Prop} (hp : post (bidrsF (c_row σ) h 6)) : wp_X4_mixBidders σ h post := by
  unfold wp_X4_mixBidders wp_X4_mix
  refine ⟨fun n v3 v5 => ∃ i, i ≤ 6 ∧ n = 6 - i ∧ v5 = nI i ∧ v3 = bidrsF (c_row σ) h i, ⟨6, 0, Nat.zero_le _, rfl, rfl, rfl⟩, ?_⟩
  rintro n v3 v5 ⟨i, hi, rfl, rfl, rfl⟩
  refine ⟨fun h9 => ?_, fun h9 => ?_⟩
  · have e : i = 6 := Nat.le_antisymm hi ((nI_leI (a := 6) (by omega) (by omega)).mp h9)
    subst e; exact hp
  · have e : i < 6 := Nat.lt_of_not_le fun q => h9 (nI_le (a := 6) q (by omega))
    refine ⟨fun n v3 v6 => ∃ k, k ≤ 6 ∧ n = 6 - k ∧ v6 = nI k ∧ v3 = mixF (bidrsF (c_row σ) h i) (bidrV (c_row σ) i) k, ⟨6, 0, Nat.zero_le _, rfl, rfl, rfl⟩, ?_⟩
    rintro n v3 v6 ⟨k, hk, rfl, rfl, rfl⟩
    refine ⟨fun h8 => ?_, fun h8 => ?_⟩
    · have ek : k = 6 := by
        have := (nI_ltI (a := 5) (by omega) (by omega)).mp h8
        omega
      subst ek
      intro w hw
      exact ⟨6 - (i + 1), by omega, i + 1, e, rfl, by rw [hw, nI_1], rfl⟩
    · have ek : k < 6 := by
        rcases Nat.lt_or_ge k 6 with z | z
        · exact z
        · exact absurd (nI_lt (a := 5) (by omega) (by omega)) h8
      refine w_bidder i k e (by omega) ?_
      intro w hw
      exact ⟨6 - (k + 1), by omega, k + 1, by omega, rfl, by rw [hw, nI_1], rfl⟩
theorem bidsV_at (r : Nat → Int32) (b s k : Nat) (hs : s < 6) (hk : k < 5) : bidsV r (30 * b + 5 * s + k) = sealedV r b s k := by
  unfold bidsV
  rw [show (30 * b + 5 * s + k) / 30 = b by omega, show (30 * b + 5 * s + k) / 5 % 6 = s by omega, show (30 * b + 5 * s + k) % 5 = k by omega]
theorem w_mixBids (h : Int64) {post : Int64 → Prop} (hp : post (mixF h (bidsV (c_row σ)) 180)) : wp_X4_mixBids σ h post := by
  unfold wp_X4_mixBids wp_X4_mix
  refine ⟨fun n v3 v5 => ∃ i, i ≤ 6 ∧ n = 6 - i ∧ v5 = nI i ∧ v3 = mixF h (bidsV (c_row σ)) (30 * i), ⟨6, 0, Nat.zero_le _, rfl, rfl, rfl⟩, ?_⟩
  rintro n v3 v5 ⟨i, hi, rfl, rfl, rfl⟩
  refine ⟨fun h9 => ?_, fun h9 => ?_⟩
  · have e : i = 6 := Nat.le_antisymm hi ((nI_leI (a := 6) (by omega) (by omega)).mp h9)
    subst e; exact hp
  · have e : i < 6 := Nat.lt_of_not_le fun q => h9 (nI_le (a := 6) q (by omega))
    refine ⟨fun n v3 v6 => ∃ s, s ≤ 6 ∧ n = 6 - s ∧ v6 = nI s ∧ v3 = mixF h (bidsV (c_row σ)) (30 * i + 5 * s), ⟨6, 0, Nat.zero_le _, rfl, rfl, rfl⟩, ?_⟩
    rintro n v3 v6 ⟨s, hs, rfl, rfl, rfl⟩
    refine ⟨fun h8 => ?_, fun h8 => ?_⟩
    · have es : s = 6 := Nat.le_antisymm hs ((nI_leI (a := 6) (by omega) (by omega)).mp h8)
      subst es
      intro w hw
      exact ⟨6 - (i + 1), by omega, i + 1, e, rfl, by rw [hw, nI_1], rfl⟩
    · have es : s < 6 := Nat.lt_of_not_le fun q => h8 (nI_le (a := 6) q (by omega))
      refine ⟨fun n v3 v7 => ∃ k, k ≤ 5 ∧ n = 5 - k ∧ v7 = nI k ∧ v3 = mixF h (bidsV (c_row σ)) (30 * i + 5 * s + k), ⟨5, 0, Nat.zero_le _, rfl, rfl, rfl⟩, ?_⟩
      rintro n v3 v7 ⟨k, hk, rfl, rfl, rfl⟩
      refine ⟨fun h7 => ?_, fun h7 => ?_⟩
      · have ek : k = 5 := by
          have := (nI_ltI (a := 4) (by omega) (by omega)).mp h7
          omega
        subst ek
        intro w hw
        exact ⟨6 - (s + 1), by omega, s + 1, es, rfl, by rw [hw, nI_1], rfl⟩
      · have ek : k < 5 := by
          rcases Nat.lt_or_ge k 5 with z | z
          · exact z
          · exact absurd (nI_lt (a := 4) (by omega) (by omega)) h7
        refine w_sealed i s k e es (by omega) ?_
        rw [← bidsV_at (c_row σ) i s k es ek]
        intro w hw
        exact ⟨5 - (k + 1), by omega, k + 1, by omega, rfl, by rw [hw, nI_1], rfl⟩
theorem w_mixWorths (h1 : O1 m (c_row σ)) (h : Int64) {post : Int64 → CS → Prop} (hp : ∀ σ', Kq σ σ' → post (worthsF (c_row σ) h 7) σ') : wp_X4_mixWorths σ h post := by
  unfold wp_X4_mixWorths wp_X4_mix
  refine w_findSharing h1 (fun f g H => ?_)
  have hB := BC_le h1
  have h81 := BC_81 (c_row σ)
  have hp := hp _ ⟨f, g, rfl⟩
  generalize cs_most (cs_keys σ f) g = σ1 at *
  generalize c_row σ = r at *
  refine ⟨fun n v3 v5 => ∃ i, i ≤ 7 ∧ n = 7 - i ∧ v5 = nI i ∧ v3 = worthsF r h i, ⟨7, 0, Nat.zero_le _, rfl, rfl, rfl⟩, ?_⟩
  rintro n v3 v5 ⟨i, hi, rfl, rfl, rfl⟩
  refine ⟨fun h9 => ?_, fun h9 => ?_⟩
  · have e : i = 7 := by
      have := (nI_ltI (a := 6) (by omega) (by omega)).mp h9
      omega
    subst e; exact hp
  · have e : i ≤ 6 := by
      rcases Nat.lt_or_ge i 7 with z | z
      · omega
      · exact absurd (nI_lt (a := 6) (by omega) (by omega)) h9
    refine w_worthByTrying hB h81 H.1 i e ?_
    refine w_worthWV hB H i e ?_
    intro w hw
    exact ⟨7 - (i + 1), by omega, i + 1, by omega, rfl, by rw [hw, nI_1], rfl⟩
theorem w_mixText {t : Nat → Int32} {l : Nat} (T : TxC σ t l) (hc : Chr t l) (h : Int64) {post : Int64 → Prop} (hp : post (mixF (31 * h + (nI l).toInt64) t l)) : wp_X4_mixText σ h post := by
  have hl := hc.1
  unfold wp_X4_mixText wp_X3_length wp_X4_mix
  rw [T.1]
  refine ⟨fun n v3 v5 => ∃ i, i ≤ l ∧ n = l - i ∧ v5 = nI i ∧ v3 = mixF (31 * h + (nI l).toInt64) t i, ⟨l, 0, Nat.zero_le _, rfl, rfl, rfl⟩, ?_⟩
  rintro n v3 v5 ⟨i, hi, rfl, rfl, rfl⟩
  refine ⟨fun h9 => ?_, fun h9 => ?_⟩
  · have e : i = l := Nat.le_antisymm hi ((nI_leI (by omega) (by omega)).mp h9)
    subst e; exact hp
  · rw [nI_leI (by omega) (by omega)] at h9
    refine w_code T hc i (by omega) ?_
    rw [← cN_in hc (by omega)]
    intro w hw
    exact ⟨l - (i + 1), by omega, i + 1, by omega, rfl, by rw [hw, nI_1], rfl⟩
theorem w_ifBidN (h1 : O1 m (c_row σ)) (b s x k : Nat) (hb : b < 6) (hs : s < 6) (hx1 : 1 ≤ x) (hx : x ≤ 99) (hk : k ≤ 1) {post : Int32 → CS → Prop} {px : String → Prop} (hp : ∀ σ', Kq σ σ' → post (bidV (c_row σ) (BQ (c_row σ) b s (nI x)) b (nI k)) σ') : wp_X4_ifBid σ (nI b) (nI s) (nI x) (nI k) post px := by
  have hxt : (nI x).toInt = x := nI_toInt (by omega)
  unfold wp_X4_ifBid
  refine cP_N rfl hb (by decide) ?_
  refine cP_N rfl hs (by decide) ?_
  refine cR_ok (nI_nlt (b := 1) hx1 (by omega)) (nI_le (b := 99) hx (by decide)) ?_
  refine cR_N (n := 1) rfl hk (by decide) ?_
  exact w_ifBidV h1 b s (nI x) (nI k) hb hs (by omega) (by omega) (fun f g => hp _ ⟨f, g, rfl⟩)
theorem w_leastN (h1 : O1 m (c_row σ)) (b s : Nat) (hb : b < 6) (hs : s < 6) {post : Int32 → CS → Prop} {px : String → Prop} (hp : ∀ σ', Kq σ σ' → post (leastF (winsP (c_row σ) b s) 99 1) σ') : wp_X4_least σ (nI b) (nI s) post px := by
  unfold wp_X4_least
  refine cP_N rfl hb (by decide) ?_
  refine cP_N rfl hs (by decide) ?_
  exact w_least h1 b s hb hs (fun f g => hp _ ⟨f, g, rfl⟩)
theorem w_digest (h1 : O1 m (c_row σ)) (h3 : O3 (c_row σ)) (hm : m ≤ 100000) {t : Nat → Int32} {l : Nat} (T : TxC σ t l) (hc : Chr t l) (htk : c_taken σ = 0 ∨ c_taken σ = 1) {b : Int64} {b2 : Int32} (hb : ∀ post : Int64 → Prop, post b → wp_X4_bitsOf (shV (c_row σ)) 52 1023 post) (hf : ∀ post : Int64 → Prop, post b2.toInt64 → wp_X4_bitsOf (FP.f2d (mpV (c_row σ))) 23 127 post) (hfv : vf_n64 (FP.f2d (mpV (c_row σ)))) {post : Int64 → CS → Prop} (hp : ∀ σ', Kq σ σ' → post (DC t l (if c_taken σ = 0 then 0 else 1) (31 * (31 * DB (c_row σ) (DA (c_row σ) (c_saved σ)) + b) + b2.toInt64)) σ') : wp_X4_digest σ post := by
  unfold wp_X4_digest wp_X4_mix
  refine ⟨fun n v1 v3 => ∃ i, i ≤ 15 ∧ n = 15 - i ∧ v3 = nI i ∧ v1 = mixF 3797 (cntV (c_row σ) (c_saved σ)) i, ⟨15, 0, Nat.zero_le _, rfl, rfl, rfl⟩, ?_⟩
  rintro n v1 v3 ⟨i, hi, rfl, rfl, rfl⟩
  refine ⟨fun h9 => ?_, fun h9 => ?_⟩
  · have e : i = 15 := by
      have := (nI_ltI (a := 14) (by omega) (by omega)).mp h9
      omega
    subst e
    refine ⟨fun n v1 v3 => ∃ i, i ≤ 3 ∧ n = 3 - i ∧ v3 = nI i ∧ v1 = mixF (mixF 3797 (cntV (c_row σ) (c_saved σ)) 15) (fun k => c_row σ (162 + k)) i, ⟨3, 0, Nat.zero_le _, rfl, rfl, rfl⟩, ?_⟩
    rintro n v1 v3 ⟨i, hi, rfl, rfl, rfl⟩
    refine ⟨fun h9 => ?_, fun h9 => ?_⟩
    · have e : i = 3 := Nat.le_antisymm hi ((nI_leI (a := 3) (by omega) (by omega)).mp h9)
      subst e
      refine w_mixSpots h1 _ (fun σ1 K1 => ?_)
      have r1 := K1.row
      refine w_mixBidders _ ?_
      refine w_mixBids _ ?_
      rw [r1]
      have h1' : O1 m (c_row σ1) := by rw [r1]; exact h1
      refine w_mixWorths h1' _ (fun σ2 K2' => ?_)
      have K2 := K1.trans K2'
      have r2 := K2.row
      rw [r1]
      have hp : ∀ σ', Kq σ σ' → post (DC t l (if c_taken σ = 0 then 0 else 1) (31 * (31 * DB (c_row σ) (worthsF (c_row σ) (mixF (bidrsF (c_row σ) (spotsF (c_row σ) (mixF (mixF 3797 (cntV (c_row σ) (c_saved σ)) 15) (fun k => c_row σ (162 + k)) 3) 6) 6) (bidsV (c_row σ)) 180) 7) + b) + b2.toInt64)) σ' := hp
      generalize worthsF (c_row σ) (mixF (bidrsF (c_row σ) (spotsF (c_row σ) (mixF (mixF 3797 (cntV (c_row σ) (c_saved σ)) 15) (fun k => c_row σ (162 + k)) 3) 6) 6) (bidsV (c_row σ)) 180) 7 = HA at hp ⊢
      have h2' : O1 m (c_row σ2) := by rw [r2]; exact h1
      refine w_ifBidN h2' 1 2 20 0 (by decide) (by decide) (by decide) (by decide) (by decide) (fun σ3 K3' => ?_)
      have K3 := K2.trans K3'
      have r3 := K3.row
      have h3' : O1 m (c_row σ3) := by rw [r3]; exact h1
      refine w_ifBidN h3' 1 2 20 1 (by decide) (by decide) (by decide) (by decide) (by decide) (fun σ4 K4' => ?_)
      have K4 := K3.trans K4'
      have r4 := K4.row
      have h4' : O1 m (c_row σ4) := by rw [r4]; exact h1
      refine w_leastN h4' 0 0 (by decide) (by decide) (fun σ5 K5' => ?_)
      have K5 := K4.trans K5'
      have r5 := K5.row
      have h5' : O1 m (c_row σ5) := by rw [r5]; exact h1
      refine w_keenest h5' (fun f6 g6 => ?_)
      have K6 : Kq σ (cs_most (cs_keys σ5 f6) g6) := K5.trans ⟨f6, g6, rfl⟩
      generalize cs_most (cs_keys σ5 f6) g6 = σ6 at K6 ⊢
      have r6 := K6.row
      have h6' : O1 m (c_row σ6) := by rw [r6]; exact h1
      have h6o : O3 (c_row σ6) := by rw [r6]; exact h3
      obtain ⟨q1, q2, q3, q4⟩ := K6.rest
      rw [r2, r3, r4, r5]
      refine w_chestShare h6' h6o ?_
      rw [r6]
      refine hb _ ?_
      refine w_meanPrice h6' h6o hm ?_
      rw [r6]
      refine ⟨hfv, ?_⟩
      refine hf _ ?_
      have T6 : TxC σ6 t l := ⟨q3.trans T.1, fun i hi => by rw [q4]; exact T.2 i hi⟩
      have hp := hp σ6 K6
      unfold DC DB at hp
      unfold wp_X0_hasSnapshot
      rw [q2]
      rcases htk with z | z
      · rw [z] at hp ⊢
        rw [if_pos rfl] at hp
        refine ⟨rfl, fun _ => ?_, fun y => absurd rfl y⟩
        exact w_mixText T6 hc _ hp
      · rw [z] at hp ⊢
        rw [if_neg (by decide)] at hp
        refine ⟨rfl, fun y => absurd y (by decide), fun _ => ?_⟩
        exact w_mixText T6 hc _ hp
    · have e : i < 3 := Nat.lt_of_not_le fun q => h9 (nI_le (a := 3) q (by omega))
      refine w_setting i e ?_
      intro w hw
      exact ⟨3 - (i + 1), by omega, i + 1, by omega, rfl, by rw [hw, nI_1], rfl⟩
  · have e : i < 15 := by
      rcases Nat.lt_or_ge i 15 with z | z
      · exact z
      · exact absurd (nI_lt (a := 14) (by omega) (by omega)) h9
    refine w_count h1 i (by omega) ?_
    intro w hw
    exact ⟨15 - (i + 1), by omega, i + 1, by omega, rfl, by rw [hw, nI_1], rfl⟩
end
