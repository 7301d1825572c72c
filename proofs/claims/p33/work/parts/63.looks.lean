/-! pure part: the looks as one number; a number brought into a range -/
def lk1 (r : Nat → Int32) : Nat → Int64
  | 0 => 113
  | n + 1 => 31 * lk1 r n + (cntV r 0 n).toInt64
def lk2 (r : Nat → Int32) : Nat → Int64
  | 0 => lk1 r 14
  | n + 1 => (31 * ((31 * lk2 r n) + (spotV r (n / 6) (n % 6)).toInt64)) + (bidrV r (n / 6) (n % 6)).toInt64
def lk3 (r : Nat → Int32) : Nat → Int64
  | 0 => lk2 r 36
  | n + 1 => (31 * lk3 r n) + (sealedV r (n / 30) (n / 5 % 6) (n % 5)).toInt64
def looksV (r : Nat → Int32) : Int64 := ((lk3 r 180 + (r 162).toInt64) + (100 * (r 163).toInt64)) + (1000 * (r 164).toInt64)
theorem cntV_14 (r : Nat → Int32) (sv : Int32) {n : Nat} (h : n < 14) : cntV r sv n = cntV r 0 n := by
  rcases (show n = 0 ∨ n = 1 ∨ n = 2 ∨ n = 3 ∨ n = 4 ∨ n = 5 ∨ n = 6 ∨ n = 7 ∨ n = 8 ∨ n = 9 ∨ n = 10 ∨ n = 11 ∨ n = 12 ∨ n = 13 by omega) with rfl | rfl | rfl | rfl | rfl | rfl | rfl | rfl | rfl | rfl | rfl | rfl | rfl | rfl <;> rfl
theorem q_div {i : Nat} {d : Nat} (h0 : 0 < d) (hd : d < 1000) (hi : i < 1000) : nI i / nI d = nI (i / d) := pk_div (by omega) h0 (by omega)
theorem q_rem {i : Nat} {d : Nat} (h0 : 0 < d) (hd : d < 1000) (hi : i < 1000) : nI i - nI i / nI d * nI d = nI (i % d) := pk_rem (by omega) h0 (by omega)
theorem ix6 {i : Nat} (hi : i < 1000) : nI i / 6 = nI (i / 6) := q_div (d := 6) (by decide) (by decide) hi
theorem rx6 {i : Nat} (hi : i < 1000) : nI i - nI i / 6 * 6 = nI (i % 6) := q_rem (d := 6) (by decide) (by decide) hi
theorem ix5 {i : Nat} (hi : i < 1000) : nI i / 5 = nI (i / 5) := q_div (d := 5) (by decide) (by decide) hi
theorem rx5 {i : Nat} (hi : i < 1000) : nI i - nI i / 5 * 5 = nI (i % 5) := q_rem (d := 5) (by decide) (by decide) hi
theorem ix30 {i : Nat} (hi : i < 1000) : nI i / 30 = nI (i / 30) := q_div (d := 30) (by decide) (by decide) hi
theorem rx56 {i : Nat} (hi : i < 1000) : nI i / 5 - nI i / 5 / 6 * 6 = nI (i / 5 % 6) := by rw [ix5 hi]; exact rx6 (by omega)
theorem w_looks {m : Nat} {σ : CS} (h1 : O1 m (c_row σ)) {post : Int64 → Prop} (hp : post (looksV (c_row σ))) : wp_L_looks σ post := by
  refine ⟨fun n v w => ∃ i : Nat, i ≤ 14 ∧ n = 14 - i ∧ w = nI i ∧ v = lk1 (c_row σ) i, ⟨14, 0, Nat.zero_le _, rfl, rfl, rfl⟩, ?_⟩
  rintro n v w ⟨i, hi, rfl, rfl, rfl⟩
  refine ⟨fun h9 => ?_, fun h9 => ?_⟩
  · have e : i = 14 := Nat.le_antisymm hi ((nI_leI (a := 14) (by omega) (by omega)).mp h9)
    subst e
    refine ⟨fun n v w => ∃ i : Nat, i ≤ 36 ∧ n = 36 - i ∧ w = nI i ∧ v = lk2 (c_row σ) i, ⟨36, 0, Nat.zero_le _, rfl, rfl, rfl⟩, ?_⟩
    rintro n v w ⟨i, hi, rfl, rfl, rfl⟩
    refine ⟨fun h9 => ?_, fun h9 => ?_⟩
    · have e : i = 36 := Nat.le_antisymm hi ((nI_leI (a := 36) (by omega) (by omega)).mp h9)
      subst e
      refine ⟨fun n v w => ∃ i : Nat, i ≤ 180 ∧ n = 180 - i ∧ w = nI i ∧ v = lk3 (c_row σ) i, ⟨180, 0, Nat.zero_le _, rfl, rfl, rfl⟩, ?_⟩
      rintro n v w ⟨i, hi, rfl, rfl, rfl⟩
      refine ⟨fun h9 => ?_, fun h9 => ?_⟩
      · have e : i = 180 := Nat.le_antisymm hi ((nI_leI (a := 180) (by omega) (by omega)).mp h9)
        subst e
        refine w_setting 0 (by decide) ?_
        refine w_setting 1 (by decide) ?_
        refine w_setting 2 (by decide) ?_
        exact hp
      · have e : i < 180 := Nat.lt_of_not_le fun q => h9 (nI_le (a := 180) q (by omega))
        rw [rx56 (by omega), rx5 (by omega), ix30 (by omega)]
        refine w_sealed (i / 30) (i / 5 % 6) (i % 5) (by omega) (by omega) (by omega) ?_
        intro v1 hv1 w hw
        exact ⟨180 - (i + 1), by omega, i + 1, by omega, rfl, by rw [hw, nI_1], by rw [hv1]; rfl⟩
    · have e : i < 36 := Nat.lt_of_not_le fun q => h9 (nI_le (a := 36) q (by omega))
      rw [rx6 (by omega), ix6 (by omega)]
      refine w_spot (i / 6) (i % 6) (by omega) (by omega) ?_
      refine w_bidder (i / 6) (i % 6) (by omega) (by omega) ?_
      intro v1 hv1 w hw
      exact ⟨36 - (i + 1), by omega, i + 1, by omega, rfl, by rw [hw, nI_1], by rw [hv1]; rfl⟩
  · have e : i < 14 := Nat.lt_of_not_le fun q => h9 (nI_le (a := 14) q (by omega))
    refine w_count h1 i (by omega) ?_
    intro v1 hv1 w hw
    exact ⟨14 - (i + 1), by omega, i + 1, by omega, rfl, by rw [hw, nI_1], by rw [hv1, cntV_14 _ _ e]; rfl⟩
theorem up_ok (p : Int32) {n : Nat} (h0 : 0 < n) (hn : n < 2 ^ 31) : ∃ k, k < n ∧ (p &&& 2147483647) - (p &&& 2147483647) / nI n * nI n = nI k := by
  obtain ⟨j, hj, e⟩ := pk_andE p (m := 2147483647) 31 (by decide)
  rw [e, pk_rem hj h0 hn]
  exact ⟨j % n, Nat.mod_lt _ h0, rfl⟩
theorem w_up {p M : Int32} {n k : Nat} (hM : M = nI n) (h0 : 0 < n) (hn : n < 2 ^ 31) (h : (p &&& 2147483647) - (p &&& 2147483647) / nI n * nI n = nI k) {post : Int32 → Prop} (hp : post (nI k)) : wp_L_up p M post := by
  subst hM
  exact ⟨nI_ne0 h0 hn, by rw [h]; exact hp⟩
-- looks by their values
theorem w_spotE {σ : CS} {s k : Nat} {v : Int32} (hs : s < 6) (hk : k ≤ 5) (h : spotV (c_row σ) s k = v) {post : Int32 → Prop} {px : String → Prop} (hp : post v) : wp_X4_spot σ (nI s) (nI k) post px := w_spot s k hs hk (by rw [h]; exact hp)
theorem w_bidderE {σ : CS} {b k : Nat} {v : Int32} (hb : b < 6) (hk : k ≤ 5) (h : bidrV (c_row σ) b k = v) {post : Int32 → Prop} {px : String → Prop} (hp : post v) : wp_X4_bidder σ (nI b) (nI k) post px := w_bidder b k hb hk (by rw [h]; exact hp)
theorem w_sealedE {σ : CS} {b s k : Nat} {v : Int32} (hb : b < 6) (hs : s < 6) (hk : k ≤ 4) (h : sealedV (c_row σ) b s k = v) {post : Int32 → Prop} {px : String → Prop} (hp : post v) : wp_X4_sealed σ (nI b) (nI s) (nI k) post px := w_sealed b s k hb hs hk (by rw [h]; exact hp)
theorem w_countE {m : Nat} {σ : CS} (h1 : O1 m (c_row σ)) {k : Nat} {v : Int32} (hk : k ≤ 14) (h : cntV (c_row σ) (c_saved σ) k = v) {post : Int32 → Prop} {px : String → Prop} (hp : post v) : wp_X4_count σ (nI k) post px := w_count h1 k hk (by rw [h]; exact hp)
