/-! pure part: what the looks tell, on both sides (written by wip/gen/looks.py) -/
def spotV (r : Nat → Int32) (s : Nat) : Nat → Int32
  | 0 => r s
  | 1 => r (6 + s)
  | 2 => r (12 + s)
  | 3 => r (18 + s)
  | 4 => sumG (fun b => hasB r b s) 6
  | _ => r (24 + s)
def bidrV (r : Nat → Int32) (b : Nat) : Nat → Int32
  | 0 => r (30 + b)
  | 1 => r (36 + b)
  | 2 => sumG (fun s => hasB r b s) 6
  | 3 => findF (fun k => r (12 + k)) (nI b) 6 0
  | 4 => r (42 + b)
  | _ => r (48 + b)
def sealedV (r : Nat → Int32) (b s : Nat) : Nat → Int32
  | 0 => if r (54 + (b * 6 + s)) = 0 then -1 else r (90 + (b * 6 + s))
  | 1 => if r (54 + (b * 6 + s)) = 0 then -1 else r (126 + (b * 6 + s))
  | 2 => if r (54 + (b * 6 + s)) = 0 then -1 else if r 169 = 0 then -1 else r (54 + (b * 6 + s))
  | 3 => if r (54 + (b * 6 + s)) = 0 then -1 else rFee r b s
  | _ => rWhyW r b s
def cntV (r : Nat → Int32) (sv : Int32) : Nat → Int32
  | 0 => r 167
  | 1 => r 168
  | 2 => r 169
  | 3 => sumG (fun b => sumG (fun s => hasB r b s) 6) 6
  | 4 => r 165
  | 5 => sumF r 30 6
  | 6 => r 166
  | 7 => sumF r 48 6
  | 8 => sumF r 42 6
  | 9 => r 173
  | 10 => sumF r 6 6
  | 11 => sumF r 36 6
  | 12 => r 171
  | 13 => r 172
  | _ => sv
theorem num_or (p : Int32) (n : Nat) (hn : n < 2147483647) : (p < 0 ∨ ¬ p ≤ nI n) ∨ ∃ k, k ≤ n ∧ p = nI k := by
  by_cases h : p < 0
  · exact Or.inl (Or.inl h)
  · by_cases h2 : p ≤ nI n
    · obtain ⟨k, hk, rfl⟩ := nI_of h
      exact Or.inr ⟨k, (nI_leI (by omega) (by omega)).mp h2, rfl⟩
    · exact Or.inl (Or.inr h2)

theorem w_spot {σ : CS} (s k : Nat) (hs : s < 6) (hk : k ≤ 5) {post : Int32 → Prop} {px : String → Prop} (hp : post (spotV (c_row σ) s k)) : wp_X4_spot σ (nI s) (nI k) post px := by
  refine cP_N rfl hs (by decide) ?_
  intro w hw
  subst hw
  rcases (show k = 0 ∨ k = 1 ∨ k = 2 ∨ k = 3 ∨ k = 4 ∨ k = 5 from by omega) with rfl | rfl | rfl | rfl | rfl | rfl
  · refine ⟨fun _ => ?_, fun h => absurd rfl h⟩
    exact w_get 0 s rfl rfl (by omega) (by rw [Nat.zero_add]; exact hp)
  · refine ⟨fun h => absurd h (by decide), fun _ => ?_⟩
    refine ⟨fun _ => ?_, fun h => absurd rfl h⟩
    exact w_get 6 s rfl rfl (by omega) hp
  · refine ⟨fun h => absurd h (by decide), fun _ => ?_⟩
    refine ⟨fun h => absurd h (by decide), fun _ => ?_⟩
    refine ⟨fun _ => ?_, fun h => absurd rfl h⟩
    exact w_get 12 s rfl rfl (by omega) hp
  · refine ⟨fun h => absurd h (by decide), fun _ => ?_⟩
    refine ⟨fun h => absurd h (by decide), fun _ => ?_⟩
    refine ⟨fun h => absurd h (by decide), fun _ => ?_⟩
    refine ⟨fun _ => ?_, fun h => absurd rfl h⟩
    exact w_get 18 s rfl rfl (by omega) hp
  · refine ⟨fun h => absurd h (by decide), fun _ => ?_⟩
    refine ⟨fun h => absurd h (by decide), fun _ => ?_⟩
    refine ⟨fun h => absurd h (by decide), fun _ => ?_⟩
    refine ⟨fun h => absurd h (by decide), fun _ => ?_⟩
    refine ⟨fun _ => ?_, fun h => absurd rfl h⟩
    exact w_bidsForSpot s hs hp
  · refine ⟨fun h => absurd h (by decide), fun _ => ?_⟩
    refine ⟨fun h => absurd h (by decide), fun _ => ?_⟩
    refine ⟨fun h => absurd h (by decide), fun _ => ?_⟩
    refine ⟨fun h => absurd h (by decide), fun _ => ?_⟩
    refine ⟨fun h => absurd h (by decide), fun _ => ?_⟩
    refine ⟨fun _ => ?_, fun h => absurd rfl h⟩
    exact w_get 24 s rfl rfl (by omega) hp
theorem w_spotBad {σ : CS} (s : Nat) (p : Int32) (hs : s < 6) (h : p < 0 ∨ ¬ p ≤ 5) {post : Int32 → Prop} {px : String → Prop} (hp : px "java/lang/IllegalArgumentException") : wp_X4_spot σ (nI s) p post px := by
  refine cP_N rfl hs (by decide) ?_
  intro w hw
  subst hw
  refine ⟨fun q => by subst q; exact absurd h (by decide), fun _ => ?_⟩
  refine ⟨fun q => by subst q; exact absurd h (by decide), fun _ => ?_⟩
  refine ⟨fun q => by subst q; exact absurd h (by decide), fun _ => ?_⟩
  refine ⟨fun q => by subst q; exact absurd h (by decide), fun _ => ?_⟩
  refine ⟨fun q => by subst q; exact absurd h (by decide), fun _ => ?_⟩
  refine ⟨fun q => by subst q; exact absurd h (by decide), fun _ => ?_⟩
  exact hp
theorem w_bidder {σ : CS} (b k : Nat) (hb : b < 6) (hk : k ≤ 5) {post : Int32 → Prop} {px : String → Prop} (hp : post (bidrV (c_row σ) b k)) : wp_X4_bidder σ (nI b) (nI k) post px := by
  refine cP_N rfl hb (by decide) ?_
  intro w hw
  subst hw
  rcases (show k = 0 ∨ k = 1 ∨ k = 2 ∨ k = 3 ∨ k = 4 ∨ k = 5 from by omega) with rfl | rfl | rfl | rfl | rfl | rfl
  · refine ⟨fun _ => ?_, fun h => absurd rfl h⟩
    exact w_get 30 b rfl rfl (by omega) hp
  · refine ⟨fun h => absurd h (by decide), fun _ => ?_⟩
    refine ⟨fun _ => ?_, fun h => absurd rfl h⟩
    exact w_get 36 b rfl rfl (by omega) hp
  · refine ⟨fun h => absurd h (by decide), fun _ => ?_⟩
    refine ⟨fun h => absurd h (by decide), fun _ => ?_⟩
    refine ⟨fun _ => ?_, fun h => absurd rfl h⟩
    exact w_bidsOfBidder b hb hp
  · refine ⟨fun h => absurd h (by decide), fun _ => ?_⟩
    refine ⟨fun h => absurd h (by decide), fun _ => ?_⟩
    refine ⟨fun h => absurd h (by decide), fun _ => ?_⟩
    refine ⟨fun _ => ?_, fun h => absurd rfl h⟩
    exact w_spotOfOwner (nI b) hp
  · refine ⟨fun h => absurd h (by decide), fun _ => ?_⟩
    refine ⟨fun h => absurd h (by decide), fun _ => ?_⟩
    refine ⟨fun h => absurd h (by decide), fun _ => ?_⟩
    refine ⟨fun h => absurd h (by decide), fun _ => ?_⟩
    refine ⟨fun _ => ?_, fun h => absurd rfl h⟩
    exact w_get 42 b rfl rfl (by omega) hp
  · refine ⟨fun h => absurd h (by decide), fun _ => ?_⟩
    refine ⟨fun h => absurd h (by decide), fun _ => ?_⟩
    refine ⟨fun h => absurd h (by decide), fun _ => ?_⟩
    refine ⟨fun h => absurd h (by decide), fun _ => ?_⟩
    refine ⟨fun h => absurd h (by decide), fun _ => ?_⟩
    refine ⟨fun _ => ?_, fun h => absurd rfl h⟩
    exact w_get 48 b rfl rfl (by omega) hp
theorem w_bidderBad {σ : CS} (b : Nat) (p : Int32) (hb : b < 6) (h : p < 0 ∨ ¬ p ≤ 5) {post : Int32 → Prop} {px : String → Prop} (hp : px "java/lang/IllegalArgumentException") : wp_X4_bidder σ (nI b) p post px := by
  refine cP_N rfl hb (by decide) ?_
  intro w hw
  subst hw
  refine ⟨fun q => by subst q; exact absurd h (by decide), fun _ => ?_⟩
  refine ⟨fun q => by subst q; exact absurd h (by decide), fun _ => ?_⟩
  refine ⟨fun q => by subst q; exact absurd h (by decide), fun _ => ?_⟩
  refine ⟨fun q => by subst q; exact absurd h (by decide), fun _ => ?_⟩
  refine ⟨fun q => by subst q; exact absurd h (by decide), fun _ => ?_⟩
  refine ⟨fun q => by subst q; exact absurd h (by decide), fun _ => ?_⟩
  exact hp
theorem w_sealed {σ : CS} (b s k : Nat) (hb : b < 6) (hs : s < 6) (hk : k ≤ 4) {post : Int32 → Prop} {px : String → Prop} (hp : post (sealedV (c_row σ) b s k)) : wp_X4_sealed σ (nI b) (nI s) (nI k) post px := by
  refine cP_N rfl hb (by decide) ?_
  refine cP_N rfl hs (by decide) ?_
  refine cR_ok (nI_pos (by omega)) (nI_le (b := 4) (by omega) (by decide)) ?_
  rcases (show k = 0 ∨ k = 1 ∨ k = 2 ∨ k = 3 ∨ k = 4 from by omega) with rfl | rfl | rfl | rfl | rfl
  · refine ⟨fun _ => ?_, fun h => absurd h (by decide)⟩
    refine w_hasBid b s hb hs ?_
    unfold hasB
    have hp : post (if c_row σ (54 + (b * 6 + s)) = 0 then -1 else c_row σ (90 + (b * 6 + s))) := hp
    by_cases h0 : c_row σ (54 + (b * 6 + s)) = 0
    · rw [if_pos h0] at hp ⊢
      exact ⟨fun _ => hp, fun h => absurd rfl h⟩
    · rw [if_neg h0] at hp ⊢
      refine ⟨fun h => absurd h (by decide), fun _ => ?_⟩
      intro w hw
      subst hw
      refine ⟨fun _ => ?_, fun h => absurd rfl h⟩
      exact w_ofBid 90 b s rfl (by omega) hp
  · refine ⟨fun _ => ?_, fun h => absurd h (by decide)⟩
    refine w_hasBid b s hb hs ?_
    unfold hasB
    have hp : post (if c_row σ (54 + (b * 6 + s)) = 0 then -1 else c_row σ (126 + (b * 6 + s))) := hp
    by_cases h0 : c_row σ (54 + (b * 6 + s)) = 0
    · rw [if_pos h0] at hp ⊢
      exact ⟨fun _ => hp, fun h => absurd rfl h⟩
    · rw [if_neg h0] at hp ⊢
      refine ⟨fun h => absurd h (by decide), fun _ => ?_⟩
      intro w hw
      subst hw
      refine ⟨fun h => absurd h (by decide), fun _ => ?_⟩
      refine ⟨fun _ => ?_, fun h => absurd rfl h⟩
      exact w_ofBid 126 b s rfl (by omega) hp
  · refine ⟨fun _ => ?_, fun h => absurd h (by decide)⟩
    refine w_hasBid b s hb hs ?_
    unfold hasB
    have hp : post (if c_row σ (54 + (b * 6 + s)) = 0 then -1 else if c_row σ 169 = 0 then -1 else c_row σ (54 + (b * 6 + s))) := hp
    by_cases h0 : c_row σ (54 + (b * 6 + s)) = 0
    · rw [if_pos h0] at hp ⊢
      exact ⟨fun _ => hp, fun h => absurd rfl h⟩
    · rw [if_neg h0] at hp ⊢
      refine ⟨fun h => absurd h (by decide), fun _ => ?_⟩
      intro w hw
      subst hw
      refine ⟨fun h => absurd h (by decide), fun _ => ?_⟩
      refine ⟨fun h => absurd h (by decide), fun _ => ?_⟩
      refine ⟨fun _ => ?_, fun h => absurd rfl h⟩
      refine w_isOpened (fun h9 => ⟨fun _ => ?_, fun h => absurd rfl h⟩) (fun h9 => ⟨fun h => absurd h (by decide), fun _ => ?_⟩)
      · rw [if_pos h9] at hp; exact hp
      · rw [if_neg h9] at hp; exact w_ofBid 54 b s rfl (by omega) hp
  · refine ⟨fun _ => ?_, fun h => absurd h (by decide)⟩
    refine w_hasBid b s hb hs ?_
    unfold hasB
    have hp : post (if c_row σ (54 + (b * 6 + s)) = 0 then -1 else rFee (c_row σ) b s) := hp
    by_cases h0 : c_row σ (54 + (b * 6 + s)) = 0
    · rw [if_pos h0] at hp ⊢
      exact ⟨fun _ => hp, fun h => absurd rfl h⟩
    · rw [if_neg h0] at hp ⊢
      refine ⟨fun h => absurd h (by decide), fun _ => ?_⟩
      intro w hw
      subst hw
      refine ⟨fun h => absurd h (by decide), fun _ => ?_⟩
      refine ⟨fun h => absurd h (by decide), fun _ => ?_⟩
      refine ⟨fun h => absurd h (by decide), fun _ => ?_⟩
      exact w_feeFor b s hb hs hp
  · exact ⟨fun h => absurd rfl h, fun _ => w_whyNotWithdrawn b s hb hs hp⟩
theorem w_count {m : Nat} {σ : CS} (h1 : O1 m (c_row σ)) (k : Nat) (hk : k ≤ 14) {post : Int32 → Prop} {px : String → Prop} (hp : post (cntV (c_row σ) (c_saved σ) k)) : wp_X4_count σ (nI k) post px := by
  intro w hw
  subst hw
  rcases (show k = 0 ∨ k = 1 ∨ k = 2 ∨ k = 3 ∨ k = 4 ∨ k = 5 ∨ k = 6 ∨ k = 7 ∨ k = 8 ∨ k = 9 ∨ k = 10 ∨ k = 11 ∨ k = 12 ∨ k = 13 ∨ k = 14 from by omega) with rfl | rfl | rfl | rfl | rfl | rfl | rfl | rfl | rfl | rfl | rfl | rfl | rfl | rfl | rfl
  · refine ⟨fun _ => ?_, fun h => absurd rfl h⟩
    exact w_get_ 167 rfl (by decide) hp
  · refine ⟨fun h => absurd h (by decide), fun _ => ?_⟩
    refine ⟨fun _ => ?_, fun h => absurd rfl h⟩
    exact w_get_ 168 rfl (by decide) hp
  · refine ⟨fun h => absurd h (by decide), fun _ => ?_⟩
    refine ⟨fun h => absurd h (by decide), fun _ => ?_⟩
    refine ⟨fun _ => ?_, fun h => absurd rfl h⟩
    have hp : post (c_row σ 169) := hp
    refine w_isOpened (fun h9 => ⟨fun _ => ?_, fun h => absurd rfl h⟩) (fun h9 => ⟨fun h => absurd h (by decide), fun _ => ?_⟩)
    · rw [h9] at hp; exact hp
    · rw [h1.open01.resolve_left h9] at hp; exact hp
  · refine ⟨fun h => absurd h (by decide), fun _ => ?_⟩
    refine ⟨fun h => absurd h (by decide), fun _ => ?_⟩
    refine ⟨fun h => absurd h (by decide), fun _ => ?_⟩
    refine ⟨fun _ => ?_, fun h => absurd rfl h⟩
    exact w_bidsInAll hp
  · refine ⟨fun h => absurd h (by decide), fun _ => ?_⟩
    refine ⟨fun h => absurd h (by decide), fun _ => ?_⟩
    refine ⟨fun h => absurd h (by decide), fun _ => ?_⟩
    refine ⟨fun h => absurd h (by decide), fun _ => ?_⟩
    refine ⟨fun _ => ?_, fun h => absurd rfl h⟩
    exact w_get_ 165 rfl (by decide) hp
  · refine ⟨fun h => absurd h (by decide), fun _ => ?_⟩
    refine ⟨fun h => absurd h (by decide), fun _ => ?_⟩
    refine ⟨fun h => absurd h (by decide), fun _ => ?_⟩
    refine ⟨fun h => absurd h (by decide), fun _ => ?_⟩
    refine ⟨fun h => absurd h (by decide), fun _ => ?_⟩
    refine ⟨fun _ => ?_, fun h => absurd rfl h⟩
    exact w_sum 30 6 rfl rfl (by decide) hp
  · refine ⟨fun h => absurd h (by decide), fun _ => ?_⟩
    refine ⟨fun h => absurd h (by decide), fun _ => ?_⟩
    refine ⟨fun h => absurd h (by decide), fun _ => ?_⟩
    refine ⟨fun h => absurd h (by decide), fun _ => ?_⟩
    refine ⟨fun h => absurd h (by decide), fun _ => ?_⟩
    refine ⟨fun h => absurd h (by decide), fun _ => ?_⟩
    refine ⟨fun _ => ?_, fun h => absurd rfl h⟩
    exact w_get_ 166 rfl (by decide) hp
  · refine ⟨fun h => absurd h (by decide), fun _ => ?_⟩
    refine ⟨fun h => absurd h (by decide), fun _ => ?_⟩
    refine ⟨fun h => absurd h (by decide), fun _ => ?_⟩
    refine ⟨fun h => absurd h (by decide), fun _ => ?_⟩
    refine ⟨fun h => absurd h (by decide), fun _ => ?_⟩
    refine ⟨fun h => absurd h (by decide), fun _ => ?_⟩
    refine ⟨fun h => absurd h (by decide), fun _ => ?_⟩
    refine ⟨fun _ => ?_, fun h => absurd rfl h⟩
    exact w_sum 48 6 rfl rfl (by decide) hp
  · refine ⟨fun h => absurd h (by decide), fun _ => ?_⟩
    refine ⟨fun h => absurd h (by decide), fun _ => ?_⟩
    refine ⟨fun h => absurd h (by decide), fun _ => ?_⟩
    refine ⟨fun h => absurd h (by decide), fun _ => ?_⟩
    refine ⟨fun h => absurd h (by decide), fun _ => ?_⟩
    refine ⟨fun h => absurd h (by decide), fun _ => ?_⟩
    refine ⟨fun h => absurd h (by decide), fun _ => ?_⟩
    refine ⟨fun h => absurd h (by decide), fun _ => ?_⟩
    refine ⟨fun _ => ?_, fun h => absurd rfl h⟩
    exact w_sum 42 6 rfl rfl (by decide) hp
  · refine ⟨fun h => absurd h (by decide), fun _ => ?_⟩
    refine ⟨fun h => absurd h (by decide), fun _ => ?_⟩
    refine ⟨fun h => absurd h (by decide), fun _ => ?_⟩
    refine ⟨fun h => absurd h (by decide), fun _ => ?_⟩
    refine ⟨fun h => absurd h (by decide), fun _ => ?_⟩
    refine ⟨fun h => absurd h (by decide), fun _ => ?_⟩
    refine ⟨fun h => absurd h (by decide), fun _ => ?_⟩
    refine ⟨fun h => absurd h (by decide), fun _ => ?_⟩
    refine ⟨fun h => absurd h (by decide), fun _ => ?_⟩
    refine ⟨fun _ => ?_, fun h => absurd rfl h⟩
    exact w_get_ 173 rfl (by decide) hp
  · refine ⟨fun h => absurd h (by decide), fun _ => ?_⟩
    refine ⟨fun h => absurd h (by decide), fun _ => ?_⟩
    refine ⟨fun h => absurd h (by decide), fun _ => ?_⟩
    refine ⟨fun h => absurd h (by decide), fun _ => ?_⟩
    refine ⟨fun h => absurd h (by decide), fun _ => ?_⟩
    refine ⟨fun h => absurd h (by decide), fun _ => ?_⟩
    refine ⟨fun h => absurd h (by decide), fun _ => ?_⟩
    refine ⟨fun h => absurd h (by decide), fun _ => ?_⟩
    refine ⟨fun h => absurd h (by decide), fun _ => ?_⟩
    refine ⟨fun h => absurd h (by decide), fun _ => ?_⟩
    refine ⟨fun _ => ?_, fun h => absurd rfl h⟩
    exact w_sum 6 6 rfl rfl (by decide) hp
  · refine ⟨fun h => absurd h (by decide), fun _ => ?_⟩
    refine ⟨fun h => absurd h (by decide), fun _ => ?_⟩
    refine ⟨fun h => absurd h (by decide), fun _ => ?_⟩
    refine ⟨fun h => absurd h (by decide), fun _ => ?_⟩
    refine ⟨fun h => absurd h (by decide), fun _ => ?_⟩
    refine ⟨fun h => absurd h (by decide), fun _ => ?_⟩
    refine ⟨fun h => absurd h (by decide), fun _ => ?_⟩
    refine ⟨fun h => absurd h (by decide), fun _ => ?_⟩
    refine ⟨fun h => absurd h (by decide), fun _ => ?_⟩
    refine ⟨fun h => absurd h (by decide), fun _ => ?_⟩
    refine ⟨fun h => absurd h (by decide), fun _ => ?_⟩
    refine ⟨fun _ => ?_, fun h => absurd rfl h⟩
    exact w_sum 36 6 rfl rfl (by decide) hp
  · refine ⟨fun h => absurd h (by decide), fun _ => ?_⟩
    refine ⟨fun h => absurd h (by decide), fun _ => ?_⟩
    refine ⟨fun h => absurd h (by decide), fun _ => ?_⟩
    refine ⟨fun h => absurd h (by decide), fun _ => ?_⟩
    refine ⟨fun h => absurd h (by decide), fun _ => ?_⟩
    refine ⟨fun h => absurd h (by decide), fun _ => ?_⟩
    refine ⟨fun h => absurd h (by decide), fun _ => ?_⟩
    refine ⟨fun h => absurd h (by decide), fun _ => ?_⟩
    refine ⟨fun h => absurd h (by decide), fun _ => ?_⟩
    refine ⟨fun h => absurd h (by decide), fun _ => ?_⟩
    refine ⟨fun h => absurd h (by decide), fun _ => ?_⟩
    refine ⟨fun h => absurd h (by decide), fun _ => ?_⟩
    refine ⟨fun _ => ?_, fun h => absurd rfl h⟩
    exact w_get_ 171 rfl (by decide) hp
  · refine ⟨fun h => absurd h (by decide), fun _ => ?_⟩
    refine ⟨fun h => absurd h (by decide), fun _ => ?_⟩
    refine ⟨fun h => absurd h (by decide), fun _ => ?_⟩
    refine ⟨fun h => absurd h (by decide), fun _ => ?_⟩
    refine ⟨fun h => absurd h (by decide), fun _ => ?_⟩
    refine ⟨fun h => absurd h (by decide), fun _ => ?_⟩
    refine ⟨fun h => absurd h (by decide), fun _ => ?_⟩
    refine ⟨fun h => absurd h (by decide), fun _ => ?_⟩
    refine ⟨fun h => absurd h (by decide), fun _ => ?_⟩
    refine ⟨fun h => absurd h (by decide), fun _ => ?_⟩
    refine ⟨fun h => absurd h (by decide), fun _ => ?_⟩
    refine ⟨fun h => absurd h (by decide), fun _ => ?_⟩
    refine ⟨fun h => absurd h (by decide), fun _ => ?_⟩
    refine ⟨fun _ => ?_, fun h => absurd rfl h⟩
    exact w_get_ 172 rfl (by decide) hp
  · refine ⟨fun h => absurd h (by decide), fun _ => ?_⟩
    refine ⟨fun h => absurd h (by decide), fun _ => ?_⟩
    refine ⟨fun h => absurd h (by decide), fun _ => ?_⟩
    refine ⟨fun h => absurd h (by decide), fun _ => ?_⟩
    refine ⟨fun h => absurd h (by decide), fun _ => ?_⟩
    refine ⟨fun h => absurd h (by decide), fun _ => ?_⟩
    refine ⟨fun h => absurd h (by decide), fun _ => ?_⟩
    refine ⟨fun h => absurd h (by decide), fun _ => ?_⟩
    refine ⟨fun h => absurd h (by decide), fun _ => ?_⟩
    refine ⟨fun h => absurd h (by decide), fun _ => ?_⟩
    refine ⟨fun h => absurd h (by decide), fun _ => ?_⟩
    refine ⟨fun h => absurd h (by decide), fun _ => ?_⟩
    refine ⟨fun h => absurd h (by decide), fun _ => ?_⟩
    refine ⟨fun h => absurd h (by decide), fun _ => ?_⟩
    refine ⟨fun _ => ?_, fun h => absurd rfl h⟩
    exact hp
theorem w_countBad {σ : CS} (p : Int32) (h : p < 0 ∨ ¬ p ≤ 14) {post : Int32 → Prop} {px : String → Prop} (hp : px "java/lang/IllegalArgumentException") : wp_X4_count σ p post px := by
  intro w hw
  subst hw
  refine ⟨fun q => by subst q; exact absurd h (by decide), fun _ => ?_⟩
  refine ⟨fun q => by subst q; exact absurd h (by decide), fun _ => ?_⟩
  refine ⟨fun q => by subst q; exact absurd h (by decide), fun _ => ?_⟩
  refine ⟨fun q => by subst q; exact absurd h (by decide), fun _ => ?_⟩
  refine ⟨fun q => by subst q; exact absurd h (by decide), fun _ => ?_⟩
  refine ⟨fun q => by subst q; exact absurd h (by decide), fun _ => ?_⟩
  refine ⟨fun q => by subst q; exact absurd h (by decide), fun _ => ?_⟩
  refine ⟨fun q => by subst q; exact absurd h (by decide), fun _ => ?_⟩
  refine ⟨fun q => by subst q; exact absurd h (by decide), fun _ => ?_⟩
  refine ⟨fun q => by subst q; exact absurd h (by decide), fun _ => ?_⟩
  refine ⟨fun q => by subst q; exact absurd h (by decide), fun _ => ?_⟩
  refine ⟨fun q => by subst q; exact absurd h (by decide), fun _ => ?_⟩
  refine ⟨fun q => by subst q; exact absurd h (by decide), fun _ => ?_⟩
  refine ⟨fun q => by subst q; exact absurd h (by decide), fun _ => ?_⟩
  refine ⟨fun q => by subst q; exact absurd h (by decide), fun _ => ?_⟩
  exact hp
theorem w_setting {σ : CS} (k : Nat) (hk : k < 3) {post : Int32 → Prop} {px : String → Prop} (hp : post (c_row σ (162 + k))) : wp_X4_setting σ (nI k) post px := by
  refine cP_N (n := 3) rfl hk (by decide) ?_
  exact w_get 162 k rfl rfl (by omega) hp
-- the reference
theorem findF_congr {f g : Nat → Int32} {v : Int32} : ∀ n i, (∀ k, i ≤ k → k < i + n → f k = g k) → findF f v n i = findF g v n i
  | 0, _, _ => rfl
  | n + 1, i, h => by
    unfold findF
    rw [h i (Nat.le_refl _) (by omega), findF_congr n (i + 1) (fun k a b => h k (by omega) (by omega))]
