/-! pure part: words about Int32, the class's State as functions on its row -/
theorem q_of {p M : Int32} (n : Nat) (hM : M = nI n) (hn : n < 2 ^ 31) (h1 : ¬ p < 0) (h2 : p < M) : ∃ k : Nat, k < n ∧ p = nI k := by
  obtain ⟨j, hj, rfl⟩ := nI_of h1
  subst hM
  exact ⟨j, (nI_ltI hj hn).mp h2, rfl⟩
theorem q_in {k N : Nat} (h : k < N) (hN : N < 2 ^ 31) : vp_in (nI k) N := vp_in_nI h hN
theorem q_ib (b s : Nat) : nI b * 6 + nI s = nI (b * 6 + s) := by
  rw [show (6 : Int32) = nI 6 from rfl, pk_mul, nI_add]
/-- a row with n places from k on filled -/
def fillF (r : Nat → Int32) (k n : Nat) (v : Int32) : Nat → Int32 := fun j => if k ≤ j ∧ j < k + n then v else r j
theorem fillF_0 (r : Nat → Int32) (k : Nat) (v : Int32) : fillF r k 0 v = r := by
  funext j; unfold fillF; rw [if_neg (by omega)]
theorem fillF_s (r : Nat → Int32) (k n : Nat) (v : Int32) : upd (fillF r k n v) (k + n) v = fillF r k (n + 1) v := by
  funext j; unfold fillF upd; dsimp only
  by_cases h : j = k + n
  · rw [if_pos h, if_pos (by omega)]
  · rw [if_neg h]
    by_cases h2 : k ≤ j ∧ j < k + n
    · rw [if_pos h2, if_pos (by omega)]
    · rw [if_neg h2, if_neg (by omega)]
def sumF (r : Nat → Int32) (k : Nat) : Nat → Int32
  | 0 => 0
  | n + 1 => sumF r k n + r (k + n)
/-- a row with n places from d on copied out of g from s on -/
def cpyF (f g : Nat → Int32) (d s n : Nat) : Nat → Int32 := fun j => if d ≤ j ∧ j < d + n then g (s + (j - d)) else f j
theorem cpyF_0 (f g : Nat → Int32) (d s : Nat) : cpyF f g d s 0 = f := by
  funext j; unfold cpyF; rw [if_neg (by omega)]
theorem cpyF_s (f g : Nat → Int32) (d s n : Nat) : upd (cpyF f g d s n) (d + n) (g (s + n)) = cpyF f g d s (n + 1) := by
  funext j; unfold cpyF upd; dsimp only
  by_cases h : j = d + n
  · subst h; rw [if_pos rfl, if_pos (by omega), show d + n - d = n by omega]
  · rw [if_neg h]
    by_cases h2 : d ≤ j ∧ j < d + n
    · rw [if_pos h2, if_pos (by omega)]
    · rw [if_neg h2, if_neg (by omega)]
theorem cpyF_in {f g : Nat → Int32} {d s n j : Nat} (h1 : d ≤ j) (h2 : j < d + n) : cpyF f g d s n j = g (s + (j - d)) := if_pos ⟨h1, h2⟩
theorem cpyF_out {f g : Nat → Int32} {d s n j : Nat} (h : j < d ∨ d + n ≤ j) : cpyF f g d s n j = f j := if_neg (by omega)
-- get, put, add
theorem w_get {σ : CS} {a b : Int32} (k n : Nat) (h1 : a = nI k) (h2 : b = nI n) (h : k + n < 174) {post : Int32 → Prop} (hp : post (c_row σ (k + n))) : wp_X2_get σ a b post := by
  subst h1; subst h2
  intro v hv
  rw [nI_add] at hv; subst hv
  refine ⟨fun h9 => absurd h9 (nI_pos (by omega)), fun _ => ⟨fun h9 => absurd h9 (nI_ge (b := 174) h (by decide)), fun _ => ⟨q_in h (by decide), ?_⟩⟩⟩
  rw [nI_clamp (by omega)]
  exact hp
theorem w_get_ {σ : CS} {a : Int32} (k : Nat) (h1 : a = nI k) (h : k < 174) {post : Int32 → Prop} (hp : post (c_row σ k)) : wp_X2_get_ σ a post := w_get k 0 h1 nI_0.symm h hp
theorem w_put {σ : CS} {a b v : Int32} (k n : Nat) (h1 : a = nI k) (h2 : b = nI n) (h : k + n < 174) {post : CS → Prop} (hp : post (cs_row σ (upd (c_row σ) (k + n) v))) : wp_X2_put σ a b v post := by
  subst h1; subst h2
  intro w hv
  rw [nI_add] at hv; subst hv
  refine ⟨fun h9 => absurd h9 (nI_pos (by omega)), fun _ => ⟨fun h9 => absurd h9 (nI_ge (b := 174) h (by decide)), fun _ => ⟨q_in h (by decide), ?_⟩⟩⟩
  intro σ2 h2
  rw [nI_clamp (by omega)] at h2
  rw [h2]
  exact hp
theorem w_add {σ : CS} {a b v : Int32} (k n : Nat) (h1 : a = nI k) (h2 : b = nI n) (h : k + n < 174) {post : CS → Prop} (hp : post (cs_row σ (upd (c_row σ) (k + n) (c_row σ (k + n) + v)))) : wp_X2_add σ a b v post := w_get k n h1 h2 h (w_put k n h1 h2 h hp)
theorem w_fill {σ : CS} {a b v : Int32} (k n : Nat) (h1 : a = nI k) (h2 : b = nI n) (h : k + n ≤ 174) {post : CS → Prop} (hp : post (cs_row σ (fillF (c_row σ) k n v))) : wp_X2_fill σ a b v post := by
  subst h1; subst h2
  refine ⟨fun m w s => ∃ i : Nat, i ≤ n ∧ m = n - i ∧ w = nI i ∧ s = cs_row σ (fillF (c_row σ) k i v), ⟨n, 0, Nat.zero_le _, rfl, rfl, ?_⟩, ?_⟩
  · rw [fillF_0]; rfl
  · rintro m w s ⟨i, hi, rfl, rfl, rfl⟩
    refine ⟨fun h9 => ?_, fun h9 => ?_⟩
    · have e : i = n := Nat.le_antisymm hi ((nI_leI (by omega) (by omega)).mp h9)
      subst e; exact hp
    · have e : i < n := Nat.lt_of_not_le fun q => h9 (nI_le q (by omega))
      refine w_put k i rfl rfl (by omega) ?_
      intro w hw
      refine ⟨n - (i + 1), by omega, i + 1, e, rfl, by rw [hw, nI_1], ?_⟩
      rw [← fillF_s]; rfl
theorem w_sum {σ : CS} {a b : Int32} (k n : Nat) (h1 : a = nI k) (h2 : b = nI n) (h : k + n ≤ 174) {post : Int32 → Prop} (hp : post (sumF (c_row σ) k n)) : wp_X2_sum σ a b post := by
  subst h1; subst h2
  refine ⟨fun m u w => ∃ i : Nat, i ≤ n ∧ m = n - i ∧ w = nI i ∧ u = sumF (c_row σ) k i, ⟨n, 0, Nat.zero_le _, rfl, rfl, rfl⟩, ?_⟩
  rintro m u w ⟨i, hi, rfl, rfl, rfl⟩
  refine ⟨fun h9 => ?_, fun h9 => ?_⟩
  · have e : i = n := Nat.le_antisymm hi ((nI_leI (by omega) (by omega)).mp h9)
    subst e; exact hp
  · have e : i < n := Nat.lt_of_not_le fun q => h9 (nI_le q (by omega))
    refine w_get k i rfl rfl (by omega) ?_
    intro u hu w hw
    exact ⟨n - (i + 1), by omega, i + 1, e, rfl, by rw [hw, nI_1], hu⟩
-- bids
theorem w_ofBid {σ : CS} {a : Int32} (k b s : Nat) (h1 : a = nI k) (h : k + (b * 6 + s) < 174) {post : Int32 → Prop} (hp : post (c_row σ (k + (b * 6 + s)))) : wp_X2_ofBid σ a (nI b) (nI s) post := w_get k (b * 6 + s) h1 (q_ib b s) h hp
/-- 1 for a bid, 0 for none -/
def hasB (r : Nat → Int32) (b s : Nat) : Int32 := if r (54 + (b * 6 + s)) = 0 then 0 else 1
theorem w_hasBid {σ : CS} (b s : Nat) (h : b < 6) (h2 : s < 6) {post : Int32 → Prop} (hp : post (hasB (c_row σ) b s)) : wp_X2_hasBid σ (nI b) (nI s) post := by
  refine w_ofBid 54 b s rfl (by omega) ?_
  unfold hasB at hp
  exact ⟨fun h9 => by rw [if_pos h9] at hp; exact hp, fun h9 => by rw [if_neg h9] at hp; exact hp⟩
theorem hasB_01 (r : Nat → Int32) (b s : Nat) : hasB r b s = 0 ∨ hasB r b s = 1 := by
  unfold hasB; by_cases h : r (54 + (b * 6 + s)) = 0
  · rw [if_pos h]; exact Or.inl rfl
  · rw [if_neg h]; exact Or.inr rfl
def sumG (f : Nat → Int32) : Nat → Int32
  | 0 => 0
  | n + 1 => sumG f n + f n
theorem w_bidsForSpot {σ : CS} (s : Nat) (h : s < 6) {post : Int32 → Prop} (hp : post (sumG (fun b => hasB (c_row σ) b s) 6)) : wp_X2_bidsForSpot σ (nI s) post := by
  refine ⟨fun m u w => ∃ i : Nat, i ≤ 6 ∧ m = 6 - i ∧ w = nI i ∧ u = sumG (fun b => hasB (c_row σ) b s) i, ⟨6, 0, Nat.zero_le _, rfl, rfl, rfl⟩, ?_⟩
  rintro m u w ⟨i, hi, rfl, rfl, rfl⟩
  refine ⟨fun h9 => ?_, fun h9 => ?_⟩
  · have e : i = 6 := Nat.le_antisymm hi ((nI_leI (a := 6) (by omega) (by omega)).mp h9)
    subst e; exact hp
  · have e : i < 6 := Nat.lt_of_not_le fun q => h9 (nI_le (a := 6) q (by omega))
    refine w_hasBid i s e h ?_
    refine ⟨fun h0 => ?_, fun h0 => ?_⟩
    · intro u hu w hw
      exact ⟨6 - (i + 1), by omega, i + 1, e, rfl, by rw [hw, nI_1], by rw [hu]; show _ = sumG _ i + hasB (c_row σ) i s; rw [h0]⟩
    · intro u hu w hw
      exact ⟨6 - (i + 1), by omega, i + 1, e, rfl, by rw [hw, nI_1], by rw [hu]; show _ = sumG _ i + hasB (c_row σ) i s; rw [(hasB_01 _ _ _).resolve_left h0]⟩
theorem w_bidsOfBidder {σ : CS} (b : Nat) (h : b < 6) {post : Int32 → Prop} (hp : post (sumG (fun s => hasB (c_row σ) b s) 6)) : wp_X2_bidsOfBidder σ (nI b) post := by
  refine ⟨fun m u w => ∃ i : Nat, i ≤ 6 ∧ m = 6 - i ∧ w = nI i ∧ u = sumG (fun s => hasB (c_row σ) b s) i, ⟨6, 0, Nat.zero_le _, rfl, rfl, rfl⟩, ?_⟩
  rintro m u w ⟨i, hi, rfl, rfl, rfl⟩
  refine ⟨fun h9 => ?_, fun h9 => ?_⟩
  · have e : i = 6 := Nat.le_antisymm hi ((nI_leI (a := 6) (by omega) (by omega)).mp h9)
    subst e; exact hp
  · have e : i < 6 := Nat.lt_of_not_le fun q => h9 (nI_le (a := 6) q (by omega))
    refine w_hasBid b i h e ?_
    refine ⟨fun h0 => ?_, fun h0 => ?_⟩
    · intro u hu w hw
      exact ⟨6 - (i + 1), by omega, i + 1, e, rfl, by rw [hw, nI_1], by rw [hu]; show _ = sumG _ i + hasB (c_row σ) b i; rw [h0]⟩
    · intro u hu w hw
      exact ⟨6 - (i + 1), by omega, i + 1, e, rfl, by rw [hw, nI_1], by rw [hu]; show _ = sumG _ i + hasB (c_row σ) b i; rw [(hasB_01 _ _ _).resolve_left h0]⟩
theorem w_bidsInAll {σ : CS} {post : Int32 → Prop} (hp : post (sumG (fun b => sumG (fun s => hasB (c_row σ) b s) 6) 6)) : wp_X2_bidsInAll σ post := by
  refine ⟨fun m u w => ∃ i : Nat, i ≤ 6 ∧ m = 6 - i ∧ w = nI i ∧ u = sumG (fun b => sumG (fun s => hasB (c_row σ) b s) 6) i, ⟨6, 0, Nat.zero_le _, rfl, rfl, rfl⟩, ?_⟩
  rintro m u w ⟨i, hi, rfl, rfl, rfl⟩
  refine ⟨fun h9 => ?_, fun h9 => ?_⟩
  · have e : i = 6 := Nat.le_antisymm hi ((nI_leI (a := 6) (by omega) (by omega)).mp h9)
    subst e; exact hp
  · have e : i < 6 := Nat.lt_of_not_le fun q => h9 (nI_le (a := 6) q (by omega))
    refine w_bidsOfBidder i e ?_
    intro u hu w hw
    exact ⟨6 - (i + 1), by omega, i + 1, e, rfl, by rw [hw, nI_1], hu⟩
theorem w_isOpened {σ : CS} {post : Int32 → Prop} (h0 : c_row σ 169 = 0 → post 0) (h1 : ¬ c_row σ 169 = 0 → post 1) : wp_X2_isOpened σ post := w_get_ 169 rfl (by decide) ⟨h0, h1⟩
/-- the least spot below n, from i on, that f gives to the value v; -1 if there is none -/
def findF (f : Nat → Int32) (v : Int32) : Nat → Nat → Int32
  | 0, _ => -1
  | n + 1, i => if f i = v then nI i else findF f v n (i + 1)
theorem w_spotOfOwner {σ : CS} (v : Int32) {post : Int32 → Prop} (hp : post (findF (fun k => c_row σ (12 + k)) v 6 0)) : wp_X2_spotOfOwner σ v post := by
  refine ⟨fun m w => ∃ i : Nat, i ≤ 6 ∧ m = 6 - i ∧ w = nI i ∧ findF (fun k => c_row σ (12 + k)) v 6 0 = findF (fun k => c_row σ (12 + k)) v (6 - i) i, ⟨6, 0, Nat.zero_le _, rfl, rfl, rfl⟩, ?_⟩
  rintro m w ⟨i, hi, rfl, rfl, hf⟩
  refine ⟨fun h9 => ?_, fun h9 => ?_⟩
  · have e : i = 6 := Nat.le_antisymm hi ((nI_leI (a := 6) (by omega) (by omega)).mp h9)
    subst e; rw [hf] at hp; exact hp
  · have e : i < 6 := Nat.lt_of_not_le fun q => h9 (nI_le (a := 6) q (by omega))
    rw [show 6 - i = (6 - (i + 1)) + 1 by omega] at hf
    refine w_get 12 i rfl rfl (by omega) ?_
    refine ⟨fun h0 => ?_, fun h0 => ?_⟩
    · intro w hw
      refine ⟨6 - (i + 1), by omega, i + 1, e, rfl, by rw [hw, nI_1], ?_⟩
      rw [hf, findF, if_neg h0]
    · rw [hf, findF, if_pos h0] at hp; exact hp
