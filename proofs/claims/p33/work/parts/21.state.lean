/-! pure part: the class's State, its deeds as functions on the row -/
def rWhyN (r : Nat → Int32) (b s : Nat) (x : Int32) : Int32 := if r 169 = 0 then (if r (54 + (b * 6 + s)) = 0 then (if r s ≤ x then (if x ≤ r (30 + b) then 0 else 4) else 3) else 2) else 1
theorem w_whyNotSealed {σ : CS} (b s : Nat) (x : Int32) (h : b < 6) (h2 : s < 6) {post : Int32 → Prop} (hp : post (rWhyN (c_row σ) b s x)) : wp_X2_whyNotSealed σ (nI b) (nI s) x post := by
  unfold rWhyN at hp
  refine w_isOpened (fun h0 => ⟨fun _ => ?_, fun h9 => absurd rfl h9⟩) (fun h0 => ⟨fun h9 => absurd h9 (by decide), fun _ => ?_⟩)
  · rw [if_pos h0] at hp
    refine w_hasBid b s h h2 ?_
    unfold hasB
    by_cases h3 : c_row σ (54 + (b * 6 + s)) = 0
    · rw [if_pos h3] at hp ⊢
      refine ⟨fun _ => ?_, fun h9 => absurd rfl h9⟩
      refine w_get 0 s rfl rfl (by omega) ?_
      rw [Nat.zero_add]
      refine ⟨fun h4 => ?_, fun h4 => ?_⟩
      · rw [if_pos h4] at hp
        refine w_get 30 b rfl rfl (by omega) ?_
        exact ⟨fun h5 => by rw [if_pos h5] at hp; exact hp, fun h5 => by rw [if_neg h5] at hp; exact hp⟩
      · rw [if_neg h4] at hp; exact hp
    · rw [if_neg h3] at hp ⊢
      exact ⟨fun h9 => absurd h9 (by decide), fun _ => hp⟩
  · rw [if_neg h0] at hp; exact hp
def sealV (r : Nat → Int32) (b s : Nat) (x : Int32) : Int32 := (((73 * x + 41 * r 170) + 6 * nI b) + nI s) - (((73 * x + 41 * r 170) + 6 * nI b) + nI s) / 4096 * 4096
def rSeal (r : Nat → Int32) (b s : Nat) (x : Int32) : Nat → Int32 := upd (upd (upd (upd (upd r (54 + (b * 6 + s)) x) (90 + (b * 6 + s)) (sealV r b s x)) (126 + (b * 6 + s)) (r 168)) 170 (r 170 + 1)) 171 (r 171 + 1)
theorem w_sealBid {σ : CS} (b s : Nat) (x : Int32) (h : b < 6) (h2 : s < 6) {post : Int32 → CS → Prop} (hp : post (sealV (c_row σ) b s x) (cs_row σ (rSeal (c_row σ) b s x))) : wp_X2_sealBid σ (nI b) (nI s) x post := by
  unfold wp_X2_sealBid wp_X2_placeOfBid
  refine w_get_ 170 rfl (by decide) ?_
  intro v hv
  refine w_put 54 (b * 6 + s) rfl (q_ib b s) (by omega) ?_
  refine w_put 90 (b * 6 + s) rfl (q_ib b s) (by omega) ?_
  refine w_get_ 168 rfl (by decide) ?_
  refine w_put 126 (b * 6 + s) rfl (q_ib b s) (by omega) ?_
  refine w_add 170 0 rfl rfl (by decide) ?_
  refine w_add 171 0 rfl rfl (by decide) ?_
  have hv : v = sealV (c_row σ) b s x := hv
  subst hv
  refine cast ?_ hp
  congr 1
  show cs_row σ _ = cs_row σ _
  congr 1
  show rSeal (c_row σ) b s x = (upd (upd (upd (upd (upd (c_row σ) (54 + (b * 6 + s)) x) (90 + (b * 6 + s)) (sealV (c_row σ) b s x)) (126 + (b * 6 + s)) ((upd (upd (c_row σ) (54 + (b * 6 + s)) x) (90 + (b * 6 + s)) (sealV (c_row σ) b s x)) 168)) 170 ((upd (upd (upd (c_row σ) (54 + (b * 6 + s)) x) (90 + (b * 6 + s)) (sealV (c_row σ) b s x)) (126 + (b * 6 + s)) ((upd (upd (c_row σ) (54 + (b * 6 + s)) x) (90 + (b * 6 + s)) (sealV (c_row σ) b s x)) 168)) 170 + 1)) 171 ((upd (upd (upd (upd (c_row σ) (54 + (b * 6 + s)) x) (90 + (b * 6 + s)) (sealV (c_row σ) b s x)) (126 + (b * 6 + s)) ((upd (upd (c_row σ) (54 + (b * 6 + s)) x) (90 + (b * 6 + s)) (sealV (c_row σ) b s x)) 168)) 170 ((upd (upd (upd (c_row σ) (54 + (b * 6 + s)) x) (90 + (b * 6 + s)) (sealV (c_row σ) b s x)) (126 + (b * 6 + s)) ((upd (upd (c_row σ) (54 + (b * 6 + s)) x) (90 + (b * 6 + s)) (sealV (c_row σ) b s x)) 168)) 170 + 1)) 171 + 1))
  rw [pk_un (show 171 ≠ 170 by omega), pk_un (show 171 ≠ (126 + (b * 6 + s)) by omega), pk_un (show 171 ≠ (90 + (b * 6 + s)) by omega), pk_un (show 171 ≠ (54 + (b * 6 + s)) by omega), pk_un (show 170 ≠ (126 + (b * 6 + s)) by omega), pk_un (show 170 ≠ (90 + (b * 6 + s)) by omega), pk_un (show 170 ≠ (54 + (b * 6 + s)) by omega), pk_un (show 168 ≠ (90 + (b * 6 + s)) by omega), pk_un (show 168 ≠ (54 + (b * 6 + s)) by omega)]
  rfl
def rFee (r : Nat → Int32) (b s : Nat) : Int32 := r 162 + r 163 * (r 168 - r (126 + (b * 6 + s)))
theorem w_feeFor {σ : CS} (b s : Nat) (h : b < 6) (h2 : s < 6) {post : Int32 → Prop} (hp : post (rFee (c_row σ) b s)) : wp_X2_feeFor σ (nI b) (nI s) post := by
  refine w_get_ 168 rfl (by decide) ?_
  refine w_ofBid 126 b s rfl (by omega) ?_
  intro v hv
  refine w_get 162 0 rfl rfl (by decide) ?_
  refine w_get 162 1 rfl rfl (by decide) ?_
  subst hv
  exact hp
def rWhyW (r : Nat → Int32) (b s : Nat) : Int32 := if r 169 = 0 then (if r (54 + (b * 6 + s)) = 0 then 2 else (if rFee r b s ≤ r (30 + b) then 0 else 3)) else 1
theorem w_whyNotWithdrawn {σ : CS} (b s : Nat) (h : b < 6) (h2 : s < 6) {post : Int32 → Prop} (hp : post (rWhyW (c_row σ) b s)) : wp_X2_whyNotWithdrawn σ (nI b) (nI s) post := by
  unfold rWhyW at hp
  refine w_isOpened (fun h0 => ⟨fun _ => ?_, fun h9 => absurd rfl h9⟩) (fun h0 => ⟨fun h9 => absurd h9 (by decide), fun _ => ?_⟩)
  · rw [if_pos h0] at hp
    refine w_hasBid b s h h2 ?_
    unfold hasB
    by_cases h3 : c_row σ (54 + (b * 6 + s)) = 0
    · rw [if_pos h3] at hp ⊢
      exact ⟨fun h9 => absurd rfl h9, fun _ => hp⟩
    · rw [if_neg h3] at hp ⊢
      refine ⟨fun _ => ?_, fun h9 => absurd h9 (by decide)⟩
      refine w_get 30 b rfl rfl (by omega) ?_
      refine w_feeFor b s h h2 ?_
      exact ⟨fun h5 => by rw [if_pos h5] at hp; exact hp, fun h5 => by rw [if_neg h5] at hp; exact hp⟩
  · rw [if_neg h0] at hp; exact hp
theorem w_putInChest {σ : CS} (b : Nat) (x : Int32) (h : b < 6) {post : CS → Prop} (hp : post (cs_row σ (upd (upd (c_row σ) (30 + b) (c_row σ (30 + b) + -x)) 165 (c_row σ 165 + x)))) : wp_X2_putInChest σ (nI b) x post := by
  refine w_add 30 b rfl rfl (by omega) ?_
  refine w_add 165 0 rfl rfl (by decide) ?_
  refine cast ?_ hp
  congr 1
  show _ = cs_row σ (upd (upd (c_row σ) (30 + b) _) 165 (upd (c_row σ) (30 + b) _ 165 + x))
  rw [pk_un (show 165 ≠ 30 + b by omega)]
def rTake (r : Nat → Int32) (b s : Nat) : Nat → Int32 := upd (upd (upd (upd (upd r (54 + (b * 6 + s)) 0) (30 + b) (r (30 + b) + -(rFee r b s))) 165 (r 165 + rFee r b s)) (48 + b) (r (48 + b) + rFee r b s)) 172 (r 172 + 1)
theorem w_takeBack {σ : CS} (b s : Nat) (h : b < 6) (h2 : s < 6) {post : Int32 → CS → Prop} (hp : post (rFee (c_row σ) b s) (cs_row σ (rTake (c_row σ) b s))) : wp_X2_takeBack σ (nI b) (nI s) post := by
  refine w_feeFor b s h h2 ?_
  unfold wp_X2_placeOfBid
  refine w_put 54 (b * 6 + s) rfl (q_ib b s) (by omega) ?_
  refine w_putInChest b _ h ?_
  refine w_add 48 b rfl rfl (by omega) ?_
  refine w_add 172 0 rfl rfl (by decide) ?_
  refine cast ?_ hp
  congr 1
  show cs_row σ _ = cs_row σ _
  congr 1
  show rTake (c_row σ) b s = (upd (upd (upd (upd (upd (c_row σ) (54 + (b * 6 + s)) 0) (30 + b) ((upd (c_row σ) (54 + (b * 6 + s)) 0) (30 + b) + -(rFee (c_row σ) b s))) 165 ((upd (c_row σ) (54 + (b * 6 + s)) 0) 165 + rFee (c_row σ) b s)) (48 + b) ((upd (upd (upd (c_row σ) (54 + (b * 6 + s)) 0) (30 + b) ((upd (c_row σ) (54 + (b * 6 + s)) 0) (30 + b) + -(rFee (c_row σ) b s))) 165 ((upd (c_row σ) (54 + (b * 6 + s)) 0) 165 + rFee (c_row σ) b s)) (48 + b) + rFee (c_row σ) b s)) 172 ((upd (upd (upd (upd (c_row σ) (54 + (b * 6 + s)) 0) (30 + b) ((upd (c_row σ) (54 + (b * 6 + s)) 0) (30 + b) + -(rFee (c_row σ) b s))) 165 ((upd (c_row σ) (54 + (b * 6 + s)) 0) 165 + rFee (c_row σ) b s)) (48 + b) ((upd (upd (upd (c_row σ) (54 + (b * 6 + s)) 0) (30 + b) ((upd (c_row σ) (54 + (b * 6 + s)) 0) (30 + b) + -(rFee (c_row σ) b s))) 165 ((upd (c_row σ) (54 + (b * 6 + s)) 0) 165 + rFee (c_row σ) b s)) (48 + b) + rFee (c_row σ) b s)) 172 + 1))
  rw [pk_un (show 172 ≠ 48 + b by omega), pk_un (show 172 ≠ 165 by omega), pk_un (show 172 ≠ 30 + b by omega), pk_un (show 172 ≠ 54 + (b * 6 + s) by omega), pk_un (show 48 + b ≠ 165 by omega), pk_un (show 48 + b ≠ 30 + b by omega), pk_un (show 48 + b ≠ 54 + (b * 6 + s) by omega), pk_un (show 165 ≠ 54 + (b * 6 + s) by omega), pk_un (show 30 + b ≠ 54 + (b * 6 + s) by omega)]
  rfl
def rHour (r : Nat → Int32) (x : Int32) : Int32 := if r 168 + x < 23 then r 168 + x else 23
theorem w_passHours {σ : CS} (x : Int32) {post : Int32 → CS → Prop} (hp : post (rHour (c_row σ) x) (cs_row σ (upd (c_row σ) 168 (rHour (c_row σ) x)))) : wp_X2_passHours σ x post := by
  refine w_get_ 168 rfl (by decide) ?_
  refine w_put 168 0 rfl rfl (by decide) ?_
  refine w_get_ 168 rfl (by decide) ?_
  refine cast ?_ hp
  have e : upd (c_row σ) 168 (rHour (c_row σ) x) 168 = rHour (c_row σ) x := pk_us
  exact congrArg (fun v => post v (cs_row σ (upd (c_row σ) 168 (rHour (c_row σ) x)))) e.symm
def rGive (r : Nat → Int32) (s b : Nat) (x : Int32) : Nat → Int32 := upd (upd (upd (upd (upd (upd r (12 + s) (nI b)) (18 + s) x) (30 + b) (r (30 + b) + -x)) 165 (r 165 + x)) (42 + b) (r (42 + b) + x)) 173 (r 173 + 1)
theorem w_giveSpot {σ : CS} (s b : Nat) (x : Int32) (h : b < 6) (h2 : s < 6) {post : CS → Prop} (hp : post (cs_row σ (rGive (c_row σ) s b x))) : wp_X2_giveSpot σ (nI s) (nI b) x post := by
  refine w_put 12 s rfl rfl (by omega) ?_
  refine w_put 18 s rfl rfl (by omega) ?_
  refine w_putInChest b x h ?_
  refine w_add 42 b rfl rfl (by omega) ?_
  refine w_add 173 0 rfl rfl (by decide) ?_
  refine cast ?_ hp
  congr 1
  show cs_row σ _ = cs_row σ _
  congr 1
  show rGive (c_row σ) s b x = (upd (upd (upd (upd (upd (upd (c_row σ) (12 + s) (nI b)) (18 + s) x) (30 + b) ((upd (upd (c_row σ) (12 + s) (nI b)) (18 + s) x) (30 + b) + -x)) 165 ((upd (upd (c_row σ) (12 + s) (nI b)) (18 + s) x) 165 + x)) (42 + b) ((upd (upd (upd (upd (c_row σ) (12 + s) (nI b)) (18 + s) x) (30 + b) ((upd (upd (c_row σ) (12 + s) (nI b)) (18 + s) x) (30 + b) + -x)) 165 ((upd (upd (c_row σ) (12 + s) (nI b)) (18 + s) x) 165 + x)) (42 + b) + x)) 173 ((upd (upd (upd (upd (upd (c_row σ) (12 + s) (nI b)) (18 + s) x) (30 + b) ((upd (upd (c_row σ) (12 + s) (nI b)) (18 + s) x) (30 + b) + -x)) 165 ((upd (upd (c_row σ) (12 + s) (nI b)) (18 + s) x) 165 + x)) (42 + b) ((upd (upd (upd (upd (c_row σ) (12 + s) (nI b)) (18 + s) x) (30 + b) ((upd (upd (c_row σ) (12 + s) (nI b)) (18 + s) x) (30 + b) + -x)) 165 ((upd (upd (c_row σ) (12 + s) (nI b)) (18 + s) x) 165 + x)) (42 + b) + x)) 173 + 1))
  rw [pk_un (show 173 ≠ 42 + b by omega), pk_un (show 173 ≠ 165 by omega), pk_un (show 173 ≠ 30 + b by omega), pk_un (show 173 ≠ 18 + s by omega), pk_un (show 173 ≠ 12 + s by omega), pk_un (show 42 + b ≠ 165 by omega), pk_un (show 42 + b ≠ 30 + b by omega), pk_un (show 42 + b ≠ 18 + s by omega), pk_un (show 42 + b ≠ 12 + s by omega), pk_un (show 165 ≠ 18 + s by omega), pk_un (show 165 ≠ 12 + s by omega), pk_un (show 30 + b ≠ 18 + s by omega), pk_un (show 30 + b ≠ 12 + s by omega)]
  rfl
def rCan (r : Nat → Int32) (s : Nat) : Int32 := if r 169 = 0 then 0 else if r (12 + s) = -1 then 0 else 1
theorem w_canFish {σ : CS} (s : Nat) (h : s < 6) {post : Int32 → Prop} (hp : post (rCan (c_row σ) s)) : wp_X2_canFish σ (nI s) post := by
  unfold rCan at hp
  refine w_isOpened (fun h0 => ⟨fun _ => ?_, fun h9 => absurd rfl h9⟩) (fun h0 => ⟨fun h9 => absurd h9 (by decide), fun _ => ?_⟩)
  · rw [if_pos h0] at hp; exact hp
  · rw [if_neg h0] at hp
    refine w_get 12 s rfl rfl (by omega) ?_
    exact ⟨fun h5 => by rw [if_pos h5] at hp; exact hp, fun h5 => by rw [if_neg h5] at hp; exact hp⟩
def swimV (r : Nat → Int32) (s d : Nat) : Int32 := if 200 - r (6 + d) < r (6 + s) / 10 then 200 - r (6 + d) else r (6 + s) / 10
def rSwim (r : Nat → Int32) (s d : Nat) : Nat → Int32 := if r (12 + d) = -1 then (if r (6 + s) ≤ r (6 + d) then r else upd (upd r (6 + s) (r (6 + s) + -(swimV r s d))) (6 + d) (r (6 + d) + swimV r s d)) else r
theorem w_swim {σ : CS} (s d : Nat) (h : s < 6) (h2 : d < 6) (hne : s ≠ d) {post : CS → Prop} (hp : post (cs_row σ (rSwim (c_row σ) s d))) : wp_X2_swim σ (nI s) (nI d) post := by
  unfold rSwim at hp
  refine ⟨fun h9 => absurd h9 (nI_pos (by omega)), fun _ => ⟨fun h9 => absurd h9 (nI_ge (b := 6) h2 (by decide)), fun _ => ?_⟩⟩
  refine w_get 12 d rfl rfl (by omega) ?_
  refine ⟨fun h3 => by rw [if_neg h3] at hp; exact hp, fun h3 => ?_⟩
  rw [if_pos h3] at hp
  refine w_get 6 d rfl rfl (by omega) ?_
  refine w_get 6 s rfl rfl (by omega) ?_
  refine ⟨fun h4 => by rw [if_pos h4] at hp; exact hp, fun h4 => ?_⟩
  rw [if_neg h4] at hp
  refine w_get 6 s rfl rfl (by omega) ?_
  refine w_get 6 d rfl rfl (by omega) ?_
  intro v hv
  have hv : v = swimV (c_row σ) s d := hv
  subst hv
  refine w_add 6 s rfl rfl (by omega) ?_
  refine w_add 6 d rfl rfl (by omega) ?_
  refine cast ?_ hp
  congr 1
  show cs_row σ _ = cs_row σ (upd (upd (c_row σ) (6 + s) _) (6 + d) (upd (c_row σ) (6 + s) _ (6 + d) + _))
  rw [pk_un (show 6 + d ≠ 6 + s by omega)]
theorem w_swimOut {σ : CS} (s : Nat) {x : Int32} (h : x < 0 ∨ 6 ≤ x) {post : CS → Prop} (hp : post σ) : wp_X2_swim σ (nI s) x post :=
  ⟨fun _ => hp, fun h1 => ⟨fun _ => hp, fun h2 => absurd h (fun h => h.elim h1 h2)⟩⟩
def haulV (r : Nat → Int32) (s : Nat) : Int32 := if r (6 + s) / 4 + 1 < r (6 + s) then r (6 + s) / 4 + 1 else r (6 + s)
/-- the catch itself; w is who fishes -/
def rHaul (r : Nat → Int32) (s w : Nat) : Nat → Int32 := upd (upd (upd r (6 + s) (r (6 + s) + -(haulV r s))) (36 + w) (r (36 + w) + haulV r s)) (24 + s) (r (24 + s) + haulV r s)
def rLow (r : Nat → Int32) (s : Nat) : Nat → Int32 := if s = 0 then r else rSwim r s (s - 1)
def rHigh (r : Nat → Int32) (s : Nat) : Nat → Int32 := if s = 5 then r else rSwim r s (s + 1)
theorem w_catchFish {σ : CS} (s w : Nat) (h : s < 6) (hw : w < 6) (ho : c_row σ (12 + s) = nI w) {post : Int32 → CS → Prop} (hp : post (haulV (c_row σ) s) (cs_row σ (rHigh (rLow (rHaul (c_row σ) s w) s) s))) : wp_X2_catchFish σ (nI s) post := by
  refine w_get 6 s rfl rfl (by omega) ?_
  intro v hv
  have hv : v = haulV (c_row σ) s := hv
  subst hv
  refine w_add 6 s rfl rfl (by omega) ?_
  refine w_get 12 s rfl rfl (by omega) ?_
  have e1 : c_row (cs_row σ (upd (c_row σ) (6 + s) (c_row σ (6 + s) + -haulV (c_row σ) s))) (12 + s) = nI w := by
    show upd (c_row σ) (6 + s) _ (12 + s) = _
    rw [pk_un (by omega), ho]
  rw [e1]
  refine w_add 36 w rfl rfl (by omega) ?_
  refine w_add 24 s rfl rfl (by omega) ?_
  have e2 : ∀ σ1 : CS, σ1 = cs_row σ (upd (upd (upd (c_row σ) (6 + s) (c_row σ (6 + s) + -haulV (c_row σ) s)) (36 + w) (upd (c_row σ) (6 + s) (c_row σ (6 + s) + -haulV (c_row σ) s) (36 + w) + haulV (c_row σ) s)) (24 + s) (upd (upd (c_row σ) (6 + s) (c_row σ (6 + s) + -haulV (c_row σ) s)) (36 + w) (upd (c_row σ) (6 + s) (c_row σ (6 + s) + -haulV (c_row σ) s) (36 + w) + haulV (c_row σ) s) (24 + s) + haulV (c_row σ) s)) → σ1 = cs_row σ (rHaul (c_row σ) s w) := by
    intro σ1 e
    rw [e]
    congr 1
    rw [pk_un (show 24 + s ≠ 36 + w by omega), pk_un (show 24 + s ≠ 6 + s by omega), pk_un (show 36 + w ≠ 6 + s by omega)]
    rfl
  have e3 := e2 _ rfl
  generalize hg : cs_row _ (upd _ (24 + s) _) = σ1
  have e4 : σ1 = cs_row σ (rHaul (c_row σ) s w) := by rw [← hg]; exact e3
  subst e4
  clear hg e2 e3
  have hL : ∀ (post : CS → Prop) (σ1 : CS), post (cs_row σ1 (rLow (c_row σ1) s)) → wp_X2_swim σ1 (nI s) (nI s - 1) post := by
    intro post σ1 hp
    unfold rLow at hp
    by_cases h0 : s = 0
    · subst h0
      rw [if_pos rfl] at hp
      exact w_swimOut 0 (Or.inl (by decide)) hp
    · rw [if_neg h0] at hp
      rw [show (nI s - 1 : Int32) = nI (s - 1) from pk_sub (a := s) (b := 1) (by omega)]
      exact w_swim s (s - 1) h (by omega) (by omega) hp
  have hH : ∀ (post : CS → Prop) (σ1 : CS), post (cs_row σ1 (rHigh (c_row σ1) s)) → wp_X2_swim σ1 (nI s) (nI s + 1) post := by
    intro post σ1 hp
    unfold rHigh at hp
    rw [nI_1]
    by_cases h0 : s = 5
    · subst h0
      rw [if_pos rfl] at hp
      exact w_swimOut 5 (Or.inr (by decide)) hp
    · rw [if_neg h0] at hp
      exact w_swim s (s + 1) h (by omega) (by omega) hp
  exact hL _ _ (hH _ _ hp)
-- the next day
def moreV (r : Nat → Int32) (k : Nat) : Int32 := if 200 - r (6 + k) < r 164 then 200 - r (6 + k) else r 164
def rGrow (r : Nat → Int32) (n : Nat) : Nat → Int32 := fun j => if 6 ≤ j ∧ j < 6 + n then r j + moreV r (j - 6) else r j
theorem rGrow_s (r : Nat → Int32) (n : Nat) (h : n < 6) : upd (rGrow r n) (6 + n) (rGrow r n (6 + n) + moreV (rGrow r n) n) = rGrow r (n + 1) := by
  have e0 : rGrow r n (6 + n) = r (6 + n) := if_neg (by omega)
  have e2 : rGrow r n 164 = r 164 := if_neg (by omega)
  have e1 : moreV (rGrow r n) n = moreV r n := by unfold moreV; rw [e0, e2]
  rw [e0, e1]
  funext j; unfold rGrow upd; dsimp only
  by_cases h1 : j = 6 + n
  · subst h1; rw [if_pos rfl, if_pos (by omega), show 6 + n - 6 = n by omega]
  · rw [if_neg h1]
    by_cases h2 : 6 ≤ j ∧ j < 6 + n
    · rw [if_pos h2, if_pos (by omega)]
    · rw [if_neg h2, if_neg (by omega)]
def rDay (r : Nat → Int32) : Nat → Int32 := fun j => if 54 ≤ j ∧ j < 90 then 0 else if 12 ≤ j ∧ j < 24 then -1 else if j = 168 then 0 else if j = 169 then 0 else if j = 170 then 0 else if j = 167 then r 167 + 1 else rGrow r 6 j
theorem w_beginDay {σ : CS} {post : Int32 → CS → Prop} (hp : post (sumG (moreV (c_row σ)) 6) (cs_row σ (rDay (c_row σ)))) : wp_X2_beginDay σ post := by
  refine ⟨fun m u w s1 => ∃ i : Nat, i ≤ 6 ∧ m = 6 - i ∧ w = nI i ∧ u = sumG (moreV (c_row σ)) i ∧ s1 = cs_row σ (rGrow (c_row σ) i), ⟨6, 0, Nat.zero_le _, rfl, rfl, rfl, ?_⟩, ?_⟩
  · rw [show rGrow (c_row σ) 0 = c_row σ from funext fun j => if_neg (by omega)]; rfl
  · rintro m u w s1 ⟨i, hi, rfl, rfl, rfl, rfl⟩
    refine ⟨fun h9 => ?_, fun h9 => ?_⟩
    · have e : i = 6 := Nat.le_antisymm hi ((nI_leI (a := 6) (by omega) (by omega)).mp h9)
      subst e
      refine w_fill 54 36 rfl rfl (by decide) ?_
      refine w_fill 12 6 rfl rfl (by decide) ?_
      refine w_fill 18 6 rfl rfl (by decide) ?_
      refine w_put 168 0 rfl rfl (by decide) ?_
      refine w_put 169 0 rfl rfl (by decide) ?_
      refine w_put 170 0 rfl rfl (by decide) ?_
      refine w_add 167 0 rfl rfl (by decide) ?_
      refine cast ?_ hp
      congr 1
      show cs_row σ _ = cs_row σ _
      congr 1
      funext j
      show rDay (c_row σ) j = upd (upd (upd (upd (fillF (fillF (fillF (rGrow (c_row σ) 6) 54 36 0) 12 6 (-1)) 18 6 (-1)) 168 0) 169 0) 170 0) 167 (upd (upd (upd (fillF (fillF (fillF (rGrow (c_row σ) 6) 54 36 0) 12 6 (-1)) 18 6 (-1)) 168 0) 169 0) 170 0 167 + 1) j
      have e : upd (upd (upd (fillF (fillF (fillF (rGrow (c_row σ) 6) 54 36 0) 12 6 (-1)) 18 6 (-1)) 168 0) 169 0) 170 0 167 = c_row σ 167 := by
        rw [pk_un (by decide), pk_un (by decide), pk_un (by decide)]
        unfold fillF
        rw [if_neg (by omega), if_neg (by omega), if_neg (by omega)]
        exact if_neg (by omega)
      rw [e]
      unfold rDay upd fillF
      by_cases e1 : 54 ≤ j ∧ j < 90
      · rw [if_pos e1, if_neg (by omega), if_neg (by omega), if_neg (by omega), if_neg (by omega), if_neg (by omega), if_neg (by omega), if_pos (by omega)]
      · rw [if_neg e1]
        by_cases e2 : 12 ≤ j ∧ j < 24
        · rw [if_pos e2, if_neg (by omega), if_neg (by omega), if_neg (by omega), if_neg (by omega)]
          by_cases e3 : 18 ≤ j
          · rw [if_pos (by omega)]
          · rw [if_neg (by omega), if_pos (by omega)]
        · rw [if_neg e2]
          by_cases e3 : j = 168
          · rw [if_pos e3, if_neg (by omega), if_neg (by omega), if_neg (by omega), if_pos e3]
          · rw [if_neg e3]
            by_cases e4 : j = 169
            · rw [if_pos e4, if_neg (by omega), if_neg (by omega), if_pos e4]
            · rw [if_neg e4]
              by_cases e5 : j = 170
              · rw [if_pos e5, if_neg (by omega), if_pos e5]
              · rw [if_neg e5]
                by_cases e6 : j = 167
                · rw [if_pos e6, if_pos e6]
                · rw [if_neg e6, if_neg e6, if_neg e5, if_neg e4, if_neg e3, if_neg (by omega), if_neg (by omega), if_neg (by omega)]
    · have e : i < 6 := Nat.lt_of_not_le fun q => h9 (nI_le (a := 6) q (by omega))
      refine w_get 162 2 rfl rfl (by decide) ?_
      refine w_get 6 i rfl rfl (by omega) ?_
      intro v hv
      have e0 : rGrow (c_row σ) i (6 + i) = c_row σ (6 + i) := if_neg (by omega)
      have e2 : rGrow (c_row σ) i (162 + 2) = c_row σ 164 := if_neg (by omega)
      have hv : v = (if 200 - rGrow (c_row σ) i (6 + i) < rGrow (c_row σ) i (162 + 2) then 200 - rGrow (c_row σ) i (6 + i) else rGrow (c_row σ) i (162 + 2)) := hv
      rw [e0, e2] at hv
      have hv : v = moreV (c_row σ) i := hv
      subst hv
      refine w_add 6 i rfl rfl (by omega) ?_
      intro u hu w hw
      refine ⟨6 - (i + 1), by omega, i + 1, e, rfl, by rw [hw, nI_1], hu, ?_⟩
      show cs_row σ (upd (rGrow (c_row σ) i) (6 + i) (rGrow (c_row σ) i (6 + i) + moreV (c_row σ) i)) = _
      rw [← rGrow_s _ _ e]
      have e1 : moreV (rGrow (c_row σ) i) i = moreV (c_row σ) i := by unfold moreV; rw [e0, show rGrow (c_row σ) i 164 = c_row σ 164 from e2]
      rw [e1]
