/-! pure part: shareOut() and opens() -/
theorem gF_due (r : Nat → Int32) (B : Nat → Nat → Nat) {s k : Nat} (hk : k < 6) (hs : s ≤ 6) : dueV (gF r B s) B k = dueV r B k := by
  unfold dueV
  rw [gF_price r B (by omega) s hs]
theorem w_shareOut {m : Nat} {σ : CS} (h1 : O1 m (c_row σ)) {post : Int32 → CS → Prop} (hp : ∀ f g, post (nI (cntF (BC (c_row σ)) 6)) (cs_row (cs_most (cs_keys σ f) g) (gF (c_row σ) (BC (c_row σ)) 6))) : wp_X4_shareOut σ post := by
  refine w_findSharing h1 (fun f g H => ?_)
  have hB := BC_le h1
  have hp := hp f g
  have er : c_row (cs_most (cs_keys σ f) g) = c_row σ := rfl
  generalize cs_most (cs_keys σ f) g = σ1 at *
  generalize c_row σ = r at *
  have hdue := fun s k (hk : k < 6) (hs : s ≤ 6) => gF_due r (BC r) (s := s) (k := k) hk hs
  generalize BC r = B at *
  unfold wp_X2_openBids
  refine w_put 169 0 rfl rfl (by decide) ?_
  rw [er]
  refine ⟨fun n v1 v2 s => ∃ i : Nat, i ≤ 6 ∧ n = 6 - i ∧ v1 = nI (cntF B i) ∧ v2 = nI i ∧ s = cs_row σ1 (gF r B i), ⟨6, 0, Nat.zero_le _, rfl, rfl, rfl, rfl⟩, ?_⟩
  rintro n v1 v2 s ⟨i, hi, rfl, rfl, rfl, rfl⟩
  refine ⟨fun h9 => ?_, fun h9 => ?_⟩
  · have e : i = 6 := Nat.le_antisymm hi ((nI_leI (a := 6) (by omega) (by omega)).mp h9)
    subst e; exact hp
  · have e : i < 6 := Nat.lt_of_not_le fun q => h9 (nI_le (a := 6) q (by omega))
    have hO := own_le B i
    refine w_ownerOf hB (H.row (gF r B i)) i e ?_
    unfold ownV
    by_cases h : own B i = 6
    · have e1 : gF r B (i + 1) = gF r B i := if_pos h
      have e2 : cntF B (i + 1) = cntF B i := if_pos h
      rw [if_pos h]
      refine ⟨fun _ => ?_, fun h => absurd rfl h⟩
      intro w hw
      exact ⟨6 - (i + 1), by omega, i + 1, by omega, rfl, by rw [e2], by rw [hw, nI_1], by rw [e1]⟩
    · have e1 : gF r B (i + 1) = rGive (gF r B i) i (own B i) (dueV r B i) := if_neg h
      have e2 : cntF B (i + 1) = cntF B i + 1 := if_neg h
      rw [if_neg h]
      have h6 : own B i < 6 := by omega
      refine ⟨fun q => absurd q (neg1_ne h6), fun _ => ?_⟩
      refine w_priceOf hB (H.row (gF r B i)) i e ?_
      rw [show c_row (cs_row σ1 (gF r B i)) = gF r B i from rfl, hdue i i e (by omega)]
      refine w_giveSpot i (own B i) _ h6 e ?_
      intro w1 hw1 w hw
      exact ⟨6 - (i + 1), by omega, i + 1, by omega, rfl, by rw [hw1, e2, nI_1], by rw [hw, nI_1], by rw [e1]; rfl⟩
def tOpen (t r : Nat → Int32) : Nat → Int32 := upd (upd (hF t r (BC r) 6) 2 1) 7 (gF r (BC r) 6 173)
