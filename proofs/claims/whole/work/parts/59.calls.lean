/-! pure part: every call keeps the invariant -/
section
variable {L : Nat} {xs : Nat → Int32} {σ : CS} {f : Nat → Int64} {μ : MS} {v4 : Int32} {K : KK}
theorem wplA_0 : wplA 0 L xs σ f μ v4 K = wpl_0 L xs σ f μ v4 K := by unfold wplA; rfl
theorem wplA_1 : wplA 1 L xs σ f μ v4 K = wpl_1 L xs σ f μ v4 K := by unfold wplA; rfl
theorem wplA_2 : wplA 2 L xs σ f μ v4 K = wpl_2 L xs σ f μ v4 K := by unfold wplA; rfl
theorem wplA_3 : wplA 3 L xs σ f μ v4 K = wpl_3 L xs σ f μ v4 K := by unfold wplA; rfl
theorem wplA_4 : wplA 4 L xs σ f μ v4 K = wpl_4 L xs σ f μ v4 K := by unfold wplA; rfl
theorem wplA_5 : wplA 5 L xs σ f μ v4 K = wpl_5 L xs σ f μ v4 K := by unfold wplA; rfl
theorem wplA_6 : wplA 6 L xs σ f μ v4 K = wpl_6 L xs σ f μ v4 K := by unfold wplA; rfl
theorem wplA_7 : wplA 7 L xs σ f μ v4 K = wpl_7 L xs σ f μ v4 K := by unfold wplA; rfl
theorem wplA_8 : wplA 8 L xs σ f μ v4 K = wpl_8 L xs σ f μ v4 K := by unfold wplA; rfl
theorem wplA_9 : wplA 9 L xs σ f μ v4 K = wpl_9 L xs σ f μ v4 K := by unfold wplA; rfl
theorem wplA_10 : wplA 10 L xs σ f μ v4 K = wpl_10 L xs σ f μ v4 K := by unfold wplA; rfl
theorem wplA_11 : wplA 11 L xs σ f μ v4 K = wpl_11 L xs σ f μ v4 K := by unfold wplA; rfl
theorem wplA_12 : wplA 12 L xs σ f μ v4 K = wpl_12 L xs σ f μ v4 K := by unfold wplA; rfl
theorem wplA_13 : wplA 13 L xs σ f μ v4 K = wpl_13 L xs σ f μ v4 K := by unfold wplA; rfl
theorem wplA_14 : wplA 14 L xs σ f μ v4 K = wpl_14 L xs σ f μ v4 K := by unfold wplA; rfl
theorem wplA_15 : wplA 15 L xs σ f μ v4 K = wpl_15 L xs σ f μ v4 K := by unfold wplA; rfl
theorem wplA_16 : wplA 16 L xs σ f μ v4 K = wpl_16 L xs σ f μ v4 K := by unfold wplA; rfl
theorem wplA_17 : wplA 17 L xs σ f μ v4 K = wpl_17 L xs σ f μ v4 K := by unfold wplA; rfl
theorem wplA_18 : wplA 18 L xs σ f μ v4 K = wpl_18 L xs σ f μ v4 K := by unfold wplA; rfl
theorem wplA_19 : wplA 19 L xs σ f μ v4 K = wpl_19 L xs σ f μ v4 K := by unfold wplA; rfl
theorem wplA_20 : wplA 20 L xs σ f μ v4 K = wpl_20 L xs σ f μ v4 K := by unfold wplA; rfl
theorem wplA_21 : wplA 21 L xs σ f μ v4 K = wpl_21 L xs σ f μ v4 K := by unfold wplA; rfl
theorem wplA_22 : wplA 22 L xs σ f μ v4 K = wpl_22 L xs σ f μ v4 K := by unfold wplA; rfl
theorem wplA_23 : wplA 23 L xs σ f μ v4 K = wpl_23 L xs σ f μ v4 K := by unfold wplA; rfl
theorem wplA_24 : wplA 24 L xs σ f μ v4 K = wpl_24 L xs σ f μ v4 K := by unfold wplA; rfl
theorem wplA_25 : wplA 25 L xs σ f μ v4 K = wpl_25 L xs σ f μ v4 K := by unfold wplA; rfl
theorem wplA_26 : wplA 26 L xs σ f μ v4 K = wpl_26 L xs σ f μ v4 K := by unfold wplA; rfl
theorem wplA_27 : wplA 27 L xs σ f μ v4 K = wpl_27 L xs σ f μ v4 K := by unfold wplA; rfl
theorem wplA_28 : wplA 28 L xs σ f μ v4 K = wpl_28 L xs σ f μ v4 K := by unfold wplA; rfl
theorem wplA_29 : wplA 29 L xs σ f μ v4 K = wpl_29 L xs σ f μ v4 K := by unfold wplA; rfl
theorem wplA_ge (j : Nat) : wplA (j + 30) L xs σ f μ v4 K = K σ f μ := by unfold wplA; rfl
end
theorem all_calls {m L : Nat} {xs : Nat → Int32} {σ : CS} {f : Nat → Int64} {μ : MS} {v4 : Int32} {K : KK} (k : Nat) (hm : m ≤ 100000) (A : Args L v4) (I : Inv m σ μ) (hK : Nx m K) : wplA k L xs σ f μ v4 K := by
  by_cases h0 : k = 0
  · subst h0; rw [wplA_0]; exact case_0 A I hK
  by_cases h1 : k = 1
  · subst h1; rw [wplA_1]; exact case_1 A I hK
  by_cases h2 : k = 2
  · subst h2; rw [wplA_2]; exact case_2 A I hK
  by_cases h3 : k = 3
  · subst h3; rw [wplA_3]; exact case_3 hm A I hK
  by_cases h4 : k = 4
  · subst h4; rw [wplA_4]; exact case_4 A I hK
  by_cases h5 : k = 5
  · subst h5; rw [wplA_5]; exact case_5 A I hK
  by_cases h6 : k = 6
  · subst h6; rw [wplA_6]; exact case_6 hm I hK
  by_cases h7 : k = 7
  · subst h7; rw [wplA_7]; exact case_7 A I hK
  by_cases h8 : k = 8
  · subst h8; rw [wplA_8]; exact case_8 I hK
  by_cases h9 : k = 9
  · subst h9; rw [wplA_9]; exact case_9 A I hK
  by_cases h10 : k = 10
  · subst h10; rw [wplA_10]; exact case_10 I hK
  by_cases h11 : k = 11
  · subst h11; rw [wplA_11]; exact case_11 I hK
  by_cases h12 : k = 12
  · subst h12; rw [wplA_12]; exact case_12 hm I hK
  by_cases h13 : k = 13
  · subst h13; rw [wplA_13]; exact case_13 I hK
  by_cases h14 : k = 14
  · subst h14; rw [wplA_14]; exact case_14 I hK
  by_cases h15 : k = 15
  · subst h15; rw [wplA_15]; exact case_15 I hK
  by_cases h16 : k = 16
  · subst h16; rw [wplA_16]; exact case_16 A I hK
  by_cases h17 : k = 17
  · subst h17; rw [wplA_17]; exact case_17 A I hK
  by_cases h18 : k = 18
  · subst h18; rw [wplA_18]; exact case_18 A I hK
  by_cases h19 : k = 19
  · subst h19; rw [wplA_19]; exact case_19 A I hK
  by_cases h20 : k = 20
  · subst h20; rw [wplA_20]; exact case_20 A I hK
  by_cases h21 : k = 21
  · subst h21; rw [wplA_21]; exact case_21 A I hK
  by_cases h22 : k = 22
  · subst h22; rw [wplA_22]; exact case_22 A I hK
  by_cases h23 : k = 23
  · subst h23; rw [wplA_23]; exact case_23 A I hK
  by_cases h24 : k = 24
  · subst h24; rw [wplA_24]; exact case_24 A I hK
  by_cases h25 : k = 25
  · subst h25; rw [wplA_25]; exact case_25 A I hK
  by_cases h26 : k = 26
  · subst h26; rw [wplA_26]; exact case_26 I hK
  by_cases h27 : k = 27
  · subst h27; rw [wplA_27]; exact case_27 I hK
  by_cases h28 : k = 28
  · subst h28; rw [wplA_28]; exact case_28 hm I hK
  by_cases h29 : k = 29
  · subst h29; rw [wplA_29]; exact case_29 hm I hK
  · obtain ⟨j, rfl⟩ : ∃ j, k = j + 30 := ⟨k - 30, by omega⟩
    rw [wplA_ge]
    exact hK _ _ _ (I.mono (by omega))
theorem pc_inv : PC (fun n σ μ => Inv (61 * n) σ μ) := by
  intro n k L xs σ f μ hn h5 hL I
  have I : Inv (61 * n) σ μ := I
  have hm : 61 * n ≤ 100000 := by omega
  have A : Args L (nI (5 * n)) := by
    have hx : ∀ i : Nat, i < 5 → vp_in (nI (5 * n) + nI i) L := fun i hi => by
      rw [nI_add]; exact q_in (by omega) (by omega)
    exact ⟨hx 1 (by decide), hx 2 (by decide), hx 3 (by decide), hx 4 (by decide)⟩
  have hK : Nx (61 * n) (fun σ1 _ μ1 => Inv (61 * (n + 1)) σ1 μ1) := fun σ f μ h => by
    show Inv (61 * (n + 1)) σ μ
    rw [show 61 * (n + 1) = 61 * n + 61 by omega]; exact h
  exact all_calls (K := fun σ1 _ μ1 => Inv (61 * (n + 1)) σ1 μ1) k hm A I hK
