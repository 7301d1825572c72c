/-! pure part: copies, saved states, the snapshot, on both sides -/
theorem w_copyTo_r {σ : CS} {a : Int32} (d : Nat) (h1 : a = nI d) (h : d + 174 ≤ 1044) {post : CS → Prop} (hp : post (cs_rows σ (cpyF (c_rows σ) (c_row σ) d 0 174))) : wp_X2_copyTo_r σ a post := by
  subst h1
  refine ⟨fun m w s => ∃ i : Nat, i ≤ 174 ∧ m = 174 - i ∧ w = nI i ∧ s = cs_rows σ (cpyF (c_rows σ) (c_row σ) d 0 i), ⟨174, 0, Nat.zero_le _, rfl, rfl, ?_⟩, ?_⟩
  · rw [cpyF_0]; rfl
  · rintro m w s ⟨i, hi, rfl, rfl, rfl⟩
    refine ⟨fun h9 => ?_, fun h9 => ?_⟩
    · have e : i = 174 := Nat.le_antisymm hi ((nI_leI (a := 174) (by omega) (by omega)).mp h9)
      subst e; exact hp
    · have e : i < 174 := Nat.lt_of_not_le fun q => h9 (nI_le (a := 174) q (by omega))
      intro v hv
      rw [nI_add] at hv; subst hv
      refine ⟨fun h8 => absurd h8 (nI_pos (by omega)), fun _ => ⟨fun h8 => absurd h8 (nI_ge (b := 1044) (by omega) (by decide)), fun _ => ?_⟩⟩
      refine w_get_ i rfl e ?_
      refine ⟨q_in (by omega) (by decide), ?_⟩
      intro s2 hs2 w hw
      rw [nI_clamp (by omega)] at hs2
      refine ⟨174 - (i + 1), by omega, i + 1, e, rfl, by rw [hw, nI_1], ?_⟩
      rw [hs2, ← cpyF_s, Nat.zero_add]; rfl
theorem w_copyTo_s {σ : CS} {post : CS → Prop} (hp : post (cs_snap σ (cpyF (c_snap σ) (c_row σ) 0 0 174))) : wp_X2_copyTo_s σ 0 post := by
  refine ⟨fun m w s => ∃ i : Nat, i ≤ 174 ∧ m = 174 - i ∧ w = nI i ∧ s = cs_snap σ (cpyF (c_snap σ) (c_row σ) 0 0 i), ⟨174, 0, Nat.zero_le _, rfl, rfl, ?_⟩, ?_⟩
  · rw [cpyF_0]; rfl
  · rintro m w s ⟨i, hi, rfl, rfl, rfl⟩
    refine ⟨fun h9 => ?_, fun h9 => ?_⟩
    · have e : i = 174 := Nat.le_antisymm hi ((nI_leI (a := 174) (by omega) (by omega)).mp h9)
      subst e; exact hp
    · have e : i < 174 := Nat.lt_of_not_le fun q => h9 (nI_le (a := 174) q (by omega))
      intro v hv
      rw [show (0 : Int32) = nI 0 from rfl, nI_add, Nat.zero_add] at hv; subst hv
      refine ⟨fun h8 => absurd h8 (nI_pos (by omega)), fun _ => ⟨fun h8 => absurd h8 (nI_ge (b := 174) (by omega) (by decide)), fun _ => ?_⟩⟩
      refine w_get_ i rfl e ?_
      refine ⟨q_in (by omega) (by decide), ?_⟩
      intro s2 hs2 w hw
      rw [nI_clamp (by omega)] at hs2
      refine ⟨174 - (i + 1), by omega, i + 1, e, rfl, by rw [hw, nI_1], ?_⟩
      rw [hs2, ← cpyF_s, Nat.zero_add]; rfl
theorem w_copyFrom_r {σ : CS} {a : Int32} (d : Nat) (h1 : a = nI d) (h : d + 174 ≤ 1044) {post : CS → Prop} (hp : post (cs_row σ (cpyF (c_row σ) (c_rows σ) 0 d 174))) : wp_X2_copyFrom_r σ a post := by
  subst h1
  refine ⟨fun m w s => ∃ i : Nat, i ≤ 174 ∧ m = 174 - i ∧ w = nI i ∧ s = cs_row σ (cpyF (c_row σ) (c_rows σ) 0 d i), ⟨174, 0, Nat.zero_le _, rfl, rfl, ?_⟩, ?_⟩
  · rw [cpyF_0]; rfl
  · rintro m w s ⟨i, hi, rfl, rfl, rfl⟩
    refine ⟨fun h9 => ?_, fun h9 => ?_⟩
    · have e : i = 174 := Nat.le_antisymm hi ((nI_leI (a := 174) (by omega) (by omega)).mp h9)
      subst e; exact hp
    · have e : i < 174 := Nat.lt_of_not_le fun q => h9 (nI_le (a := 174) q (by omega))
      intro v hv
      rw [nI_add] at hv; subst hv
      refine ⟨fun h8 => absurd h8 (nI_pos (by omega)), fun _ => ⟨fun h8 => absurd h8 (nI_ge (b := 1044) (by omega) (by decide)), fun _ => ⟨q_in (by omega) (by decide), ?_⟩⟩⟩
      rw [nI_clamp (by omega)]
      refine w_put i 0 rfl rfl (by omega) ?_
      intro w hw
      refine ⟨174 - (i + 1), by omega, i + 1, e, rfl, by rw [hw, nI_1], ?_⟩
      rw [← cpyF_s, Nat.zero_add]; rfl
theorem w_copyFrom_s {σ : CS} {post : CS → Prop} (hp : post (cs_row σ (cpyF (c_row σ) (c_snap σ) 0 0 174))) : wp_X2_copyFrom_s σ 0 post := by
  refine ⟨fun m w s => ∃ i : Nat, i ≤ 174 ∧ m = 174 - i ∧ w = nI i ∧ s = cs_row σ (cpyF (c_row σ) (c_snap σ) 0 0 i), ⟨174, 0, Nat.zero_le _, rfl, rfl, ?_⟩, ?_⟩
  · rw [cpyF_0]; rfl
  · rintro m w s ⟨i, hi, rfl, rfl, rfl⟩
    refine ⟨fun h9 => ?_, fun h9 => ?_⟩
    · have e : i = 174 := Nat.le_antisymm hi ((nI_leI (a := 174) (by omega) (by omega)).mp h9)
      subst e; exact hp
    · have e : i < 174 := Nat.lt_of_not_le fun q => h9 (nI_le (a := 174) q (by omega))
      intro v hv
      rw [show (0 : Int32) = nI 0 from rfl, nI_add, Nat.zero_add] at hv; subst hv
      refine ⟨fun h8 => absurd h8 (nI_pos (by omega)), fun _ => ⟨fun h8 => absurd h8 (nI_ge (b := 174) (by omega) (by decide)), fun _ => ⟨q_in (by omega) (by decide), ?_⟩⟩⟩
      rw [nI_clamp (by omega)]
      refine w_put i 0 rfl rfl (by omega) ?_
      intro w hw
      refine ⟨174 - (i + 1), by omega, i + 1, e, rfl, by rw [hw, nI_1], ?_⟩
      rw [← cpyF_s, Nat.zero_add]; rfl
/-- the rows, the oldest dropped, n places of it moved -/
def dropF (f : Nat → Int32) (n : Nat) : Nat → Int32 := fun j => if j < n then f (j + 174) else f j
theorem dropF_s (f : Nat → Int32) (n : Nat) : upd (dropF f n) n (dropF f n (n + 174)) = dropF f (n + 1) := by
  have e : dropF f n (n + 174) = f (n + 174) := if_neg (by omega)
  rw [e]
  funext j; unfold dropF upd; dsimp only
  by_cases h : j = n
  · subst h; rw [if_pos rfl, if_pos (by omega)]
  · rw [if_neg h]
    by_cases h2 : j < n
    · rw [if_pos h2, if_pos (by omega)]
    · rw [if_neg h2, if_neg (by omega)]
theorem w_dropOldest {σ : CS} {post : CS → Prop} (hp : post (cs_saved (cs_rows σ (dropF (c_rows σ) 870)) (c_saved σ - 1))) : wp_X0_dropOldest σ post := by
  refine ⟨fun m w s => ∃ i : Nat, i ≤ 870 ∧ m = 870 - i ∧ w = nI i ∧ s = cs_rows σ (dropF (c_rows σ) i), ⟨870, 0, Nat.zero_le _, rfl, rfl, ?_⟩, ?_⟩
  · rw [show dropF (c_rows σ) 0 = c_rows σ from funext fun j => if_neg (Nat.not_lt_zero j)]; rfl
  · rintro m w s ⟨i, hi, rfl, rfl, rfl⟩
    have e174 : nI i + 174 = nI (i + 174) := nI_add i 174
    rw [e174]
    refine ⟨fun h9 => ?_, fun h9 => ?_⟩
    · have e : i + 174 = 1044 := Nat.le_antisymm (by omega) ((nI_leI (a := 1044) (by omega) (by omega)).mp h9)
      obtain rfl : i = 870 := by omega
      intro s2 hs2; rw [hs2]; exact hp
    · have e : i + 174 < 1044 := Nat.lt_of_not_le fun q => h9 (nI_le (a := 1044) q (by omega))
      refine ⟨q_in e (by decide), q_in (by omega) (by decide), ?_⟩
      intro s2 hs2 w hw
      rw [nI_clamp (by omega), nI_clamp (by omega)] at hs2
      refine ⟨870 - (i + 1), by omega, i + 1, by omega, rfl, by rw [hw, nI_1], ?_⟩
      rw [hs2, ← dropF_s]; rfl
/-- the class with one more saved state; n are saved -/
def saveC (σ : CS) (n : Nat) : CS := if n = 6 then cs_saved (cs_rows σ (cpyF (dropF (c_rows σ) 870) (c_row σ) 870 0 174)) (nI 6) else cs_saved (cs_rows σ (cpyF (c_rows σ) (c_row σ) (n * 174) 0 174)) (nI (n + 1))
theorem w_save {σ : CS} (n : Nat) (hn : n ≤ 6) (hs : c_saved σ = nI n) {post : CS → Prop} (hp : post (saveC σ n)) : wp_X0_save σ post := by
  refine ⟨fun h9 => ?_, fun h9 => ?_⟩
  · have h6 : n ≠ 6 := fun e => h9 (by rw [hs, e]; rfl)
    unfold saveC at hp
    rw [if_neg h6] at hp
    refine w_copyTo_r (n * 174) ?_ (by omega) ?_
    · rw [hs]; exact pk_mul n 174
    · intro s2 hs2
      have e : s2 = cs_saved (cs_rows σ (cpyF (c_rows σ) (c_row σ) (n * 174) 0 174)) (c_saved σ + 1) := hs2
      rw [hs, nI_1] at e
      rw [e]; exact hp
  · have h6 : n = 6 := (nI_eq (b := 6) (by omega) (by decide)).mp (by rw [← hs, h9]; rfl)
    unfold saveC at hp
    rw [if_pos h6] at hp
    refine w_dropOldest ?_
    have e5 : c_saved (cs_saved (cs_rows σ (dropF (c_rows σ) 870)) (c_saved σ - 1)) = nI 5 := by
      show c_saved σ - 1 = nI 5
      rw [h9]; decide
    refine w_copyTo_r 870 ?_ (by omega) ?_
    · rw [e5]; decide
    · intro s2 hs2
      have e : s2 = cs_saved (cs_rows σ (cpyF (dropF (c_rows σ) 870) (c_row σ) 870 0 174)) (c_saved (cs_saved (cs_rows σ (dropF (c_rows σ) 870)) (c_saved σ - 1)) + 1) := hs2
      rw [e5, nI_1] at e
      rw [e]; exact hp
theorem w_restoreLatest {σ : CS} (n : Nat) (hn : n < 6) (hs : c_saved σ = nI (n + 1)) {post : CS → Prop} (hp : post (cs_row (cs_saved σ (nI n)) (cpyF (c_row σ) (c_rows σ) 0 (n * 174) 174))) : wp_X0_restoreLatest σ post := by
  refine ⟨fun h9 => ?_, fun _ => ?_⟩
  · rw [hs] at h9; exact absurd h9 (nI_nle (by omega) (by omega))
  · intro s1 hs1
    rw [hs, nI_pred] at hs1
    subst hs1
    refine w_copyFrom_r (n * 174) ?_ (by omega) hp
    show nI n * 174 = _
    exact pk_mul n 174
-- the reference
def shiftF (t : Nat → Int32) (i : Nat) : Nat → Int32 := fun j => if 177 ≤ j ∧ j < 177 * i then t (j + 177) else t j
theorem shiftF_s (t : Nat → Int32) (i : Nat) (hi : 1 ≤ i) : cpyF (shiftF t i) (shiftF t i) (177 * i) (177 * (i + 1)) 177 = shiftF t (i + 1) := by
  funext j
  unfold cpyF
  by_cases h : 177 * i ≤ j ∧ j < 177 * i + 177
  · rw [if_pos h]
    unfold shiftF
    rw [if_neg (by omega), if_pos (by omega)]
    congr 1
    omega
  · rw [if_neg h]
    unfold shiftF
    by_cases h2 : 177 ≤ j ∧ j < 177 * i
    · rw [if_pos h2, if_pos (by omega)]
    · rw [if_neg h2, if_neg (by omega)]
