/-! pure part: copies, saved states, the snapshot, on both sides -/
theorem w_copyTo_r {σ : CS} {a : Int32} (d : Nat) (h1 : a = nI d) (h : d + 174 ≤ 1044) {post : CS → Prop} (hp : post (cs_rows σ (cpyF (c_rows σ) (c_row σ) d 0 174))) : wp_X2_copyTo_r σ a post := by
  subst h1
  refine ⟨fun m w s => ∃ i : Nat, i ≤ 174 ∧ m = 174 - i ∧ w = nI i ∧ s = cs_rows σ (cpyF (c_rows σ) (c_row σ) d 0 i), ⟨174, 0, Nat.zero_le _, rfl, rfl, ?_⟩, ?_⟩
  · rw [cpyF_0]; rfl
  · rintro m w s ⟨i, hi, rfl, rfl, rfl⟩
    refine ⟨fun h9 => ?_, fun h9 => ?_⟩
    · have e : i = 174 := Nat.le_antisymm hi ((nI_leI (a := 174) (by omega) (by omega)).mp h9)
      subst e; exact hp
    · have e : i < 174 := Nat.lt_of_not_le fun q => h9 (nI_le (a := 174) q (by omega))
      intro v hv
      rw [nI_add] at hv; subst hv
      refine ⟨fun h8 => absurd h8 (nI_pos (by omega)), fun _ => ⟨fun h8 => absurd h8 (nI_ge (b := 1044) (by omega) (by decide)), fun _ => ?_⟩⟩
      refine w_get_ i rfl e ?_
      refine ⟨q_in (by omega) (by decide), ?_⟩
      intro s2 hs2 w hw
      rw [nI_clamp (by omega)] at hs2
      refine ⟨174 - (i + 1), by omega, i + 1, e, rfl, by rw [hw, nI_1], ?_⟩
      rw [hs2, ← cpyF_s, Nat.zero_add]; rfl
theorem w_copyTo_s {σ : CS} {post : CS → Prop} (hp : post (cs_snap σ (cpyF (c_snap σ) (c_row σ) 0 0 174))) : wp_X2_copyTo_s σ 0 post := by
  refine ⟨fun m w s => ∃ i : Nat, i ≤ 174 ∧ m = 174 - i ∧ w = nI i ∧ s = cs_snap σ (cpyF (c_snap σ) (c_row σ) 0 0 i), ⟨174, 0, Nat.zero_le _, rfl, rfl, ?_⟩, ?_⟩
  · rw [cpyF_0]; rfl
  · rintro m w s ⟨i, hi, rfl, rfl, rfl⟩
    refine ⟨fun h9 => ?_, fun h9 => ?_⟩
    · have e : i = 174 := Nat.le_antisymm hi ((nI_leI (a := 174) (by omega) (by omega)).mp h9)
      subst e; exact hp
    · have e : i < 174 := Nat.lt_of_not_le fun q => h9 (nI_le (a := 174) q (by omega))
      intro v hv
      rw [show (0 : Int32) = nI 0 from rfl, nI_add, Nat.zero_add] at hv; subst hv
      refine ⟨fun h8 => absurd h8 (nI_pos (by omega)), fun _ => ⟨fun h8 => absurd h8 (nI_ge (b := 174) (by omega) (by decide)), fun _ => ?_⟩⟩
      refine w_get_ i rfl e ?_
      refine ⟨q_in (by omega) (by decide), ?_⟩
      intro s2 hs2 w hw
      rw [nI_clamp (by omega)] at hs2
      refine ⟨174 - (i + 1), by omega, i + 1, e, rfl, by rw [hw, nI_1], ?_⟩
      rw [hs2, ← cpyF_s, Nat.zero_add]; rfl
theorem w_copyFrom_r {σ : CS} {a : Int32} (d : Nat) (h1 : a = nI d) (h : d + 174 ≤ 1044) {post : CS → Prop} (hp : post (cs_row σ (cpyF (c_row σ) (c_rows σ) 0 d 174))) : wp_X2_copyFrom_r σ a post := by
  subst h1
  refine ⟨fun m w s => ∃ i : Nat, i ≤ 174 ∧ m = 174 - i ∧ w = nI i ∧ s = cs_row σ (cpyF (c_row σ) (c_rows σ) 0 d i), ⟨174, 0, Nat.zero_le _, rfl, rfl, ?_⟩, ?_⟩
  · rw [cpyF_0]; rfl
  · rintro m w s ⟨i, hi, rfl, rfl, rfl⟩
    refine ⟨fun h9 => ?_, fun h9 => ?_⟩
    · have e : i = 174 := Nat.le_antisymm hi ((nI_leI (a := 174) (by omega) (by omega)).mp h9)
      subst e; exact hp
    · have e : i < 174 := Nat.lt_of_not_le fun q => h9 (nI_le (a := 174) q (by omega))
      intro v hv
      rw [nI_add] at hv; subst hv
      refine ⟨fun h8 => absurd h8 (nI_pos (by omega)), fun _ => ⟨fun h8 => absurd h8 (nI_ge (b := 1044) (by omega) (by decide)), fun _ => ⟨q_in (by omega) (by decide), ?_⟩⟩⟩
      rw [nI_clamp (by omega)]
      refine w_put i 0 rfl rfl (by omega) ?_
      intro w hw
      refine ⟨174 - (i + 1), by omega, i + 1, e, rfl, by rw [hw, nI_1], ?_⟩
      rw [← cpyF_s, Nat.zero_add]; rfl
theorem w_copyFrom_s {σ : CS} {post : CS → Prop} (hp : post (cs_row σ (cpyF (c_row σ) (c_snap σ) 0 0 174))) : wp_X2_copyFrom_s σ 0 post := by
  refine ⟨fun m w s => ∃ i : Nat, i ≤ 174 ∧ m = 174 - i ∧ w = nI i ∧ s = cs_row σ (cpyF (c_row σ) (c_snap σ) 0 0 i), ⟨174, 0, Nat.zero_le _, rfl, rfl, ?_⟩, ?_⟩
  · rw [cpyF_0]; rfl
  · rintro m w s ⟨i, hi, rfl, rfl, rfl⟩
    refine ⟨fun h9 => ?_, fun h9 => ?_⟩
    · have e : i = 174 := Nat.le_antisymm hi ((nI_leI (a := 174) (by omega) (by omega)).mp h9)
      subst e; exact hp
    · have e : i < 174 := Nat.lt_of_not_le fun q => h9 (nI_le (a := 174) q (by omega))
      intro v hv
      rw [show (0 : Int32) = nI 0 from rfl, nI_add, Nat.zero_add] at hv; subst hv
      refine ⟨fun h8 => absurd h8 (nI_pos (by omega)), fun _ => ⟨fun h8 => absurd h8 (nI_ge (b := 174) (by omega) (by decide)), fun _ => ⟨q_in (by omega) (by decide), ?_⟩⟩⟩
      rw [nI_clamp (by omega)]
      refine w_put i 0 rfl rfl (by omega) ?_
      intro w hw
      refine ⟨174 - (i + 1), by omega, i + 1, e, rfl, by rw [hw, nI_1], ?_⟩
      rw [← cpyF_s, Nat.zero_add]; rfl
/-- the rows, the oldest dropped, n places of it moved -/
def dropF (f : Nat → Int32) (n : Nat) : Nat → Int32 := fun j => if j < n then f (j + 174) else f j
theorem dropF_s (f : Nat → Int32) (n : Nat) : upd (dropF f n) n (dropF f n (n + 174)) = dropF f (n + 1) := by
  have e : dropF f n (n + 174) = f (n + 174) := if_neg (by omega)
  rw [e]
  funext j; unfold dropF upd; dsimp only
  by_cases h : j = n
  · subst h; rw [if_pos rfl, if_pos (by omega)]
  · rw [if_neg h]
    by_cases h2 : j < n
    · rw [if_pos h2, if_pos (by omega)]
    · rw [if_neg h2, if_neg (by omega)]
theorem w_dropOldest {σ : CS} {post : CS → Prop} (hp : post (cs_saved (cs_rows σ (dropF (c_rows σ) 870)) (c_saved σ - 1))) : wp_X0_dropOldest σ post := by
  refine ⟨fun m w s => ∃ i : Nat, i ≤ 870 ∧ m = 870 - i ∧ w = nI i ∧ s = cs_rows σ (dropF (c_rows σ) i), ⟨870, 0, Nat.zero_le _, rfl, rfl, ?_⟩, ?_⟩
  · rw [show dropF (c_rows σ) 0 = c_rows σ from funext fun j => if_neg (Nat.not_lt_zero j)]; rfl
  · rintro m w s ⟨i, hi, rfl, rfl, rfl⟩
    have e174 : nI i + 174 = nI (i + 174) := nI_add i 174
    rw [e174]
    refine ⟨fun h9 => ?_, fun h9 => ?_⟩
    · have e : i + 174 = 1044 := Nat.le_antisymm (by omega) ((nI_leI (a := 1044) (by omega) (by omega)).mp h9)
      obtain rfl : i = 870 := by omega
      intro s2 hs2; rw [hs2]; exact hp
    · have e : i + 174 < 1044 := Nat.lt_of_not_le fun q => h9 (nI_le (a := 1044) q (by omega))
      refine ⟨q_in e (by decide), q_in (by omega) (by decide), ?_⟩
      intro s2 hs2 w hw
      rw [nI_clamp (by omega), nI_clamp (by omega)] at hs2
      refine ⟨870 - (i + 1), by omega, i + 1, by omega, rfl, by rw [hw, nI_1], ?_⟩
      rw [hs2, ← dropF_s]; rfl
/-- the class with one more saved state; n are saved -/
def saveC (σ : CS) (n : Nat) : CS := if n = 6 then cs_saved (cs_rows σ (cpyF (dropF (c_rows σ) 870) (c_row σ) 870 0 174)) (nI 6) else cs_saved (cs_rows σ (cpyF (c_rows σ) (c_row σ) (n * 174) 0 174)) (nI (n + 1))
theorem w_save {σ : CS} (n : Nat) (hn : n ≤ 6) (hs : c_saved σ = nI n) {post : CS → Prop} (hp : post (saveC σ n)) : wp_X0_save σ post := by
  refine ⟨fun h9 => ?_, fun h9 => ?_⟩
  · have h6 : n ≠ 6 := fun e => h9 (by rw [hs, e]; rfl)
    unfold saveC at hp
    rw [if_neg h6] at hp
    refine w_copyTo_r (n * 174) ?_ (by omega) ?_
    · rw [hs]; exact pk_mul n 174
    · intro s2 hs2
      have e : s2 = cs_saved (cs_rows σ (cpyF (c_rows σ) (c_row σ) (n * 174) 0 174)) (c_saved σ + 1) := hs2
      rw [hs, nI_1] at e
      rw [e]; exact hp
  · have h6 : n = 6 := (nI_eq (b := 6) (by omega) (by decide)).mp (by rw [← hs, h9]; rfl)
    unfold saveC at hp
    rw [if_pos h6] at hp
    refine w_dropOldest ?_
    have e5 : c_saved (cs_saved (cs_rows σ (dropF (c_rows σ) 870)) (c_saved σ - 1)) = nI 5 := by
      show c_saved σ - 1 = nI 5
      rw [h9]; decide
    refine w_copyTo_r 870 ?_ (by omega) ?_
    · rw [e5]; decide
    · intro s2 hs2
      have e : s2 = cs_saved (cs_rows σ (cpyF (dropF (c_rows σ) 870) (c_row σ) 870 0 174)) (c_saved (cs_saved (cs_rows σ (dropF (c_rows σ) 870)) (c_saved σ - 1)) + 1) := hs2
      rw [e5, nI_1] at e
      rw [e]; exact hp
theorem w_restoreLatest {σ : CS} (n : Nat) (hn : n < 6) (hs : c_saved σ = nI (n + 1)) {post : CS → Prop} (hp : post (cs_row (cs_saved σ (nI n)) (cpyF (c_row σ) (c_rows σ) 0 (n * 174) 174))) : wp_X0_restoreLatest σ post := by
  refine ⟨fun h9 => ?_, fun _ => ?_⟩
  · rw [hs] at h9; exact absurd h9 (nI_nle (by omega) (by omega))
  · intro s1 hs1
    rw [hs, nI_pred] at hs1
    subst hs1
    refine w_copyFrom_r (n * 174) ?_ (by omega) hp
    show nI n * 174 = _
    exact pk_mul n 174
-- the reference
theorem m_copies {μ : MS} {a b : Int32} (p q : Nat) (h1 : a = nI p) (h2 : b = nI q) (hp : p < 8) (hq : q < 8) (hne : p ≠ q) {post : MS → Prop} (hpost : post (ms_s μ (cpyF (m_s μ) (m_s μ) (177 * q) (177 * p) 177))) : wp_X5_copies μ a b post := by
  subst h1; subst h2
  refine ⟨fun m w s => ∃ i : Nat, i ≤ 177 ∧ m = 177 - i ∧ w = nI i ∧ s = ms_s μ (cpyF (m_s μ) (m_s μ) (177 * q) (177 * p) i), ⟨177, 0, Nat.zero_le _, rfl, rfl, ?_⟩, ?_⟩
  · rw [cpyF_0]; rfl
  · rintro m w s ⟨i, hi, rfl, rfl, rfl⟩
    have e1 : ∀ k : Nat, (177 : Int32) * nI k + nI i = nI (177 * k + i) := fun k => by rw [show (177 : Int32) = nI 177 from rfl, pk_mul, nI_add]
    rw [e1, e1]
    refine ⟨fun h9 => ?_, fun h9 => ?_⟩
    · have e : i = 177 := Nat.le_antisymm hi ((nI_leI (a := 177) (by omega) (by omega)).mp h9)
      subst e; exact hpost
    · have e : i < 177 := Nat.lt_of_not_le fun q => h9 (nI_le (a := 177) q (by omega))
      refine ⟨q_in (by omega) (by decide), q_in (by omega) (by decide), ?_⟩
      intro s2 hs2 w hw
      rw [nI_clamp (by omega), nI_clamp (by omega)] at hs2
      refine ⟨177 - (i + 1), by omega, i + 1, e, rfl, by rw [hw, nI_1], ?_⟩
      rw [hs2, ← cpyF_s]
      have e3 : cpyF (m_s μ) (m_s μ) (177 * q) (177 * p) i (177 * p + i) = m_s μ (177 * p + i) := cpyF_out (by omega)
      show ms_s μ (upd (cpyF (m_s μ) (m_s μ) (177 * q) (177 * p) i) (177 * q + i) (cpyF (m_s μ) (m_s μ) (177 * q) (177 * p) i (177 * p + i))) = _
      rw [e3]
def shiftF (t : Nat → Int32) (i : Nat) : Nat → Int32 := fun j => if 177 ≤ j ∧ j < 177 * i then t (j + 177) else t j
theorem shiftF_s (t : Nat → Int32) (i : Nat) (hi : 1 ≤ i) : cpyF (shiftF t i) (shiftF t i) (177 * i) (177 * (i + 1)) 177 = shiftF t (i + 1) := by
  funext j
  unfold cpyF
  by_cases h : 177 * i ≤ j ∧ j < 177 * i + 177
  · rw [if_pos h]
    unfold shiftF
    rw [if_neg (by omega), if_pos (by omega)]
    congr 1
    omega
  · rw [if_neg h]
    unfold shiftF
    by_cases h2 : 177 ≤ j ∧ j < 177 * i
    · rw [if_pos h2, if_pos (by omega)]
    · rw [if_neg h2, if_neg (by omega)]
/-- the reference with one more saved state -/
def saveM (μ : MS) (n : Nat) : MS := if n = 6 then ms_s (ms_saved μ (nI 6)) (cpyF (shiftF (m_s μ) 6) (shiftF (m_s μ) 6) (177 * 6) 0 177) else ms_s (ms_saved μ (nI (n + 1))) (cpyF (m_s μ) (m_s μ) (177 * (n + 1)) 0 177)
theorem m_save {μ : MS} (n : Nat) (hn : n ≤ 6) (hs : m_saved μ = nI n) {post : MS → Prop} (hp : post (saveM μ n)) : wp_X5_save μ post := by
  by_cases h6 : n = 6
  · subst h6
    refine ⟨fun m w s => ∃ i : Nat, 1 ≤ i ∧ i ≤ 6 ∧ m = 6 - i ∧ w = nI i ∧ s = ms_s μ (shiftF (m_s μ) i), ⟨5, 1, Nat.le_refl _, by decide, rfl, rfl, ?_⟩, ?_⟩
    · rw [show shiftF (m_s μ) 1 = m_s μ from funext fun j => if_neg (by omega)]; rfl
    · rintro m w s ⟨i, h1, hi, rfl, rfl, rfl⟩
      have es : m_saved (ms_s μ (shiftF (m_s μ) i)) = 6 := hs
      refine ⟨fun h9 => ?_, fun h9 => ?_⟩
      · have e : i = 6 := Nat.le_antisymm hi ((nI_leI (a := 6) (by omega) (by omega)).mp h9)
        subst e
        refine ⟨fun _ => ?_, fun h8 => absurd (by rw [es]; decide) h8⟩
        intro s2 hs2
        have e2 : s2 = ms_saved (ms_s μ (shiftF (m_s μ) 6)) (nI 6) := by rw [hs2, es]; rfl
        rw [e2]
        refine m_copies 0 6 rfl rfl (by decide) (by decide) (by decide) ?_
        exact hp
      · have e : i < 6 := Nat.lt_of_not_le fun q => h9 (nI_le (a := 6) q (by omega))
        refine ⟨fun h8 => absurd es h8, fun _ => ?_⟩
        refine m_copies (i + 1) i (nI_1 i) rfl (by omega) (by omega) (by omega) ?_
        intro w hw
        refine ⟨6 - (i + 1), by omega, i + 1, by omega, e, rfl, by rw [hw, nI_1], ?_⟩
        rw [← shiftF_s _ _ h1]; rfl
  · have hlt : n < 6 := by omega
    unfold saveM at hp
    rw [if_neg h6] at hp
    have hc : ∀ post' : MS → Prop, post' = post → ((6 ≤ m_saved μ → ∀ σ_2 : MS, σ_2 = ms_saved μ (m_saved μ + 0) → wp_X5_copies σ_2 0 (m_saved σ_2) (fun σ_3 => post' σ_3)) ∧ (¬ 6 ≤ m_saved μ → ∀ σ_4 : MS, σ_4 = ms_saved μ (m_saved μ + 1) → wp_X5_copies σ_4 0 (m_saved σ_4) (fun σ_5 => post' σ_5))) := by
      rintro post' rfl
      refine ⟨fun h8 => absurd h8 (by rw [hs]; exact nI_ge (b := 6) hlt (by decide)), fun _ => ?_⟩
      intro s2 hs2
      rw [hs, nI_1] at hs2
      subst hs2
      refine m_copies 0 (n + 1) rfl rfl (by decide) (by omega) (by omega) ?_
      exact hp
    refine ⟨fun m w s => ∃ i : Nat, 1 ≤ i ∧ i ≤ 6 ∧ m = 6 - i ∧ w = nI i ∧ s = μ, ⟨5, 1, Nat.le_refl _, by decide, rfl, rfl, rfl⟩, ?_⟩
    rintro m w s ⟨i, h1, hi, rfl, rfl, rfl⟩
    refine ⟨fun _ => hc _ rfl, fun _ => ⟨fun _ => hc _ rfl, fun h8 => absurd ((nI_eq (b := 6) (by omega) (by decide)).mp (by rw [← hs, h8]; rfl)) h6⟩⟩
