/-! pure part: told by trying; worth, keenest, what a bid would bring, the least bid -/
theorem Bk_div {B : Nat → Nat → Nat} {b s : Nat} : Bk B b s / 2097152 = B b s / 8 := by
  unfold Bk
  have := dgs_le (b := b) (s := s)
  by_cases e : B b s = 0
  · rw [if_pos e, e]
  · rw [if_neg e]
    generalize (6 - b) * 8 ^ (5 - s) = Z at this ⊢
    generalize B b s = Y
    omega
theorem TT_bound {B : Nat → Nat → Nat} (h : ∀ b s, B b s ≤ 793) : ∀ d S, TT B d S ≤ d * 99
  | 0, _ => Nat.zero_le _
  | d + 1, S => by
    rw [Nat.add_mul, Nat.one_mul]
    refine mx_le (Nat.le_trans (TT_bound h d S) (Nat.le_add_right _ _)) 6 (fun b _ => ?_)
    by_cases hc : S.testBit b = true ∧ B b (5 - d) ≠ 0
    · rw [if_pos hc]
      have h1 := TT_bound h d (sw S b)
      have h2 := h b (5 - d)
      omega
    · rw [if_neg hc]; exact Nat.zero_le _
theorem TT_sm {B : Nat → Nat → Nat} (h : ∀ b s, B b s ≤ 793) {d S : Nat} (hd : d ≤ 6) : TT B d S ≤ 594 := by
  have h1 := TT_bound h d S
  have h2 : d * 99 ≤ 6 * 99 := Nat.mul_le_mul_right _ hd
  omega
theorem w_tryFrom {σ : CS} {B : Nat → Nat → Nat} (hB : ∀ b s, B b s ≤ 793) (hk : keysOK (c_keys σ) B) : ∀ d, d ≤ 6 → ∀ S, S < 64 → ∀ post : Int32 → Prop, post (nI (TT B d S)) → wp_X1_tryFrom (d + 1) σ (nI (6 - d)) (nI S) post
  | 0, _, S, hS, post, hp => ⟨fun h => absurd h (by decide), fun _ => hp⟩
  | d + 1, hd, S, hS, post, hp => by
    have ih := w_tryFrom hB hk d (by omega)
    have e1 : nI (6 - (d + 1)) + 1 = nI (6 - d) := by rw [nI_1, show 6 - (d + 1) + 1 = 6 - d by omega]
    have e5 : 6 - (d + 1) = 5 - d := by omega
    refine ⟨fun _ => ?_, fun h => absurd (nI_lt (b := 6) (by omega) (by decide)) h⟩
    rw [e1]
    refine ih S hS _ ?_
    rw [e5]
    have hG : ∀ b, b < 6 → (if S.testBit b = true ∧ B b (5 - d) ≠ 0 then B b (5 - d) / 8 + TT B d (sw S b) else 0) ≤ 1000 := by
      intro b _
      by_cases h : S.testBit b = true ∧ B b (5 - d) ≠ 0
      · rw [if_pos h]
        have := TT_sm hB (d := d) (S := sw S b) (by omega)
        have := hB b (5 - d)
        omega
      · rw [if_neg h]; omega
    have hTS := TT_sm hB (d := d) (S := S) (by omega)
    refine ⟨fun n v3 v4 => ∃ i : Nat, i ≤ 6 ∧ n = 6 - i ∧ v4 = nI i ∧ v3 = nI (mx (TT B d S) (fun b => if S.testBit b = true ∧ B b (5 - d) ≠ 0 then B b (5 - d) / 8 + TT B d (sw S b) else 0) i), ⟨6, 0, Nat.zero_le _, rfl, rfl, rfl⟩, ?_⟩
    rintro n v3 v4 ⟨i, hi, rfl, rfl, rfl⟩
    refine ⟨fun h9 => ?_, fun h9 => ?_⟩
    · have e : i = 6 := Nat.le_antisymm hi ((nI_leI (a := 6) (by omega) (by omega)).mp h9)
      subst e; exact hp
    · have e : i < 6 := Nat.lt_of_not_le fun q => h9 (nI_le (a := 6) q (by omega))
      have hstep : ∀ z : Nat, (if S.testBit i = true ∧ B i (5 - d) ≠ 0 then B i (5 - d) / 8 + TT B d (sw S i) else 0) = z → mx (TT B d S) (fun b => if S.testBit b = true ∧ B b (5 - d) ≠ 0 then B b (5 - d) / 8 + TT B d (sw S b) else 0) (i + 1) = max (mx (TT B d S) (fun b => if S.testBit b = true ∧ B b (5 - d) ≠ 0 then B b (5 - d) / 8 + TT B d (sw S b) else 0) i) z := by
        rintro z rfl; rfl
      have hms := mx_sm (M := 1000) (base := TT B d S) (by omega) hG (n := i) (by omega)
      have hGi := hG i e
      generalize hM : mx (TT B d S) (fun b => if S.testBit b = true ∧ B b (5 - d) ≠ 0 then B b (5 - d) / 8 + TT B d (sw S b) else 0) i = M at hstep hms
      have hskip : (¬ (S.testBit i = true ∧ B i (5 - d) ≠ 0)) → ∀ w : Int32, w = nI i + 1 → ∃ n', n' < 6 - i ∧ ∃ i', i' ≤ 6 ∧ n' = 6 - i' ∧ w = nI i' ∧ nI M = nI (mx (TT B d S) (fun b => if S.testBit b = true ∧ B b (5 - d) ≠ 0 then B b (5 - d) / 8 + TT B d (sw S b) else 0) i') := by
        intro hc w hw
        refine ⟨6 - (i + 1), by omega, i + 1, e, rfl, by rw [hw, nI_1], ?_⟩
        rw [hstep 0 (if_neg hc), Nat.max_eq_left (Nat.zero_le _)]
      refine ⟨fun h => ?_, fun h => ?_⟩
      · refine ⟨fun _ => ⟨fun _ => hskip (fun q => ?_), fun h => absurd lg0 h⟩, fun h => absurd rfl h⟩
        rw [(isIn_eq S hS i e).mp h] at q; exact absurd q.1 (by decide)
      · have hbit : S.testBit i = true := by
          cases hq : S.testBit i
          · exact absurd ((isIn_eq S hS i e).mpr hq) h
          · rfl
        refine ⟨fun h => absurd h (by decide), fun _ => ?_⟩
        refine w_keyIn i (5 - d) e (by omega) ?_
        rw [hk i (5 - d) e (by omega)]
        have hKs := Bk_le hB i (5 - d)
        refine ⟨fun h => hskip (fun q => q.2 ((Bk_0 B i (5 - d)).mp ((lg_lN (by omega)).mp h))), fun h => ?_⟩
        have hk0 : B i (5 - d) ≠ 0 := fun q => h ((lg_lN (by omega)).mpr ((Bk_0 B i (5 - d)).mpr q))
        refine w_setWithout S i hS e ?_
        refine ih (sw S i) (sw_eq S hS i e).2.1 _ ?_
        refine w_worthOf _ (by omega) ?_
        rw [Bk_div]
        intro v hv w hw
        refine ⟨6 - (i + 1), by omega, i + 1, e, rfl, by rw [hw, nI_1], ?_⟩
        rw [hstep _ rfl, if_pos ⟨hbit, hk0⟩, hv, nI_add]
        rw [if_pos ⟨hbit, hk0⟩] at hGi
        generalize B i (5 - d) / 8 + TT B d (sw S i) = Y at hGi ⊢
        by_cases q : M < Y
        · rw [if_pos (nI_lt q (by omega)), Nat.max_eq_right (by omega)]
        · rw [if_neg (nI_nlt (by omega) (by omega)), Nat.max_eq_left (by omega)]
/-- the best without bidder w, or without none -/
def WV (B : Nat → Nat → Nat) (w : Nat) : Nat := if w = 6 then XX B 6 0 else XX B 6 (2 ^ w)
theorem WV_wo (B : Nat → Nat → Nat) (w : Nat) (hw : w ≤ 6) : XX (wo B w) 6 0 = WV B w := by
  unfold WV
  by_cases e : w = 6
  · rw [if_pos e, e]; exact XX_wo6 B 6 0 (Nat.le_refl _)
  · rw [if_neg e]; exact XX_wo B w (by omega)
theorem WV_sm {B : Nat → Nat → Nat} (hB : ∀ b s, B b s ≤ 793) (w : Nat) : WV B w ≤ 4758 := by
  unfold WV
  by_cases e : w = 6
  · rw [if_pos e]; exact XX_sm hB (Nat.le_refl _)
  · rw [if_neg e]; exact XX_sm hB (Nat.le_refl _)
theorem w_worthByTrying {σ : CS} {B : Nat → Nat → Nat} (hB : ∀ b s, B b s ≤ 793) (h81 : B81 B) (hk : keysOK (c_keys σ) B) (w : Nat) (hw : w ≤ 6) {post : Int32 → Prop} (hp : post (nI (WV B w / 8))) : wp_X1_worthByTrying σ (nI w) post := by
  unfold WV at hp
  by_cases e : w = 6
  · rw [if_pos e] at hp
    subst e
    refine w_setWithoutN 63 _ (Or.inr (by decide)) ?_
    refine w_tryFrom hB hk 6 (Nat.le_refl _) 63 (by decide) _ ?_
    rw [TT_XX h81 6 63 0 (Nat.le_refl _) b63]
    exact hp
  · rw [if_neg e] at hp
    have hw6 : w < 6 := by omega
    refine w_setWithout 63 w (by decide) hw6 ?_
    refine w_tryFrom hB hk 6 (Nat.le_refl _) (sw 63 w) (sw63 w hw6) _ ?_
    rw [TT_XX h81 6 (sw 63 w) (2 ^ w) (Nat.le_refl _) (fun c hc => by
      rw [sw_bit, two_bit, (b63 c hc).mpr (Nat.zero_testBit c)]
      by_cases e : w = c
      · rw [decide_eq_true e]; exact ⟨fun h => absurd h (by decide), fun h => absurd h (by decide)⟩
      · rw [decide_eq_false e]; exact ⟨fun _ => rfl, fun _ => rfl⟩)]
    exact hp
theorem BC_81 (r : Nat → Int32) : B81 (BC r) := by
  rw [← BA_none (k := 0) (x := 0)]; exact BA_81 r _ _ _
-- the keenest
def keenF (B : Nat → Nat → Nat) : Nat → Nat
  | 0 => 0
  | i + 1 => if WV B (i + 1) / 8 < WV B (keenF B i) / 8 then i + 1 else keenF B i
theorem keenF_le (B : Nat → Nat → Nat) : ∀ i, keenF B i ≤ i
  | 0 => Nat.le_refl _
  | i + 1 => by
    have := keenF_le B i
    unfold keenF
    by_cases h : WV B (i + 1) / 8 < WV B (keenF B i) / 8
    · rw [if_pos h]; omega
    · rw [if_neg h]; omega
theorem w_worthWV {σ : CS} {B : Nat → Nat → Nat} (hB : ∀ b s, B b s ≤ 793) (H : ShC σ B) (w : Nat) (hw : w ≤ 6) {post : Int32 → Prop} (hp : post (nI (WV B w / 8))) : wp_X1_worthWithout σ (nI w) post := w_worthBut hB H w hw hp
/-- what the class's looks leave of a state -/
def KeyM (σ : CS) (post : CS → Prop) : Prop := ∀ f g, post (cs_most (cs_keys σ f) g)
theorem w_keenest {m : Nat} {σ : CS} (h1 : O1 m (c_row σ)) {post : Int32 → CS → Prop} (hp : KeyM σ (post (nI (keenF (BC (c_row σ)) 5)))) : wp_X4_keenest σ post := by
  refine w_findSharing h1 (fun f g H => ?_)
  have hB := BC_le h1
  have hp := hp f g
  generalize BC (c_row σ) = B at *
  refine ⟨fun n v1 v2 => ∃ i : Nat, i ≤ 5 ∧ n = 5 - i ∧ v2 = nI (i + 1) ∧ v1 = nI (keenF B i), ⟨5, 0, Nat.zero_le _, rfl, rfl, rfl⟩, ?_⟩
  rintro n v1 v2 ⟨i, hi, rfl, rfl, rfl⟩
  refine ⟨fun h9 => ?_, fun h9 => ?_⟩
  · have e : i = 5 := by
      have := (nI_leI (a := 6) (by omega) (by omega)).mp h9
      omega
    subst e; exact hp
  · have e : i < 5 := by
      have : i + 1 < 6 := Nat.lt_of_not_le fun q => h9 (nI_le (a := 6) q (by omega))
      omega
    have hkl := keenF_le B i
    refine w_worthWV hB H (i + 1) (by omega) ?_
    refine w_worthWV hB H (keenF B i) (by omega) ?_
    have a1 := WV_sm hB (i + 1)
    have a2 := WV_sm hB (keenF B i)
    have hst : keenF B (i + 1) = if WV B (i + 1) / 8 < WV B (keenF B i) / 8 then i + 1 else keenF B i := rfl
    refine ⟨fun h => ?_, fun h => ?_⟩
    · have := (nI_leI (by omega) (by omega)).mp h
      rw [if_neg (by omega)] at hst
      intro w hw
      exact ⟨5 - (i + 1), by omega, i + 1, by omega, rfl, by rw [hw, nI_1], by rw [hst]⟩
    · have : ¬ WV B (keenF B i) / 8 ≤ WV B (i + 1) / 8 := fun q => h (nI_le q (by omega))
      rw [if_pos (by omega)] at hst
      intro w hw
      exact ⟨5 - (i + 1), by omega, i + 1, by omega, rfl, by rw [hw, nI_1], by rw [hst]⟩
