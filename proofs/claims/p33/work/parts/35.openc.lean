/-! pure part: who gets a spot and what it pays, in the class -/
theorem lN_shr {a d : Nat} {D : Int64} (hD : (D.toBitVec.smod 64).toNat = d) (h : a < 9223372036854775808) : lN a >>> D = lN (a / 2 ^ d) := by
  have hd : a / 2 ^ d ≤ a := Nat.div_le_self _ _
  refine Int64.toInt_inj.mp ?_
  have e : (lN a >>> D).toInt = (lN a).toInt >>> d := by
    rw [← hD]
    exact BitVec.toInt_sshiftRight ..
  rw [e, Int.shiftRight_eq_div_pow, pk_lT h, pk_lT (by omega)]
  rfl
theorem w_worthOf (n : Nat) (h : n < 9223372036854775808) {post : Int32 → Prop} (hp : post (nI (n / 2097152))) : wp_X1_worthOf (lN n) post := by
  unfold wp_X1_worthOf
  rw [lN_shr (d := 21) (by decide) h, lN_i]
  exact hp
/-- the class's Sharing, when all spots are looked at -/
def ShC (σ : CS) (B : Nat → Nat → Nat) : Prop := (∀ b s, b < 6 → s < 6 → c_keys σ (b * 6 + s) = lN (Bk B b s)) ∧ ∀ S, S < 64 → c_most σ S = lN (FF (Bk B) 6 S)
theorem b63 : ∀ c, c < 6 → ((63 : Nat).testBit c = true ↔ (0 : Nat).testBit c = false) := by decide
theorem FF_all (B : Nat → Nat → Nat) : FF (Bk B) 6 63 = XX (Bk B) 6 0 := FF_XX (Bk B) 63 0 b63
theorem FF_but (B : Nat → Nat → Nat) (w : Nat) (hw : w < 6) : FF (Bk B) 6 (sw 63 w) = XX (Bk B) 6 (2 ^ w) := by
  refine FF_XX (Bk B) (sw 63 w) (2 ^ w) (fun c hc => ?_)
  rw [sw_bit, two_bit, (b63 c hc).mpr (Nat.zero_testBit c)]
  by_cases e : w = c
  · rw [decide_eq_true e]; exact ⟨fun h => absurd h (by decide), fun h => absurd h (by decide)⟩
  · rw [decide_eq_false e]; exact ⟨fun _ => rfl, fun _ => rfl⟩
theorem sw63 (w : Nat) (hw : w < 6) : sw 63 w < 64 := (sw_eq 63 (by decide) w hw).2.1
theorem dgs_le {b s : Nat} : (6 - b) * 8 ^ (5 - s) ≤ 6 * 32768 := Nat.mul_le_mul (Nat.sub_le _ _) (Nat.pow_le_pow_right (by decide) (Nat.sub_le _ _))
theorem Bk_le {B : Nat → Nat → Nat} (h : ∀ b s, B b s ≤ 793) : BIG (Bk B) := by
  intro b s
  unfold Bk
  by_cases e : B b s = 0
  · rw [if_pos e]; exact Nat.zero_le _
  · rw [if_neg e]
    have h1 := h b s
    have h2 := dgs_le (b := b) (s := s)
    generalize (6 - b) * 8 ^ (5 - s) = Z at h2 ⊢
    omega
theorem XXBk_sm {B : Nat → Nat → Nat} (h : ∀ b s, B b s ≤ 793) (t : Nat) : XX (Bk B) 6 t < 2147483648 := Nat.lt_of_le_of_lt (XX_bound (Bk_le h) 6 t) (by decide)
theorem neg1_ne {b : Nat} (hb : b < 6) : nI b ≠ -1 := nI_m1 (by omega)
theorem w_keyAll {σ : CS} {B : Nat → Nat → Nat} (H : ShC σ B) {post : Int64 → Prop} (hp : post (lN (XX (Bk B) 6 0))) : wp_X1_keyWithout σ (-1) post := by
  refine w_setWithoutN 63 (-1) (Or.inl (by decide)) ?_
  refine w_mostOf 63 (by decide) ?_
  rw [H.2 63 (by decide), FF_all]
  exact hp
theorem w_keyBut {σ : CS} {B : Nat → Nat → Nat} (H : ShC σ B) (w : Nat) (hw : w ≤ 6) {post : Int64 → Prop} (hp : post (lN (if w = 6 then XX (Bk B) 6 0 else XX (Bk B) 6 (2 ^ w)))) : wp_X1_keyWithout σ (nI w) post := by
  by_cases e : w = 6
  · rw [if_pos e] at hp
    subst e
    refine w_setWithoutN 63 _ (Or.inr (by decide)) ?_
    refine w_mostOf 63 (by decide) ?_
    rw [H.2 63 (by decide), FF_all]
    exact hp
  · rw [if_neg e] at hp
    refine w_setWithout 63 w (by decide) (by omega) ?_
    refine w_mostOf _ (sw63 w (by omega)) ?_
    rw [H.2 _ (sw63 w (by omega)), FF_but B w (by omega)]
    exact hp
theorem w_worthAll {σ : CS} {B : Nat → Nat → Nat} (hB : ∀ b s, B b s ≤ 793) (H : ShC σ B) {post : Int32 → Prop} (hp : post (nI (XX B 6 0 / 8))) : wp_X1_worthWithout σ (-1) post := by
  refine w_keyAll H ?_
  have := XXBk_sm hB 0
  refine w_worthOf _ (by omega) ?_
  rw [XX_Bk_div]
  exact hp
theorem w_worthBut {σ : CS} {B : Nat → Nat → Nat} (hB : ∀ b s, B b s ≤ 793) (H : ShC σ B) (w : Nat) (hw : w ≤ 6) {post : Int32 → Prop} (hp : post (nI ((if w = 6 then XX B 6 0 else XX B 6 (2 ^ w)) / 8))) : wp_X1_worthWithout σ (nI w) post := by
  refine w_keyBut H w hw ?_
  by_cases e : w = 6
  · rw [if_pos e] at hp ⊢
    have := XXBk_sm hB 0
    refine w_worthOf _ (by omega) ?_
    rw [XX_Bk_div]
    exact hp
  · rw [if_neg e] at hp ⊢
    have := XXBk_sm hB (2 ^ w)
    refine w_worthOf _ (by omega) ?_
    rw [XX_Bk_div]
    exact hp
theorem dsh : ∀ s, s < 6 → (((3 * (5 - nI s) : Int32).toInt64 &&& 63).toBitVec.smod 64).toNat = 3 * (5 - s) := by decide +kernel
theorem p8 (k : Nat) : 2 ^ (3 * k) = 8 ^ k := by rw [Nat.pow_mul]
theorem w_ownerOf {σ : CS} {B : Nat → Nat → Nat} (hB : ∀ b s, B b s ≤ 793) (H : ShC σ B) (s : Nat) (hs : s < 6) {post : Int32 → Prop} (hp : post (ownV B s)) : wp_X1_ownerOf σ (nI s) post := by
  refine w_keyAll H ?_
  unfold wp_X1_digitShift
  dsimp only
  intro v hv
  have h0 := XXBk_sm hB 0
  have hd := own_digit B s hs
  have hO := own_le B s
  unfold ownV at hp
  generalize XX (Bk B) 6 0 = N at *
  generalize own B s = O at *
  rw [lN_shr (dsh s hs) (by omega), p8, lN_i] at hv
  have hN : N / 8 ^ (5 - s) < 2 ^ 32 := Nat.lt_of_le_of_lt (Nat.div_le_self _ _) (by omega)
  rw [pk_andN hN 3 (by decide), show (2 ^ 3 : Nat) = 8 from rfl, hd] at hv
  subst hv
  refine ⟨fun h => ?_, fun h => ?_⟩
  · have e : O ≠ 6 := fun q => h (by rw [q]; rfl)
    rw [if_neg e] at hp
    have e2 : (6 : Int32) - nI (6 - O) = nI O := by
      have : ∀ o, o ≤ 6 → (6 : Int32) - nI (6 - o) = nI o := by decide
      exact this O hO
    rw [e2]; exact hp
  · have e : O = 6 := by
      have := (nI_eq (a := 6 - O) (b := 0) (by omega) (by decide)).mp h
      omega
    rw [if_pos e] at hp
    exact hp
theorem i_ring (p w a b : Int32) : (p + w) - (a - b) = ((p + w) - a) + b := by
  rw [Int32.sub_eq_add_neg, Int32.neg_sub, Int32.sub_eq_add_neg, Int32.sub_eq_add_neg, Int32.add_assoc (p + w), Int32.add_comm b]
theorem w_priceOf {σ : CS} {B : Nat → Nat → Nat} (hB : ∀ b s, B b s ≤ 793) (H : ShC σ B) (s : Nat) (hs : s < 6) {post : Int32 → Prop} (hp : post (dueV (c_row σ) B s)) : wp_X1_priceOf σ (nI s) post := by
  refine w_ownerOf hB H s hs ?_
  have hO := own_le B s
  unfold dueV at hp
  unfold ownV
  by_cases e : own B s = 6
  · rw [if_pos e] at hp ⊢
    exact ⟨fun h => absurd rfl h, fun _ => hp⟩
  · rw [if_neg e] at hp ⊢
    have hO6 : own B s < 6 := by omega
    refine ⟨fun _ => ?_, fun h => absurd h (neg1_ne hO6)⟩
    refine w_worthAll hB H ?_
    refine w_keyIn (own B s) s hO6 hs ?_
    rw [H.1 _ _ hO6 hs]
    have hk := Bk_le hB (own B s) s
    refine w_worthOf _ (by omega) ?_
    intro v hv
    refine w_get 0 s rfl rfl (by omega) ?_
    rw [Nat.zero_add]
    refine w_worthBut hB H (own B s) (by omega) ?_
    rw [if_neg e, hv]
    have e2 : Bk B (own B s) s / 2097152 = B (own B s) s / 8 := by
      unfold Bk
      rw [if_neg (own_lt hs hO6).2]
      have := dgs_le (b := own B s) (s := s)
      generalize (6 - own B s) * 8 ^ (5 - s) = Z at this ⊢
      generalize B (own B s) s = Y
      omega
    rw [e2, i_ring]
    exact hp
theorem w_spotOf {σ : CS} {B : Nat → Nat → Nat} (hB : ∀ b s, B b s ≤ 793) (H : ShC σ B) (v : Int32) {post : Int32 → Prop} (hp : post (findF (ownV B) v 6 0)) : wp_X1_spotOf σ v post := by
  refine ⟨fun m w => ∃ i : Nat, i ≤ 6 ∧ m = 6 - i ∧ w = nI i ∧ findF (ownV B) v 6 0 = findF (ownV B) v (6 - i) i, ⟨6, 0, Nat.zero_le _, rfl, rfl, rfl⟩, ?_⟩
  rintro m w ⟨i, hi, rfl, rfl, hq⟩
  refine ⟨fun h9 => ?_, fun h9 => ?_⟩
  · have e : i = 6 := Nat.le_antisymm hi ((nI_leI (a := 6) (by omega) (by omega)).mp h9)
    subst e; rw [hq] at hp; exact hp
  · have e : i < 6 := Nat.lt_of_not_le fun q => h9 (nI_le (a := 6) q (by omega))
    rw [show 6 - i = (6 - (i + 1)) + 1 by omega] at hq
    refine w_ownerOf hB H i e ?_
    refine ⟨fun h0 => ?_, fun h0 => ?_⟩
    · intro w hw
      refine ⟨6 - (i + 1), by omega, i + 1, e, rfl, by rw [hw, nI_1], ?_⟩
      rw [hq, findF, if_neg h0]
    · rw [hq, findF, if_pos h0] at hp; exact hp
theorem BC_le {m : Nat} {r : Nat → Int32} (h1 : O1 m r) : ∀ b s, BC r b s ≤ 793 := fun b s => by
  rw [← BA_none (k := 0) (x := 0)]
  exact BA_le h1 (by decide) b s
theorem spot_ne {s : Nat} (hs : s < 6) : ¬ nI s = -1 := neg1_ne hs
theorem w_findAll {σ : CS} {B : Nat → Nat → Nat} (hB : ∀ b s, B b s ≤ 793) (hk : keysOK (c_keys σ) B) {post : CS → Prop} (hp : ∀ g, ShC (cs_most σ g) B → post (cs_most σ g)) : wp_X1_find σ (-1) post :=
  w_find (Bk_le hB) (fun b s hb hs _ => hk b s hb hs) (fun b s _ hs h => absurd h (spot_ne hs)) (fun g hg => hp g ⟨hk, hg⟩)
theorem w_findSharing {m : Nat} {σ : CS} (h1 : O1 m (c_row σ)) {post : CS → Prop} (hp : ∀ f g, ShC (cs_most (cs_keys σ f) g) (BC (c_row σ)) → post (cs_most (cs_keys σ f) g)) : wp_X4_findSharing σ post := by
  refine w_readBids h1 (fun f hf => ?_)
  exact w_findAll (σ := cs_keys σ f) (BC_le h1) hf (fun g hg => hp f g hg)
theorem ShC.row {σ : CS} {B : Nat → Nat → Nat} (H : ShC σ B) (r : Nat → Int32) : ShC (cs_row σ r) B := H
