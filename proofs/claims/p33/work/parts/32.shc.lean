/-! pure part: the class's Sharing does what 30 says -/
theorem FF_bound {K : Nat → Nat → Nat} {M : Nat} (h : ∀ b s, K b s ≤ M) : ∀ j S, FF K j S ≤ j * M
  | 0, _ => Nat.zero_le _
  | j + 1, S => by
    rw [Nat.add_mul, Nat.one_mul]
    refine mx_le (Nat.le_trans (FF_bound h j S) (Nat.le_add_right _ _)) 6 (fun b _ => ?_)
    by_cases hc : S.testBit b = true ∧ K b j ≠ 0
    · rw [if_pos hc]
      exact Nat.add_le_add (FF_bound h j _) (h b j)
    · rw [if_neg hc]; exact Nat.zero_le _
theorem FF_skip {K : Nat → Nat → Nat} {j : Nat} (h : ∀ b, b < 6 → K b j = 0) (S : Nat) : FF K (j + 1) S = FF K j S := by
  refine Nat.le_antisymm (mx_le (Nat.le_refl _) 6 (fun b hb => ?_)) (mx_base _ _ 6)
  rw [if_neg (fun q => q.2 (h b hb))]; exact Nat.zero_le _
theorem FF_congr {K L : Nat → Nat → Nat} : ∀ j S, (∀ b s, b < 6 → s < j → K b s = L b s) → FF K j S = FF L j S
  | 0, _, _ => rfl
  | j + 1, S, h => by
    refine mx_congr (FF_congr j S (fun b s hb hs => h b s hb (by omega))) 6 (fun b hb => ?_)
    rw [h b j hb (by omega), FF_congr j (sw S b) (fun b s hb hs => h b s hb (by omega))]
/-- what a bid brings: 8 times its worth and 1; 0 for none that counts -/
def brg (x p u : Int32) : Nat := if x = 0 then 0 else if x < p then 0 else if x ≤ u then 8 * (x.toInt - p.toInt).toNat + 1 else 0
def keyN (n b s : Nat) : Nat := if n = 0 then 0 else n * 262144 + (6 - b) * 8 ^ (5 - s)
theorem keyN_Bk (B : Nat → Nat → Nat) (b s : Nat) : keyN (B b s) b s = Bk B b s := rfl
theorem sh21 : ∀ w, w < 100 → (nI w).toInt64 <<< ((21 : Int32).toInt64 &&& 63) = lN (w * 2097152) := by decide +kernel
theorem shdg : ∀ b, b < 6 → ∀ s, s < 6 → (6 - nI b : Int32).toInt64 <<< ((3 * (5 - nI s) : Int32).toInt64 &&& 63) = lN ((6 - b) * 8 ^ (5 - s)) := by decide +kernel
theorem isIn_eq : ∀ S, S < 64 → ∀ b, b < 6 → (((nI S >>> (nI b &&& 31)) &&& 1) = 0 ↔ S.testBit b = false) := by decide +kernel
theorem sw_eq : ∀ S, S < 64 → ∀ b, b < 6 → (nI S &&& (((1 : Int32) <<< (nI b &&& 31)) ^^^ (-1))) = nI (sw S b) ∧ sw S b < 64 ∧ (S.testBit b = true → sw S b < S) := by decide +kernel
theorem lg0 : lg_cmp 0 0 = 0 := by decide
theorem lg_lN {n : Nat} (h : n < 2147483648) : lg_cmp (lN n) 0 = 0 ↔ n = 0 := by
  have e : (0 : Int64) = lN 0 := rfl
  unfold lg_cmp
  rw [e]
  by_cases q : n = 0
  · subst q
    rw [if_neg (by rw [gt_iff_lt, lN_lt (by omega) (by omega)]; omega), if_pos rfl]
    exact ⟨fun _ => rfl, fun _ => rfl⟩
  · rw [if_pos (by rw [gt_iff_lt, lN_lt (by omega) (by omega)]; omega)]
    exact ⟨fun h => absurd h (by decide), fun h => absurd h q⟩
theorem w_keyOf {m : Nat} {σ : CS} (b s : Nat) (x : Int32) (hb : b < 6) (hs : s < 6) (h1 : O1 m (c_row σ)) (hx0 : 0 ≤ x.toInt) (hx : x.toInt ≤ 99) {post : Int64 → Prop} (hp : post (lN (keyN (brg x (c_row σ s) (c_row σ (30 + b))) b s))) : wp_X1_keyOf σ (nI b) (nI s) x post := by
  have hpr := h1.price hs
  refine w_get 0 s rfl rfl (by omega) ?_
  rw [Nat.zero_add]
  intro v hv
  have hvt : v.toInt = x.toInt - (c_row σ s).toInt := by rw [hv]; exact tI_sub (by omega) (by omega)
  have e0 : (0 : Int32).toInt = 0 := tI0
  unfold brg at hp
  refine ⟨fun h => ?_, fun h => ?_⟩
  · rw [if_pos h] at hp; exact hp
  · rw [if_neg h] at hp
    refine ⟨fun h2 => ?_, fun h2 => ?_⟩
    · rw [if_pos (by rw [tI_lt] at h2 ⊢; omega)] at hp; exact hp
    · rw [if_neg (by rw [tI_lt] at h2 ⊢; omega)] at hp
      refine w_get 30 b rfl rfl (by omega) ?_
      refine ⟨fun h3 => ?_, fun h3 => ?_⟩
      · rw [if_pos h3] at hp
        show wp_X1_digitShift (nI s) _
        unfold wp_X1_digitShift
        intro v5 hv5
        have hw : (x.toInt - (c_row σ s).toInt).toNat < 100 := by omega
        have ev : v = nI (x.toInt - (c_row σ s).toInt).toNat := by
          rw [tI_lt] at h2
          rw [← hvt]
          exact tI_of (by omega)
        generalize (x.toInt - (c_row σ s).toInt).toNat = w at hw ev hp
        rw [hv5, ev, sh21 w hw, shdg b hb s hs, show (262144 : Int64) = lN 262144 from rfl, lN_add, lN_add]
        unfold keyN at hp
        rw [if_neg (by omega)] at hp
        generalize (6 - b) * 8 ^ (5 - s) = Z at hp ⊢
        have e : (8 * w + 1) * 262144 + Z = w * 2097152 + 262144 + Z := by omega
        rw [e] at hp
        exact hp
      · rw [if_neg h3] at hp; exact hp
theorem w_replaceBid {σ : CS} (b s : Nat) (v : Int64) (hb : b < 6) (hs : s < 6) {post : CS → Prop} (hp : post (cs_keys σ (vp_updL (c_keys σ) (b * 6 + s) v))) : wp_X1_replaceBid σ (nI b) (nI s) v post := by
  intro w hw
  rw [q_ib] at hw; subst hw
  refine ⟨fun h9 => absurd h9 (nI_pos (by omega)), fun _ => ⟨fun h9 => absurd h9 (nI_ge (b := 36) (by omega) (by decide)), fun _ => ⟨q_in (by omega) (by decide), ?_⟩⟩⟩
  intro σ2 h2
  rw [nI_clamp (by omega)] at h2
  rw [h2]; exact hp
/-- what each bid of a row brings -/
def BC (r : Nat → Int32) (b s : Nat) : Nat := if b < 6 ∧ s < 6 then brg (r (54 + (b * 6 + s))) (r s) (r (30 + b)) else 0
theorem BC_in {r : Nat → Int32} {b s : Nat} (hb : b < 6) (hs : s < 6) : BC r b s = brg (r (54 + (b * 6 + s))) (r s) (r (30 + b)) := if_pos ⟨hb, hs⟩
def keysOK (f : Nat → Int64) (B : Nat → Nat → Nat) : Prop := ∀ b s, b < 6 → s < 6 → f (b * 6 + s) = lN (Bk B b s)
theorem w_readBids {m : Nat} {σ : CS} (h1 : O1 m (c_row σ)) {post : CS → Prop} (hp : ∀ f, keysOK f (BC (c_row σ)) → post (cs_keys σ f)) : wp_X1_readBids σ post := by
  -- the first q keys are laid
  have P0 : ∃ f, cs_keys σ f = σ ∧ ∀ b s, b < 6 → s < 6 → b * 6 + s < 0 → f (b * 6 + s) = lN (Bk (BC (c_row σ)) b s) := ⟨c_keys σ, rfl, fun b s _ _ h => absurd h (Nat.not_lt_zero _)⟩
  refine ⟨fun n v s1 => ∃ i : Nat, i ≤ 6 ∧ n = 6 - i ∧ v = nI i ∧ ∃ f, s1 = cs_keys σ f ∧ ∀ b s, b < 6 → s < 6 → b * 6 + s < i * 6 → f (b * 6 + s) = lN (Bk (BC (c_row σ)) b s), ⟨6, 0, Nat.zero_le _, rfl, rfl, c_keys σ, rfl, fun b s _ _ h => by omega⟩, ?_⟩
  rintro n v s1 ⟨i, hi, rfl, rfl, f, rfl, hf⟩
  refine ⟨fun h9 => ?_, fun h9 => ?_⟩
  · have e : i = 6 := Nat.le_antisymm hi ((nI_leI (a := 6) (by omega) (by omega)).mp h9)
    subst e
    exact hp f (fun b s hb hs => hf b s hb hs (by omega))
  · have e : i < 6 := Nat.lt_of_not_le fun q => h9 (nI_le (a := 6) q (by omega))
    refine ⟨fun n v s2 => ∃ j : Nat, j ≤ 6 ∧ n = 6 - j ∧ v = nI j ∧ ∃ f, s2 = cs_keys σ f ∧ ∀ b s, b < 6 → s < 6 → b * 6 + s < i * 6 + j → f (b * 6 + s) = lN (Bk (BC (c_row σ)) b s), ⟨6, 0, Nat.zero_le _, rfl, rfl, f, rfl, fun b s hb hs h => hf b s hb hs (by omega)⟩, ?_⟩
    rintro n v s2 ⟨j, hj, rfl, rfl, g, rfl, hg⟩
    refine ⟨fun h8 => ?_, fun h8 => ?_⟩
    · have e2 : j = 6 := Nat.le_antisymm hj ((nI_leI (a := 6) (by omega) (by omega)).mp h8)
      subst e2
      intro w hw
      exact ⟨6 - (i + 1), by omega, i + 1, e, rfl, by rw [hw, nI_1], g, rfl, fun b s hb hs h => hg b s hb hs (by omega)⟩
    · have e2 : j < 6 := Nat.lt_of_not_le fun q => h8 (nI_le (a := 6) q (by omega))
      refine w_ofBid 54 i j rfl (by omega) ?_
      have ha := h1.amount e e2
      refine w_keyOf (m := m) (σ := cs_keys σ g) i j _ e e2 h1 ha.1 ha.2 ?_
      refine w_replaceBid i j _ e e2 ?_
      intro w hw
      refine ⟨6 - (j + 1), by omega, j + 1, e2, rfl, by rw [hw, nI_1], _, rfl, fun b s hb hs h => ?_⟩
      show vp_updL g (i * 6 + j) _ (b * 6 + s) = _
      by_cases q : b * 6 + s = i * 6 + j
      · rw [q, pk_uLs]
        obtain rfl : b = i := by omega
        obtain rfl : s = j := by omega
        rw [← keyN_Bk, BC_in hb hs]
        rfl
      · rw [pk_uLn q]
        exact hg b s hb hs (by omega)
theorem w_setWithout (S b : Nat) (hS : S < 64) (hb : b < 6) {post : Int32 → Prop} (hp : post (nI (sw S b))) : wp_X1_setWithout (nI S) (nI b) post := by
  refine ⟨fun h9 => absurd h9 (nI_pos (by omega)), fun _ => ⟨fun h9 => absurd h9 (nI_ge (b := 6) hb (by decide)), fun _ => ?_⟩⟩
  rw [(sw_eq S hS b hb).1]; exact hp
theorem w_setWithoutN (p x : Int32) (hx : x < 0 ∨ 6 ≤ x) {post : Int32 → Prop} (hp : post p) : wp_X1_setWithout p x post :=
  ⟨fun _ => hp, fun h1 => ⟨fun _ => hp, fun h2 => absurd hx (fun h => h.elim h1 h2)⟩⟩
theorem w_keyIn {σ : CS} (b s : Nat) (hb : b < 6) (hs : s < 6) {post : Int64 → Prop} (hp : post (c_keys σ (b * 6 + s))) : wp_X1_keyIn σ (nI b) (nI s) post := by
  intro w hw
  rw [q_ib] at hw; subst hw
  refine ⟨fun h9 => absurd h9 (nI_pos (by omega)), fun _ => ⟨fun h9 => absurd h9 (nI_ge (b := 36) (by omega) (by decide)), fun _ => ⟨q_in (by omega) (by decide), ?_⟩⟩⟩
  rw [nI_clamp (by omega)]; exact hp
theorem w_mostOf {σ : CS} (S : Nat) (hS : S < 64) {post : Int64 → Prop} (hp : post (c_most σ S)) : wp_X1_mostOf σ (nI S) post := by
  refine ⟨fun h9 => absurd h9 (nI_pos (by omega)), fun _ => ⟨fun h9 => absurd h9 (nI_ge (b := 64) (by omega) (by decide)), fun _ => ⟨q_in (by omega) (by decide), ?_⟩⟩⟩
  rw [nI_clamp (by omega)]; exact hp
def BIG (K : Nat → Nat → Nat) : Prop := ∀ b s, K b s ≤ 268435456
theorem FF_sm {K : Nat → Nat → Nat} (h : BIG K) {j S : Nat} (hj : j ≤ 6) : FF K j S ≤ 1610612736 := by
  have h1 := FF_bound h j S
  have h2 : j * 268435456 ≤ 6 * 268435456 := Nat.mul_le_mul_right _ hj
  omega
theorem mx_sm {base M : Nat} {g : Nat → Nat} (h1 : base ≤ M) (h2 : ∀ i, i < 6 → g i ≤ M) {n : Nat} (hn : n ≤ 6) : mx base g n ≤ M := mx_le h1 n (fun i hi => h2 i (by omega))
theorem w_lookAtSpot {σ : CS} {K : Nat → Nat → Nat} (hK : BIG K) (j : Nat) (hj : j < 6) (hk : ∀ b, b < 6 → c_keys σ (b * 6 + j) = lN (K b j)) (hm : ∀ S, S < 64 → c_most σ S = lN (FF K j S)) {post : CS → Prop} (hp : ∀ g, (∀ S, S < 64 → g S = lN (FF K (j + 1) S)) → post (cs_most σ g)) : wp_X1_lookAtSpot σ (nI j) post := by
  intro v0 hv0
  have hv0 : v0 = nI 63 := by rw [hv0]; decide
  subst hv0
  refine ⟨fun n v s1 => ∃ S : Nat, S ≤ 63 ∧ n = S ∧ v = nI S ∧ ∃ g, s1 = cs_most σ g ∧ (∀ q, q < 64 → S < q → g q = lN (FF K (j + 1) q)) ∧ (∀ q, q < 64 → q ≤ S → g q = lN (FF K j q)), ⟨63, 63, Nat.le_refl _, rfl, rfl, c_most σ, rfl, fun q h1 h2 => by omega, fun q h1 h2 => hm q h1⟩, ?_⟩
  rintro n v s1 ⟨S, hS, rfl, rfl, g, rfl, hg1, hg2⟩
  refine ⟨fun h9 => ?_, fun h9 => ?_⟩
  · have e : n = 0 := by
      rcases Nat.eq_zero_or_pos n with q | q
      · exact q
      · exact absurd h9 (nI_nle q (by omega))
    subst e
    refine hp g (fun q hq => ?_)
    rcases Nat.eq_zero_or_pos q with e | e
    · subst e
      rw [hg2 0 hq (Nat.le_refl _)]
      congr 1
      refine (Nat.le_antisymm (mx_le (Nat.le_refl _) 6 (fun b hb => ?_)) (mx_base _ _ 6)).symm
      rw [if_neg (fun q => by rw [Nat.zero_testBit] at q; exact absurd q.1 (by decide))]; exact Nat.zero_le _
    · exact hg1 q hq e
  · have hpos : 0 < n := Nat.pos_of_ne_zero fun e => h9 (by subst e; decide)
    have hn64 : n < 64 := by omega
    refine ⟨q_in hn64 (by decide), ?_⟩
    intro v3 hv3
    rw [nI_clamp (by omega)] at hv3
    have hv3 : v3 = lN (FF K j n) := by rw [hv3]; exact hg2 n hn64 (Nat.le_refl _)
    subst hv3
    have hgm : ∀ b, b < 6 → (if n.testBit b = true ∧ K b j ≠ 0 then FF K j (sw n b) + K b j else 0) ≤ 1879048192 := by
      intro b hb
      by_cases hc : n.testBit b = true ∧ K b j ≠ 0
      · rw [if_pos hc]
        have := FF_sm hK (j := j) (S := sw n b) (by omega)
        have := hK b j
        omega
      · rw [if_neg hc]; omega
    have hbase : FF K j n ≤ 1879048192 := Nat.le_trans (FF_sm hK (by omega)) (by decide)
    refine ⟨fun k w u => ∃ i : Nat, i ≤ 6 ∧ k = 6 - i ∧ u = nI i ∧ w = lN (mx (FF K j n) (fun b => if n.testBit b = true ∧ K b j ≠ 0 then FF K j (sw n b) + K b j else 0) i), ⟨6, 0, Nat.zero_le _, rfl, rfl, rfl⟩, ?_⟩
    rintro k w u ⟨i, hi, rfl, rfl, rfl⟩
    refine ⟨fun h8 => ?_, fun h8 => ?_⟩
    · have e : i = 6 := Nat.le_antisymm hi ((nI_leI (a := 6) (by omega) (by omega)).mp h8)
      subst e
      refine ⟨q_in hn64 (by decide), ?_⟩
      intro s5 h5 w hw
      rw [nI_clamp (by omega)] at h5
      obtain ⟨n', rfl⟩ : ∃ n', n = n' + 1 := ⟨n - 1, by omega⟩
      refine ⟨n', by omega, n', by omega, rfl, by rw [hw]; exact pk_m1 n', _, h5, fun q h1 h2 => ?_, fun q h1 h2 => ?_⟩
      · by_cases e : q = n' + 1
        · subst e
          show vp_updL g _ _ _ = _
          rw [pk_uLs]; rfl
        · show vp_updL g _ _ _ = _
          rw [pk_uLn e]
          exact hg1 q h1 (by omega)
      · show vp_updL g _ _ _ = _
        rw [pk_uLn (by omega)]
        exact hg2 q h1 (by omega)
    · have e : i < 6 := Nat.lt_of_not_le fun q => h8 (nI_le (a := 6) q (by omega))
      have hstep : ∀ z : Nat, (if n.testBit i = true ∧ K i j ≠ 0 then FF K j (sw n i) + K i j else 0) = z → mx (FF K j n) (fun b => if n.testBit b = true ∧ K b j ≠ 0 then FF K j (sw n b) + K b j else 0) (i + 1) = max (mx (FF K j n) (fun b => if n.testBit b = true ∧ K b j ≠ 0 then FF K j (sw n b) + K b j else 0) i) z := by
        rintro z rfl; rfl
      have hms := mx_sm (base := FF K j n) (g := fun b => if n.testBit b = true ∧ K b j ≠ 0 then FF K j (sw n b) + K b j else 0) hbase hgm (n := i) (by omega)
      generalize hM : mx (FF K j n) (fun b => if n.testBit b = true ∧ K b j ≠ 0 then FF K j (sw n b) + K b j else 0) i = M at hstep hms
      have hskip : (¬ (n.testBit i = true ∧ K i j ≠ 0)) → ∀ w : Int32, w = nI i + 1 → ∃ n', n' < 6 - i ∧ ∃ i', i' ≤ 6 ∧ n' = 6 - i' ∧ w = nI i' ∧ lN M = lN (mx (FF K j n) (fun b => if n.testBit b = true ∧ K b j ≠ 0 then FF K j (sw n b) + K b j else 0) i') := by
        intro hc w hw
        refine ⟨6 - (i + 1), by omega, i + 1, e, rfl, by rw [hw, nI_1], ?_⟩
        rw [hstep 0 (if_neg hc), Nat.max_eq_left (Nat.zero_le _)]
      refine ⟨fun h => ?_, fun h => ?_⟩
      · refine ⟨fun _ => ⟨fun _ => hskip (fun q => ?_), fun h => absurd lg0 h⟩, fun h => absurd rfl h⟩
        rw [(isIn_eq n hn64 i e).mp h] at q; exact absurd q.1 (by decide)
      · have hbit : n.testBit i = true := by
          cases hq : n.testBit i
          · exact absurd ((isIn_eq n hn64 i e).mpr hq) h
          · rfl
        refine ⟨fun h => absurd h (by decide), fun _ => ?_⟩
        refine w_keyIn i j e hj ?_
        have ek : c_keys (cs_most σ g) (i * 6 + j) = lN (K i j) := hk i e
        rw [ek]
        have hKs := hK i j
        refine ⟨fun h => hskip (fun q => q.2 ((lg_lN (by omega)).mp h)), fun h => ?_⟩
        have hk0 : K i j ≠ 0 := fun q => h ((lg_lN (by omega)).mpr q)
        refine w_setWithout n i hn64 e ?_
        refine w_mostOf (sw n i) (sw_eq n hn64 i e).2.1 ?_
        have hlt := (sw_eq n hn64 i e).2.2 hbit
        have eg : c_most (cs_most σ g) (sw n i) = lN (FF K j (sw n i)) := hg2 _ (by omega) (by omega)
        rw [eg]
        intro v hv w hw
        refine ⟨6 - (i + 1), by omega, i + 1, e, rfl, by rw [hw, nI_1], ?_⟩
        rw [hstep _ rfl, if_pos ⟨hbit, hk0⟩, hv, lN_add]
        have hz := FF_sm hK (j := j) (S := sw n i) (by omega)
        by_cases q : FF K j (sw n i) + K i j < M
        · rw [if_pos ((lN_lt (by omega) (by omega)).mpr q), Nat.max_eq_left (by omega)]
        · rw [if_neg (fun q2 => q ((lN_lt (by omega) (by omega)).mp q2)), Nat.max_eq_right (by omega)]
/-- find(): x is the spot left out, or none of them -/
theorem w_find {σ : CS} {K : Nat → Nat → Nat} {x : Int32} (hK : BIG K) (hk : ∀ b s, b < 6 → s < 6 → nI s ≠ x → c_keys σ (b * 6 + s) = lN (K b s)) (hz : ∀ b s, b < 6 → s < 6 → nI s = x → K b s = 0) {post : CS → Prop} (hp : ∀ g, (∀ S, S < 64 → g S = lN (FF K 6 S)) → post (cs_most σ g)) : wp_X1_find σ x post := by
  refine ⟨fun n v s1 => ∃ i : Nat, i ≤ 64 ∧ n = 64 - i ∧ v = nI i ∧ ∃ g, s1 = cs_most σ g ∧ (∀ q, q < i → g q = 0), ⟨64, 0, Nat.zero_le _, rfl, rfl, c_most σ, rfl, fun q h => absurd h (Nat.not_lt_zero _)⟩, ?_⟩
  rintro n v s1 ⟨i, hi, rfl, rfl, g, rfl, hg⟩
  refine ⟨fun h9 => ?_, fun h9 => ?_⟩
  · have e : i = 64 := Nat.le_antisymm hi ((nI_leI (a := 64) (by omega) (by omega)).mp h9)
    subst e
    refine ⟨fun n v s2 => ∃ j : Nat, j ≤ 6 ∧ n = 6 - j ∧ v = nI j ∧ ∃ g, s2 = cs_most σ g ∧ (∀ q, q < 64 → g q = lN (FF K j q)), ⟨6, 0, Nat.zero_le _, rfl, rfl, g, rfl, fun q h => hg q h⟩, ?_⟩
    rintro n v s2 ⟨j, hj, rfl, rfl, g, rfl, hg⟩
    refine ⟨fun h8 => ?_, fun h8 => ?_⟩
    · have e : j = 6 := Nat.le_antisymm hj ((nI_leI (a := 6) (by omega) (by omega)).mp h8)
      subst e
      exact hp g hg
    · have e : j < 6 := Nat.lt_of_not_le fun q => h8 (nI_le (a := 6) q (by omega))
      refine ⟨fun h => ?_, fun h => ?_⟩
      · intro w hw
        refine ⟨6 - (j + 1), by omega, j + 1, e, rfl, by rw [hw, nI_1], g, rfl, fun q hq => ?_⟩
        rw [FF_skip (fun b hb => hz b j hb e h)]
        exact hg q hq
      · refine w_lookAtSpot (σ := cs_most σ g) hK j e (fun b hb => hk b j hb e h) hg (fun g2 hg2 => ?_)
        intro w hw
        exact ⟨6 - (j + 1), by omega, j + 1, e, rfl, by rw [hw, nI_1], g2, rfl, hg2⟩
  · have e : i < 64 := Nat.lt_of_not_le fun q => h9 (nI_le (a := 64) q (by omega))
    refine ⟨q_in e (by decide), ?_⟩
    intro s6 h6 w hw
    rw [nI_clamp (by omega)] at h6
    refine ⟨64 - (i + 1), by omega, i + 1, e, rfl, by rw [hw, nI_1], _, h6, fun q hq => ?_⟩
    show vp_updL g i 0 q = 0
    by_cases e2 : q = i
    · subst e2; exact pk_uLs
    · rw [pk_uLn e2]; exact hg q (by omega)
