/-! pure part: the reference's sharing does what 30 says -/
theorem brg_81 (x p u : Int32) (h : brg x p u ≠ 0) : brg x p u % 8 = 1 := by
  unfold brg at h ⊢
  by_cases h1 : x = 0
  · rw [if_pos h1] at h; exact absurd rfl h
  · rw [if_neg h1] at h ⊢
    by_cases h2 : x < p
    · rw [if_pos h2] at h; exact absurd rfl h
    · rw [if_neg h2] at h ⊢
      by_cases h3 : x ≤ u
      · rw [if_pos h3]; omega
      · rw [if_neg h3] at h; exact absurd rfl h
theorem brg_le {x p u : Int32} (hx : x.toInt ≤ 99) (hp : 0 ≤ p.toInt) : brg x p u ≤ 793 := by
  unfold brg
  by_cases h1 : x = 0
  · rw [if_pos h1]; omega
  · rw [if_neg h1]
    by_cases h2 : x < p
    · rw [if_pos h2]; omega
    · rw [if_neg h2]
      by_cases h3 : x ≤ u
      · rw [if_pos h3]; omega
      · rw [if_neg h3]; omega
/-- what each bid brings, also one that is only asked about: of bidder a for spot k, of amount x -/
def BA (r : Nat → Int32) (a k x : Int32) (b s : Nat) : Nat := if b < 6 ∧ s < 6 then brg (if nI b = a ∧ nI s = k then x else r (54 + (b * 6 + s))) (r s) (r (30 + b)) else 0
theorem BA_in {r : Nat → Int32} {a k x : Int32} {b s : Nat} (hb : b < 6) (hs : s < 6) : BA r a k x b s = brg (if nI b = a ∧ nI s = k then x else r (54 + (b * 6 + s))) (r s) (r (30 + b)) := if_pos ⟨hb, hs⟩
theorem BA_none {r : Nat → Int32} {k x : Int32} : BA r (-1) k x = BC r := by
  funext b s
  unfold BA BC
  by_cases h : b < 6 ∧ s < 6
  · rw [if_pos h, if_pos h, if_neg (fun q => nI_m1 (by omega) q.1)]
  · rw [if_neg h, if_neg h]
theorem BA_set1 {r : Nat → Int32} {b s : Nat} (hb : b < 6) (hs : s < 6) (x : Int32) : BA r (nI b) (nI s) x = set1 (BC r) b s (brg x (r s) (r (30 + b))) := by
  funext c k
  unfold BA set1 BC
  by_cases h : c < 6 ∧ k < 6
  · simp only [if_pos h]
    by_cases e : c = b ∧ k = s
    · rw [if_pos e, if_pos ⟨by rw [e.1], by rw [e.2]⟩, e.1, e.2]
    · rw [if_neg e, if_neg (fun q => e ⟨(nI_eq (by omega) (by omega)).mp q.1, (nI_eq (by omega) (by omega)).mp q.2⟩)]
  · simp only [if_neg h]
    rw [if_neg (fun e => h (by rw [e.1, e.2]; exact ⟨hb, hs⟩))]
theorem BA_81 (r : Nat → Int32) (a k x : Int32) : B81 (BA r a k x) := by
  intro b s h
  unfold BA at h ⊢
  by_cases q : b < 6 ∧ s < 6
  · rw [if_pos q] at h ⊢; exact brg_81 _ _ _ h
  · rw [if_neg q] at h; exact absurd rfl h
theorem BA_le {m : Nat} {r : Nat → Int32} (h1 : O1 m r) {a k x : Int32} (hx : x.toInt ≤ 99) (b s : Nat) : BA r a k x b s ≤ 793 := by
  unfold BA
  by_cases q : b < 6 ∧ s < 6
  · rw [if_pos q]
    refine brg_le ?_ (h1.price q.2).1
    by_cases e : nI b = a ∧ nI s = k
    · rw [if_pos e]; exact hx
    · rw [if_neg e]; exact (h1.amount q.1 q.2).2
  · rw [if_neg q]; omega
def AskM (μ : MS) (a k x : Int32) : Prop := m_asker μ = a ∧ m_askedSpot μ = k ∧ m_askedAmount μ = x
theorem m_amountOf {m : Nat} {r : Nat → Int32} {μ : MS} {a k x : Int32} (R : Rl m r (m_s μ)) (hA : AskM μ a k x) (b s : Nat) (hb : b < 6) (hs : s < 6) {post : Int32 → Prop} (hp : post (if nI b = a ∧ nI s = k then x else r (54 + (b * 6 + s)))) : wp_X5_amountOf μ (nI b) (nI s) post := by
  obtain ⟨h1, h2, h3⟩ := hA
  unfold wp_X5_amountOf
  rw [h1, h2, h3]
  have key : ¬ (nI b = a ∧ nI s = k) → wp_X5_isBid μ (nI b) (nI s) (fun r_1 => ((r_1 = 0 → post 0) ∧ (¬ r_1 = 0 → wp_X5_bidAt μ (nI b) (nI s) (fun r_2 => vp_in (r_2 + 2) 1416 ∧ post ((m_s μ) (r_2 + 2).toNatClampNeg))))) := by
    intro hn
    rw [if_neg hn] at hp
    refine m_isBid b s hb hs (fun h => ⟨fun _ => ?_, fun h => absurd rfl h⟩) (fun h => ⟨fun h => absurd h (by decide), fun _ => ?_⟩)
    · rw [(bid0 R.B hb hs).mp h] at hp; exact hp
    · unfold wp_X5_bidAt
      rw [x_bid]
      dsimp only
      rw [show (2 : Int32) = nI 2 from rfl, nI_add, nI_clamp (by omega)]
      refine ⟨q_in (by omega) (by decide), ?_⟩
      rcases R.B b s hb hs with ⟨q1, q2⟩ | ⟨q1, q2, q3, q4, q5⟩
      · exact absurd q2 h
      · rw [q5]; exact hp
  refine ⟨fun h => key (fun q => h q.1), fun h => ⟨fun h4 => key (fun q => h4 q.2), fun h4 => ?_⟩⟩
  rw [if_pos ⟨h, h4⟩] at hp; exact hp
theorem m_brings {m : Nat} {r : Nat → Int32} {μ : MS} {a k x : Int32} (R : Rl m r (m_s μ)) (hA : AskM μ a k x) (hx0 : 0 ≤ x.toInt) (hx : x.toInt ≤ 99) (b s : Nat) (hb : b < 6) (hs : s < 6) {post : Int32 → Prop} (hp : post (if BA r a k x b s = 0 then -1 else nI (BA r a k x b s))) : wp_X5_brings μ (nI b) (nI s) post := by
  refine m_amountOf R hA b s hb hs ?_
  rw [BA_in hb hs] at hp
  have hy : 0 ≤ (if nI b = a ∧ nI s = k then x else r (54 + (b * 6 + s))).toInt ∧ (if nI b = a ∧ nI s = k then x else r (54 + (b * 6 + s))).toInt ≤ 99 := by
    by_cases e : nI b = a ∧ nI s = k
    · rw [if_pos e]; exact ⟨hx0, hx⟩
    · rw [if_neg e]; exact R.o1.amount hb hs
  generalize (if nI b = a ∧ nI s = k then x else r (54 + (b * 6 + s))) = y at hp hy ⊢
  have hpr := R.o1.price hs
  refine ⟨fun h => ?_, fun h => ?_⟩
  · have e : y = 0 := Int32.toInt_inj.mp (by rw [tI_le, tI0] at h; rw [tI0]; omega)
    rw [e] at hp
    unfold brg at hp
    rw [if_pos rfl, if_pos rfl] at hp; exact hp
  · have hy0 : ¬ y = 0 := fun e => h (by rw [e]; decide)
    refine m_of s 0 rfl rfl hs (by decide) ?_
    rw [R.P _ _ (PI_price hs)]
    unfold brg at hp
    rw [if_neg hy0] at hp
    refine ⟨fun h2 => ?_, fun h2 => ?_⟩
    · rw [if_pos h2, if_pos rfl] at hp; exact hp
    · rw [if_neg h2] at hp
      refine m_has b 0 rfl rfl hb (by decide) ?_
      rw [R.P _ _ (PI_purse hb)]
      generalize hz : (if y ≤ r (30 + b) then 8 * (y.toInt - (r s).toInt).toNat + 1 else 0) = z at hp
      refine ⟨fun h3 => ?_, fun h3 => ?_⟩
      · rw [if_neg (by rw [tI_le]; rw [tI_lt] at h3; omega)] at hz
        rw [← hz, if_pos rfl] at hp; exact hp
      · rw [if_pos (by rw [tI_le]; rw [tI_lt] at h3; omega)] at hz
        rw [← hz, if_neg (by omega)] at hp
        refine m_of s 0 rfl rfl hs (by decide) ?_
        rw [R.P _ _ (PI_price hs)]
        rw [tI_lt] at h2
        have ed : y - r s = nI (y.toInt - (r s).toInt).toNat := by
          have e1 : (y - r s).toInt = y.toInt - (r s).toInt := tI_sub (by omega) (by omega)
          rw [← e1]
          exact tI_of (by omega)
        rw [ed, show (8 : Int32) = nI 8 from rfl, pk_mul, nI_1]
        exact hp
theorem bit1_eq : ∀ t, t < 64 → ∀ c, c < 6 → (((nI t >>> (nI c &&& 31)) &&& 1) = 1 ↔ t.testBit c = true) := by decide +kernel
theorem so_eq : ∀ t, t < 64 → ∀ c, c < 6 → (nI t ||| ((1 : Int32) <<< (nI c &&& 31))) = nI (so t c) ∧ so t c < 64 := by decide +kernel
/-- with(): what the best is from spot s on, if it goes to bidder c -/
def wv (B : Nat → Nat → Nat) (f : Nat → Int32) (s c t : Nat) : Int32 := if c = 6 then f (64 * (s + 1) + t) else if t.testBit c = true ∨ B c s = 0 then -1 else nI (B c s) + f (64 * (s + 1) + so t c)
theorem m_with {m : Nat} {r : Nat → Int32} {μ : MS} {a k x : Int32} (R : Rl m r (m_s μ)) (hA : AskM μ a k x) (hx0 : 0 ≤ x.toInt) (hx : x.toInt ≤ 99) (s c t : Nat) (hs : s < 6) (hc : c ≤ 6) (ht : t < 64) {post : Int32 → Prop} (hp : post (wv (BA r a k x) (m_best μ) s c t)) : wp_X5_with μ (nI s) (nI c) (nI t) post := by
  have e64 : ∀ y : Nat, (64 : Int32) * (nI s + 1) + nI y = nI (64 * (s + 1) + y) := fun y => by rw [nI_1, show (64 : Int32) = nI 64 from rfl, pk_mul, nI_add]
  unfold wv at hp
  refine ⟨fun h => ?_, fun h => ?_⟩
  · have hc6 : ¬ c = 6 := fun e => h (by rw [e]; rfl)
    have hlt : c < 6 := by omega
    rw [if_neg hc6] at hp
    refine ⟨fun h2 => ?_, fun h2 => ?_⟩
    · have hb : ¬ t.testBit c = true := fun q => h2 ((bit1_eq t ht c hlt).mpr q)
      refine m_brings R hA hx0 hx c s hlt hs ?_
      refine ⟨fun h3 => ?_, fun h3 => ?_⟩
      · by_cases q : BA r a k x c s = 0
        · rw [if_pos q] at h3; exact absurd rfl h3
        · rw [if_neg (fun q2 => q2.elim hb q)] at hp
          rw [(so_eq t ht c hlt).1, e64, nI_clamp (by have := (so_eq t ht c hlt).2; omega), if_neg q]
          exact ⟨q_in (by have := (so_eq t ht c hlt).2; omega) (by decide), hp⟩
      · by_cases q : BA r a k x c s = 0
        · rw [if_pos (Or.inr q)] at hp; exact hp
        · rw [if_neg q] at h3
          exact absurd h3 (nI_m1 (by have := BA_le R.o1 hx (a := a) (k := k) c s; omega))
    · rw [if_pos (Or.inl ((bit1_eq t ht c hlt).mp h2))] at hp; exact hp
  · have hc6 : c = 6 := (nI_eq (b := 6) (by omega) (by decide)).mp h
    rw [if_pos hc6] at hp
    rw [e64, nI_clamp (by omega)]
    exact ⟨q_in (by omega) (by decide), hp⟩
/-- the bids but those of one bidder -/
def wo (B : Nat → Nat → Nat) (w : Nat) : Nat → Nat → Nat := fun c s => if c = w then 0 else B c s
theorem XX_congr {K L : Nat → Nat → Nat} : ∀ d t, d ≤ 6 → (∀ b s, b < 6 → s < 6 → K b s = L b s) → XX K d t = XX L d t
  | 0, _, _, _ => rfl
  | d + 1, t, hd, h => by
    refine mx_congr (XX_congr d t (by omega) h) 6 (fun b hb => ?_)
    rw [h b (5 - d) hb (by omega), XX_congr d (so t b) (by omega) h]
theorem XX_wo6 (B : Nat → Nat → Nat) (d t : Nat) (hd : d ≤ 6) : XX (wo B 6) d t = XX B d t := XX_congr d t hd (fun b s hb _ => if_neg (by omega))
theorem XX_wo (B : Nat → Nat → Nat) (w : Nat) (hw : w < 6) : XX (wo B w) 6 0 = XX B 6 (2 ^ w) := by
  refine Nat.le_antisymm ?_ ?_
  · obtain ⟨f, h1, h2⟩ := XX_attain (wo B w) 6 0 (Nat.le_refl _)
    have hne : ∀ s, s < 6 → f s < 6 → f s ≠ w := fun s hs q e => (h1.1 s (by omega) hs q).2 (if_pos e)
    rw [← h2, ← vP_vS, vP_le_of (K := wo B w) (L := B) (f := f) (g := f) 6 (fun s hs => by
      rcases Nat.lt_or_ge (f s) 6 with q | q
      · rw [kv_lt q, kv_lt q]; exact if_neg (hne s hs q)
      · rw [kv_ge q, kv_ge q]), vP_vS]
    refine XX_upper B 6 (2 ^ w) f (Nat.le_refl _) ⟨fun s a hs q => ⟨?_, ?_⟩, h1.2⟩
    · show (2 ^ w).testBit (f s) = false
      rw [two_bit]; exact decide_eq_false (fun e => hne s hs q e.symm)
    · have := (h1.1 s a hs q).2
      unfold wo at this
      rw [if_neg (hne s hs q)] at this
      exact this
  · obtain ⟨f, h1, h2⟩ := XX_attain B 6 (2 ^ w) (Nat.le_refl _)
    have hne : ∀ s, s < 6 → f s < 6 → f s ≠ w := fun s hs q e => by
      have h3 := (h1.1 s (by omega) hs q).1
      have h3 : (2 ^ w).testBit (f s) = false := h3
      rw [two_bit] at h3
      exact of_decide_eq_false h3 e.symm
    rw [← h2, ← vP_vS, vP_le_of (K := B) (L := wo B w) (f := f) (g := f) 6 (fun s hs => by
      rcases Nat.lt_or_ge (f s) 6 with q | q
      · rw [kv_lt q, kv_lt q]; exact (if_neg (hne s hs q)).symm
      · rw [kv_ge q, kv_ge q]), vP_vS]
    refine XX_upper (wo B w) 6 0 f (Nat.le_refl _) ⟨fun s a hs q => ⟨Nat.zero_testBit _, ?_⟩, h1.2⟩
    unfold wo
    rw [if_neg (hne s hs q)]
    exact (h1.1 s a hs q).2
theorem XX_bound {K : Nat → Nat → Nat} {M : Nat} (h : ∀ b s, K b s ≤ M) : ∀ d t, XX K d t ≤ d * M
  | 0, _ => Nat.zero_le _
  | d + 1, t => by
    rw [Nat.add_mul, Nat.one_mul]
    refine mx_le (Nat.le_trans (XX_bound h d t) (Nat.le_add_right _ _)) 6 (fun b _ => ?_)
    by_cases hc : t.testBit b = false ∧ K b (5 - d) ≠ 0
    · rw [if_pos hc]
      have := XX_bound h d (so t b)
      have := h b (5 - d)
      omega
    · rw [if_neg hc]; exact Nat.zero_le _
theorem XX_sm {K : Nat → Nat → Nat} (h : ∀ b s, K b s ≤ 793) {d t : Nat} (hd : d ≤ 6) : XX K d t ≤ 4758 := by
  have h1 := XX_bound h d t
  have h2 : d * 793 ≤ 6 * 793 := Nat.mul_le_mul_right _ hd
  omega
theorem wo_le {B : Nat → Nat → Nat} {M : Nat} (h : ∀ b s, B b s ≤ M) (w b s : Nat) : wo B w b s ≤ M := by
  unfold wo
  by_cases e : b = w
  · rw [if_pos e]; exact Nat.zero_le _
  · rw [if_neg e]; exact h b s
/-- a table of the best from place q on -/
def tabOK (B : Nat → Nat → Nat) (f : Nat → Int32) (q0 : Nat) : Prop := ∀ s t, s ≤ 6 → t < 64 → q0 ≤ 64 * s + t → f (64 * s + t) = nI (XX B (6 - s) t)
theorem wv_tab {B : Nat → Nat → Nat} {w : Nat} {f : Nat → Int32} {s c t : Nat} (hs : s < 6) (hc : c < 6) (ht : t < 64) (hf : tabOK (wo B w) f (64 * (s + 1))) : (if c = w then (-1 : Int32) else wv B f s c t) = if t.testBit c = false ∧ wo B w c s ≠ 0 then nI (wo B w c s + XX (wo B w) (5 - s) (so t c)) else -1 := by
  by_cases e : c = w
  · rw [if_pos e, if_neg]
    rintro ⟨_, h⟩
    exact h (if_pos e)
  · have ew : wo B w c s = B c s := if_neg e
    rw [if_neg e, ew]
    unfold wv
    rw [if_neg (by omega)]
    by_cases h : t.testBit c = true ∨ B c s = 0
    · rw [if_pos h, if_neg]
      rintro ⟨h1, h2⟩
      rcases h with h | h
      · rw [h1] at h; exact absurd h (by decide)
      · exact h2 h
    · have hb : t.testBit c = false := by
        cases q : t.testBit c
        · rfl
        · exact absurd (Or.inl q) h
      rw [if_neg h, if_pos ⟨hb, fun q => h (Or.inr q)⟩, hf (s + 1) (so t c) (by omega) (so_eq t ht c hc).2 (by omega), nI_add, show 6 - (s + 1) = 5 - s by omega]
theorem m_worthOf {m : Nat} {r : Nat → Int32} {μ : MS} {a k x : Int32} (R : Rl m r (m_s μ)) (hA : AskM μ a k x) (hx0 : 0 ≤ x.toInt) (hx : x.toInt ≤ 99) (w : Nat) (hw : w ≤ 6) {post : Int32 → MS → Prop} (hp : ∀ f, tabOK (wo (BA r a k x) w) f 0 → post (nI (XX (wo (BA r a k x) w) 6 0 / 8)) (ms_best μ f)) : wp_X5_worthOf μ (nI w) post := by
  have hB : ∀ b s, wo (BA r a k x) w b s ≤ 793 := wo_le (fun b s => BA_le R.o1 hx b s) w
  refine ⟨fun n v s1 => ∃ i : Nat, i ≤ 64 ∧ n = 64 - i ∧ v = nI i ∧ ∃ f, s1 = ms_best μ f ∧ (∀ q, q < i → f (384 + q) = 0), ⟨64, 0, Nat.zero_le _, rfl, rfl, m_best μ, rfl, fun q h => absurd h (Nat.not_lt_zero _)⟩, ?_⟩
  rintro n v s1 ⟨i, hi, rfl, rfl, f, rfl, hf⟩
  refine ⟨fun h9 => ?_, fun h9 => ?_⟩
  · have e : i = 64 := Nat.le_antisymm hi ((nI_leI (a := 64) (by omega) (by omega)).mp h9)
    subst e
    refine ⟨fun n v s1 => ∃ q : Nat, q ≤ 384 ∧ n = q ∧ v = nI q - 1 ∧ ∃ f, s1 = ms_best μ f ∧ tabOK (wo (BA r a k x) w) f q, ⟨384, 384, Nat.le_refl _, rfl, by decide, f, rfl, fun s t hs ht hq => ?_⟩, ?_⟩
    · obtain rfl : s = 6 := by omega
      exact (hf t ht)
    rintro n v s1 ⟨q, hq, rfl, rfl, f, rfl, hf⟩
    refine ⟨fun h8 => ?_, fun h8 => ?_⟩
    · have e : n = 0 := by
        rcases Nat.eq_zero_or_pos n with h | h
        · exact h
        · obtain ⟨j, rfl⟩ : ∃ j, n = j + 1 := ⟨n - 1, by omega⟩
          rw [nI_pred] at h8
          exact absurd h8 (nI_pos (by omega))
      subst e
      have e0 : m_best (ms_best μ f) ((0 : Int32)).toNatClampNeg = nI (XX (wo (BA r a k x) w) 6 0) := by
        rw [show ((0 : Int32)).toNatClampNeg = 0 from by decide]
        exact hf 0 0 (by omega) (by omega) (Nat.zero_le _)
      have hsm := XX_sm hB (d := 6) (t := 0) (Nat.le_refl _)
      have := hp f hf
      rw [e0, show (8 : Int32) = nI 8 from rfl, pk_div (by omega) (by decide) (by decide)]
      exact this
    · obtain ⟨j, rfl⟩ : ∃ j, n = j + 1 := ⟨n - 1, by
        rcases Nat.eq_zero_or_pos n with h | h
        · subst h; exact absurd (by decide) h8
        · omega⟩
      have ej : nI (j + 1) - 1 = nI j := nI_pred j
      rw [ej]
      have hj : j < 384 := by omega
      refine ⟨q_in (by omega) (by decide), ?_⟩
      intro s3 h3
      rw [nI_clamp (by omega)] at h3
      have hs : j / 64 < 6 := by omega
      have ht : j % 64 < 64 := Nat.mod_lt _ (by decide)
      have ejj : 64 * (j / 64) + j % 64 = j := Nat.div_add_mod j 64
      have e1 : nI j / 64 = nI (j / 64) := pk_div (d := 64) (by omega) (by decide) (by decide)
      have e2 : nI j - nI j / 64 * 64 = nI (j % 64) := pk_rem (d := 64) (by omega) (by decide) (by decide)
      -- over the bidders
      have hD : 6 - j / 64 = (5 - j / 64) + 1 := by omega
      have hB5 : XX (wo (BA r a k x) w) (5 - j / 64) (j % 64) ≤ 4758 := XX_sm hB (by omega)
      have hG : ∀ c, c < 6 → (if (j % 64).testBit c = false ∧ wo (BA r a k x) w c (j / 64) ≠ 0 then wo (BA r a k x) w c (j / 64) + XX (wo (BA r a k x) w) (5 - j / 64) (so (j % 64) c) else 0) ≤ 6000 := by
        intro c hc
        by_cases h : (j % 64).testBit c = false ∧ wo (BA r a k x) w c (j / 64) ≠ 0
        · rw [if_pos h]
          have := XX_sm hB (d := 5 - j / 64) (t := so (j % 64) c) (by omega)
          have := hB c (j / 64)
          omega
        · rw [if_neg h]; omega
      refine ⟨fun n v s1 => ∃ c : Nat, c ≤ 7 ∧ n = 7 - c ∧ v = nI c ∧ ∃ g, s1 = ms_best μ g ∧ (∀ z, z ≠ j → g z = f z) ∧ g j = nI (if c = 7 then XX (wo (BA r a k x) w) (6 - j / 64) (j % 64) else mx 0 (fun c => if (j % 64).testBit c = false ∧ wo (BA r a k x) w c (j / 64) ≠ 0 then wo (BA r a k x) w c (j / 64) + XX (wo (BA r a k x) w) (5 - j / 64) (so (j % 64) c) else 0) c), ⟨7, 0, Nat.zero_le _, rfl, rfl, _, h3, fun z hz => pk_un hz, ?_⟩, ?_⟩
      · rw [if_neg (by decide)]; exact pk_us
      rintro n v s1 ⟨c, hc, rfl, rfl, g, rfl, hg1, hg2⟩
      have htab : tabOK (wo (BA r a k x) w) g (64 * (j / 64 + 1)) := fun s t h1 h2 h4 => by
        rw [hg1 _ (by omega)]
        exact hf s t h1 h2 (by omega)
      refine ⟨fun h7 => ?_, fun h7 => ?_⟩
      · have e : c = 7 := by
          have := (nI_ltI (a := 6) (by omega) (by omega)).mp h7
          omega
        subst e
        rw [if_pos rfl] at hg2
        intro v2 hv2
        refine ⟨j, by omega, j, by omega, rfl, by rw [hv2]; exact (Int32.sub_eq_add_neg _ _).symm, g, rfl, fun s t h1 h2 h4 => ?_⟩
        by_cases e : 64 * s + t = j
        · rw [e, hg2, show j / 64 = s by omega, show j % 64 = t by omega]
        · rw [hg1 _ e]
          exact hf s t h1 h2 (by omega)
      · have hc6 : c ≤ 6 := by
          rcases Nat.lt_or_ge 6 c with q | q
          · exact absurd (nI_lt (a := 6) q (by omega)) h7
          · exact q
        rw [if_neg (by omega)] at hg2
        -- the step, for whatever value this bidder has
        have hMs : mx 0 (fun c => if (j % 64).testBit c = false ∧ wo (BA r a k x) w c (j / 64) ≠ 0 then wo (BA r a k x) w c (j / 64) + XX (wo (BA r a k x) w) (5 - j / 64) (so (j % 64) c) else 0) c ≤ 6000 := mx_sm (M := 6000) (by omega) hG hc6
        have step : ∀ V : Int32, V = (if c = 6 then nI (XX (wo (BA r a k x) w) (5 - j / 64) (j % 64)) else if (j % 64).testBit c = false ∧ wo (BA r a k x) w c (j / 64) ≠ 0 then nI (wo (BA r a k x) w c (j / 64) + XX (wo (BA r a k x) w) (5 - j / 64) (so (j % 64) c)) else -1) → ∀ (W : Int32), W = (if V ≤ g j then g j else V) → ∀ s7 : MS, s7 = ms_best (ms_best μ g) (upd (m_best (ms_best μ g)) j W) → ∀ v3 : Int32, v3 = nI c + 1 → ∃ n', n' < 7 - c ∧ ∃ c', c' ≤ 7 ∧ n' = 7 - c' ∧ v3 = nI c' ∧ ∃ g', s7 = ms_best μ g' ∧ (∀ z, z ≠ j → g' z = f z) ∧ g' j = nI (if c' = 7 then XX (wo (BA r a k x) w) (6 - j / 64) (j % 64) else mx 0 (fun c => if (j % 64).testBit c = false ∧ wo (BA r a k x) w c (j / 64) ≠ 0 then wo (BA r a k x) w c (j / 64) + XX (wo (BA r a k x) w) (5 - j / 64) (so (j % 64) c) else 0) c') := by
          intro V hV W hW s7 h7 v3 hv3
          refine ⟨7 - (c + 1), by omega, c + 1, by omega, rfl, by rw [hv3, nI_1], upd g j W, h7, fun z hz => by rw [pk_un hz]; exact hg1 z hz, ?_⟩
          rw [pk_us, hW, hg2]
          by_cases e6 : c = 6
          · rw [if_pos e6] at hV
            rw [if_pos (show c + 1 = 7 by omega), hV]
            subst e6
            have ex : XX (wo (BA r a k x) w) (6 - j / 64) (j % 64) = mx (XX (wo (BA r a k x) w) (5 - j / 64) (j % 64)) (fun c => if (j % 64).testBit c = false ∧ wo (BA r a k x) w c (j / 64) ≠ 0 then wo (BA r a k x) w c (j / 64) + XX (wo (BA r a k x) w) (5 - j / 64) (so (j % 64) c) else 0) 6 := by
              rw [hD]
              show mx _ _ 6 = _
              rw [show 5 - (5 - j / 64) = j / 64 by omega]
            rw [ex]
            have hmx : ∀ n, mx (XX (wo (BA r a k x) w) (5 - j / 64) (j % 64)) (fun c => if (j % 64).testBit c = false ∧ wo (BA r a k x) w c (j / 64) ≠ 0 then wo (BA r a k x) w c (j / 64) + XX (wo (BA r a k x) w) (5 - j / 64) (so (j % 64) c) else 0) n = max (XX (wo (BA r a k x) w) (5 - j / 64) (j % 64)) (mx 0 (fun c => if (j % 64).testBit c = false ∧ wo (BA r a k x) w c (j / 64) ≠ 0 then wo (BA r a k x) w c (j / 64) + XX (wo (BA r a k x) w) (5 - j / 64) (so (j % 64) c) else 0) n) := by
              intro n
              induction n with
              | zero => exact (Nat.max_eq_left (Nat.zero_le _)).symm
              | succ n ih =>
                show max (mx _ _ n) _ = max _ (max (mx 0 _ n) _)
                rw [ih, Nat.max_assoc]
            rw [hmx]
            generalize mx 0 (fun c => if (j % 64).testBit c = false ∧ wo (BA r a k x) w c (j / 64) ≠ 0 then wo (BA r a k x) w c (j / 64) + XX (wo (BA r a k x) w) (5 - j / 64) (so (j % 64) c) else 0) 6 = M at hMs ⊢
            generalize XX (wo (BA r a k x) w) (5 - j / 64) (j % 64) = Y at hB5 ⊢
            by_cases q : nI Y ≤ nI M
            · rw [if_pos q, Nat.max_eq_right ((nI_leI (by omega) (by omega)).mp q)]
            · rw [if_neg q, Nat.max_eq_left (by rw [nI_leI (by omega) (by omega)] at q; omega)]
          · rw [if_neg e6] at hV
            rw [if_neg (show ¬ c + 1 = 7 by omega)]
            have hlt : c < 6 := by omega
            have hGc := hG c hlt
            show _ = nI (max (mx 0 _ c) _)
            generalize mx 0 (fun c => if (j % 64).testBit c = false ∧ wo (BA r a k x) w c (j / 64) ≠ 0 then wo (BA r a k x) w c (j / 64) + XX (wo (BA r a k x) w) (5 - j / 64) (so (j % 64) c) else 0) c = M at hMs ⊢
            dsimp only
            by_cases h : (j % 64).testBit c = false ∧ wo (BA r a k x) w c (j / 64) ≠ 0
            · rw [if_pos h] at hV hGc
              rw [if_pos h, hV]
              generalize wo (BA r a k x) w c (j / 64) + XX (wo (BA r a k x) w) (5 - j / 64) (so (j % 64) c) = Y at hGc ⊢
              by_cases q : nI Y ≤ nI M
              · rw [if_pos q, Nat.max_eq_left ((nI_leI (by omega) (by omega)).mp q)]
              · rw [if_neg q, Nat.max_eq_right (by rw [nI_leI (by omega) (by omega)] at q; omega)]
            · rw [if_neg h] at hV
              rw [if_neg h, hV, Nat.max_eq_left (Nat.zero_le _), if_pos (by rw [tI_le, tIm1, nI_toInt (by omega)]; omega)]
        -- bring the two forms of the walk together
        have use : ∀ V : Int32, V = (if c = 6 then nI (XX (wo (BA r a k x) w) (5 - j / 64) (j % 64)) else if (j % 64).testBit c = false ∧ wo (BA r a k x) w c (j / 64) ≠ 0 then nI (wo (BA r a k x) w c (j / 64) + XX (wo (BA r a k x) w) (5 - j / 64) (so (j % 64) c)) else -1) → (vp_in (nI j) 448 ∧ ((V ≤ m_best (ms_best μ g) (nI j).toNatClampNeg → vp_in (nI j) 448 ∧ vp_in (nI j) 448 ∧ ∀ σ_7 : MS, σ_7 = ms_best (ms_best μ g) (upd (m_best (ms_best μ g)) (nI j).toNatClampNeg (m_best (ms_best μ g) (nI j).toNatClampNeg)) → ∀ v3_8 : Int32, v3_8 = nI c + 1 → ∃ n', n' < 7 - c ∧ ∃ c', c' ≤ 7 ∧ n' = 7 - c' ∧ v3_8 = nI c' ∧ ∃ g', σ_7 = ms_best μ g' ∧ (∀ z, z ≠ j → g' z = f z) ∧ g' j = nI (if c' = 7 then XX (wo (BA r a k x) w) (6 - j / 64) (j % 64) else mx 0 (fun c => if (j % 64).testBit c = false ∧ wo (BA r a k x) w c (j / 64) ≠ 0 then wo (BA r a k x) w c (j / 64) + XX (wo (BA r a k x) w) (5 - j / 64) (so (j % 64) c) else 0) c')) ∧ (¬ V ≤ m_best (ms_best μ g) (nI j).toNatClampNeg → vp_in (nI j) 448 ∧ ∀ σ_9 : MS, σ_9 = ms_best (ms_best μ g) (upd (m_best (ms_best μ g)) (nI j).toNatClampNeg V) → ∀ v3_10 : Int32, v3_10 = nI c + 1 → ∃ n', n' < 7 - c ∧ ∃ c', c' ≤ 7 ∧ n' = 7 - c' ∧ v3_10 = nI c' ∧ ∃ g', σ_9 = ms_best μ g' ∧ (∀ z, z ≠ j → g' z = f z) ∧ g' j = nI (if c' = 7 then XX (wo (BA r a k x) w) (6 - j / 64) (j % 64) else mx 0 (fun c => if (j % 64).testBit c = false ∧ wo (BA r a k x) w c (j / 64) ≠ 0 then wo (BA r a k x) w c (j / 64) + XX (wo (BA r a k x) w) (5 - j / 64) (so (j % 64) c) else 0) c')))) := by
          intro V hV
          rw [nI_clamp (show j < 2 ^ 31 by omega)]
          have hin : vp_in (nI j) 448 := q_in (by omega) (by decide)
          refine ⟨hin, fun h => ⟨hin, hin, fun s7 h7 v3 hv3 => step V hV (g j) ?_ s7 h7 v3 hv3⟩, fun h => ⟨hin, fun s7 h7 v3 hv3 => step V hV V ?_ s7 h7 v3 hv3⟩⟩
          · have h : V ≤ g j := h
            rw [if_pos h]
          · have h : ¬ V ≤ g j := h
            rw [if_neg h]
        have hwith : ∀ post' : Int32 → Prop, post' (wv (BA r a k x) g (j / 64) c (j % 64)) → wp_X5_with (ms_best μ g) (nI j / 64) (nI c) (nI j - nI j / 64 * 64) post' := by
          intro post' hp'
          rw [e2, e1]
          exact m_with (μ := ms_best μ g) R hA hx0 hx (j / 64) c (j % 64) hs hc6 ht hp'
        refine ⟨fun h6 => ?_, fun h6 => ⟨fun h5 => ?_, fun h5 => ?_⟩⟩
        · refine hwith _ (use _ ?_)
          have hcw : c ≠ w := fun e => h6 (by rw [e])
          by_cases e6 : c = 6
          · rw [if_pos e6]
            unfold wv
            rw [if_pos e6, htab (j / 64 + 1) (j % 64) (by omega) ht (by omega), show 6 - (j / 64 + 1) = 5 - j / 64 by omega]
          · rw [if_neg e6, ← wv_tab hs (by omega) ht htab, if_neg hcw]
        · have hcw : c = w := (nI_eq (by omega) (by omega)).mp h6
          have e6 : c = 6 := by
            have := (nI_leI (a := 6) (by omega) (by omega)).mp h5
            omega
          refine hwith _ (use _ ?_)
          rw [if_pos e6]
          unfold wv
          rw [if_pos e6, htab (j / 64 + 1) (j % 64) (by omega) ht (by omega), show 6 - (j / 64 + 1) = 5 - j / 64 by omega]
        · have hcw : c = w := (nI_eq (by omega) (by omega)).mp h6
          have e6 : c ≠ 6 := fun e => h5 (by rw [e]; decide)
          refine use (-1) ?_
          rw [if_neg e6, if_neg]
          rintro ⟨_, q⟩
          exact q (if_pos hcw)
  · have e : i < 64 := Nat.lt_of_not_le fun q => h9 (nI_le (a := 64) q (by omega))
    have e384 : (384 : Int32) + nI i = nI (384 + i) := nI_add 384 i
    rw [e384]
    refine ⟨q_in (by omega) (by decide), ?_⟩
    intro s20 h20 v hv
    rw [nI_clamp (by omega)] at h20
    refine ⟨64 - (i + 1), by omega, i + 1, e, rfl, by rw [hv, nI_1], _, h20, fun q hq => ?_⟩
    show upd f (384 + i) 0 (384 + q) = 0
    by_cases e2 : q = i
    · subst e2; exact pk_us
    · rw [pk_un (by omega)]; exact hf q (by omega)
