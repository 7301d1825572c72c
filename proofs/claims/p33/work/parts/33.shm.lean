/-! pure part: the reference's sharing does what 30 says -/
theorem brg_81 (x p u : Int32) (h : brg x p u ≠ 0) : brg x p u % 8 = 1 := by
  unfold brg at h ⊢
  by_cases h1 : x = 0
  · rw [if_pos h1] at h; exact absurd rfl h
  · rw [if_neg h1] at h ⊢
    by_cases h2 : x < p
    · rw [if_pos h2] at h; exact absurd rfl h
    · rw [if_neg h2] at h ⊢
      by_cases h3 : x ≤ u
      · rw [if_pos h3]; omega
      · rw [if_neg h3] at h; exact absurd rfl h
theorem brg_le {x p u : Int32} (hx : x.toInt ≤ 99) (hp : 0 ≤ p.toInt) : brg x p u ≤ 793 := by
  unfold brg
  by_cases h1 : x = 0
  · rw [if_pos h1]; omega
  · rw [if_neg h1]
    by_cases h2 : x < p
    · rw [if_pos h2]; omega
    · rw [if_neg h2]
      by_cases h3 : x ≤ u
      · rw [if_pos h3]; omega
      · rw [if_neg h3]; omega
/-- what each bid brings, also one that is only asked about: of bidder a for spot k, of amount x -/
def BA (r : Nat → Int32) (a k x : Int32) (b s : Nat) : Nat := if b < 6 ∧ s < 6 then brg (if nI b = a ∧ nI s = k then x else r (54 + (b * 6 + s))) (r s) (r (30 + b)) else 0
theorem BA_in {r : Nat → Int32} {a k x : Int32} {b s : Nat} (hb : b < 6) (hs : s < 6) : BA r a k x b s = brg (if nI b = a ∧ nI s = k then x else r (54 + (b * 6 + s))) (r s) (r (30 + b)) := if_pos ⟨hb, hs⟩
theorem BA_none {r : Nat → Int32} {k x : Int32} : BA r (-1) k x = BC r := by
  funext b s
  unfold BA BC
  by_cases h : b < 6 ∧ s < 6
  · rw [if_pos h, if_pos h, if_neg (fun q => nI_m1 (by omega) q.1)]
  · rw [if_neg h, if_neg h]
theorem BA_set1 {r : Nat → Int32} {b s : Nat} (hb : b < 6) (hs : s < 6) (x : Int32) : BA r (nI b) (nI s) x = set1 (BC r) b s (brg x (r s) (r (30 + b))) := by
  funext c k
  unfold BA set1 BC
  by_cases h : c < 6 ∧ k < 6
  · simp only [if_pos h]
    by_cases e : c = b ∧ k = s
    · rw [if_pos e, if_pos ⟨by rw [e.1], by rw [e.2]⟩, e.1, e.2]
    · rw [if_neg e, if_neg (fun q => e ⟨(nI_eq (by omega) (by omega)).mp q.1, (nI_eq (by omega) (by omega)).mp q.2⟩)]
  · simp only [if_neg h]
    rw [if_neg (fun e => h (by rw [e.1, e.2]; exact ⟨hb, hs⟩))]
theorem BA_81 (r : Nat → Int32) (a k x : Int32) : B81 (BA r a k x) := by
  intro b s h
  unfold BA at h ⊢
  by_cases q : b < 6 ∧ s < 6
  · rw [if_pos q] at h ⊢; exact brg_81 _ _ _ h
  · rw [if_neg q] at h; exact absurd rfl h
theorem BA_le {m : Nat} {r : Nat → Int32} (h1 : O1 m r) {a k x : Int32} (hx : x.toInt ≤ 99) (b s : Nat) : BA r a k x b s ≤ 793 := by
  unfold BA
  by_cases q : b < 6 ∧ s < 6
  · rw [if_pos q]
    refine brg_le ?_ (h1.price q.2).1
    by_cases e : nI b = a ∧ nI s = k
    · rw [if_pos e]; exact hx
    · rw [if_neg e]; exact (h1.amount q.1 q.2).2
  · rw [if_neg q]; omega
theorem bit1_eq : ∀ t, t < 64 → ∀ c, c < 6 → (((nI t >>> (nI c &&& 31)) &&& 1) = 1 ↔ t.testBit c = true) := by decide +kernel
theorem so_eq : ∀ t, t < 64 → ∀ c, c < 6 → (nI t ||| ((1 : Int32) <<< (nI c &&& 31))) = nI (so t c) ∧ so t c < 64 := by decide +kernel
/-- with(): what the best is from spot s on, if it goes to bidder c -/
def wv (B : Nat → Nat → Nat) (f : Nat → Int32) (s c t : Nat) : Int32 := if c = 6 then f (64 * (s + 1) + t) else if t.testBit c = true ∨ B c s = 0 then -1 else nI (B c s) + f (64 * (s + 1) + so t c)
/-- the bids but those of one bidder -/
def wo (B : Nat → Nat → Nat) (w : Nat) : Nat → Nat → Nat := fun c s => if c = w then 0 else B c s
theorem XX_congr {K L : Nat → Nat → Nat} : ∀ d t, d ≤ 6 → (∀ b s, b < 6 → s < 6 → K b s = L b s) → XX K d t = XX L d t
  | 0, _, _, _ => rfl
  | d + 1, t, hd, h => by
    refine mx_congr (XX_congr d t (by omega) h) 6 (fun b hb => ?_)
    rw [h b (5 - d) hb (by omega), XX_congr d (so t b) (by omega) h]
theorem XX_wo6 (B : Nat → Nat → Nat) (d t : Nat) (hd : d ≤ 6) : XX (wo B 6) d t = XX B d t := XX_congr d t hd (fun b s hb _ => if_neg (by omega))
theorem XX_wo (B : Nat → Nat → Nat) (w : Nat) (hw : w < 6) : XX (wo B w) 6 0 = XX B 6 (2 ^ w) := by
  refine Nat.le_antisymm ?_ ?_
  · obtain ⟨f, h1, h2⟩ := XX_attain (wo B w) 6 0 (Nat.le_refl _)
    have hne : ∀ s, s < 6 → f s < 6 → f s ≠ w := fun s hs q e => (h1.1 s (by omega) hs q).2 (if_pos e)
    rw [← h2, ← vP_vS, vP_le_of (K := wo B w) (L := B) (f := f) (g := f) 6 (fun s hs => by
      rcases Nat.lt_or_ge (f s) 6 with q | q
      · rw [kv_lt q, kv_lt q]; exact if_neg (hne s hs q)
      · rw [kv_ge q, kv_ge q]), vP_vS]
    refine XX_upper B 6 (2 ^ w) f (Nat.le_refl _) ⟨fun s a hs q => ⟨?_, ?_⟩, h1.2⟩
    · show (2 ^ w).testBit (f s) = false
      rw [two_bit]; exact decide_eq_false (fun e => hne s hs q e.symm)
    · have := (h1.1 s a hs q).2
      unfold wo at this
      rw [if_neg (hne s hs q)] at this
      exact this
  · obtain ⟨f, h1, h2⟩ := XX_attain B 6 (2 ^ w) (Nat.le_refl _)
    have hne : ∀ s, s < 6 → f s < 6 → f s ≠ w := fun s hs q e => by
      have h3 := (h1.1 s (by omega) hs q).1
      have h3 : (2 ^ w).testBit (f s) = false := h3
      rw [two_bit] at h3
      exact of_decide_eq_false h3 e.symm
    rw [← h2, ← vP_vS, vP_le_of (K := B) (L := wo B w) (f := f) (g := f) 6 (fun s hs => by
      rcases Nat.lt_or_ge (f s) 6 with q | q
      · rw [kv_lt q, kv_lt q]; exact (if_neg (hne s hs q)).symm
      · rw [kv_ge q, kv_ge q]), vP_vS]
    refine XX_upper (wo B w) 6 0 f (Nat.le_refl _) ⟨fun s a hs q => ⟨Nat.zero_testBit _, ?_⟩, h1.2⟩
    unfold wo
    rw [if_neg (hne s hs q)]
    exact (h1.1 s a hs q).2
theorem XX_bound {K : Nat → Nat → Nat} {M : Nat} (h : ∀ b s, K b s ≤ M) : ∀ d t, XX K d t ≤ d * M
  | 0, _ => Nat.zero_le _
  | d + 1, t => by
    rw [Nat.add_mul, Nat.one_mul]
    refine mx_le (Nat.le_trans (XX_bound h d t) (Nat.le_add_right _ _)) 6 (fun b _ => ?_)
    by_cases hc : t.testBit b = false ∧ K b (5 - d) ≠ 0
    · rw [if_pos hc]
      have := XX_bound h d (so t b)
      have := h b (5 - d)
      omega
    · rw [if_neg hc]; exact Nat.zero_le _
theorem XX_sm {K : Nat → Nat → Nat} (h : ∀ b s, K b s ≤ 793) {d t : Nat} (hd : d ≤ 6) : XX K d t ≤ 4758 := by
  have h1 := XX_bound h d t
  have h2 : d * 793 ≤ 6 * 793 := Nat.mul_le_mul_right _ hd
  omega
theorem wo_le {B : Nat → Nat → Nat} {M : Nat} (h : ∀ b s, B b s ≤ M) (w b s : Nat) : wo B w b s ≤ M := by
  unfold wo
  by_cases e : b = w
  · rw [if_pos e]; exact Nat.zero_le _
  · rw [if_neg e]; exact h b s
/-- a table of the best from place q on -/
def tabOK (B : Nat → Nat → Nat) (f : Nat → Int32) (q0 : Nat) : Prop := ∀ s t, s ≤ 6 → t < 64 → q0 ≤ 64 * s + t → f (64 * s + t) = nI (XX B (6 - s) t)
theorem wv_tab {B : Nat → Nat → Nat} {w : Nat} {f : Nat → Int32} {s c t : Nat} (hs : s < 6) (hc : c < 6) (ht : t < 64) (hf : tabOK (wo B w) f (64 * (s + 1))) : (if c = w then (-1 : Int32) else wv B f s c t) = if t.testBit c = false ∧ wo B w c s ≠ 0 then nI (wo B w c s + XX (wo B w) (5 - s) (so t c)) else -1 := by
  by_cases e : c = w
  · rw [if_pos e, if_neg]
    rintro ⟨_, h⟩
    exact h (if_pos e)
  · have ew : wo B w c s = B c s := if_neg e
    rw [if_neg e, ew]
    unfold wv
    rw [if_neg (by omega)]
    by_cases h : t.testBit c = true ∨ B c s = 0
    · rw [if_pos h, if_neg]
      rintro ⟨h1, h2⟩
      rcases h with h | h
      · rw [h1] at h; exact absurd h (by decide)
      · exact h2 h
    · have hb : t.testBit c = false := by
        cases q : t.testBit c
        · rfl
        · exact absurd (Or.inl q) h
      rw [if_neg h, if_pos ⟨hb, fun q => h (Or.inr q)⟩, hf (s + 1) (so t c) (by omega) (so_eq t ht c hc).2 (by omega), nI_add, show 6 - (s + 1) = 5 - s by omega]
