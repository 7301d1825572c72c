/-! pure part: the best sharing. K c s: what the bid of bidder c for spot s brings, 0 for none that counts; 6 is 'none' -/
def kv (K : Nat → Nat → Nat) (c s : Nat) : Nat := if c < 6 then K c s else 0
theorem kv_lt {K : Nat → Nat → Nat} {c s : Nat} (h : c < 6) : kv K c s = K c s := if_pos h
theorem kv_ge {K : Nat → Nat → Nat} {c s : Nat} (h : 6 ≤ c) : kv K c s = 0 := if_neg (by omega)
/-- the first j spots' part of a sharing's worth -/
def vP (K : Nat → Nat → Nat) (f : Nat → Nat) : Nat → Nat
  | 0 => 0
  | j + 1 => vP K f j + kv K (f j) j
/-- the last d spots' part -/
def vS (K : Nat → Nat → Nat) (f : Nat → Nat) : Nat → Nat
  | 0 => 0
  | d + 1 => kv K (f (5 - d)) (5 - d) + vS K f d
theorem vP_vS (K : Nat → Nat → Nat) (f : Nat → Nat) : vP K f 6 = vS K f 6 := by
  simp only [vP, vS]
  show _ = kv K (f 0) 0 + (kv K (f 1) 1 + (kv K (f 2) 2 + (kv K (f 3) 3 + (kv K (f 4) 4 + (kv K (f 5) 5 + 0)))))
  omega
/-- f is a sharing over the spots lo to hi, of the bidders of A, by bids that count -/
def okA (K : Nat → Nat → Nat) (A : Nat → Prop) (f : Nat → Nat) (lo hi : Nat) : Prop :=
  (∀ s, lo ≤ s → s < hi → f s < 6 → A (f s) ∧ K (f s) s ≠ 0) ∧ (∀ s s', lo ≤ s → s < hi → lo ≤ s' → s' < hi → s ≠ s' → f s = f s' → 6 ≤ f s)
def mx (base : Nat) (g : Nat → Nat) : Nat → Nat
  | 0 => base
  | n + 1 => max (mx base g n) (g n)
theorem mx_base (base : Nat) (g : Nat → Nat) : ∀ n, base ≤ mx base g n
  | 0 => Nat.le_refl _
  | n + 1 => Nat.le_trans (mx_base base g n) (Nat.le_max_left _ _)
theorem mx_ge (base : Nat) (g : Nat → Nat) : ∀ n i, i < n → g i ≤ mx base g n
  | 0, _, h => absurd h (Nat.not_lt_zero _)
  | n + 1, i, h => by
    rcases Nat.lt_or_ge i n with q | q
    · exact Nat.le_trans (mx_ge base g n i q) (Nat.le_max_left _ _)
    · obtain rfl : i = n := by omega
      exact Nat.le_max_right _ _
theorem mx_cases (base : Nat) (g : Nat → Nat) : ∀ n, mx base g n = base ∨ ∃ i, i < n ∧ mx base g n = g i
  | 0 => Or.inl rfl
  | n + 1 => by
    show max (mx base g n) (g n) = base ∨ ∃ i, i < n + 1 ∧ max (mx base g n) (g n) = g i
    rcases Nat.le_total (mx base g n) (g n) with q | q
    · exact Or.inr ⟨n, by omega, Nat.max_eq_right q⟩
    · rw [Nat.max_eq_left q]
      rcases mx_cases base g n with h | ⟨i, hi, h⟩
      · exact Or.inl h
      · exact Or.inr ⟨i, by omega, h⟩
theorem mx_le {base m : Nat} {g : Nat → Nat} (hb : base ≤ m) : ∀ n, (∀ i, i < n → g i ≤ m) → mx base g n ≤ m
  | 0, _ => hb
  | n + 1, h => Nat.max_le.mpr ⟨mx_le hb n (fun i hi => h i (by omega)), h n (by omega)⟩
theorem mx_congr {b1 b2 : Nat} {g1 g2 : Nat → Nat} (hb : b1 = b2) : ∀ n, (∀ i, i < n → g1 i = g2 i) → mx b1 g1 n = mx b2 g2 n
  | 0, _ => hb
  | n + 1, h => by
    show max _ _ = max _ _
    rw [mx_congr hb n (fun i hi => h i (by omega)), h n (by omega)]
def sw (S b : Nat) : Nat := S ^^^ (S &&& 2 ^ b)
def so (t c : Nat) : Nat := t ||| 2 ^ c
theorem sw_bit (S b c : Nat) : (sw S b).testBit c = (S.testBit c && !decide (b = c)) := by
  unfold sw
  rw [Nat.testBit_xor, Nat.testBit_and, Nat.testBit_two_pow]
  cases S.testBit c <;> cases decide (b = c) <;> rfl
theorem so_bit (t b c : Nat) : (so t b).testBit c = (t.testBit c || decide (b = c)) := by
  unfold so
  rw [Nat.testBit_or, Nat.testBit_two_pow]
/-- told by sets of bidders, over the first spots -/
def FF (K : Nat → Nat → Nat) : Nat → Nat → Nat
  | 0, _ => 0
  | j + 1, S => mx (FF K j S) (fun b => if S.testBit b = true ∧ K b j ≠ 0 then FF K j (sw S b) + K b j else 0) 6
/-- told by the bidders that have one, over the last spots -/
def XX (K : Nat → Nat → Nat) : Nat → Nat → Nat
  | 0, _ => 0
  | d + 1, t => mx (XX K d t) (fun c => if t.testBit c = false ∧ K c (5 - d) ≠ 0 then K c (5 - d) + XX K d (so t c) else 0) 6
theorem okA.less {K : Nat → Nat → Nat} {A : Nat → Prop} {f : Nat → Nat} {lo hi lo' hi' : Nat} (h : okA K A f lo hi) (h1 : lo ≤ lo') (h2 : hi' ≤ hi) : okA K A f lo' hi' :=
  ⟨fun s a b => h.1 s (by omega) (by omega), fun s s' a b c d => h.2 s s' (by omega) (by omega) (by omega) (by omega)⟩
theorem FF_upper (K : Nat → Nat → Nat) : ∀ (j S : Nat) (f : Nat → Nat), okA K (fun c => S.testBit c = true) f 0 j → vP K f j ≤ FF K j S
  | 0, _, _, _ => Nat.zero_le _
  | j + 1, S, f, h => by
    show vP K f j + kv K (f j) j ≤ mx _ _ 6
    rcases Nat.lt_or_ge (f j) 6 with q | q
    · rw [kv_lt q]
      obtain ⟨hA, hK⟩ := h.1 j (Nat.zero_le _) (by omega) q
      have h1 : okA K (fun c => (sw S (f j)).testBit c = true) f 0 j := by
        refine ⟨fun s a b c => ?_, (h.less (Nat.le_refl _) (by omega)).2⟩
        obtain ⟨q1, q2⟩ := h.1 s a (by omega) c
        refine ⟨?_, q2⟩
        show (sw S (f j)).testBit (f s) = true
        rw [sw_bit, q1]
        have : f j ≠ f s := fun e => by have := h.2 j s (Nat.zero_le _) (by omega) a (by omega) (by omega) e; omega
        simp [this]
      have h2 := FF_upper K j (sw S (f j)) f h1
      refine Nat.le_trans ?_ (mx_ge _ _ 6 (f j) q)
      rw [if_pos ⟨hA, hK⟩]
      omega
    · rw [kv_ge q]
      exact Nat.le_trans (FF_upper K j S f (h.less (Nat.le_refl _) (by omega))) (mx_base _ _ 6)
theorem vP_congr {K : Nat → Nat → Nat} {f g : Nat → Nat} : ∀ j, (∀ s, s < j → f s = g s) → vP K f j = vP K g j
  | 0, _ => rfl
  | j + 1, h => by
    show vP K f j + _ = vP K g j + _
    rw [vP_congr j (fun s hs => h s (by omega)), h j (by omega)]
theorem FF_attain (K : Nat → Nat → Nat) : ∀ (j S : Nat), ∃ f, okA K (fun c => S.testBit c = true) f 0 j ∧ vP K f j = FF K j S
  | 0, _ => ⟨fun _ => 6, ⟨fun s _ h => absurd h (Nat.not_lt_zero _), fun s _ _ h => absurd h (Nat.not_lt_zero _)⟩, rfl⟩
  | j + 1, S => by
    have ext : ∀ (c S' : Nat), (∀ x, S'.testBit x = true → S.testBit x = true ∧ (c < 6 → c ≠ x)) → (c < 6 → S.testBit c = true ∧ K c j ≠ 0) → ∃ f, okA K (fun c => S.testBit c = true) f 0 (j + 1) ∧ vP K f (j + 1) = FF K j S' + kv K c j := by
      intro c S' hS hc
      obtain ⟨f, hf, hv⟩ := FF_attain K j S'
      have e : ∀ s, s ≠ j → (fun s => if s = j then c else f s) s = f s := fun s hs => if_neg hs
      have ej : (fun s => if s = j then c else f s) j = c := if_pos rfl
      generalize (fun s => if s = j then c else f s) = g at e ej
      refine ⟨g, ⟨fun s a b q => ?_, fun s s' a b a' b' hne he => ?_⟩, ?_⟩
      · by_cases hs : s = j
        · subst hs
          rw [ej] at q ⊢
          exact hc q
        · rw [e s hs] at q ⊢
          obtain ⟨q1, q2⟩ := hf.1 s a (by omega) q
          exact ⟨(hS _ q1).1, q2⟩
      · by_cases hs : s = j
        · have hs' : s' ≠ j := by omega
          rw [hs, ej, e s' hs'] at he
          rw [hs, ej]
          rcases Nat.lt_or_ge c 6 with q | q
          · exact absurd he ((hS _ (hf.1 s' a' (by omega) (by omega)).1).2 q)
          · exact q
        · by_cases hs' : s' = j
          · rw [hs', ej, e s hs] at he
            rw [e s hs]
            rcases Nat.lt_or_ge (f s) 6 with q | q
            · exact absurd he.symm ((hS _ (hf.1 s a (by omega) q).1).2 (by omega))
            · exact q
          · rw [e s hs, e s' hs'] at he
            rw [e s hs]
            exact hf.2 s s' a (by omega) a' (by omega) hne he
      · show vP K g j + kv K (g j) j = _
        rw [vP_congr j (fun s hs => e s (by omega)), hv, ej]
    rcases mx_cases (FF K j S) (fun b => if S.testBit b = true ∧ K b j ≠ 0 then FF K j (sw S b) + K b j else 0) 6 with h | ⟨b, hb, h⟩
    · obtain ⟨f, h1, h2⟩ := ext 6 S (fun x hx => ⟨hx, fun q => absurd q (by omega)⟩) (fun q => absurd q (by omega))
      exact ⟨f, h1, by rw [h2, kv_ge (Nat.le_refl _)]; exact h.symm⟩
    · by_cases hc : S.testBit b = true ∧ K b j ≠ 0
      · obtain ⟨f, h1, h2⟩ := ext b (sw S b) (fun x hx => by
          rw [sw_bit] at hx
          cases hx1 : S.testBit x
          · rw [hx1] at hx; cases hx
          · rw [hx1] at hx
            exact ⟨rfl, fun _ e => by rw [decide_eq_true e] at hx; cases hx⟩) (fun _ => hc)
        refine ⟨f, h1, ?_⟩
        rw [h2, kv_lt hb]
        refine Eq.trans ?_ h.symm
        exact (if_pos hc).symm
      · obtain ⟨f, h1, h2⟩ := ext 6 S (fun x hx => ⟨hx, fun q => absurd q (by omega)⟩) (fun q => absurd q (by omega))
        refine ⟨f, h1, ?_⟩
        rw [h2, kv_ge (Nat.le_refl _)]
        have h3 : mx (FF K j S) (fun b => if S.testBit b = true ∧ K b j ≠ 0 then FF K j (sw S b) + K b j else 0) 6 = 0 := by
          rw [h]; exact if_neg hc
        have h4 := mx_base (FF K j S) (fun b => if S.testBit b = true ∧ K b j ≠ 0 then FF K j (sw S b) + K b j else 0) 6
        show FF K j S + 0 = mx _ _ 6
        omega
theorem XX_upper (K : Nat → Nat → Nat) : ∀ (d t : Nat) (f : Nat → Nat), d ≤ 6 → okA K (fun c => t.testBit c = false) f (6 - d) 6 → vS K f d ≤ XX K d t
  | 0, _, _, _, _ => Nat.zero_le _
  | d + 1, t, f, hd, h => by
    show kv K (f (5 - d)) (5 - d) + vS K f d ≤ mx _ _ 6
    rcases Nat.lt_or_ge (f (5 - d)) 6 with q | q
    · rw [kv_lt q]
      obtain ⟨hA, hK⟩ := h.1 (5 - d) (by omega) (by omega) q
      have h1 : okA K (fun c => (so t (f (5 - d))).testBit c = false) f (6 - d) 6 := by
        refine ⟨fun s a b c => ?_, (h.less (by omega) (Nat.le_refl _)).2⟩
        obtain ⟨q1, q2⟩ := h.1 s (by omega) b c
        refine ⟨?_, q2⟩
        show (so t (f (5 - d))).testBit (f s) = false
        rw [so_bit, q1]
        have : f (5 - d) ≠ f s := fun e => by have := h.2 (5 - d) s (by omega) (by omega) (by omega) b (by omega) e; omega
        rw [decide_eq_false this]; rfl
      have h2 := XX_upper K d (so t (f (5 - d))) f (by omega) h1
      refine Nat.le_trans ?_ (mx_ge _ _ 6 (f (5 - d)) q)
      rw [if_pos ⟨hA, hK⟩]
      omega
    · rw [kv_ge q]
      have := Nat.le_trans (XX_upper K d t f (by omega) (h.less (by omega) (Nat.le_refl _))) (mx_base (XX K d t) (fun c => if t.testBit c = false ∧ K c (5 - d) ≠ 0 then K c (5 - d) + XX K d (so t c) else 0) 6)
      omega
theorem vS_congr {K : Nat → Nat → Nat} {f g : Nat → Nat} : ∀ d, d ≤ 6 → (∀ s, 6 - d ≤ s → s < 6 → f s = g s) → vS K f d = vS K g d
  | 0, _, _ => rfl
  | d + 1, hd, h => by
    show kv K (f (5 - d)) (5 - d) + vS K f d = kv K (g (5 - d)) (5 - d) + vS K g d
    rw [vS_congr d (by omega) (fun s a b => h s (by omega) b), h (5 - d) (by omega) (by omega)]
theorem XX_attain (K : Nat → Nat → Nat) : ∀ (d t : Nat), d ≤ 6 → ∃ f, okA K (fun c => t.testBit c = false) f (6 - d) 6 ∧ vS K f d = XX K d t
  | 0, _, _ => ⟨fun _ => 6, ⟨fun s _ h => by omega, fun s _ _ h => by omega⟩, rfl⟩
  | d + 1, t, hd => by
    have ext : ∀ (c t' : Nat), (∀ x, t'.testBit x = false → t.testBit x = false ∧ (c < 6 → c ≠ x)) → (c < 6 → t.testBit c = false ∧ K c (5 - d) ≠ 0) → ∃ f, okA K (fun c => t.testBit c = false) f (6 - (d + 1)) 6 ∧ vS K f (d + 1) = kv K c (5 - d) + XX K d t' := by
      intro c t' hS hc
      obtain ⟨f, hf, hv⟩ := XX_attain K d t' (by omega)
      have e : ∀ s, s ≠ 5 - d → (fun s => if s = 5 - d then c else f s) s = f s := fun s hs => if_neg hs
      have ej : (fun s => if s = 5 - d then c else f s) (5 - d) = c := if_pos rfl
      generalize (fun s => if s = 5 - d then c else f s) = g at e ej
      refine ⟨g, ⟨fun s a b q => ?_, fun s s' a b a' b' hne he => ?_⟩, ?_⟩
      · by_cases hs : s = 5 - d
        · subst hs
          rw [ej] at q ⊢
          exact hc q
        · rw [e s hs] at q ⊢
          obtain ⟨q1, q2⟩ := hf.1 s (by omega) b q
          exact ⟨(hS _ q1).1, q2⟩
      · by_cases hs : s = 5 - d
        · have hs' : s' ≠ 5 - d := by omega
          rw [hs, ej, e s' hs'] at he
          rw [hs, ej]
          rcases Nat.lt_or_ge c 6 with q | q
          · exact absurd he ((hS _ (hf.1 s' (by omega) b' (by omega)).1).2 q)
          · exact q
        · by_cases hs' : s' = 5 - d
          · rw [hs', ej, e s hs] at he
            rw [e s hs]
            rcases Nat.lt_or_ge (f s) 6 with q | q
            · exact absurd he.symm ((hS _ (hf.1 s (by omega) b q).1).2 (by omega))
            · exact q
          · rw [e s hs, e s' hs'] at he
            rw [e s hs]
            exact hf.2 s s' (by omega) b (by omega) b' hne he
      · show kv K (g (5 - d)) (5 - d) + vS K g d = _
        rw [vS_congr d (by omega) (fun s a b => e s (by omega)), hv, ej]
    rcases mx_cases (XX K d t) (fun c => if t.testBit c = false ∧ K c (5 - d) ≠ 0 then K c (5 - d) + XX K d (so t c) else 0) 6 with h | ⟨b, hb, h⟩
    · obtain ⟨f, h1, h2⟩ := ext 6 t (fun x hx => ⟨hx, fun q => absurd q (by omega)⟩) (fun q => absurd q (by omega))
      refine ⟨f, h1, ?_⟩
      rw [h2, kv_ge (Nat.le_refl _), Nat.zero_add]; exact h.symm
    · by_cases hc : t.testBit b = false ∧ K b (5 - d) ≠ 0
      · obtain ⟨f, h1, h2⟩ := ext b (so t b) (fun x hx => by
          rw [so_bit] at hx
          cases hx1 : t.testBit x
          · rw [hx1] at hx
            exact ⟨rfl, fun _ e => by rw [decide_eq_true e] at hx; cases hx⟩
          · rw [hx1] at hx; cases hx) (fun _ => hc)
        refine ⟨f, h1, ?_⟩
        rw [h2, kv_lt hb]
        refine Eq.trans ?_ h.symm
        exact (if_pos hc).symm
      · obtain ⟨f, h1, h2⟩ := ext 6 t (fun x hx => ⟨hx, fun q => absurd q (by omega)⟩) (fun q => absurd q (by omega))
        refine ⟨f, h1, ?_⟩
        rw [h2, kv_ge (Nat.le_refl _), Nat.zero_add]
        have h3 : mx (XX K d t) (fun c => if t.testBit c = false ∧ K c (5 - d) ≠ 0 then K c (5 - d) + XX K d (so t c) else 0) 6 = 0 := by
          rw [h]; exact if_neg hc
        have h4 := mx_base (XX K d t) (fun c => if t.testBit c = false ∧ K c (5 - d) ≠ 0 then K c (5 - d) + XX K d (so t c) else 0) 6
        show XX K d t = mx _ _ 6
        omega
theorem okA.turn {K : Nat → Nat → Nat} {A B : Nat → Prop} {f : Nat → Nat} {lo hi : Nat} (h : okA K A f lo hi) (hAB : ∀ c, c < 6 → A c → B c) : okA K B f lo hi :=
  ⟨fun s a b c => ⟨hAB _ c (h.1 s a b c).1, (h.1 s a b c).2⟩, h.2⟩
/-- the two ways to tell it tell the same -/
theorem FF_XX (K : Nat → Nat → Nat) (S t : Nat) (h : ∀ c, c < 6 → (S.testBit c = true ↔ t.testBit c = false)) : FF K 6 S = XX K 6 t := by
  refine Nat.le_antisymm ?_ ?_
  · obtain ⟨f, h1, h2⟩ := FF_attain K 6 S
    rw [← h2, vP_vS]
    exact XX_upper K 6 t f (Nat.le_refl _) (h1.turn fun c hc => (h c hc).mp)
  · obtain ⟨f, h1, h2⟩ := XX_attain K 6 t (Nat.le_refl _)
    rw [← h2, ← vP_vS]
    exact FF_upper K 6 S f (h1.turn fun c hc => (h c hc).mpr)
/-- the class's keys: what a bid brings, and its bidder's figure at its spot's place -/
def Bk (B : Nat → Nat → Nat) (c s : Nat) : Nat := if B c s = 0 then 0 else B c s * 262144 + (6 - c) * 8 ^ (5 - s)
theorem Bk_0 (B : Nat → Nat → Nat) (c s : Nat) : Bk B c s = 0 ↔ B c s = 0 := by
  unfold Bk
  by_cases h : B c s = 0
  · rw [if_pos h]; exact ⟨fun _ => h, fun _ => rfl⟩
  · rw [if_neg h]; exact ⟨fun q => by omega, fun q => absurd q h⟩
def fnd (p : Nat → Bool) : Nat → Nat → Nat
  | 0, i => i
  | n + 1, i => if p i = true then i else fnd p n (i + 1)
theorem fnd_spec (p : Nat → Bool) : ∀ n i, i ≤ fnd p n i ∧ fnd p n i ≤ i + n ∧ (∀ k, i ≤ k → k < fnd p n i → p k = false) ∧ (fnd p n i < i + n → p (fnd p n i) = true)
  | 0, i => ⟨Nat.le_refl _, Nat.le_refl _, fun k a b => by unfold fnd at b; omega, fun h => by unfold fnd at h; omega⟩
  | n + 1, i => by
    unfold fnd
    by_cases h : p i = true
    · rw [if_pos h]
      exact ⟨Nat.le_refl _, by omega, fun k a b => by omega, fun _ => h⟩
    · rw [if_neg h]
      obtain ⟨h1, h2, h3, h4⟩ := fnd_spec p n (i + 1)
      refine ⟨by omega, by omega, fun k a b => ?_, fun q => h4 (by omega)⟩
      rcases Nat.lt_or_ge i k with q | q
      · exact h3 k q b
      · obtain rfl : k = i := by omega
        cases hp : p k
        · rfl
        · exact absurd hp h
/-- whom the reference gives the spot 5 - d, where those of t have one: the first who keeps the worth, 6 for none -/
def gcf (B : Nat → Nat → Nat) (d t : Nat) : Nat := fnd (fun c => decide (t.testBit c = false ∧ B c (5 - d) ≠ 0 ∧ B c (5 - d) + XX B d (so t c) = XX B (d + 1) t)) 6 0
def nxt (t c : Nat) : Nat := if c < 6 then so t c else t
theorem gcf_lt {B : Nat → Nat → Nat} {d t : Nat} (h : gcf B d t < 6) : t.testBit (gcf B d t) = false ∧ B (gcf B d t) (5 - d) ≠ 0 ∧ B (gcf B d t) (5 - d) + XX B d (so t (gcf B d t)) = XX B (d + 1) t := by
  have := (fnd_spec (fun c => decide (t.testBit c = false ∧ B c (5 - d) ≠ 0 ∧ B c (5 - d) + XX B d (so t c) = XX B (d + 1) t)) 6 0).2.2.2 (by show gcf B d t < 0 + 6; omega)
  exact of_decide_eq_true this
theorem gcf_not {B : Nat → Nat → Nat} {d t c : Nat} (h : c < gcf B d t) : ¬ (t.testBit c = false ∧ B c (5 - d) ≠ 0 ∧ B c (5 - d) + XX B d (so t c) = XX B (d + 1) t) := by
  have := (fnd_spec (fun c => decide (t.testBit c = false ∧ B c (5 - d) ≠ 0 ∧ B c (5 - d) + XX B d (so t c) = XX B (d + 1) t)) 6 0).2.2.1 c (Nat.zero_le _) h
  exact of_decide_eq_false this
theorem gcf_le (B : Nat → Nat → Nat) (d t : Nat) : gcf B d t ≤ 6 := by
  have := (fnd_spec (fun c => decide (t.testBit c = false ∧ B c (5 - d) ≠ 0 ∧ B c (5 - d) + XX B d (so t c) = XX B (d + 1) t)) 6 0).2.1
  exact Nat.le_trans this (Nat.le_refl _)
theorem XX_opt (B : Nat → Nat → Nat) (d t c : Nat) (hc : c < 6) (h1 : t.testBit c = false) (h2 : B c (5 - d) ≠ 0) : B c (5 - d) + XX B d (so t c) ≤ XX B (d + 1) t := by
  have := mx_ge (XX B d t) (fun c => if t.testBit c = false ∧ B c (5 - d) ≠ 0 then B c (5 - d) + XX B d (so t c) else 0) 6 c hc
  simp only [if_pos (And.intro h1 h2)] at this
  exact this
theorem XX_mono (B : Nat → Nat → Nat) (d t : Nat) : XX B d t ≤ XX B (d + 1) t := mx_base _ _ 6
theorem gcf_6 {B : Nat → Nat → Nat} {d t : Nat} (h : gcf B d t = 6) : XX B (d + 1) t = XX B d t := by
  rcases mx_cases (XX B d t) (fun c => if t.testBit c = false ∧ B c (5 - d) ≠ 0 then B c (5 - d) + XX B d (so t c) else 0) 6 with q | ⟨c, hc, q⟩
  · exact q
  · by_cases hh : t.testBit c = false ∧ B c (5 - d) ≠ 0
    · simp only [if_pos hh] at q
      exact absurd ⟨hh.1, hh.2, q.symm⟩ (gcf_not (by omega))
    · simp only [if_neg hh] at q
      have := XX_mono B d t
      have q : XX B (d + 1) t = 0 := q
      omega
/-- the reference's choice keeps the worth -/
theorem gcf_keeps (B : Nat → Nat → Nat) (d t : Nat) : kv B (gcf B d t) (5 - d) + XX B d (nxt t (gcf B d t)) = XX B (d + 1) t := by
  rcases Nat.lt_or_ge (gcf B d t) 6 with h | h
  · rw [kv_lt h, nxt, if_pos h]; exact (gcf_lt h).2.2
  · have := gcf_le B d t
    rw [kv_ge h, nxt, if_neg (by omega), Nat.zero_add]
    exact (gcf_6 (by omega)).symm
/-- the figures of the reference's choices -/
def DD (B : Nat → Nat → Nat) : Nat → Nat → Nat
  | 0, _ => 0
  | d + 1, t => (6 - gcf B d t) * 8 ^ d + DD B d (nxt t (gcf B d t))
theorem pow8 {d : Nat} (h : d ≤ 5) : 8 ^ d ≤ 32768 := Nat.pow_le_pow_right (by decide) h
theorem DD_lt (B : Nat → Nat → Nat) : ∀ d t, DD B d t < 8 ^ d
  | 0, _ => by show 0 < 8 ^ 0; decide
  | d + 1, t => by
    have h1 := DD_lt B d (nxt t (gcf B d t))
    have h2 : ((6 - gcf B d t) + 1) * 8 ^ d ≤ 7 * 8 ^ d := Nat.mul_le_mul_right _ (by omega)
    rw [Nat.add_mul, Nat.one_mul] at h2
    show (6 - gcf B d t) * 8 ^ d + DD B d (nxt t (gcf B d t)) < 8 ^ (d + 1)
    rw [Nat.pow_succ]
    omega
set_option maxRecDepth 100000 in
/-- the class's best tells the worth, and the reference's choices in its figures -/
theorem XX_Bk (B : Nat → Nat → Nat) : ∀ d t, d ≤ 6 → XX (Bk B) d t = XX B d t * 262144 + DD B d t
  | 0, _, _ => by show 0 = 0 * 262144 + 0; rw [Nat.zero_mul]
  | d + 1, t, hd => by
    have ih := fun t => XX_Bk B d t (by omega)
    have h8 := pow8 (d := d) (by omega)
    have hD := fun t => DD_lt B d t
    have ek : 5 - (5 - d) = d := by omega
    have hb : ∀ c, c < 6 → B c (5 - d) ≠ 0 → Bk B c (5 - d) = B c (5 - d) * 262144 + (6 - c) * 8 ^ d := fun c _ h => by unfold Bk; rw [if_neg h, ek]
    have hM := XX_mono B d t
    have hL := gcf_le B d t
    have hDs : DD B (d + 1) t = (6 - gcf B d t) * 8 ^ d + DD B d (nxt t (gcf B d t)) := rfl
    refine Nat.le_antisymm (mx_le ?_ 6 (fun c hc => ?_)) ?_
    · rw [ih t]
      rcases Nat.lt_or_ge (XX B d t) (XX B (d + 1) t) with q | q
      · have := hD t
        omega
      · rcases Nat.lt_or_ge (gcf B d t) 6 with g | g
        · have h2 : 1 * 8 ^ d ≤ (6 - gcf B d t) * 8 ^ d := Nat.mul_le_mul_right _ (by omega)
          have := hD t
          omega
        · have e : gcf B d t = 6 := by omega
          have e2 : nxt t (gcf B d t) = t := by unfold nxt; rw [if_neg (by omega)]
          rw [e2] at hDs
          omega
    · by_cases hh : t.testBit c = false ∧ Bk B c (5 - d) ≠ 0
      · have hB : B c (5 - d) ≠ 0 := fun e => hh.2 ((Bk_0 B c _).mpr e)
        simp only [if_pos hh]
        rw [hb c hc hB, ih]
        have ho := XX_opt B d t c hc hh.1 hB
        have hDc := hD (so t c)
        have h6 : (6 - c) * 8 ^ d ≤ 6 * 8 ^ d := Nat.mul_le_mul_right _ (by omega)
        rcases Nat.lt_or_ge (B c (5 - d) + XX B d (so t c)) (XX B (d + 1) t) with q | q
        · omega
        · have hle : gcf B d t ≤ c := Nat.le_of_not_lt fun g => gcf_not g ⟨hh.1, hB, by omega⟩
          rcases Nat.lt_or_ge (gcf B d t) c with g | g
          · have h2 : ((6 - c) + 1) * 8 ^ d ≤ (6 - gcf B d t) * 8 ^ d := Nat.mul_le_mul_right _ (by omega)
            rw [Nat.add_mul, Nat.one_mul] at h2
            omega
          · have e : gcf B d t = c := by omega
            have e2 : nxt t (gcf B d t) = so t c := by unfold nxt; rw [e, if_pos hc]
            rw [e2, e] at hDs
            omega
      · simp only [if_neg hh]
        exact Nat.zero_le _
    · have hk := gcf_keeps B d t
      rcases Nat.lt_or_ge (gcf B d t) 6 with g | g
      · obtain ⟨g1, g2, g3⟩ := gcf_lt g
        have := mx_ge (XX (Bk B) d t) (fun c => if t.testBit c = false ∧ Bk B c (5 - d) ≠ 0 then Bk B c (5 - d) + XX (Bk B) d (so t c) else 0) 6 (gcf B d t) g
        simp only [if_pos (And.intro g1 (fun e => g2 ((Bk_0 B _ _).mp e)))] at this
        rw [hb _ g g2, ih] at this
        refine Nat.le_trans ?_ this
        clear this
        rw [hDs]
        have e2 : nxt t (gcf B d t) = so t (gcf B d t) := if_pos g
        rw [e2]
        omega
      · have e : gcf B d t = 6 := by omega
        have e2 : nxt t (gcf B d t) = t := by unfold nxt; rw [if_neg (by omega)]
        have h6 := gcf_6 e
        have := mx_base (XX (Bk B) d t) (fun c => if t.testBit c = false ∧ Bk B c (5 - d) ≠ 0 then Bk B c (5 - d) + XX (Bk B) d (so t c) else 0) 6
        refine Nat.le_trans ?_ this
        clear this
        rw [ih, hDs, e2, e]
        omega
/-- those that have a spot before spot s, and who gets it -/
def tkn (B : Nat → Nat → Nat) : Nat → Nat
  | 0 => 0
  | s + 1 => nxt (tkn B s) (gcf B (5 - s) (tkn B s))
def own (B : Nat → Nat → Nat) (s : Nat) : Nat := gcf B (5 - s) (tkn B s)
theorem DD_tkn (B : Nat → Nat → Nat) : ∀ s, s < 6 → DD B (6 - s) (tkn B s) = (6 - own B s) * 8 ^ (5 - s) + DD B (5 - s) (tkn B (s + 1)) := by
  intro s hs
  have e : 6 - s = (5 - s) + 1 := by omega
  rw [e]; rfl
theorem DD_6 (B : Nat → Nat → Nat) : DD B 6 0 = (6 - own B 0) * 32768 + ((6 - own B 1) * 4096 + ((6 - own B 2) * 512 + ((6 - own B 3) * 64 + ((6 - own B 4) * 8 + (6 - own B 5))))) := by
  have h0 := DD_tkn B 0 (by decide)
  have h1 := DD_tkn B 1 (by decide)
  have h2 := DD_tkn B 2 (by decide)
  have h3 := DD_tkn B 3 (by decide)
  have h4 := DD_tkn B 4 (by decide)
  have h5 := DD_tkn B 5 (by decide)
  simp only [Nat.reduceSub, Nat.reducePow, Nat.reduceAdd, Nat.mul_one] at h0 h1 h2 h3 h4 h5
  have h6 : DD B 0 (tkn B 6) = 0 := rfl
  rw [show DD B 6 0 = DD B 6 (tkn B 0) from rfl, h0, h1, h2, h3, h4, h5, h6, Nat.add_zero]
theorem own_le (B : Nat → Nat → Nat) (s : Nat) : own B s ≤ 6 := gcf_le _ _ _
/-- the class reads the reference's choice of spot s out of its best -/
theorem own_digit (B : Nat → Nat → Nat) (s : Nat) (hs : s < 6) : XX (Bk B) 6 0 / 8 ^ (5 - s) % 8 = 6 - own B s := by
  rw [XX_Bk B 6 0 (Nat.le_refl _), DD_6]
  have h0 := own_le B 0
  have h1 := own_le B 1
  have h2 := own_le B 2
  have h3 := own_le B 3
  have h4 := own_le B 4
  have h5 := own_le B 5
  rcases (show s = 0 ∨ s = 1 ∨ s = 2 ∨ s = 3 ∨ s = 4 ∨ s = 5 by omega) with rfl | rfl | rfl | rfl | rfl | rfl <;> simp only [Nat.reduceSub, Nat.reducePow] <;> omega
/-- the worth is told in the highest figures -/
theorem XX_Bk_div (B : Nat → Nat → Nat) (t : Nat) : XX (Bk B) 6 t / 2097152 = XX B 6 t / 8 := by
  rw [XX_Bk B 6 t (Nat.le_refl _)]
  have := DD_lt B 6 t
  simp only [Nat.reducePow] at this
  omega
