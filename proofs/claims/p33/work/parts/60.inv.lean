/-! pure part: what holds of a state's row in every run of the law -/
def Zr (r : Nat → Int32) : Prop := ∀ j, 174 ≤ j → r j = 0
/-- how many of the first n bids are sealed -/
def nbF (r : Nat → Int32) : Nat → Nat
  | 0 => 0
  | n + 1 => nbF r n + (if r (54 + n) = 0 then 0 else 1)
theorem nbF_le (r : Nat → Int32) : ∀ n, nbF r n ≤ n
  | 0 => Nat.le_refl _
  | n + 1 => by
    have := nbF_le r n
    show nbF r n + _ ≤ n + 1
    by_cases h : r (54 + n) = 0
    · rw [if_pos h]; omega
    · rw [if_neg h]; omega
theorem nbF_congr {r r' : Nat → Int32} : ∀ n, (∀ k, k < n → r' (54 + k) = r (54 + k)) → nbF r' n = nbF r n
  | 0, _ => rfl
  | n + 1, h => by
    show nbF r' n + _ = nbF r n + _
    rw [nbF_congr n (fun k hk => h k (by omega)), h n (by omega)]
theorem nbF_set {r : Nat → Int32} {k : Nat} {v : Int32} (h0 : r (54 + k) = 0) (hv : ¬ v = 0) : ∀ n, k < n → nbF (upd r (54 + k) v) n = nbF r n + 1
  | 0, h => absurd h (Nat.not_lt_zero _)
  | n + 1, h => by
    show nbF (upd r (54 + k) v) n + _ = nbF r n + _ + 1
    by_cases e : k = n
    · subst e
      rw [pk_us, if_neg hv, if_pos h0, nbF_congr k (fun j hj => pk_un (by omega))]
    · rw [nbF_set h0 hv n (by omega), pk_un (by omega)]; omega
theorem nbF_del {r : Nat → Int32} {k : Nat} (h0 : ¬ r (54 + k) = 0) : ∀ n, k < n → nbF (upd r (54 + k) 0) n + 1 = nbF r n
  | 0, h => absurd h (Nat.not_lt_zero _)
  | n + 1, h => by
    show nbF (upd r (54 + k) 0) n + _ + 1 = nbF r n + _
    by_cases e : k = n
    · subst e
      rw [pk_us, if_pos rfl, if_neg h0, nbF_congr k (fun j hj => pk_un (by omega))]
    · have := nbF_del h0 n (by omega)
      rw [pk_un (by omega)]; omega
theorem nbF_none {r : Nat → Int32} : ∀ n, (∀ k, k < n → r (54 + k) = 0) → nbF r n = 0
  | 0, _ => rfl
  | n + 1, h => by
    show nbF r n + _ = 0
    rw [nbF_none n (fun k hk => h k (by omega)), if_pos (h n (by omega))]
theorem nbF_row (r : Nat → Int32) (b : Nat) : ∀ n, nI (nbF r (b * 6)) + sumG (fun s => hasB r b s) n = nI (nbF r (b * 6 + n))
  | 0 => by show nI _ + 0 = nI _; rw [Int32.add_zero]; rfl
  | n + 1 => by
    show nI _ + (sumG (fun s => hasB r b s) n + hasB r b n) = nI (nbF r (b * 6 + n) + (if r (54 + (b * 6 + n)) = 0 then 0 else 1))
    rw [← Int32.add_assoc, nbF_row r b n]
    unfold hasB
    by_cases h : r (54 + (b * 6 + n)) = 0
    · rw [if_pos h, if_pos h, Int32.add_zero, Nat.add_zero]
    · rw [if_neg h, if_neg h]; exact nI_1 _
theorem nbF_all (r : Nat → Int32) : ∀ n, sumG (fun b => sumG (fun s => hasB r b s) 6) n = nI (nbF r (n * 6))
  | 0 => rfl
  | n + 1 => by
    show sumG _ n + sumG (fun s => hasB r n s) 6 = _
    rw [nbF_all r n, nbF_row r n 6, Nat.succ_mul]
-- the parts of what holds
def X1 (m : Nat) (r : Nat → Int32) : Prop := 0 ≤ (r 172).toInt ∧ (nbF r 36 : Int) + (r 172).toInt ≤ (r 171).toInt ∧ (r 171).toInt ≤ m
def X2 (r : Nat → Int32) : Prop := ∀ k, k < 36 → ¬ r (54 + k) = 0 → 0 ≤ (r (90 + k)).toInt ∧ (r (90 + k)).toInt ≤ 4095
def own1 (r : Nat → Int32) (k : Nat) : Prop := (r (12 + k) = -1 ∧ r (18 + k) = -1) ∨ ∃ w, w < 6 ∧ r (12 + k) = nI w ∧ 0 ≤ (r (18 + k)).toInt ∧ (r (18 + k)).toInt ≤ (r (54 + (w * 6 + k))).toInt ∧ ¬ r (54 + (w * 6 + k)) = 0
def X3 (r : Nat → Int32) : Prop := (∀ k, k < 6 → own1 r k) ∧ ∀ k k', k < 6 → k' < 6 → r (12 + k) = r (12 + k') → ¬ r (12 + k) = -1 → k = k'
def X4 (r : Nat → Int32) : Prop := sumF r 24 6 = sumF r 36 6
def X5 (r : Nat → Int32) : Prop := S6 r 42 ≤ 99 * (r 173).toInt
def X6 (m : Nat) (r : Nat → Int32) : Prop := (r 166).toInt ≤ 600 + 60 * m
theorem X1.congr {m m' : Nat} {r r' : Nat → Int32} (h : X1 m r) (hm : m ≤ m') (h1 : ∀ k, k < 36 → r' (54 + k) = r (54 + k)) (h2 : r' 171 = r 171) (h3 : r' 172 = r 172) : X1 m' r' := by
  unfold X1 at h ⊢
  rw [nbF_congr 36 h1, h2, h3]
  omega
theorem X2.congr {r r' : Nat → Int32} (h : X2 r) (h1 : ∀ j, 54 ≤ j → j < 126 → r' j = r j) : X2 r' := fun k hk => by
  rw [h1 (54 + k) (by omega) (by omega), h1 (90 + k) (by omega) (by omega)]
  exact h k hk
theorem X3.congr {r r' : Nat → Int32} (h : X3 r) (h1 : ∀ j, 12 ≤ j → j < 24 → r' j = r j) (h2 : ∀ j, 54 ≤ j → j < 90 → r' j = r j) : X3 r' := by
  refine ⟨fun k hk => ?_, fun k k' hk hk' e hne => ?_⟩
  · unfold own1
    rw [h1 (12 + k) (by omega) (by omega), h1 (18 + k) (by omega) (by omega)]
    rcases h.1 k hk with q | ⟨w, hw, q1, q2, q3, q4⟩
    · exact Or.inl q
    · refine Or.inr ⟨w, hw, q1, q2, ?_⟩
      rw [h2 (54 + (w * 6 + k)) (by omega) (by omega)]
      exact ⟨q3, q4⟩
  · rw [h1 (12 + k) (by omega) (by omega)] at e hne
    rw [h1 (12 + k') (by omega) (by omega)] at e
    exact h.2 k k' hk hk' e hne
theorem X3.none {r : Nat → Int32} (h : ∀ k, k < 6 → r (12 + k) = -1 ∧ r (18 + k) = -1) : X3 r := ⟨fun k hk => Or.inl (h k hk), fun k _ hk _ _ hne => absurd (h k hk).1 hne⟩
theorem X4.congr {r r' : Nat → Int32} (h : X4 r) (h1 : ∀ j, 24 ≤ j → j < 42 → r' j = r j) : X4 r' := by
  unfold X4
  rw [sumF_congr (r := r) (r' := r') 6 (fun i hi => h1 (24 + i) (by omega) (by omega)), sumF_congr (r := r) (r' := r') (k := 36) 6 (fun i hi => h1 (36 + i) (by omega) (by omega))]
  exact h
theorem S6_congr {r r' : Nat → Int32} {k : Nat} (h : ∀ i, i < 6 → r' (k + i) = r (k + i)) : S6 r' k = S6 r k := by
  unfold S6
  have h0 := h 0 (by decide)
  rw [Nat.add_zero] at h0
  rw [h0, h 1 (by decide), h 2 (by decide), h 3 (by decide), h 4 (by decide), h 5 (by decide)]
theorem X5.congr {r r' : Nat → Int32} (h : X5 r) (h1 : ∀ j, 42 ≤ j → j < 48 → r' j = r j) (h2 : r' 173 = r 173) : X5 r' := by
  unfold X5
  rw [S6_congr (fun i hi => h1 (42 + i) (by omega) (by omega)), h2]
  exact h
theorem X6.congr {m m' : Nat} {r r' : Nat → Int32} (h : X6 m r) (hm : m ≤ m') (h1 : r' 166 = r 166) : X6 m' r' := by
  unfold X6 at h ⊢
  rw [h1]
  omega
theorem Zr.congr {r r' : Nat → Int32} (h : Zr r) (h1 : ∀ j, 174 ≤ j → r' j = r j) : Zr r' := fun j hj => by rw [h1 j hj]; exact h j hj
def G (m : Nat) (r : Nat → Int32) : Prop := (∃ t, Rl m r t) ∧ X1 m r ∧ X2 r ∧ X3 r ∧ X4 r ∧ X5 r ∧ X6 m r ∧ Zr r
theorem G.rl {m : Nat} {r : Nat → Int32} (h : G m r) : ∃ t, Rl m r t := h.1
theorem G.o1 {m : Nat} {r : Nat → Int32} (h : G m r) : O1 m r := h.1.elim fun _ R => R.o1
theorem G.o2 {m : Nat} {r : Nat → Int32} (h : G m r) : O2 r := h.1.elim fun _ R => R.o2
theorem G.o3 {m : Nat} {r : Nat → Int32} (h : G m r) : O3 r := h.1.elim fun _ R => R.o3
theorem G.o4 {m : Nat} {r : Nat → Int32} (h : G m r) : O4 r := h.1.elim fun _ R => R.o4
theorem G.x1 {m : Nat} {r : Nat → Int32} (h : G m r) : X1 m r := h.2.1
theorem G.x2 {m : Nat} {r : Nat → Int32} (h : G m r) : X2 r := h.2.2.1
theorem G.x3 {m : Nat} {r : Nat → Int32} (h : G m r) : X3 r := h.2.2.2.1
theorem G.x4 {m : Nat} {r : Nat → Int32} (h : G m r) : X4 r := h.2.2.2.2.1
theorem G.x5 {m : Nat} {r : Nat → Int32} (h : G m r) : X5 r := h.2.2.2.2.2.1
theorem G.x6 {m : Nat} {r : Nat → Int32} (h : G m r) : X6 m r := h.2.2.2.2.2.2.1
theorem G.z {m : Nat} {r : Nat → Int32} (h : G m r) : Zr r := h.2.2.2.2.2.2.2
theorem G.mono {m m' : Nat} {r : Nat → Int32} (h : G m r) (hm : m ≤ m') : G m' r := ⟨h.rl.elim fun t R => ⟨t, R.mono hm⟩, h.x1.congr hm (fun _ _ => rfl) rfl rfl, h.x2, h.x3, h.x4, h.x5, h.x6.congr hm rfl, h.z⟩
/-- a change of cells of which the coins, bids, spots and hauls know nothing -/
theorem G.plain {m m' : Nat} {r r' : Nat → Int32} (h : G m r) (hm : m ≤ m') (hR : ∃ t, Rl m' r' t) (e : ∀ j, (12 ≤ j ∧ j < 126) ∨ (j = 166 ∨ 171 ≤ j) → r' j = r j) : G m' r' :=
  ⟨hR, h.x1.congr hm (fun k hk => e _ (by omega)) (e _ (by omega)) (e _ (by omega)), h.x2.congr (fun j h1 h2 => e j (by omega)), h.x3.congr (fun j h1 h2 => e j (by omega)) (fun j h1 h2 => e j (by omega)), h.x4.congr (fun j h1 h2 => e j (by omega)), h.x5.congr (fun j h1 h2 => e j (by omega)) (e _ (by omega)), h.x6.congr hm (e _ (by omega)), h.z.congr (fun j h1 => e j (by omega))⟩
-- the deeds
theorem g_price {m : Nat} {r : Nat → Int32} (h : G m r) {k : Nat} (hk : k < 6) {v : Int32} (h0 : 0 ≤ v.toInt) (h1 : v.toInt ≤ 99) : G (m + 1) (upd r k v) := by
  obtain ⟨t, R⟩ := h.rl
  exact h.plain (Nat.le_succ m) ⟨_, (R.one (PI_price hk) (by omega) (by unfold Rng; omega)).mono (Nat.le_succ m)⟩ (fun j hj => pk_un (by omega))
theorem g_set {m : Nat} {r : Nat → Int32} (h : G m r) {k : Nat} (hk : k < 3) {v : Int32} (hv : Rng m (162 + k) v.toInt) : G (m + 1) (upd r (162 + k) v) := by
  obtain ⟨t, R⟩ := h.rl
  exact h.plain (Nat.le_succ m) ⟨_, (R.one (PI_set hk) (by omega) hv).mono (Nat.le_succ m)⟩ (fun j hj => pk_un (by omega))
theorem g_hour {m : Nat} {r : Nat → Int32} (h : G m r) {x : Int32} (hx0 : 1 ≤ x.toInt) (hx : x.toInt ≤ 23) : G (m + 1) (upd r 168 (rHour r x)) := by
  obtain ⟨t, R⟩ := h.rl
  exact h.plain (Nat.le_succ m) ⟨_, rl_hour R hx0 hx⟩ (fun j hj => pk_un (by omega))
theorem pay_ok {m : Nat} {r : Nat → Int32} (h : G m r) (hm : m ≤ 100) {x : Int32} (hx0 : 1 ≤ x.toInt) (hx : x.toInt ≤ 60) : (r 166 + x).toInt = (r 166).toInt + x.toInt ∧ (r 166).toInt + x.toInt ≤ 9999 := by
  have h6 := h.x6
  have h3 := h.o3.2.1
  unfold X6 at h6
  exact ⟨tI_add (by omega) (by omega), by omega⟩
theorem g_pay {m : Nat} {r : Nat → Int32} (h : G m r) (hm : m ≤ 100) {b : Nat} (hb : b < 6) {x : Int32} (hx0 : 1 ≤ x.toInt) (hx : x.toInt ≤ 60) : G (m + 1) (upd (upd r 166 (r 166 + x)) (30 + b) (r (30 + b) + x)) := by
  obtain ⟨t, R⟩ := h.rl
  obtain ⟨e1, e2⟩ := pay_ok h hm hx0 hx
  have R' := rl_pay R hb hx0 (by omega) (fun q => by rw [tI_lt, e1, show (9999 : Int32).toInt = 9999 from by decide] at q; omega)
  have e : ∀ j, j ≠ 166 → (j < 30 ∨ 36 ≤ j) → upd (upd r 166 (r 166 + x)) (30 + b) (r (30 + b) + x) j = r j := fun j h1 h2 => by rw [pk_un (by omega), pk_un h1]
  have h6 := h.x6
  refine ⟨⟨_, R'⟩, h.x1.congr (Nat.le_succ m) (fun k hk => e _ (by omega) (by omega)) (e _ (by omega) (by omega)) (e _ (by omega) (by omega)), h.x2.congr (fun j h1 h2 => e j (by omega) (by omega)), h.x3.congr (fun j h1 h2 => e j (by omega) (by omega)) (fun j h1 h2 => e j (by omega) (by omega)), ?_, h.x5.congr (fun j h1 h2 => e j (by omega) (by omega)) (e _ (by omega) (by omega)), ?_, h.z.congr (fun j h1 => e j (by omega) (by omega))⟩
  · unfold X4
    rw [sumF_congr (r := r) 6 (fun i hi => e (24 + i) (by omega) (by omega)), sumF_congr (r := r) (k := 36) 6 (fun i hi => e (36 + i) (by omega) (by omega))]
    exact h.x4
  · unfold X6 at h6 ⊢
    rw [pk_un (by omega), pk_us, e1]
    omega
theorem why_open {r : Nat → Int32} {b s : Nat} {x : Int32} (h : rWhyN r b s x = 0) : r 169 = 0 ∧ r (54 + (b * 6 + s)) = 0 := by
  unfold rWhyN at h
  by_cases q : r 169 = 0
  · rw [if_pos q] at h
    by_cases q2 : r (54 + (b * 6 + s)) = 0
    · exact ⟨q, q2⟩
    · rw [if_neg q2] at h; exact absurd h (by decide)
  · rw [if_neg q] at h; exact absurd h (by decide)
theorem kept_open {r : Nat → Int32} {b s : Nat} (h : rWhyW r b s = 0) : r 169 = 0 ∧ ¬ r (54 + (b * 6 + s)) = 0 := by
  unfold rWhyW at h
  by_cases q : r 169 = 0
  · rw [if_pos q] at h
    by_cases q2 : r (54 + (b * 6 + s)) = 0
    · rw [if_pos q2] at h; exact absurd h (by decide)
    · exact ⟨q, q2⟩
  · rw [if_neg q] at h; exact absurd h (by decide)
theorem g_seal {m : Nat} {r : Nat → Int32} (h : G m r) (hm : m ≤ 100) {b s : Nat} (hb : b < 6) (hs : s < 6) {x : Int32} (hx0 : 1 ≤ x.toInt) (hx : x.toInt ≤ 99) (hw : rWhyN r b s x = 0) : G (m + 1) (rSeal r b s x) := by
  obtain ⟨t, R⟩ := h.rl
  obtain ⟨w1, w2⟩ := why_open hw
  have hno := h.o4 w1
  obtain ⟨a1, a2, a3⟩ := h.x1
  obtain ⟨n, hn, hsv⟩ := sealV_nat h.o1 (by omega) hb hs (by omega) hx
  have e : ∀ j, j ≠ 54 + (b * 6 + s) → j ≠ 90 + (b * 6 + s) → j ≠ 126 + (b * 6 + s) → j ≠ 170 → j ≠ 171 → rSeal r b s x j = r j := fun j h1 h2 h3 h4 h5 => by
    unfold rSeal
    rw [pk_un h5, pk_un h4, pk_un h3, pk_un h2, pk_un h1]
  have e54 : rSeal r b s x (54 + (b * 6 + s)) = x := by unfold rSeal; (repeat (first | rw [pk_us] | rw [pk_un (by omega)]))
  have e90 : rSeal r b s x (90 + (b * 6 + s)) = sealV r b s x := by unfold rSeal; (repeat (first | rw [pk_us] | rw [pk_un (by omega)]))
  have e171 : rSeal r b s x 171 = r 171 + 1 := by unfold rSeal; (repeat (first | rw [pk_us] | rw [pk_un (by omega)]))
  have hx1 : ¬ x = 0 := fun q => by rw [q, tI0] at hx0; omega
  refine ⟨⟨_, rl_seal R (by omega) hb hs hx0 hx⟩, ?_, ?_, X3.none (fun k hk => ?_), h.x4.congr (fun j h1 h2 => e j (by omega) (by omega) (by omega) (by omega) (by omega)), h.x5.congr (fun j h1 h2 => e j (by omega) (by omega) (by omega) (by omega) (by omega)) (e _ (by omega) (by omega) (by omega) (by omega) (by omega)), h.x6.congr (Nat.le_succ m) (e _ (by omega) (by omega) (by omega) (by omega) (by omega)), h.z.congr (fun j h1 => e j (by omega) (by omega) (by omega) (by omega) (by omega))⟩
  · have hnb : nbF (rSeal r b s x) 36 = nbF r 36 + 1 := by
      rw [← nbF_set w2 hx1 36 (by omega)]
      refine nbF_congr 36 (fun k hk => ?_)
      by_cases q : k = b * 6 + s
      · subst q; rw [e54, pk_us]
      · rw [e _ (by omega) (by omega) (by omega) (by omega) (by omega), pk_un (by omega)]
    unfold X1
    rw [hnb, e171, e _ (by omega) (by omega) (by omega) (by omega) (by omega), tI_add (by rw [tI1]; omega) (by rw [tI1]; omega), tI1]
    omega
  · intro k hk hne
    by_cases q : k = b * 6 + s
    · subst q
      rw [e90, hsv, tI_n (by omega)]
      omega
    · rw [e _ (by omega) (by omega) (by omega) (by omega) (by omega)] at hne
      rw [e _ (by omega) (by omega) (by omega) (by omega) (by omega)]
      exact h.x2 k hk hne
  · rw [e _ (by omega) (by omega) (by omega) (by omega) (by omega), e _ (by omega) (by omega) (by omega) (by omega) (by omega)]
    exact hno k hk
theorem g_take {m : Nat} {r : Nat → Int32} (h : G m r) (hm : m ≤ 100) {b s : Nat} (hb : b < 6) (hs : s < 6) (hw : rWhyW r b s = 0) : G (m + 1) (rTake r b s) := by
  obtain ⟨t, R⟩ := h.rl
  obtain ⟨w1, w2⟩ := kept_open hw
  have hno := h.o4 w1
  obtain ⟨a1, a2, a3⟩ := h.x1
  have e : ∀ j, j ≠ 54 + (b * 6 + s) → j ≠ 30 + b → j ≠ 165 → j ≠ 48 + b → j ≠ 172 → rTake r b s j = r j := fun j h1 h2 h3 h4 h5 => by
    unfold rTake
    rw [pk_un h5, pk_un h4, pk_un h3, pk_un h2, pk_un h1]
  have e54 : rTake r b s (54 + (b * 6 + s)) = 0 := by unfold rTake; (repeat (first | rw [pk_us] | rw [pk_un (by omega)]))
  have e172 : rTake r b s 172 = r 172 + 1 := by unfold rTake; (repeat (first | rw [pk_us] | rw [pk_un (by omega)]))
  have hn0 := nbF_del w2 36 (by omega)
  refine ⟨⟨_, rl_take R hb hs hw⟩, ?_, ?_, X3.none (fun k hk => ?_), ?_, h.x5.congr (fun j h1 h2 => e j (by omega) (by omega) (by omega) (by omega) (by omega)) (e _ (by omega) (by omega) (by omega) (by omega) (by omega)), h.x6.congr (Nat.le_succ m) (e _ (by omega) (by omega) (by omega) (by omega) (by omega)), h.z.congr (fun j h1 => e j (by omega) (by omega) (by omega) (by omega) (by omega))⟩
  · have hnb : nbF (rTake r b s) 36 + 1 = nbF r 36 := by
      rw [← hn0]
      refine congrArg (· + 1) (nbF_congr 36 (fun k hk => ?_))
      by_cases q : k = b * 6 + s
      · subst q; rw [e54, pk_us]
      · rw [e _ (by omega) (by omega) (by omega) (by omega) (by omega), pk_un (by omega)]
    unfold X1
    rw [e172, e 171 (by omega) (by omega) (by omega) (by omega) (by omega), tI_add (by rw [tI1]; omega) (by rw [tI1]; omega), tI1]
    omega
  · intro k hk hne
    by_cases q : k = b * 6 + s
    · subst q; exact absurd e54 hne
    · rw [e _ (by omega) (by omega) (by omega) (by omega) (by omega)] at hne
      rw [e _ (by omega) (by omega) (by omega) (by omega) (by omega)]
      exact h.x2 k hk hne
  · rw [e _ (by omega) (by omega) (by omega) (by omega) (by omega), e _ (by omega) (by omega) (by omega) (by omega) (by omega)]
    exact hno k hk
  · unfold X4
    rw [sumF_congr (r := r) 6 (fun i hi => e (24 + i) (by omega) (by omega) (by omega) (by omega) (by omega)), sumF_congr (r := r) (k := 36) 6 (fun i hi => e (36 + i) (by omega) (by omega) (by omega) (by omega) (by omega))]
    exact h.x4
theorem g_day {m : Nat} {r : Nat → Int32} (h : G m r) : G (m + 1) (rDay r) := by
  obtain ⟨t, R⟩ := h.rl
  obtain ⟨a1, a2, a3⟩ := h.x1
  have e54 : ∀ j, 54 ≤ j → j < 90 → rDay r j = 0 := fun j h1 h2 => if_pos ⟨h1, h2⟩
  have e12 : ∀ j, 12 ≤ j → j < 24 → rDay r j = -1 := fun j h1 h2 => by unfold rDay; rw [if_neg (by omega), if_pos ⟨h1, h2⟩]
  refine ⟨⟨_, rl_day R⟩, ?_, fun k hk hne => absurd (e54 _ (by omega) (by omega)) hne, X3.none (fun k hk => ⟨e12 _ (by omega) (by omega), e12 _ (by omega) (by omega)⟩), h.x4.congr (fun j h1 h2 => rDay_out (by omega)), h.x5.congr (fun j h1 h2 => rDay_out (by omega)) (rDay_out (by omega)), h.x6.congr (Nat.le_succ m) (rDay_out (by omega)), h.z.congr (fun j h1 => rDay_out (by omega))⟩
  unfold X1
  rw [nbF_none 36 (fun k hk => e54 _ (by omega) (by omega)), rDay_out (by omega), rDay_out (by omega)]
  omega
theorem rSwim_out {r : Nat → Int32} {s d j : Nat} (h : j < 6 ∨ 12 ≤ j) (hs : s < 6) (hd : d < 6) : rSwim r s d j = r j := by
  unfold rSwim
  by_cases q : r (12 + d) = -1
  · rw [if_pos q]
    by_cases q2 : r (6 + s) ≤ r (6 + d)
    · rw [if_pos q2]
    · rw [if_neg q2, pk_un (by omega), pk_un (by omega)]
  · rw [if_neg q]
theorem rLow_out {r : Nat → Int32} {s j : Nat} (h : j < 6 ∨ 12 ≤ j) (hs : s < 6) : rLow r s j = r j := by
  unfold rLow
  by_cases q : s = 0
  · rw [if_pos q]
  · rw [if_neg q]; exact rSwim_out h hs (by omega)
theorem rHigh_out {r : Nat → Int32} {s j : Nat} (h : j < 6 ∨ 12 ≤ j) (hs : s < 6) : rHigh r s j = r j := by
  unfold rHigh
  by_cases q : s = 5
  · rw [if_pos q]
  · rw [if_neg q]; exact rSwim_out h hs (by omega)
def rFish (r : Nat → Int32) (s w : Nat) : Nat → Int32 := rHigh (rLow (rHaul r s w) s) s
theorem rFish_out {r : Nat → Int32} {s w j : Nat} (h : j < 6 ∨ 12 ≤ j) (hs : s < 6) (h1 : j ≠ 36 + w) (h2 : j ≠ 24 + s) : rFish r s w j = r j := by
  unfold rFish
  rw [rHigh_out h hs, rLow_out h hs]
  unfold rHaul
  rw [pk_un h2, pk_un h1, pk_un (by omega)]
theorem g_fish {m : Nat} {r : Nat → Int32} (h : G m r) {s w : Nat} (hs : s < 6) (hw : w < 6) : G (m + 1) (rFish r s w) := by
  obtain ⟨t, R⟩ := h.rl
  have R' := (rl_high (rl_low (rl_haul R hs hw) hs) hs).mono (Nat.le_succ m)
  have e : ∀ j, (j < 6 ∨ 12 ≤ j) → (j < 24 ∨ 42 ≤ j) → rFish r s w j = r j := fun j h1 h2 => rFish_out h1 hs (by omega) (by omega)
  refine ⟨⟨_, R'⟩, h.x1.congr (Nat.le_succ m) (fun k hk => e _ (by omega) (by omega)) (e _ (by omega) (by omega)) (e _ (by omega) (by omega)), h.x2.congr (fun j h1 h2 => e j (by omega) (by omega)), h.x3.congr (fun j h1 h2 => e j (by omega) (by omega)) (fun j h1 h2 => e j (by omega) (by omega)), ?_, h.x5.congr (fun j h1 h2 => e j (by omega) (by omega)) (e _ (by omega) (by omega)), h.x6.congr (Nat.le_succ m) (e _ (by omega) (by omega)), h.z.congr (fun j h1 => e j (by omega) (by omega))⟩
  have h4 := h.x4
  unfold X4 at h4 ⊢
  have c1 : sumF (rFish r s w) 24 6 = sumF (upd r (24 + s) (r (24 + s) + haulV r s)) 24 6 := sumF_congr 6 (fun i hi => by
    unfold rFish
    rw [rHigh_out (by omega) hs, rLow_out (by omega) hs]
    unfold rHaul
    by_cases q : i = s
    · subst q; rw [pk_us, pk_us]
    · rw [pk_un (by omega), pk_un (by omega), pk_un (by omega), pk_un (by omega)])
  have c2 : sumF (rFish r s w) 36 6 = sumF (upd r (36 + w) (r (36 + w) + haulV r s)) 36 6 := sumF_congr 6 (fun i hi => by
    unfold rFish
    rw [rHigh_out (by omega) hs, rLow_out (by omega) hs]
    unfold rHaul
    by_cases q : i = w
    · subst q; rw [pk_un (by omega), pk_us, pk_us]
    · rw [pk_un (by omega), pk_un (by omega), pk_un (by omega), pk_un (by omega)])
  rw [c1, c2, sumF_add _ 6 s hs, sumF_add _ 6 w hw, h4]
