/-! pure part: the relation between the class's row r and the reference's row t; m: how many parts were done so far -/
theorem tI_add {a b : Int32} (h1 : -2147483648 ≤ a.toInt + b.toInt) (h2 : a.toInt + b.toInt < 2147483648) : (a + b).toInt = a.toInt + b.toInt := by
  rw [Int32.toInt_add]; exact Int.bmod_eq_of_le (by omega) (by omega)
theorem tI_sub {a b : Int32} (h1 : -2147483648 ≤ a.toInt - b.toInt) (h2 : a.toInt - b.toInt < 2147483648) : (a - b).toInt = a.toInt - b.toInt := by
  rw [Int32.toInt_sub]; exact Int.bmod_eq_of_le (by omega) (by omega)
theorem tI_neg {a : Int32} (h1 : -2147483648 < a.toInt) (h2 : a.toInt ≤ 2147483648) : (-a).toInt = -a.toInt := by
  rw [Int32.toInt_neg]; exact Int.bmod_eq_of_le (by omega) (by omega)
theorem tI_lo (a : Int32) : -2147483648 ≤ a.toInt := Int32.le_toInt a
theorem tI_hi (a : Int32) : a.toInt < 2147483648 := Int32.toInt_lt a
theorem tI_lt {a b : Int32} : a < b ↔ a.toInt < b.toInt := Int32.lt_iff_toInt_lt
theorem tI_le {a b : Int32} : a ≤ b ↔ a.toInt ≤ b.toInt := Int32.le_iff_toInt_le
theorem tI_n {n : Nat} (h : n < 2 ^ 31) : (nI n).toInt = (n : Int) := nI_toInt h
theorem tI_of {a : Int32} (h0 : 0 ≤ a.toInt) : a = nI a.toInt.toNat := by
  apply Int32.toInt_inj.mp
  have := tI_hi a
  rw [nI_toInt (by omega)]
  omega
/-- the places that belong together -/
def PI (i j : Nat) : Prop := (i < 6 ∧ j = 15 + 5 * i + 0) ∨ (6 ≤ i ∧ i < 12 ∧ j = 15 + 5 * (i - 6) + 1) ∨ (12 ≤ i ∧ i < 18 ∧ j = 15 + 5 * (i - 12) + 2) ∨ (18 ≤ i ∧ i < 24 ∧ j = 15 + 5 * (i - 18) + 3) ∨ (24 ≤ i ∧ i < 30 ∧ j = 15 + 5 * (i - 24) + 4) ∨ (30 ≤ i ∧ i < 36 ∧ j = 45 + 4 * (i - 30) + 0) ∨ (36 ≤ i ∧ i < 42 ∧ j = 45 + 4 * (i - 36) + 1) ∨ (42 ≤ i ∧ i < 48 ∧ j = 45 + 4 * (i - 42) + 2) ∨ (48 ≤ i ∧ i < 54 ∧ j = 45 + 4 * (i - 48) + 3) ∨ (162 ≤ i ∧ i < 165 ∧ j = 12 + (i - 162)) ∨ (i = 165 ∧ j = 3) ∨ (i = 166 ∧ j = 4) ∨ (i = 167 ∧ j = 0) ∨ (i = 168 ∧ j = 1) ∨ (i = 169 ∧ j = 2) ∨ (i = 170 ∧ j = 11) ∨ (i = 171 ∧ j = 9) ∨ (i = 172 ∧ j = 10) ∨ (i = 173 ∧ j = 7)
/-- the class's place that belongs to a place of the reference -/
def PJ (j : Nat) : Nat := if j < 15 then (if j = 3 then 165 else if j = 4 then 166 else if j = 0 then 167 else if j = 1 then 168 else if j = 2 then 169 else if j = 11 then 170 else if j = 9 then 171 else if j = 10 then 172 else if j = 7 then 173 else 150 + j) else if j < 45 then 6 * ((j - 15) % 5) + (j - 15) / 5 else 30 + 6 * ((j - 45) % 4) + (j - 45) / 4
/-- .. and the other way -/
def PF (i : Nat) : Nat := if i < 30 then 15 + 5 * (i % 6) + i / 6 else if i < 54 then 45 + 4 * ((i - 30) % 6) + (i - 30) / 6 else if i < 165 then i - 150 else if i = 165 then 3 else if i = 166 then 4 else if i = 167 then 0 else if i = 168 then 1 else if i = 169 then 2 else if i = 170 then 11 else if i = 171 then 9 else if i = 172 then 10 else 7
set_option maxRecDepth 100000 in
theorem PI_PF {i j : Nat} (h : PI i j) : j = PF i := by
  unfold PI at h
  unfold PF
  rcases h with ⟨h1, rfl⟩ | ⟨h1, h2, rfl⟩ | ⟨h1, h2, rfl⟩ | ⟨h1, h2, rfl⟩ | ⟨h1, h2, rfl⟩ | ⟨h1, h2, rfl⟩ | ⟨h1, h2, rfl⟩ | ⟨h1, h2, rfl⟩ | ⟨h1, h2, rfl⟩ | ⟨h1, h2, rfl⟩ | ⟨rfl, rfl⟩ | ⟨rfl, rfl⟩ | ⟨rfl, rfl⟩ | ⟨rfl, rfl⟩ | ⟨rfl, rfl⟩ | ⟨rfl, rfl⟩ | ⟨rfl, rfl⟩ | ⟨rfl, rfl⟩ | ⟨rfl, rfl⟩
  · rw [if_pos (by omega)]; omega
  · rw [if_pos (by omega)]; omega
  · rw [if_pos (by omega)]; omega
  · rw [if_pos (by omega)]; omega
  · rw [if_pos (by omega)]; omega
  · rw [if_neg (by omega), if_pos (by omega)]; omega
  · rw [if_neg (by omega), if_pos (by omega)]; omega
  · rw [if_neg (by omega), if_pos (by omega)]; omega
  · rw [if_neg (by omega), if_pos (by omega)]; omega
  · rw [if_neg (by omega), if_neg (by omega), if_pos (by omega)]; omega
  all_goals decide
theorem PI_fun {i j j' : Nat} (h : PI i j) (h' : PI i j') : j = j' := (PI_PF h).trans (PI_PF h').symm
set_option maxRecDepth 100000 in
theorem PI_PJ {i j : Nat} (h : PI i j) : i = PJ j := by
  unfold PI at h
  unfold PJ
  rcases h with ⟨h1, rfl⟩ | ⟨h1, h2, rfl⟩ | ⟨h1, h2, rfl⟩ | ⟨h1, h2, rfl⟩ | ⟨h1, h2, rfl⟩ | ⟨h1, h2, rfl⟩ | ⟨h1, h2, rfl⟩ | ⟨h1, h2, rfl⟩ | ⟨h1, h2, rfl⟩ | ⟨h1, h2, rfl⟩ | ⟨rfl, rfl⟩ | ⟨rfl, rfl⟩ | ⟨rfl, rfl⟩ | ⟨rfl, rfl⟩ | ⟨rfl, rfl⟩ | ⟨rfl, rfl⟩ | ⟨rfl, rfl⟩ | ⟨rfl, rfl⟩ | ⟨rfl, rfl⟩
  · rw [if_neg (by omega), if_pos (by omega)]; omega
  · rw [if_neg (by omega), if_pos (by omega)]; omega
  · rw [if_neg (by omega), if_pos (by omega)]; omega
  · rw [if_neg (by omega), if_pos (by omega)]; omega
  · rw [if_neg (by omega), if_pos (by omega)]; omega
  · rw [if_neg (by omega), if_neg (by omega)]; omega
  · rw [if_neg (by omega), if_neg (by omega)]; omega
  · rw [if_neg (by omega), if_neg (by omega)]; omega
  · rw [if_neg (by omega), if_neg (by omega)]; omega
  · rw [if_pos (by omega), if_neg (by omega), if_neg (by omega), if_neg (by omega), if_neg (by omega), if_neg (by omega), if_neg (by omega), if_neg (by omega), if_neg (by omega), if_neg (by omega)]; omega
  all_goals decide
theorem PI_inj {i i' j : Nat} (h : PI i j) (h' : PI i' j) : i = i' := (PI_PJ h).trans (PI_PJ h').symm
set_option maxRecDepth 100000 in
theorem PI_out {i j : Nat} (h : PI i j) : (i < 54 ∨ 162 ≤ i) ∧ i < 174 ∧ j < 69 ∧ j ≠ 5 ∧ j ≠ 6 ∧ j ≠ 8 := by
  unfold PI at h
  rcases h with ⟨h1, rfl⟩ | ⟨h1, h2, rfl⟩ | ⟨h1, h2, rfl⟩ | ⟨h1, h2, rfl⟩ | ⟨h1, h2, rfl⟩ | ⟨h1, h2, rfl⟩ | ⟨h1, h2, rfl⟩ | ⟨h1, h2, rfl⟩ | ⟨h1, h2, rfl⟩ | ⟨h1, h2, rfl⟩ | ⟨rfl, rfl⟩ | ⟨rfl, rfl⟩ | ⟨rfl, rfl⟩ | ⟨rfl, rfl⟩ | ⟨rfl, rfl⟩ | ⟨rfl, rfl⟩ | ⟨rfl, rfl⟩ | ⟨rfl, rfl⟩ | ⟨rfl, rfl⟩ <;> omega
def RelP (r t : Nat → Int32) : Prop := ∀ i j, PI i j → t j = r i
theorem RelP.both {r t : Nat → Int32} (h : RelP r t) {i j : Nat} (hp : PI i j) (v : Int32) : RelP (upd r i v) (upd t j v) := by
  intro i' j' hp'
  by_cases e : i' = i
  · subst e
    rw [PI_fun hp' hp, pk_us, pk_us]
  · have e2 : j' ≠ j := fun e3 => e (by subst e3; exact PI_inj hp' hp)
    rw [pk_un e, pk_un e2]
    exact h i' j' hp'
theorem RelP.updR {r t : Nat → Int32} (h : RelP r t) {i : Nat} (hi : 54 ≤ i ∧ i < 162) (v : Int32) : RelP (upd r i v) t := by
  intro i' j' hp'
  rw [pk_un (by have := PI_out hp'; omega)]
  exact h i' j' hp'
theorem RelP.updT {r t : Nat → Int32} (h : RelP r t) {j : Nat} (hj : 69 ≤ j ∨ j = 5 ∨ j = 6 ∨ j = 8) (v : Int32) : RelP r (upd t j v) := by
  intro i' j' hp'
  rw [pk_un (by have := PI_out hp'; omega)]
  exact h i' j' hp'
theorem RelP.price {r t : Nat → Int32} (h : RelP r t) {k : Nat} (hk : k < 6) : t (15 + 5 * k + 0) = r k := h _ _ (Or.inl ⟨hk, rfl⟩)
theorem PI_price {k : Nat} (hk : k < 6) : PI k (15 + 5 * k + 0) := Or.inl ⟨hk, rfl⟩
theorem PI_fish {k : Nat} (hk : k < 6) : PI (6 + k) (15 + 5 * k + 1) := Or.inr (Or.inl ⟨by omega, by omega, by omega⟩)
theorem PI_owner {k : Nat} (hk : k < 6) : PI (12 + k) (15 + 5 * k + 2) := Or.inr (Or.inr (Or.inl ⟨by omega, by omega, by omega⟩))
theorem PI_paid {k : Nat} (hk : k < 6) : PI (18 + k) (15 + 5 * k + 3) := Or.inr (Or.inr (Or.inr (Or.inl ⟨by omega, by omega, by omega⟩)))
theorem PI_caught {k : Nat} (hk : k < 6) : PI (24 + k) (15 + 5 * k + 4) := Or.inr (Or.inr (Or.inr (Or.inr (Or.inl ⟨by omega, by omega, by omega⟩))))
theorem PI_purse {k : Nat} (hk : k < 6) : PI (30 + k) (45 + 4 * k + 0) := Or.inr (Or.inr (Or.inr (Or.inr (Or.inr (Or.inl ⟨by omega, by omega, by omega⟩)))))
theorem PI_catch {k : Nat} (hk : k < 6) : PI (36 + k) (45 + 4 * k + 1) := Or.inr (Or.inr (Or.inr (Or.inr (Or.inr (Or.inr (Or.inl ⟨by omega, by omega, by omega⟩))))))
theorem PI_prices {k : Nat} (hk : k < 6) : PI (42 + k) (45 + 4 * k + 2) := Or.inr (Or.inr (Or.inr (Or.inr (Or.inr (Or.inr (Or.inr (Or.inl ⟨by omega, by omega, by omega⟩)))))))
theorem PI_fees {k : Nat} (hk : k < 6) : PI (48 + k) (45 + 4 * k + 3) := Or.inr (Or.inr (Or.inr (Or.inr (Or.inr (Or.inr (Or.inr (Or.inr (Or.inl ⟨by omega, by omega, by omega⟩))))))))
theorem PI_set {k : Nat} (hk : k < 3) : PI (162 + k) (12 + k) := Or.inr (Or.inr (Or.inr (Or.inr (Or.inr (Or.inr (Or.inr (Or.inr (Or.inr (Or.inl ⟨by omega, by omega, by omega⟩)))))))))
theorem PI_chest : PI 165 3 := Or.inr (Or.inr (Or.inr (Or.inr (Or.inr (Or.inr (Or.inr (Or.inr (Or.inr (Or.inr (Or.inl ⟨rfl, rfl⟩))))))))))
theorem PI_coins : PI 166 4 := Or.inr (Or.inr (Or.inr (Or.inr (Or.inr (Or.inr (Or.inr (Or.inr (Or.inr (Or.inr (Or.inr (Or.inl ⟨rfl, rfl⟩)))))))))))
theorem PI_days : PI 167 0 := Or.inr (Or.inr (Or.inr (Or.inr (Or.inr (Or.inr (Or.inr (Or.inr (Or.inr (Or.inr (Or.inr (Or.inr (Or.inl ⟨rfl, rfl⟩))))))))))))
theorem PI_hour : PI 168 1 := Or.inr (Or.inr (Or.inr (Or.inr (Or.inr (Or.inr (Or.inr (Or.inr (Or.inr (Or.inr (Or.inr (Or.inr (Or.inr (Or.inl ⟨rfl, rfl⟩)))))))))))))
theorem PI_opened : PI 169 2 := Or.inr (Or.inr (Or.inr (Or.inr (Or.inr (Or.inr (Or.inr (Or.inr (Or.inr (Or.inr (Or.inr (Or.inr (Or.inr (Or.inr (Or.inl ⟨rfl, rfl⟩))))))))))))))
theorem PI_rank : PI 170 11 := Or.inr (Or.inr (Or.inr (Or.inr (Or.inr (Or.inr (Or.inr (Or.inr (Or.inr (Or.inr (Or.inr (Or.inr (Or.inr (Or.inr (Or.inr (Or.inl ⟨rfl, rfl⟩)))))))))))))))
theorem PI_sealed : PI 171 9 := Or.inr (Or.inr (Or.inr (Or.inr (Or.inr (Or.inr (Or.inr (Or.inr (Or.inr (Or.inr (Or.inr (Or.inr (Or.inr (Or.inr (Or.inr (Or.inr (Or.inl ⟨rfl, rfl⟩))))))))))))))))
theorem PI_withdrawn : PI 172 10 := Or.inr (Or.inr (Or.inr (Or.inr (Or.inr (Or.inr (Or.inr (Or.inr (Or.inr (Or.inr (Or.inr (Or.inr (Or.inr (Or.inr (Or.inr (Or.inr (Or.inr (Or.inl ⟨rfl, rfl⟩)))))))))))))))))
theorem PI_given : PI 173 7 := Or.inr (Or.inr (Or.inr (Or.inr (Or.inr (Or.inr (Or.inr (Or.inr (Or.inr (Or.inr (Or.inr (Or.inr (Or.inr (Or.inr (Or.inr (Or.inr (Or.inr (Or.inr (⟨rfl, rfl⟩))))))))))))))))))
-- bids
def bidR (r t : Nat → Int32) (b s : Nat) : Prop := (r (54 + (b * 6 + s)) = 0 ∧ t (69 + 18 * b + 3 * s) = -1) ∨ (r (54 + (b * 6 + s)) ≠ 0 ∧ t (69 + 18 * b + 3 * s) = r (90 + (b * 6 + s)) ∧ t (69 + 18 * b + 3 * s) ≠ -1 ∧ t (69 + 18 * b + 3 * s + 1) = r (126 + (b * 6 + s)) ∧ t (69 + 18 * b + 3 * s + 2) = r (54 + (b * 6 + s)))
def RelB (r t : Nat → Int32) : Prop := ∀ b s, b < 6 → s < 6 → bidR r t b s
theorem bidR.congr {r t r' t' : Nat → Int32} {b s : Nat} (h : bidR r t b s) (h1 : r' (54 + (b * 6 + s)) = r (54 + (b * 6 + s))) (h2 : r' (90 + (b * 6 + s)) = r (90 + (b * 6 + s))) (h3 : r' (126 + (b * 6 + s)) = r (126 + (b * 6 + s))) (h4 : t' (69 + 18 * b + 3 * s) = t (69 + 18 * b + 3 * s)) (h5 : t' (69 + 18 * b + 3 * s + 1) = t (69 + 18 * b + 3 * s + 1)) (h6 : t' (69 + 18 * b + 3 * s + 2) = t (69 + 18 * b + 3 * s + 2)) : bidR r' t' b s := by
  unfold bidR at h ⊢
  rw [h1, h2, h3, h4, h5, h6]; exact h
theorem RelB.updR {r t : Nat → Int32} (h : RelB r t) {i : Nat} (hi : i < 54 ∨ 162 ≤ i) (v : Int32) : RelB (upd r i v) t := fun b s hb hs => (h b s hb hs).congr (pk_un (by omega)) (pk_un (by omega)) (pk_un (by omega)) rfl rfl rfl
theorem RelB.updT {r t : Nat → Int32} (h : RelB r t) {j : Nat} (hj : j < 69) (v : Int32) : RelB r (upd t j v) := fun b s hb hs => (h b s hb hs).congr rfl rfl rfl (pk_un (by omega)) (pk_un (by omega)) (pk_un (by omega))
-- sums
def RelS (r t : Nat → Int32) : Prop := t 5 = sumF r 48 6 ∧ t 6 = sumF r 42 6 ∧ t 8 = sumF r 36 6
theorem sumF_congr {r r' : Nat → Int32} {k : Nat} : ∀ n, (∀ i, i < n → r' (k + i) = r (k + i)) → sumF r' k n = sumF r k n
  | 0, _ => rfl
  | n + 1, h => by
    show sumF r' k n + _ = sumF r k n + _
    rw [sumF_congr n (fun i hi => h i (by omega)), h n (by omega)]
theorem sumF_out {r : Nat → Int32} {k n i : Nat} {v : Int32} (h : i < k ∨ k + n ≤ i) : sumF (upd r i v) k n = sumF r k n := sumF_congr n fun j hj => pk_un (by omega)
theorem sumF_add {r : Nat → Int32} {k : Nat} (v : Int32) : ∀ n i, i < n → sumF (upd r (k + i) (r (k + i) + v)) k n = sumF r k n + v
  | 0, _, h => absurd h (Nat.not_lt_zero _)
  | n + 1, i, h => by
    show sumF _ k n + upd r (k + i) _ (k + n) = sumF r k n + r (k + n) + v
    rcases Nat.lt_or_ge i n with q | q
    · rw [sumF_add v n i q, pk_un (by omega), Int32.add_assoc, Int32.add_comm v, Int32.add_assoc]
    · obtain rfl : i = n := by omega
      rw [sumF_out (by omega), pk_us, Int32.add_assoc]
theorem RelS.updR {r t : Nat → Int32} (h : RelS r t) {i : Nat} (hi : i < 36 ∨ 54 ≤ i) (v : Int32) : RelS (upd r i v) t := by
  unfold RelS
  rw [sumF_out (by omega), sumF_out (by omega), sumF_out (by omega)]; exact h
theorem RelS.updT {r t : Nat → Int32} (h : RelS r t) {j : Nat} (hj : j ≠ 5 ∧ j ≠ 6 ∧ j ≠ 8) (v : Int32) : RelS r (upd t j v) := by
  unfold RelS
  rw [pk_un hj.1.symm, pk_un hj.2.1.symm, pk_un hj.2.2.symm]; exact h
theorem RelS.fees {r t : Nat → Int32} (h : RelS r t) {b : Nat} (hb : b < 6) {v w w2 : Int32} (hw2 : w2 = r (48 + b) + v) (hw : w = t 5 + v) : RelS (upd r (48 + b) w2) (upd t 5 w) := by
  subst hw2
  unfold RelS
  rw [sumF_add v 6 b hb, sumF_out (by omega), sumF_out (by omega), pk_us, pk_un (by decide), pk_un (by decide), hw, h.1]
  exact ⟨rfl, h.2⟩
theorem RelS.prices {r t : Nat → Int32} (h : RelS r t) {b : Nat} (hb : b < 6) {v w w2 : Int32} (hw2 : w2 = r (42 + b) + v) (hw : w = t 6 + v) : RelS (upd r (42 + b) w2) (upd t 6 w) := by
  subst hw2
  unfold RelS
  rw [sumF_add v 6 b hb, sumF_out (by omega), sumF_out (by omega), pk_us, pk_un (by decide), pk_un (by decide), hw, h.2.1]
  exact ⟨h.1, rfl, h.2.2⟩
theorem RelS.catch {r t : Nat → Int32} (h : RelS r t) {b : Nat} (hb : b < 6) {v w w2 : Int32} (hw2 : w2 = r (36 + b) + v) (hw : w = t 8 + v) : RelS (upd r (36 + b) w2) (upd t 8 w) := by
  subst hw2
  unfold RelS
  rw [sumF_add v 6 b hb, sumF_out (by omega), sumF_out (by omega), pk_us, pk_un (by decide), pk_un (by decide), hw, h.2.2]
  exact ⟨h.1, h.2.1, rfl⟩
-- what numbers the cells hold
def Rng (m i : Nat) (v : Int) : Prop := (i < 6 → 0 ≤ v ∧ v ≤ 99) ∧ (6 ≤ i → i < 12 → 0 ≤ v ∧ v ≤ 200) ∧ (12 ≤ i → i < 18 → -1 ≤ v ∧ v ≤ 5) ∧ (30 ≤ i → i < 36 → 0 ≤ v) ∧ (42 ≤ i → i < 54 → 0 ≤ v) ∧ (54 ≤ i → i < 90 → 0 ≤ v ∧ v ≤ 99) ∧ (i = 162 → 0 ≤ v ∧ v ≤ 20) ∧ (i = 163 → 0 ≤ v ∧ v ≤ 9) ∧ (i = 164 → 0 ≤ v ∧ v ≤ 50) ∧ (i = 165 → 0 ≤ v) ∧ (i = 168 → 0 ≤ v ∧ v ≤ 23) ∧ (i = 169 → 0 ≤ v ∧ v ≤ 1) ∧ (i = 170 → 0 ≤ v ∧ v ≤ m) ∧ (i = 173 → 0 ≤ v ∧ v ≤ 6 * m)
def O1 (m : Nat) (r : Nat → Int32) : Prop := ∀ i, Rng m i (r i).toInt
theorem O1.cell {m : Nat} {r : Nat → Int32} (h : O1 m r) {i : Nat} {v : Int32} (hv : Rng m i v.toInt) : O1 m (upd r i v) := by
  intro j
  by_cases e : j = i
  · subst e; rw [pk_us]; exact hv
  · rw [pk_un e]; exact h j
theorem Rng.mono {m m' i : Nat} {v : Int} (hm : m ≤ m') (h : Rng m i v) : Rng m' i v := by
  unfold Rng at h ⊢
  refine ⟨h.1, h.2.1, h.2.2.1, h.2.2.2.1, h.2.2.2.2.1, h.2.2.2.2.2.1, h.2.2.2.2.2.2.1, h.2.2.2.2.2.2.2.1, h.2.2.2.2.2.2.2.2.1, h.2.2.2.2.2.2.2.2.2.1, h.2.2.2.2.2.2.2.2.2.2.1, h.2.2.2.2.2.2.2.2.2.2.2.1, fun e => ?_, fun e => ?_⟩
  · have := h.2.2.2.2.2.2.2.2.2.2.2.2.1 e; omega
  · have := h.2.2.2.2.2.2.2.2.2.2.2.2.2 e; omega
theorem O1.mono {m m' : Nat} {r : Nat → Int32} (hm : m ≤ m') (h : O1 m r) : O1 m' r := fun i => (h i).mono hm
theorem O1.price {m : Nat} {r : Nat → Int32} (h : O1 m r) {k : Nat} (hk : k < 6) : 0 ≤ (r k).toInt ∧ (r k).toInt ≤ 99 := (h k).1 hk
theorem O1.fish {m : Nat} {r : Nat → Int32} (h : O1 m r) {k : Nat} (hk : k < 6) : 0 ≤ (r (6 + k)).toInt ∧ (r (6 + k)).toInt ≤ 200 := (h _).2.1 (by omega) (by omega)
theorem O1.owner {m : Nat} {r : Nat → Int32} (h : O1 m r) {k : Nat} (hk : k < 6) : -1 ≤ (r (12 + k)).toInt ∧ (r (12 + k)).toInt ≤ 5 := (h _).2.2.1 (by omega) (by omega)
theorem O1.purse {m : Nat} {r : Nat → Int32} (h : O1 m r) {k : Nat} (hk : k < 6) : 0 ≤ (r (30 + k)).toInt := (h _).2.2.2.1 (by omega) (by omega)
theorem O1.prices {m : Nat} {r : Nat → Int32} (h : O1 m r) {k : Nat} (hk : k < 6) : 0 ≤ (r (42 + k)).toInt := (h _).2.2.2.2.1 (by omega) (by omega)
theorem O1.fees {m : Nat} {r : Nat → Int32} (h : O1 m r) {k : Nat} (hk : k < 6) : 0 ≤ (r (48 + k)).toInt := (h _).2.2.2.2.1 (by omega) (by omega)
theorem O1.amount {m : Nat} {r : Nat → Int32} (h : O1 m r) {b s : Nat} (hb : b < 6) (hs : s < 6) : 0 ≤ (r (54 + (b * 6 + s))).toInt ∧ (r (54 + (b * 6 + s))).toInt ≤ 99 := (h _).2.2.2.2.2.1 (by omega) (by omega)
theorem O1.set0 {m : Nat} {r : Nat → Int32} (h : O1 m r) : 0 ≤ (r 162).toInt ∧ (r 162).toInt ≤ 20 := (h 162).2.2.2.2.2.2.1 rfl
theorem O1.set1 {m : Nat} {r : Nat → Int32} (h : O1 m r) : 0 ≤ (r 163).toInt ∧ (r 163).toInt ≤ 9 := (h 163).2.2.2.2.2.2.2.1 rfl
theorem O1.set2 {m : Nat} {r : Nat → Int32} (h : O1 m r) : 0 ≤ (r 164).toInt ∧ (r 164).toInt ≤ 50 := (h 164).2.2.2.2.2.2.2.2.1 rfl
theorem O1.chest {m : Nat} {r : Nat → Int32} (h : O1 m r) : 0 ≤ (r 165).toInt := (h 165).2.2.2.2.2.2.2.2.2.1 rfl
theorem O1.hour {m : Nat} {r : Nat → Int32} (h : O1 m r) : 0 ≤ (r 168).toInt ∧ (r 168).toInt ≤ 23 := (h 168).2.2.2.2.2.2.2.2.2.2.1 rfl
theorem O1.opened {m : Nat} {r : Nat → Int32} (h : O1 m r) : 0 ≤ (r 169).toInt ∧ (r 169).toInt ≤ 1 := (h 169).2.2.2.2.2.2.2.2.2.2.2.1 rfl
theorem O1.rank {m : Nat} {r : Nat → Int32} (h : O1 m r) : 0 ≤ (r 170).toInt ∧ (r 170).toInt ≤ m := (h 170).2.2.2.2.2.2.2.2.2.2.2.2.1 rfl
theorem O1.given {m : Nat} {r : Nat → Int32} (h : O1 m r) : 0 ≤ (r 173).toInt ∧ (r 173).toInt ≤ 6 * m := (h 173).2.2.2.2.2.2.2.2.2.2.2.2.2 rfl
theorem O1.open01 {m : Nat} {r : Nat → Int32} (h : O1 m r) : r 169 = 0 ∨ r 169 = 1 := by
  have h1 := h.opened
  rcases (show (r 169).toInt = 0 ∨ (r 169).toInt = 1 by omega) with e | e
  · exact Or.inl (Int32.toInt_inj.mp (e.trans (by decide)))
  · exact Or.inr (Int32.toInt_inj.mp (e.trans (by decide)))
-- the hours of the bids
def O2 (r : Nat → Int32) : Prop := ∀ b s, b < 6 → s < 6 → r (54 + (b * 6 + s)) ≠ 0 → 0 ≤ (r (126 + (b * 6 + s))).toInt ∧ (r (126 + (b * 6 + s))).toInt ≤ (r 168).toInt
theorem O2.cell {r : Nat → Int32} (h : O2 r) {i : Nat} (hi : i < 54 ∨ (162 ≤ i ∧ i ≠ 168)) (v : Int32) : O2 (upd r i v) := by
  intro b s hb hs
  rw [pk_un (by omega), pk_un (by omega), pk_un (by omega)]
  exact h b s hb hs
-- the coins
def S6 (r : Nat → Int32) (k : Nat) : Int := (r k).toInt + (r (k + 1)).toInt + (r (k + 2)).toInt + (r (k + 3)).toInt + (r (k + 4)).toInt + (r (k + 5)).toInt
theorem S6_out {r : Nat → Int32} {k i : Nat} {v : Int32} (h : i < k ∨ k + 6 ≤ i) : S6 (upd r i v) k = S6 r k := by
  unfold S6
  rw [pk_un (by omega), pk_un (by omega), pk_un (by omega), pk_un (by omega), pk_un (by omega), pk_un (by omega)]
theorem S6_in {r : Nat → Int32} {k b : Nat} {v : Int32} (h : b < 6) : S6 (upd r (k + b) v) k = S6 r k - (r (k + b)).toInt + v.toInt := by
  unfold S6 upd
  rcases (show b = 0 ∨ b = 1 ∨ b = 2 ∨ b = 3 ∨ b = 4 ∨ b = 5 by omega) with rfl | rfl | rfl | rfl | rfl | rfl
  · rw [if_pos (by omega), if_neg (by omega), if_neg (by omega), if_neg (by omega), if_neg (by omega), if_neg (by omega)]; simp only [Nat.add_zero]; omega
  · rw [if_neg (by omega), if_pos (by omega), if_neg (by omega), if_neg (by omega), if_neg (by omega), if_neg (by omega)]; omega
  · rw [if_neg (by omega), if_neg (by omega), if_pos (by omega), if_neg (by omega), if_neg (by omega), if_neg (by omega)]; omega
  · rw [if_neg (by omega), if_neg (by omega), if_neg (by omega), if_pos (by omega), if_neg (by omega), if_neg (by omega)]; omega
  · rw [if_neg (by omega), if_neg (by omega), if_neg (by omega), if_neg (by omega), if_pos (by omega), if_neg (by omega)]; omega
  · rw [if_neg (by omega), if_neg (by omega), if_neg (by omega), if_neg (by omega), if_neg (by omega), if_pos (by omega)]; omega
theorem S6_one {r : Nat → Int32} {k b : Nat} (h : b < 6) (hp : ∀ i, i < 6 → 0 ≤ (r (k + i)).toInt) : (r (k + b)).toInt ≤ S6 r k := by
  unfold S6
  have h0 := hp 0 (by decide)
  have h1 := hp 1 (by decide)
  have h2 := hp 2 (by decide)
  have h3 := hp 3 (by decide)
  have h4 := hp 4 (by decide)
  have h5 := hp 5 (by decide)
  rw [Nat.add_zero] at h0
  rcases (show b = 0 ∨ b = 1 ∨ b = 2 ∨ b = 3 ∨ b = 4 ∨ b = 5 by omega) with rfl | rfl | rfl | rfl | rfl | rfl
  · rw [Nat.add_zero]; omega
  · omega
  · omega
  · omega
  · omega
  · omega
def O3 (r : Nat → Int32) : Prop := S6 r 30 + (r 165).toInt = (r 166).toInt ∧ 600 ≤ (r 166).toInt ∧ (r 166).toInt ≤ 9999 ∧ S6 r 42 + S6 r 48 = (r 165).toInt
theorem O3.cell {r : Nat → Int32} (h : O3 r) {i : Nat} (hi : i < 30 ∨ (36 ≤ i ∧ i < 42) ∨ (54 ≤ i ∧ i ≠ 165 ∧ i ≠ 166)) (v : Int32) : O3 (upd r i v) := by
  unfold O3
  rw [S6_out (by omega), S6_out (by omega), S6_out (by omega), pk_un (by omega), pk_un (by omega)]
  exact h
/-- as long as the bids aren't opened no spot is anybody's -/
def O4 (r : Nat → Int32) : Prop := r 169 = 0 → ∀ k, k < 6 → r (12 + k) = -1 ∧ r (18 + k) = -1
theorem O4.cell {r : Nat → Int32} (h : O4 r) {i : Nat} (hi : i < 12 ∨ (24 ≤ i ∧ i ≠ 169)) (v : Int32) : O4 (upd r i v) := by
  intro h0 k hk
  rw [pk_un (by omega)] at h0
  rw [pk_un (by omega), pk_un (by omega)]
  exact h h0 k hk
def Rl (m : Nat) (r t : Nat → Int32) : Prop := RelP r t ∧ RelB r t ∧ RelS r t ∧ O1 m r ∧ O2 r ∧ O3 r ∧ O4 r
theorem Rl.P {m : Nat} {r t : Nat → Int32} (h : Rl m r t) : RelP r t := h.1
theorem Rl.B {m : Nat} {r t : Nat → Int32} (h : Rl m r t) : RelB r t := h.2.1
theorem Rl.S {m : Nat} {r t : Nat → Int32} (h : Rl m r t) : RelS r t := h.2.2.1
theorem Rl.o1 {m : Nat} {r t : Nat → Int32} (h : Rl m r t) : O1 m r := h.2.2.2.1
theorem Rl.o2 {m : Nat} {r t : Nat → Int32} (h : Rl m r t) : O2 r := h.2.2.2.2.1
theorem Rl.o3 {m : Nat} {r t : Nat → Int32} (h : Rl m r t) : O3 r := h.2.2.2.2.2.1
theorem Rl.o4 {m : Nat} {r t : Nat → Int32} (h : Rl m r t) : O4 r := h.2.2.2.2.2.2
theorem Rl.mono {m m' : Nat} {r t : Nat → Int32} (hm : m ≤ m') (h : Rl m r t) : Rl m' r t := ⟨h.1, h.2.1, h.2.2.1, h.2.2.2.1.mono hm, h.2.2.2.2⟩
/-- a change of one cell that nothing else speaks of -/
theorem Rl.one {m : Nat} {r t : Nat → Int32} (h : Rl m r t) {i j : Nat} (hp : PI i j) (hi : i < 12 ∨ (24 ≤ i ∧ i < 30) ∨ (162 ≤ i ∧ i ≠ 165 ∧ i ≠ 166 ∧ i ≠ 168 ∧ i ≠ 169)) {v : Int32} (hv : Rng m i v.toInt) : Rl m (upd r i v) (upd t j v) := by
  have ho := PI_out hp
  exact ⟨h.P.both hp v, (h.B.updR (by omega) v).updT (by omega) v, (h.S.updR (by omega) v).updT (by omega) v, h.o1.cell hv, h.o2.cell (by omega) v, h.o3.cell (by omega) v, h.o4.cell (by omega) v⟩
theorem upd_comm {f : Nat → Int32} {i j : Nat} {a b : Int32} (h : i ≠ j) : upd (upd f i a) j b = upd (upd f j b) i a := by
  funext k
  unfold upd
  by_cases h1 : k = j
  · rw [if_pos h1, if_neg (by omega), if_pos h1]
  · rw [if_neg h1, if_neg h1]
theorem upd_eq {f : Nat → Int32} {i : Nat} {a b : Int32} (h : a = b) : upd f i a = upd f i b := by rw [h]
