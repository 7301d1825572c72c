/-! pure part: the reference's small methods, under the relation -/
theorem x_of (k n : Nat) : ((15 : Int32) + 5 * nI k) + nI n = nI (15 + 5 * k + n) := by
  rw [show (15 : Int32) = nI 15 from rfl, show (5 : Int32) = nI 5 from rfl, pk_mul, nI_add, nI_add]
theorem x_has (k n : Nat) : ((45 : Int32) + 4 * nI k) + nI n = nI (45 + 4 * k + n) := by
  rw [show (45 : Int32) = nI 45 from rfl, show (4 : Int32) = nI 4 from rfl, pk_mul, nI_add, nI_add]
theorem x_bid (b s : Nat) : ((69 : Int32) + 18 * nI b) + 3 * nI s = nI (69 + 18 * b + 3 * s) := by
  rw [show (69 : Int32) = nI 69 from rfl, show (18 : Int32) = nI 18 from rfl, show (3 : Int32) = nI 3 from rfl, pk_mul, pk_mul, nI_add, nI_add]
theorem bid0 {r t : Nat → Int32} (h : RelB r t) {b s : Nat} (hb : b < 6) (hs : s < 6) : t (69 + 18 * b + 3 * s) = -1 ↔ r (54 + (b * 6 + s)) = 0 := by
  rcases h b s hb hs with ⟨h1, h2⟩ | ⟨h1, h2, h3, _⟩
  · exact ⟨fun _ => h1, fun _ => h2⟩
  · exact ⟨fun e => absurd e h3, fun e => absurd e h1⟩
theorem open1 {m : Nat} {r t : Nat → Int32} (R : Rl m r t) : t 2 = 1 ↔ ¬ r 169 = 0 := by
  rw [R.P _ _ PI_opened]
  rcases R.o1.open01 with e | e
  · rw [e]; exact ⟨fun h => absurd h (by decide), fun h => absurd rfl h⟩
  · rw [e]; exact ⟨fun _ => by decide, fun _ => rfl⟩
theorem cl2 : ((2 : Int32)).toNatClampNeg = 2 := by decide
-- deeds: seals, withdraws, pauses
def tSeal (t r : Nat → Int32) (b s : Nat) (x : Int32) : Nat → Int32 := upd (upd (upd (upd (upd t (69 + 18 * b + 3 * s) (sealV r b s x)) (69 + 18 * b + 3 * s + 1) (r 168)) (69 + 18 * b + 3 * s + 2) x) 11 (r 170 + 1)) 9 (r 171 + 1)
def tTake (t r : Nat → Int32) (b s : Nat) : Nat → Int32 := upd (upd (upd (upd (upd (upd t (69 + 18 * b + 3 * s) (-1)) (45 + 4 * b + 0) (r (30 + b) + -(rFee r b s))) 3 (r 165 + rFee r b s)) (45 + 4 * b + 3) (r (48 + b) + rFee r b s)) 5 (t 5 + rFee r b s)) 10 (r 172 + 1)
