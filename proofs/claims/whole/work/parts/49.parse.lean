/-! pure part: a complete auction, part by part -/
section
variable {t : Nat → Int32} {l : Nat}
theorem acc_nw {q : Int32} (h : acc q) : q ≠ -1 := by
  rcases h with h | h | h | h <;> rw [h] <;> decide
theorem st_nw (C : acc (st t l l)) {j : Nat} (hj : j ≤ l) : st t l j ≠ -1 := fun e => by
  have := st_w e (l - j)
  rw [show j + (l - j) = l by omega] at this
  exact acc_nw C this
theorem st_lt (C : acc (st t l l)) {i : Nat} {q : Int32} (hi : i ≤ l) (h : st t l i = q) (hq : ¬ acc q) : i < l := by
  rcases Nat.lt_or_ge i l with e | e
  · exact e
  · obtain rfl : i = l := by omega
    rw [h] at C; exact absurd C hq
theorem n0 : ¬ acc 0 := nacc (by decide) (by decide) (by decide) (by decide)
theorem n1 : ¬ acc 1 := nacc (by decide) (by decide) (by decide) (by decide)
theorem n2 : ¬ acc 2 := nacc (by decide) (by decide) (by decide) (by decide)
theorem n3 : ¬ acc 3 := nacc (by decide) (by decide) (by decide) (by decide)
theorem n5 : ¬ acc 5 := nacc (by decide) (by decide) (by decide) (by decide)
theorem n6 : ¬ acc 6 := nacc (by decide) (by decide) (by decide) (by decide)
theorem n7 : ¬ acc 7 := nacc (by decide) (by decide) (by decide) (by decide)
/-- a digit must follow -/
theorem st_dig (C : acc (st t l l)) {i lo hi : Nat} {q q2 : Int32} (hi' : i ≤ l) (h : st t l i = q) (hq : ¬ acc q) (A : ∀ k, aft q k = if lo ≤ k ∧ k ≤ hi then q2 else -1) : i + 1 ≤ l ∧ (lo ≤ cN t l i ∧ cN t l i ≤ hi) ∧ st t l (i + 1) = q2 := by
  have hl := st_lt C hi' h hq
  have e := st_s t l i h rfl
  have hn := st_nw C (j := i + 1) hl
  rw [e, A] at hn
  by_cases d : lo ≤ cN t l i ∧ cN t l i ≤ hi
  · exact ⟨hl, d, by rw [e, A, if_pos d]⟩
  · rw [if_neg d] at hn; exact absurd rfl hn
theorem parse (C : acc (st t l l)) {p : Nat} (hp : p ≤ l) (h0 : st t l p = 0) : ∃ q c f g k, GoodP t l p q ∧ PR t l p q c f g k := by
  have hpl := st_lt C hp h0 n0
  have e1 := st_s t l p h0 rfl
  have hnw := st_nw C (j := p + 1) hpl
  rw [e1, aft_0] at hnw
  unfold aLet at hnw
  by_cases c98 : cN t l p = 98
  · have e1 : st t l (p + 1) = 1 := st_s t l p h0 c98
    obtain ⟨l1, d1, e2⟩ := st_dig C (i := p + 1) hpl e1 n1 aft_1
    obtain ⟨l2, d2, e3⟩ := st_dig C (i := p + 2) l1 e2 n2 aft_2
    obtain ⟨l3, d3, e4⟩ := st_dig C (i := p + 3) l2 e3 n3 aft_3
    obtain ⟨a, ha⟩ : ∃ a, cN t l (p + 1) = 48 + a := ⟨cN t l (p + 1) - 48, by omega⟩
    obtain ⟨b, hb⟩ : ∃ b, cN t l (p + 2) = 48 + b := ⟨cN t l (p + 2) - 48, by omega⟩
    obtain ⟨d, hd⟩ : ∃ d, cN t l (p + 3) = 48 + d := ⟨cN t l (p + 3) - 48, by omega⟩
    have d2 : 48 ≤ cN t l (p + 2) ∧ cN t l (p + 2) ≤ 53 := d2
    have d3 : 49 ≤ cN t l (p + 3) ∧ cN t l (p + 3) ≤ 57 := d3
    have e4 : st t l (p + 4) = 4 := e4
    have e5 := st_s t l (p + 4) e4 rfl
    rw [aft_4] at e5
    by_cases q : 48 ≤ cN t l (p + 4) ∧ cN t l (p + 4) ≤ 57
    · rw [if_pos q] at e5
      obtain ⟨e, he⟩ : ∃ e, cN t l (p + 4) = 48 + e := ⟨cN t l (p + 4) - 48, by omega⟩
      have l4 := cN_in2 (t := t) (l := l) (i := p + 4) (by omega)
      refine ⟨p + 5, 98, nI a, nI b, nI (10 * d + e), ⟨by omega, by omega, Or.inl e5, ?_, fun i h1 h2 => ?_⟩, Or.inl ⟨rfl, c98, a, b, 10 * d + e, by omega, by omega, by omega, by omega, rfl, rfl, rfl, ha, hb, Or.inr ⟨rfl, by omega, by omega⟩⟩⟩
      · rw [st_s t l (p + 5) e5 rfl, aft_10]
      · rcases (show i = p ∨ i = p + 1 ∨ i = p + 2 ∨ i = p + 3 ∨ i = p + 4 by omega) with rfl | rfl | rfl | rfl | rfl <;> omega
    · rw [if_neg q] at e5
      refine ⟨p + 4, 98, nI a, nI b, nI d, ⟨by omega, by omega, Or.inr (Or.inl e4), e5, fun i h1 h2 => ?_⟩, Or.inl ⟨rfl, c98, a, b, d, by omega, by omega, by omega, by omega, rfl, rfl, rfl, ha, hb, Or.inl ⟨rfl, hd⟩⟩⟩
      rcases (show i = p ∨ i = p + 1 ∨ i = p + 2 ∨ i = p + 3 by omega) with rfl | rfl | rfl | rfl <;> omega
  rw [if_neg c98] at hnw
  by_cases c102 : cN t l p = 102
  · have e1 : st t l (p + 1) = 6 := st_s t l p h0 c102
    obtain ⟨l1, d1, e2⟩ := st_dig C (i := p + 1) hpl e1 n6 aft_6
    have e2 : st t l (p + 2) = 10 := e2
    refine ⟨p + 2, 102, nI (cN t l (p + 1) - 48), 0, 0, ⟨by omega, by omega, Or.inl e2, ?_, fun i h1 h2 => ?_⟩, Or.inr (Or.inr (Or.inr (Or.inl ⟨rfl, c102, cN t l (p + 1) - 48, by omega, rfl, by omega, rfl⟩)))⟩
    · rw [st_s t l (p + 2) e2 rfl, aft_10]
    · rcases (show i = p ∨ i = p + 1 by omega) with rfl | rfl <;> omega
  rw [if_neg c102] at hnw
  by_cases c104 : cN t l p = 104
  · have e1 : st t l (p + 1) = 7 := st_s t l p h0 c104
    have hl1 := st_lt C hpl e1 n7
    have e2 := st_s t l (p + 1) e1 rfl
    have hn2 := st_nw C (j := p + 1 + 1) hl1
    rw [e2, aft_7] at hn2
    rw [aft_7] at e2
    unfold aHr at hn2 e2
    have e2 : st t l (p + 2) = _ := e2
    have main : ∀ (q2 : Int32) (lo hi : Nat), st t l (p + 2) = q2 → acc q2 → (∀ k, aft q2 k = if lo ≤ k ∧ k ≤ hi then 10 else aEnd k) → 48 ≤ lo → hi ≤ 57 → (lo ≤ hi → 10 * (cN t l (p + 1) - 48) + (hi - 48) ≤ 23) → 49 ≤ cN t l (p + 1) → cN t l (p + 1) ≤ 57 → ∃ q c f g k, GoodP t l p q ∧ PR t l p q c f g k := by
      intro q2 lo hi e2 ha A hlo hhi hm k1 k2
      have e3 := st_s t l (p + 2) e2 rfl
      rw [A] at e3
      by_cases q : lo ≤ cN t l (p + 2) ∧ cN t l (p + 2) ≤ hi
      · rw [if_pos q] at e3
        have hm := hm (by omega)
        have l2 := cN_in2 (t := t) (l := l) (i := p + 2) (by omega)
        have e3 : st t l (p + 3) = 10 := e3
        refine ⟨p + 3, 104, nI (10 * (cN t l (p + 1) - 48) + (cN t l (p + 2) - 48)), 0, 0, ⟨by omega, by omega, Or.inl e3, ?_, fun i h1 h2 => ?_⟩, Or.inr (Or.inr (Or.inl ⟨rfl, c104, _, by omega, by omega, rfl, Or.inr ⟨rfl, by omega, by omega⟩⟩))⟩
        · rw [st_s t l (p + 3) e3 rfl, aft_10]
        · rcases (show i = p ∨ i = p + 1 ∨ i = p + 2 by omega) with rfl | rfl | rfl <;> omega
      · rw [if_neg q] at e3
        refine ⟨p + 2, 104, nI (cN t l (p + 1) - 48), 0, 0, ⟨by omega, by omega, by rw [e2]; exact ha, e3, fun i h1 h2 => ?_⟩, Or.inr (Or.inr (Or.inl ⟨rfl, c104, _, by omega, by omega, rfl, Or.inl ⟨rfl, by omega⟩⟩))⟩
        rcases (show i = p ∨ i = p + 1 by omega) with rfl | rfl <;> omega
    by_cases k49 : cN t l (p + 1) = 49
    · rw [if_pos k49] at e2
      exact main 8 48 57 e2 (Or.inr (Or.inr (Or.inl rfl))) aft_8 (by omega) (by omega) (fun _ => by omega) (by omega) (by omega)
    · rw [if_neg k49] at e2 hn2
      by_cases k50 : cN t l (p + 1) = 50
      · rw [if_pos k50] at e2
        exact main 9 48 51 e2 (Or.inr (Or.inr (Or.inr rfl))) aft_9 (by omega) (by omega) (fun _ => by omega) (by omega) (by omega)
      · rw [if_neg k50] at e2 hn2
        by_cases k51 : 51 ≤ cN t l (p + 1) ∧ cN t l (p + 1) ≤ 57
        · rw [if_pos k51] at e2
          exact main 10 48 47 e2 (Or.inl rfl) (fun k => by rw [aft_10, if_neg (by omega)]) (by omega) (by omega) (fun h => by omega) (by omega) (by omega)
        · rw [if_neg k51] at hn2; exact absurd rfl hn2
  rw [if_neg c104] at hnw
  by_cases c110 : cN t l p = 110
  · have e1 : st t l (p + 1) = 10 := st_s t l p h0 c110
    refine ⟨p + 1, 110, 0, 0, 0, ⟨by omega, by omega, Or.inl e1, ?_, fun i h1 h2 => ?_⟩, Or.inr (Or.inr (Or.inr (Or.inr (Or.inr ⟨rfl, c110, rfl⟩))))⟩
    · rw [st_s t l (p + 1) e1 rfl, aft_10]
    · obtain rfl : i = p := by omega
      omega
  rw [if_neg c110] at hnw
  by_cases c111 : cN t l p = 111
  · have e1 : st t l (p + 1) = 10 := st_s t l p h0 c111
    refine ⟨p + 1, 111, 0, 0, 0, ⟨by omega, by omega, Or.inl e1, ?_, fun i h1 h2 => ?_⟩, Or.inr (Or.inr (Or.inr (Or.inr (Or.inl ⟨rfl, c111, rfl⟩))))⟩
    · rw [st_s t l (p + 1) e1 rfl, aft_10]
    · obtain rfl : i = p := by omega
      omega
  rw [if_neg c111] at hnw
  by_cases c119 : cN t l p = 119
  · have e1 : st t l (p + 1) = 5 := st_s t l p h0 c119
    obtain ⟨l1, d1, e2⟩ := st_dig C (i := p + 1) hpl e1 n5 aft_5
    obtain ⟨l2, d2, e3⟩ := st_dig C (i := p + 2) l1 e2 n6 aft_6
    have d2 : 48 ≤ cN t l (p + 2) ∧ cN t l (p + 2) ≤ 53 := d2
    have e3 : st t l (p + 3) = 10 := e3
    refine ⟨p + 3, 119, nI (cN t l (p + 1) - 48), nI (cN t l (p + 2) - 48), 0, ⟨by omega, by omega, Or.inl e3, ?_, fun i h1 h2 => ?_⟩, Or.inr (Or.inl ⟨rfl, c119, _, _, by omega, by omega, rfl, rfl, by omega, by omega, rfl⟩)⟩
    · rw [st_s t l (p + 3) e3 rfl, aft_10]
    · rcases (show i = p ∨ i = p + 1 ∨ i = p + 2 by omega) with rfl | rfl | rfl <;> omega
  · rw [if_neg c119] at hnw; exact absurd rfl hnw
/-- where the part that begins at p ends -/
def scan (t : Nat → Int32) (l : Nat) : Nat → Nat → Nat
  | 0, p => p
  | n + 1, p => if cN t l p = 59 then p else scan t l n (p + 1)
def qOf (t : Nat → Int32) (l p : Nat) : Nat := scan t l (l - p) p
theorem scan_eq : ∀ n p q, p + n = l → p ≤ q → q ≤ l → (∀ i, p ≤ i → i < q → cN t l i ≠ 59) → (q = l ∨ cN t l q = 59) → scan t l n p = q
  | 0, p, q, h1, h2, h3, _, _ => by show p = q; omega
  | n + 1, p, q, h1, h2, h3, h4, h5 => by
    unfold scan
    by_cases e : cN t l p = 59
    · rw [if_pos e]
      rcases Nat.lt_or_ge p q with z | z
      · exact absurd e (h4 p (Nat.le_refl _) z)
      · omega
    · rw [if_neg e]
      have hpq : p ≠ q := fun z => by
        rcases h5 with h5 | h5
        · omega
        · rw [← z] at h5; exact e h5
      exact scan_eq n (p + 1) q (by omega) (by omega) h3 (fun i a b => h4 i (by omega) b) h5
theorem qOf_eq {p q : Nat} (h2 : p ≤ q) (h3 : q ≤ l) (h4 : ∀ i, p ≤ i → i < q → cN t l i ≠ 59) (h5 : q = l ∨ cN t l q = 59) : qOf t l p = q := scan_eq (l - p) p q (by omega) h2 h3 h4 h5
theorem good_q (C : acc (st t l l)) {p q : Nat} (G : GoodP t l p q) : qOf t l p = q ∧ (q = l ∨ (q < l ∧ cN t l q = 59 ∧ st t l (q + 1) = 0)) := by
  obtain ⟨g1, g2, g3, g4, g5⟩ := G
  have h5 : q = l ∨ (q < l ∧ cN t l q = 59 ∧ st t l (q + 1) = 0) := by
    by_cases e : q = l
    · exact Or.inl e
    · have hn := st_nw C (j := q + 1) (by omega)
      rw [g4] at hn
      unfold aEnd at hn
      by_cases k : cN t l q = 59
      · refine Or.inr ⟨by omega, k, ?_⟩
        rw [g4, k]; rfl
      · rw [if_neg k] at hn; exact absurd rfl hn
  refine ⟨qOf_eq (by omega) g2 g5 ?_, h5⟩
  rcases h5 with h | h
  · exact Or.inl h
  · exact Or.inr h.2.1
end
