/-! pure part: who gets a spot and what it pays, in the reference -/
def ownV (B : Nat → Nat → Nat) (s : Nat) : Int32 := if own B s = 6 then -1 else nI (own B s)
def dueV (r : Nat → Int32) (B : Nat → Nat → Nat) (s : Nat) : Int32 := if own B s = 6 then -1 else ((r s + nI (XX B 6 (2 ^ own B s) / 8)) - nI (XX B 6 0 / 8)) + nI (B (own B s) s / 8)
theorem tkn_lt (B : Nat → Nat → Nat) : ∀ s, tkn B s < 64
  | 0 => by show 0 < 64; decide
  | s + 1 => by
    show nxt (tkn B s) (gcf B (5 - s) (tkn B s)) < 64
    unfold nxt
    by_cases h : gcf B (5 - s) (tkn B s) < 6
    · rw [if_pos h]; exact (so_eq _ (tkn_lt B s) _ h).2
    · rw [if_neg h]; exact tkn_lt B s
theorem own_6 {B : Nat → Nat → Nat} {s : Nat} (hs : s < 6) (h : own B s = 6) : XX B (6 - s) (tkn B s) = XX B (5 - s) (tkn B s) := by
  have := gcf_6 (B := B) (d := 5 - s) (t := tkn B s) h
  rw [show 5 - s + 1 = 6 - s by omega] at this
  exact this
theorem own_keeps {B : Nat → Nat → Nat} {s : Nat} (hs : s < 6) (h : own B s < 6) : B (own B s) s + XX B (5 - s) (so (tkn B s) (own B s)) = XX B (6 - s) (tkn B s) := by
  have := (gcf_lt (B := B) (d := 5 - s) (t := tkn B s) h).2.2
  rw [show 5 - (5 - s) = s by omega, show 5 - s + 1 = 6 - s by omega] at this
  exact this
theorem own_not {B : Nat → Nat → Nat} {s c : Nat} (hs : s < 6) (h : c < own B s) : ¬ ((tkn B s).testBit c = false ∧ B c s ≠ 0 ∧ B c s + XX B (5 - s) (so (tkn B s) c) = XX B (6 - s) (tkn B s)) := by
  have := gcf_not (B := B) (d := 5 - s) (t := tkn B s) h
  rw [show 5 - (5 - s) = s by omega, show 5 - s + 1 = 6 - s by omega] at this
  exact this
theorem wv_own {B : Nat → Nat → Nat} {f : Nat → Int32} {s c : Nat} (hB : ∀ b s, B b s ≤ 793) (hs : s < 6) (hc : c ≤ own B s) (hf : tabOK B f 0) : wv B f s c (tkn B s) = f (64 * s + tkn B s) ↔ c = own B s := by
  have hT := tkn_lt B s
  have hO := own_le B s
  have hk := own_keeps (B := B) hs
  have h6 := own_6 (B := B) hs
  have hn := own_not (B := B) (c := c) hs
  have hZ := XX_sm hB (d := 6 - s) (t := tkn B s) (by omega)
  have hYc := XX_sm hB (d := 5 - s) (t := so (tkn B s) c) (by omega)
  have hY := XX_sm hB (d := 5 - s) (t := tkn B s) (by omega)
  have hbc := hB c s
  have f1 := hf s (tkn B s) (by omega) hT (Nat.zero_le _)
  have f2 := hf (s + 1) (tkn B s) (by omega) hT (Nat.zero_le _)
  have hlt := own_lt (B := B) hs
  rw [show 6 - (s + 1) = 5 - s by omega] at f2
  have f3 : c < 6 → f (64 * (s + 1) + so (tkn B s) c) = nI (XX B (5 - s) (so (tkn B s) c)) := fun h => by
    have := hf (s + 1) (so (tkn B s) c) (by omega) (so_eq _ hT c h).2 (Nat.zero_le _)
    rw [show 6 - (s + 1) = 5 - s by omega] at this
    exact this
  rw [f1]
  unfold wv
  generalize own B s = O at *
  generalize tkn B s = T at *
  generalize XX B (6 - s) T = Z at *
  by_cases e6 : c = 6
  · have eO : c = O := by omega
    rw [if_pos e6, f2, h6 (by omega)]
    exact ⟨fun _ => eO, fun _ => rfl⟩
  · rw [if_neg e6]
    have hc6 : c < 6 := by omega
    rw [f3 hc6]
    generalize hU : XX B (5 - s) (so T c) = Y at *
    by_cases q : T.testBit c = true ∨ B c s = 0
    · rw [if_pos q]
      refine ⟨fun h => absurd h.symm (nI_m1 (by omega)), fun h => ?_⟩
      subst h
      have := hlt hc6
      rcases q with q | q
      · rw [this.1] at q; exact absurd q (by decide)
      · exact absurd q this.2
    · have hb : T.testBit c = false := by
        cases h : T.testBit c
        · rfl
        · exact absurd (Or.inl h) q
      have h0 : B c s ≠ 0 := fun h => q (Or.inr h)
      rw [if_neg q, nI_add, nI_eq (by omega) (by omega)]
      refine ⟨fun h => ?_, fun h => ?_⟩
      · rcases Nat.lt_or_ge c O with p | p
        · exact absurd ⟨hb, h0, h⟩ (hn p)
        · omega
      · subst h
        have := hk hc6
        rw [hU] at this
        exact this
