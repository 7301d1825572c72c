/-! pure part: the best sharing, what follows for prices and for the least bid -/
theorem tkn_bit (B : Nat → Nat → Nat) : ∀ s c, (tkn B s).testBit c = true ↔ ∃ s', s' < s ∧ own B s' = c ∧ c < 6
  | 0, c => ⟨fun h => absurd h (by rw [tkn, Nat.zero_testBit]; decide), fun h => absurd h.choose_spec.1 (Nat.not_lt_zero _)⟩
  | s + 1, c => by
    have ih := tkn_bit B s c
    have e : tkn B (s + 1) = nxt (tkn B s) (own B s) := rfl
    rw [e]
    unfold nxt
    by_cases h : own B s < 6
    · rw [if_pos h, so_bit, Bool.or_eq_true, ih, decide_eq_true_iff]
      constructor
      · rintro (⟨s', h1, h2⟩ | rfl)
        · exact ⟨s', by omega, h2⟩
        · exact ⟨s, by omega, rfl, h⟩
      · rintro ⟨s', h1, h2, h3⟩
        rcases Nat.lt_or_ge s' s with q | q
        · exact Or.inl ⟨s', q, h2, h3⟩
        · obtain rfl : s' = s := by omega
          exact Or.inr h2
    · rw [if_neg h, ih]
      constructor
      · rintro ⟨s', h1, h2⟩
        exact ⟨s', by omega, h2⟩
      · rintro ⟨s', h1, h2, h3⟩
        rcases Nat.lt_or_ge s' s with q | q
        · exact ⟨s', q, h2, h3⟩
        · obtain rfl : s' = s := by omega
          omega
theorem own_lt {B : Nat → Nat → Nat} {s : Nat} (hs : s < 6) (h : own B s < 6) : (tkn B s).testBit (own B s) = false ∧ B (own B s) s ≠ 0 := by
  obtain ⟨h1, h2, -⟩ := gcf_lt (B := B) (d := 5 - s) (t := tkn B s) h
  rw [show 5 - (5 - s) = s by omega] at h2
  exact ⟨h1, h2⟩
theorem own_inj {B : Nat → Nat → Nat} {s s' : Nat} (hs : s < 6) (hs' : s' < 6) (hne : s ≠ s') (he : own B s = own B s') : 6 ≤ own B s := by
  rcases Nat.lt_or_ge (own B s) 6 with h | h
  · rcases Nat.lt_or_ge s s' with q | q
    · have h1 := (own_lt (B := B) hs' (by omega)).1
      have h2 := (tkn_bit B s' (own B s')).mpr ⟨s, q, he, by omega⟩
      rw [h1] at h2; cases h2
    · have h1 := (own_lt (B := B) hs h).1
      have h2 := (tkn_bit B s (own B s)).mpr ⟨s', by omega, he.symm, h⟩
      rw [h1] at h2; cases h2
  · exact h
theorem own_ok (B : Nat → Nat → Nat) : okA B (fun _ => True) (own B) 0 6 :=
  ⟨fun _ _ h1 h2 => ⟨trivial, (own_lt h1 h2).2⟩, fun _ _ _ h1 _ h2 hne he => own_inj h1 h2 hne he⟩
theorem own_val (B : Nat → Nat → Nat) : ∀ d, d ≤ 6 → vS B (own B) d = XX B d (tkn B (6 - d))
  | 0, _ => rfl
  | d + 1, hd => by
    show kv B (own B (5 - d)) (5 - d) + vS B (own B) d = _
    rw [own_val B d (by omega)]
    have h := gcf_keeps B d (tkn B (5 - d))
    have e1 : own B (5 - d) = gcf B d (tkn B (5 - d)) := by unfold own; rw [show 5 - (5 - d) = d by omega]
    have e2 : tkn B (6 - d) = nxt (tkn B (5 - d)) (gcf B d (tkn B (5 - d))) := by
      rw [show 6 - d = (5 - d) + 1 by omega, ← e1]; rfl
    rw [e1, e2, show 6 - (d + 1) = 5 - d by omega]
    exact h
theorem own_best (B : Nat → Nat → Nat) : vP B (own B) 6 = XX B 6 0 := by
  rw [vP_vS, own_val B 6 (Nat.le_refl _)]; rfl
theorem vP_point (K : Nat → Nat → Nat) (f : Nat → Nat) (s : Nat) : ∀ j, s < j → vP K f j = vP K (fun x => if x = s then 6 else f x) j + kv K (f s) s
  | 0, h => absurd h (Nat.not_lt_zero _)
  | j + 1, h => by
    show vP K f j + kv K (f j) j = vP K _ j + kv K (if j = s then 6 else f j) j + _
    rcases Nat.lt_or_ge s j with q | q
    · rw [vP_point K f s j q, if_neg (by omega)]; omega
    · obtain rfl : s = j := by omega
      rw [if_pos rfl, kv_ge (Nat.le_refl _), Nat.add_zero]
      congr 1
      exact vP_congr s fun x hx => (if_neg (by omega)).symm
theorem two_bit (b c : Nat) : (2 ^ b).testBit c = decide (b = c) := Nat.testBit_two_pow
/-- without the bidder of a spot the best is at most as much less as its bid brings -/
theorem XX_less (B : Nat → Nat → Nat) (s : Nat) (hs : s < 6) (h : own B s < 6) : XX B 6 0 ≤ B (own B s) s + XX B 6 (2 ^ own B s) := by
  rw [← own_best, vP_point B (own B) s 6 hs, kv_lt h]
  have hu := XX_upper B 6 (2 ^ own B s) (fun x => if x = s then 6 else own B x) (Nat.le_refl _) (by
    have hok := own_ok B
    refine ⟨fun x _ hx q => ?_, fun x x' _ hx _ hx' hne he => ?_⟩
    · by_cases e : x = s
      · simp only [if_pos e] at q; omega
      · simp only [if_neg e] at q ⊢
        refine ⟨?_, (hok.1 x (Nat.zero_le _) hx q).2⟩
        rw [two_bit]
        exact decide_eq_false fun e2 => by have := own_inj hs hx (fun e3 => e e3.symm) e2; omega
    · by_cases e : x = s
      · simp only [if_pos e]; exact Nat.le_refl _
      · simp only [if_neg e] at he ⊢
        by_cases e' : x' = s
        · simp only [if_pos e'] at he; omega
        · simp only [if_neg e'] at he
          exact hok.2 x x' (Nat.zero_le _) hx (Nat.zero_le _) hx' hne he)
  rw [← vP_vS] at hu
  omega
theorem XX_more (B : Nat → Nat → Nat) (t : Nat) : XX B 6 t ≤ XX B 6 0 := by
  obtain ⟨f, h1, h2⟩ := XX_attain B 6 t (Nat.le_refl _)
  rw [← h2]
  exact XX_upper B 6 0 f (Nat.le_refl _) (h1.turn fun c _ _ => Nat.zero_testBit c)
def B81 (B : Nat → Nat → Nat) : Prop := ∀ c s, B c s ≠ 0 → B c s % 8 = 1
theorem XX_mod {B : Nat → Nat → Nat} (hB : B81 B) : ∀ d t, d ≤ 6 → XX B d t % 8 ≤ d
  | 0, _, _ => Nat.le_refl _
  | d + 1, t, hd => by
    have h := gcf_keeps B d t
    rw [← h]
    have ih := XX_mod hB d (nxt t (gcf B d t)) (by omega)
    rcases Nat.lt_or_ge (gcf B d t) 6 with g | g
    · rw [kv_lt g]
      have := hB _ _ (gcf_lt g).2.1
      omega
    · rw [kv_ge g]; omega
theorem due_low {B : Nat → Nat → Nat} (hB : B81 B) (s : Nat) (hs : s < 6) (h : own B s < 6) : XX B 6 0 / 8 ≤ B (own B s) s / 8 + XX B 6 (2 ^ own B s) / 8 := by
  have h1 := XX_less B s hs h
  have h2 := hB _ _ (own_lt hs h).2
  have h3 := XX_mod hB 6 (2 ^ own B s) (Nat.le_refl _)
  omega
theorem due_up (B : Nat → Nat → Nat) (t : Nat) : XX B 6 t / 8 ≤ XX B 6 0 / 8 := Nat.div_le_div_right (XX_more B t)
/-- told by trying all sharings -/
def TT (B : Nat → Nat → Nat) : Nat → Nat → Nat
  | 0, _ => 0
  | d + 1, S => mx (TT B d S) (fun b => if S.testBit b = true ∧ B b (5 - d) ≠ 0 then B b (5 - d) / 8 + TT B d (sw S b) else 0) 6
theorem max_div (a b : Nat) : max a b / 8 = max (a / 8) (b / 8) := by omega
theorem mx_div (base : Nat) (g : Nat → Nat) : ∀ n, mx base g n / 8 = mx (base / 8) (fun i => g i / 8) n
  | 0 => rfl
  | n + 1 => by
    show max _ _ / 8 = max _ _
    rw [max_div, mx_div base g n]
theorem TT_XX {B : Nat → Nat → Nat} (hB : B81 B) : ∀ d S t, d ≤ 6 → (∀ c, c < 6 → (S.testBit c = true ↔ t.testBit c = false)) → TT B d S = XX B d t / 8
  | 0, _, _, _, _ => by show 0 = 0 / 8; decide
  | d + 1, S, t, hd, h => by
    show mx (TT B d S) _ 6 = mx (XX B d t) _ 6 / 8
    rw [mx_div]
    refine mx_congr (TT_XX hB d S t (by omega) h) 6 (fun b hb => ?_)
    by_cases hc : t.testBit b = false ∧ B b (5 - d) ≠ 0
    · rw [if_pos hc, if_pos ⟨(h b hb).mpr hc.1, hc.2⟩]
      rw [TT_XX hB d (sw S b) (so t b) (by omega) (fun c hc2 => by
        rw [sw_bit, so_bit]
        have := h c hc2
        cases h1 : S.testBit c <;> cases h2 : t.testBit c <;> rw [h1, h2] at this <;> cases decide (b = c) <;> simp_all)]
      have h1 := hB _ _ hc.2
      have h2 := XX_mod hB d (so t b) (by omega)
      omega
    · rw [if_neg hc, if_neg (fun q => hc ⟨(h b hb).mp q.1, q.2⟩)]
/-- the figure of a choice -/
def dg (c : Nat) : Nat := if c < 6 then 6 - c else 0
theorem kv_Bk {B : Nat → Nat → Nat} {c s : Nat} (h : c < 6 → B c s ≠ 0) : kv (Bk B) c s = kv B c s * 262144 + dg c * 8 ^ (5 - s) := by
  rcases Nat.lt_or_ge c 6 with q | q
  · rw [kv_lt q, kv_lt q, Bk, if_neg (h q), dg, if_pos q]
  · rw [kv_ge q, kv_ge q, dg, if_neg (by omega), Nat.zero_mul, Nat.zero_mul]
theorem vP_Bk {B : Nat → Nat → Nat} {f : Nat → Nat} (h : ∀ s, s < 6 → f s < 6 → B (f s) s ≠ 0) : vP (Bk B) f 6 = vP B f 6 * 262144 + (dg (f 0) * 32768 + (dg (f 1) * 4096 + (dg (f 2) * 512 + (dg (f 3) * 64 + (dg (f 4) * 8 + dg (f 5)))))) := by
  have k0 := kv_Bk (h 0 (by decide))
  have k1 := kv_Bk (h 1 (by decide))
  have k2 := kv_Bk (h 2 (by decide))
  have k3 := kv_Bk (h 3 (by decide))
  have k4 := kv_Bk (h 4 (by decide))
  have k5 := kv_Bk (h 5 (by decide))
  simp only [Nat.reduceSub, Nat.reducePow, Nat.mul_one] at k0 k1 k2 k3 k4 k5
  show 0 + kv (Bk B) (f 0) 0 + kv (Bk B) (f 1) 1 + kv (Bk B) (f 2) 2 + kv (Bk B) (f 3) 3 + kv (Bk B) (f 4) 4 + kv (Bk B) (f 5) 5 = (0 + kv B (f 0) 0 + kv B (f 1) 1 + kv B (f 2) 2 + kv B (f 3) 3 + kv B (f 4) 4 + kv B (f 5) 5) * 262144 + _
  omega
theorem dg_le (c : Nat) : dg c ≤ 6 := by unfold dg; by_cases h : c < 6 <;> simp only [h, if_true, if_false] <;> omega
theorem vP_digit {B : Nat → Nat → Nat} {f : Nat → Nat} (h : ∀ s, s < 6 → f s < 6 → B (f s) s ≠ 0) (s : Nat) (hs : s < 6) : vP (Bk B) f 6 / 8 ^ (5 - s) % 8 = dg (f s) := by
  rw [vP_Bk h]
  have h0 := dg_le (f 0)
  have h1 := dg_le (f 1)
  have h2 := dg_le (f 2)
  have h3 := dg_le (f 3)
  have h4 := dg_le (f 4)
  have h5 := dg_le (f 5)
  rcases (show s = 0 ∨ s = 1 ∨ s = 2 ∨ s = 3 ∨ s = 4 ∨ s = 5 by omega) with rfl | rfl | rfl | rfl | rfl | rfl <;> simp only [Nat.reduceSub, Nat.reducePow] <;> omega
theorem dg_own (B : Nat → Nat → Nat) (s : Nat) : dg (own B s) = 6 - own B s := by
  have := own_le B s
  unfold dg
  by_cases h : own B s < 6
  · rw [if_pos h]
  · rw [if_neg h]; omega
theorem own_bestK (B : Nat → Nat → Nat) : vP (Bk B) (own B) 6 = XX (Bk B) 6 0 := by
  rw [vP_Bk (fun s hs h => (own_lt hs h).2), own_best, XX_Bk B 6 0 (Nat.le_refl _), DD_6]
  simp only [dg_own]
/-- one bid changed; one spot left out -/
def set1 (B : Nat → Nat → Nat) (b s x : Nat) : Nat → Nat → Nat := fun c k => if c = b ∧ k = s then x else B c k
def zs (K : Nat → Nat → Nat) (s : Nat) : Nat → Nat → Nat := fun c k => if k = s then 0 else K c k
theorem Bk_set1 (B : Nat → Nat → Nat) (b s x : Nat) (c k : Nat) : Bk (set1 B b s x) c k = if c = b ∧ k = s then (if x = 0 then 0 else x * 262144 + (6 - b) * 8 ^ (5 - s)) else Bk B c k := by
  unfold Bk set1
  by_cases h : c = b ∧ k = s
  · simp only [if_pos h]
    rw [h.1, h.2]
  · simp only [if_neg h]
theorem vP_le_of {K L : Nat → Nat → Nat} {f g : Nat → Nat} : ∀ j, (∀ s, s < j → kv K (f s) s = kv L (g s) s) → vP K f j = vP L g j
  | 0, _ => rfl
  | j + 1, h => by
    show vP K f j + _ = vP L g j + _
    rw [vP_le_of j (fun s hs => h s (by omega)), h j (by omega)]
/-- a bidder gets a spot by a bid just if the best without this bid is below the best of the others and it -/
theorem least_iff (B : Nat → Nat → Nat) (b s x : Nat) (hb : b < 6) (hs : s < 6) (hx : x ≠ 0) : own (set1 B b s x) s = b ↔ FF (Bk (set1 B b s 0)) 6 63 < FF (zs (Bk (set1 B b s 0)) s) 6 (sw 63 b) + (x * 262144 + (6 - b) * 8 ^ (5 - s)) := by
  have hall : ∀ c, c < 6 → (63 : Nat).testBit c = true := by decide
  have hkey : Bk (set1 B b s x) b s = x * 262144 + (6 - b) * 8 ^ (5 - s) := by rw [Bk_set1, if_pos ⟨rfl, rfl⟩, if_neg hx]
  have hoff : ∀ c k, ¬ (c = b ∧ k = s) → Bk (set1 B b s x) c k = Bk (set1 B b s 0) c k := fun c k h => by rw [Bk_set1, if_neg h, Bk_set1, if_neg h]
  have hon0 : Bk (set1 B b s 0) b s = 0 := by rw [Bk_set1, if_pos ⟨rfl, rfl⟩, if_pos rfl]
  have hsw : ∀ c, c < 6 → ((sw 63 b).testBit c = true ↔ c ≠ b) := fun c hc => by
    rw [sw_bit, hall c hc]
    by_cases e : b = c
    · rw [decide_eq_true e]; exact ⟨fun h => absurd h (by cases (63 : Nat).testBit c <;> decide), fun h => absurd e.symm h⟩
    · rw [decide_eq_false e]; exact ⟨fun _ e2 => e e2.symm, fun _ => rfl⟩
  generalize hKx : Bk (set1 B b s x) = Kx at hkey hoff
  generalize hK0 : Bk (set1 B b s 0) = K0 at hoff hon0 ⊢
  have hX : vP Kx (own (set1 B b s x)) 6 = XX Kx 6 0 := by rw [← hKx]; exact own_bestK _
  have hXF : FF Kx 6 63 = XX Kx 6 0 := FF_XX Kx 63 0 (fun c hc => ⟨fun _ => Nat.zero_testBit c, fun _ => hall c hc⟩)
  have hokx : okA Kx (fun c => (63 : Nat).testBit c = true) (own (set1 B b s x)) 0 6 := by
    obtain ⟨h1, h2⟩ := own_ok (set1 B b s x)
    exact ⟨fun k a c d => ⟨hall _ d, by rw [← hKx]; exact fun e => (h1 k a c d).2 ((Bk_0 _ _ _).mp e)⟩, h2⟩
  -- the others and the bid are a sharing
  have ha : FF (zs K0 s) 6 (sw 63 b) + (x * 262144 + (6 - b) * 8 ^ (5 - s)) ≤ XX Kx 6 0 := by
    obtain ⟨f, h1, h2⟩ := FF_attain (zs K0 s) 6 (sw 63 b)
    have hfs : 6 ≤ f s := by
      rcases Nat.lt_or_ge (f s) 6 with q | q
      · exact absurd (if_pos rfl) (h1.1 s (Nat.zero_le _) hs q).2
      · exact q
    have hfb : ∀ k, k < 6 → f k ≠ b := fun k hk e => by
      have := (hsw (f k) (by omega)).mp (h1.1 k (Nat.zero_le _) hk (by omega)).1
      exact this e
    have e1 : ∀ k, k ≠ s → (fun k => if k = s then b else f k) k = f k := fun k h => if_neg h
    have e2 : (fun k => if k = s then b else f k) s = b := if_pos rfl
    have e3 : ∀ k, (if k = s then 6 else (fun k => if k = s then b else f k) k) = if k = s then 6 else f k := fun k => by
      by_cases e : k = s
      · rw [if_pos e, if_pos e]
      · rw [if_neg e, if_neg e]; exact if_neg e
    generalize (fun k => if k = s then b else f k) = g at e1 e2 e3
    have hu := FF_upper Kx 6 63 g ⟨fun k _ hk q => by
        by_cases e : k = s
        · rw [e, e2, hkey]
          exact ⟨hall b hb, fun e0 => hx ((Nat.mul_eq_zero.mp (Nat.eq_zero_of_add_eq_zero_right e0)).elim id (fun q => absurd q (by decide)))⟩
        · rw [e1 k e] at q ⊢
          refine ⟨hall _ q, ?_⟩
          rw [hoff _ _ (fun h => e h.2)]
          have := (h1.1 k (Nat.zero_le _) hk q).2
          unfold zs at this
          rw [if_neg e] at this
          exact this, fun k k' _ hk _ hk' hne he => by
        by_cases e : k = s
        · have e' : k' ≠ s := by omega
          rw [e, e2, e1 k' e'] at he
          exact absurd he.symm (hfb k' hk')
        · by_cases e' : k' = s
          · rw [e', e2, e1 k e] at he
            exact absurd he (hfb k hk)
          · rw [e1 k e, e1 k' e'] at he
            rw [e1 k e]
            exact h1.2 k k' (Nat.zero_le _) hk (Nat.zero_le _) hk' hne he⟩
    rw [hXF, vP_point Kx g s 6 hs, e2, kv_lt hb, hkey] at hu
    have hv : vP (zs K0 s) f 6 = vP Kx (fun k => if k = s then 6 else g k) 6 := vP_le_of 6 fun k hk => by
      show kv (zs K0 s) (f k) k = kv Kx (if k = s then 6 else g k) k
      rw [e3 k]
      by_cases e : k = s
      · rw [if_pos e, kv_ge (Nat.le_refl _), e, kv_ge hfs]
      · rw [if_neg e]
        rcases Nat.lt_or_ge (f k) 6 with q | q
        · rw [kv_lt q, kv_lt q, hoff _ _ (fun h => e h.2)]
          exact if_neg e
        · rw [kv_ge q, kv_ge q]
    rw [← h2, hv]
    exact hu
  -- without the bid: a sharing that doesn't use it
  have hbb : ∃ f, okA K0 (fun c => (63 : Nat).testBit c = true) f 0 6 ∧ vP Kx f 6 = FF K0 6 63 ∧ f s ≠ b ∧ (∀ k, k < 6 → f k < 6 → Kx (f k) k ≠ 0) := by
    obtain ⟨f, h1, h2⟩ := FF_attain K0 6 63
    have hfs : f s ≠ b := fun e => (h1.1 s (Nat.zero_le _) hs (by omega)).2 (by rw [e]; exact hon0)
    have hne : ∀ k, ¬ (f k = b ∧ k = s) := fun k h => hfs (by have h1 := h.1; rw [h.2] at h1; exact h1)
    refine ⟨f, h1, ?_, hfs, fun k hk q => ?_⟩
    · rw [← h2]
      exact vP_le_of 6 fun k hk => by
        rcases Nat.lt_or_ge (f k) 6 with q | q
        · rw [kv_lt q, kv_lt q, hoff _ _ (hne k)]
        · rw [kv_ge q, kv_ge q]
    · rw [hoff _ _ (hne k)]
      exact (h1.1 k (Nat.zero_le _) hk q).2
  obtain ⟨f, hf1, hf2, hf3, hf4⟩ := hbb
  have hP : FF K0 6 63 ≤ XX Kx 6 0 := by
    rw [← hf2, ← hXF]
    exact FF_upper Kx 6 63 f ⟨fun k a hk q => ⟨hall _ q, hf4 k hk q⟩, hf1.2⟩
  have hdig : ∀ k, k < 6 → XX Kx 6 0 / 8 ^ (5 - k) % 8 = 6 - own (set1 B b s x) k := fun k hk => by rw [← hKx]; exact own_digit _ k hk
  constructor
  · intro he
    -- the best uses the bid: so it is the others' best and it
    have hle : XX Kx 6 0 ≤ FF (zs K0 s) 6 (sw 63 b) + (x * 262144 + (6 - b) * 8 ^ (5 - s)) := by
      rw [← hX, vP_point Kx _ s 6 hs, he, kv_lt hb, hkey]
      have e0 : ∀ k, k ≠ s → (fun k => if k = s then 6 else own (set1 B b s x) k) k = own (set1 B b s x) k := fun k h => if_neg h
      have es : (fun k => if k = s then 6 else own (set1 B b s x) k) s = 6 := if_pos rfl
      generalize (fun k => if k = s then 6 else own (set1 B b s x) k) = g at e0 es
      have hgb : ∀ k, k < 6 → k ≠ s → own (set1 B b s x) k ≠ b := fun k hk h e => by
        have := own_inj (B := set1 B b s x) hk hs h (e.trans he.symm)
        omega
      have hz : ∀ k, k < 6 → g k < 6 → zs K0 s (g k) k = Kx (g k) k := fun k hk q => by
        by_cases e : k = s
        · rw [e, es] at q; omega
        · unfold zs; rw [if_neg e, hoff _ _ (fun h => e h.2)]
      have hu := FF_upper (zs K0 s) 6 (sw 63 b) g ⟨fun k a hk q => by
          by_cases e : k = s
          · rw [e, es] at q; omega
          · have q2 := q
            rw [e0 k e] at q2
            refine ⟨?_, ?_⟩
            · show (sw 63 b).testBit (g k) = true
              rw [e0 k e]
              exact (hsw _ q2).mpr (hgb k hk e)
            · rw [hz k hk q, e0 k e]
              exact (hokx.1 k a hk q2).2, fun k k' a hk a' hk' hne he2 => by
          by_cases e : k = s
          · rw [e, es]; exact Nat.le_refl _
          · by_cases e' : k' = s
            · rw [e', es] at he2; omega
            · rw [e0 k e, e0 k' e'] at he2
              rw [e0 k e]
              exact hokx.2 k k' a hk a' hk' hne he2⟩
      have hv : vP Kx g 6 = vP (zs K0 s) g 6 := vP_le_of 6 fun k hk => by
        rcases Nat.lt_or_ge (g k) 6 with q | q
        · rw [kv_lt q, kv_lt q, hz k hk q]
        · rw [kv_ge q, kv_ge q]
      rw [hv]
      omega
    rcases Nat.lt_or_ge (FF K0 6 63) (FF (zs K0 s) 6 (sw 63 b) + (x * 262144 + (6 - b) * 8 ^ (5 - s))) with q | q
    · exact q
    · -- then two best sharings would tell two bidders in the same figure
      have e : vP Kx f 6 = XX Kx 6 0 := by rw [hf2]; omega
      have h1 := hdig s hs
      rw [← e, he, ← hKx, vP_digit (fun k hk q => fun e => hf4 k hk q (by rw [← hKx]; exact (Bk_0 _ _ _).mpr e)) s hs] at h1
      unfold dg at h1
      by_cases h6 : f s < 6
      · rw [if_pos h6] at h1; omega
      · rw [if_neg h6] at h1; omega
  · intro hlt
    rcases Nat.lt_or_ge (own (set1 B b s x) s) 6 with q | q
    · by_cases e : own (set1 B b s x) s = b
      · exact e
      · exfalso
        have hne : ∀ k, k < 6 → ¬ (own (set1 B b s x) k = b ∧ k = s) := fun k _ h => e (by have h1 := h.1; rw [h.2] at h1; exact h1)
        have hu := FF_upper K0 6 63 (own (set1 B b s x)) ⟨fun k a hk q => ⟨hall _ q, by rw [← hoff _ _ (hne k hk)]; exact (hokx.1 k a hk q).2⟩, hokx.2⟩
        have hv : vP Kx (own (set1 B b s x)) 6 = vP K0 (own (set1 B b s x)) 6 := vP_le_of 6 fun k hk => by
          rcases Nat.lt_or_ge (own (set1 B b s x) k) 6 with q | q
          · rw [kv_lt q, kv_lt q, hoff _ _ (hne k hk)]
          · rw [kv_ge q, kv_ge q]
        rw [← hv, hX] at hu
        omega
    · exfalso
      have hne : ∀ k, k < 6 → ¬ (own (set1 B b s x) k = b ∧ k = s) := fun k _ h => by
        have e := h.1
        rw [h.2] at e
        omega
      have hu := FF_upper K0 6 63 (own (set1 B b s x)) ⟨fun k a hk q => ⟨hall _ q, by rw [← hoff _ _ (hne k hk)]; exact (hokx.1 k a hk q).2⟩, hokx.2⟩
      have hv : vP Kx (own (set1 B b s x)) 6 = vP K0 (own (set1 B b s x)) 6 := vP_le_of 6 fun k hk => by
        rcases Nat.lt_or_ge (own (set1 B b s x) k) 6 with q | q
        · rw [kv_lt q, kv_lt q, hoff _ _ (hne k hk)]
        · rw [kv_ge q, kv_ge q]
      rw [← hv, hX] at hu
      omega
