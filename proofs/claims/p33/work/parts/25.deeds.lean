/-! pure part: each deed keeps the relation -/
theorem tI1 : (1 : Int32).toInt = 1 := by decide
theorem tI0 : (0 : Int32).toInt = 0 := by decide
theorem tIm1 : (-1 : Int32).toInt = -1 := by decide
theorem O3.small {m : Nat} {r : Nat → Int32} (h1 : O1 m r) (h3 : O3 r) : S6 r 30 ≤ 9999 ∧ 0 ≤ S6 r 30 ∧ (r 165).toInt ≤ 9999 ∧ 0 ≤ S6 r 42 ∧ 0 ≤ S6 r 48 := by
  have hc := h1.chest
  obtain ⟨a, b, c, d⟩ := h3
  have e : ∀ k, (k = 30 ∨ k = 42 ∨ k = 48) → 0 ≤ S6 r k := by
    intro k hk
    unfold S6
    have p : ∀ i, k ≤ i → i < k + 6 → 0 ≤ (r i).toInt := fun i h2 h3 => by
      have := h1 i
      unfold Rng at this
      omega
    have p0 := p k (by omega) (by omega)
    have p1 := p (k + 1) (by omega) (by omega)
    have p2 := p (k + 2) (by omega) (by omega)
    have p3 := p (k + 3) (by omega) (by omega)
    have p4 := p (k + 4) (by omega) (by omega)
    have p5 := p (k + 5) (by omega) (by omega)
    omega
  have e30 := e 30 (by omega)
  have e42 := e 42 (by omega)
  have e48 := e 48 (by omega)
  omega
theorem purse_le {m : Nat} {r : Nat → Int32} (h1 : O1 m r) (h3 : O3 r) {b : Nat} (hb : b < 6) : (r (30 + b)).toInt ≤ S6 r 30 := S6_one hb (fun i hi => h1.purse hi)
theorem fees_le {m : Nat} {r : Nat → Int32} (h1 : O1 m r) (h3 : O3 r) {b : Nat} (hb : b < 6) : (r (48 + b)).toInt ≤ S6 r 48 := S6_one hb (fun i hi => h1.fees hi)
theorem prices_le {m : Nat} {r : Nat → Int32} (h1 : O1 m r) (h3 : O3 r) {b : Nat} (hb : b < 6) : (r (42 + b)).toInt ≤ S6 r 42 := S6_one hb (fun i hi => h1.prices hi)
theorem sealV_nat {m : Nat} {r : Nat → Int32} (h1 : O1 m r) (hm : m ≤ 1000000) {b s : Nat} {x : Int32} (hb : b < 6) (hs : s < 6) (hx0 : 0 ≤ x.toInt) (hx : x.toInt ≤ 99) : ∃ n : Nat, n < 4096 ∧ sealV r b s x = nI n := by
  have hr := h1.rank
  have e1 : x = nI x.toInt.toNat := tI_of hx0
  have e2 : r 170 = nI (r 170).toInt.toNat := tI_of hr.1
  generalize hX : x.toInt.toNat = X at e1
  generalize hK : (r 170).toInt.toNat = K at e2
  refine ⟨(73 * X + 41 * K + 6 * b + s) % 4096, Nat.mod_lt _ (by decide), ?_⟩
  unfold sealV
  rw [e1, e2, show (73 : Int32) = nI 73 from rfl, show (41 : Int32) = nI 41 from rfl, show (6 : Int32) = nI 6 from rfl, show (4096 : Int32) = nI 4096 from rfl, pk_mul, pk_mul, pk_mul, nI_add, nI_add, nI_add]
  exact pk_rem (by omega) (by decide) (by decide)
theorem nI_m1 {n : Nat} (h : n < 2147483648) : nI n ≠ -1 := fun e => by
  have := congrArg Int32.toInt e
  rw [nI_toInt (by omega), tIm1] at this
  omega
theorem rl_seal {m : Nat} {r t : Nat → Int32} (R : Rl m r t) (hm : m ≤ 1000000) {b s : Nat} {x : Int32} (hb : b < 6) (hs : s < 6) (hx0 : 1 ≤ x.toInt) (hx : x.toInt ≤ 99) : Rl (m + 1) (rSeal r b s x) (tSeal t r b s x) := by
  have hr := R.o1.rank
  obtain ⟨n, hn, hse⟩ := sealV_nat R.o1 hm hb hs (by omega) hx
  have hadd : (r 170 + 1).toInt = (r 170).toInt + 1 := by rw [tI_add (by rw [tI1]; omega) (by rw [tI1]; omega), tI1]
  refine ⟨?_, ?_, ?_, ?_, ?_, ?_, ?_⟩
  · exact (((((((R.P.updR (by omega) _).updR (by omega) _).updR (by omega) _).updT (by omega) _).updT (by omega) _).updT (by omega) _).both PI_rank _).both PI_sealed _
  · refine (((RelB.updR (r := upd (upd (upd r (54 + (b * 6 + s)) x) (90 + (b * 6 + s)) (sealV r b s x)) (126 + (b * 6 + s)) (r 168)) (t := upd (upd (upd t (69 + 18 * b + 3 * s) (sealV r b s x)) (69 + 18 * b + 3 * s + 1) (r 168)) (69 + 18 * b + 3 * s + 2) x) ?_ (by omega) _).updR (by omega) _).updT (by omega) _).updT (by omega) _
    intro b' s' hb' hs'
    by_cases e : b' = b ∧ s' = s
    · obtain ⟨rfl, rfl⟩ := e
      refine Or.inr ⟨?_, ?_, ?_, ?_, ?_⟩
      · rw [pk_un (by omega), pk_un (by omega), pk_us]
        intro e; rw [e, tI0] at hx0; omega
      · rw [pk_un (by omega), pk_un (by omega), pk_us, pk_un (by omega), pk_us]
      · rw [pk_un (by omega), pk_un (by omega), pk_us, hse]
        exact nI_m1 (by omega)
      · rw [pk_un (by omega), pk_us, pk_us]
      · rw [pk_us, pk_un (by omega), pk_un (by omega), pk_us]
    · have e2 : b' * 6 + s' ≠ b * 6 + s := fun q => e (by omega)
      refine (R.B b' s' hb' hs').congr ?_ ?_ ?_ ?_ ?_ ?_
      · rw [pk_un (by omega), pk_un (by omega), pk_un (by omega)]
      · rw [pk_un (by omega), pk_un (by omega), pk_un (by omega)]
      · rw [pk_un (by omega), pk_un (by omega), pk_un (by omega)]
      · rw [pk_un (by omega), pk_un (by omega), pk_un (by omega)]
      · rw [pk_un (by omega), pk_un (by omega), pk_un (by omega)]
      · rw [pk_un (by omega), pk_un (by omega), pk_un (by omega)]
  · exact (((((((((R.S.updR (by omega) _).updR (by omega) _).updR (by omega) _).updR (by omega) _).updR (by omega) _).updT (by omega) _).updT (by omega) _).updT (by omega) _).updT (by omega) _).updT (by omega) _
  · refine (((((R.o1.mono (Nat.le_succ m)).cell ?_).cell ?_).cell ?_).cell ?_).cell ?_
    · unfold Rng; omega
    · unfold Rng; omega
    · unfold Rng; omega
    · rw [hadd]; unfold Rng; omega
    · unfold Rng; omega
  · refine (O2.cell (O2.cell ?_ (by omega) _) (by omega) _)
    intro b' s' hb' hs'
    by_cases e : b' = b ∧ s' = s
    · obtain ⟨rfl, rfl⟩ := e
      intro _
      rw [pk_us, pk_un (by omega), pk_un (by omega), pk_un (by omega)]
      have := R.o1.hour
      omega
    · have e2 : b' * 6 + s' ≠ b * 6 + s := fun q => e (by omega)
      rw [pk_un (show 54 + (b' * 6 + s') ≠ 126 + (b * 6 + s) by omega), pk_un (show 54 + (b' * 6 + s') ≠ 90 + (b * 6 + s) by omega), pk_un (show 54 + (b' * 6 + s') ≠ 54 + (b * 6 + s) by omega), pk_un (show 126 + (b' * 6 + s') ≠ 126 + (b * 6 + s) by omega), pk_un (show 126 + (b' * 6 + s') ≠ 90 + (b * 6 + s) by omega), pk_un (show 126 + (b' * 6 + s') ≠ 54 + (b * 6 + s) by omega), pk_un (show 168 ≠ 126 + (b * 6 + s) by omega), pk_un (show 168 ≠ 90 + (b * 6 + s) by omega), pk_un (show 168 ≠ 54 + (b * 6 + s) by omega)]
      exact R.o2 b' s' hb' hs'
  · exact ((((R.o3.cell (by omega) _).cell (by omega) _).cell (by omega) _).cell (by omega) _).cell (by omega) _
  · exact ((((R.o4.cell (by omega) _).cell (by omega) _).cell (by omega) _).cell (by omega) _).cell (by omega) _
theorem fee_nat {m : Nat} {r t : Nat → Int32} (R : Rl m r t) {b s : Nat} (hb : b < 6) (hs : s < 6) (hbid : ¬ r (54 + (b * 6 + s)) = 0) : ∃ F : Nat, F ≤ 227 ∧ rFee r b s = nI F := by
  have h0 := R.o1.set0
  have h1 := R.o1.set1
  have hh := R.o1.hour
  have h2 := R.o2 b s hb hs hbid
  have e0 := tI_of h0.1
  have e1 := tI_of h1.1
  have e2 := tI_of hh.1
  have e3 := tI_of h2.1
  generalize h8 : (r 162).toInt.toNat = X at e0
  generalize h9 : (r 163).toInt.toNat = Y at e1
  generalize h10 : (r 168).toInt.toNat = Z at e2
  generalize h11 : (r (126 + (b * 6 + s))).toInt.toNat = W at e3
  have hm : Y * (Z - W) ≤ 9 * 23 := Nat.mul_le_mul (by omega) (by omega)
  refine ⟨X + Y * (Z - W), by omega, ?_⟩
  unfold rFee
  rw [e0, e1, e2, e3, pk_sub (by omega), pk_mul, nI_add]
theorem rl_take {m : Nat} {r t : Nat → Int32} (R : Rl m r t) {b s : Nat} (hb : b < 6) (hs : s < 6) (h0 : rWhyW r b s = 0) : Rl (m + 1) (rTake r b s) (tTake t r b s) := by
  have hbid : ¬ r (54 + (b * 6 + s)) = 0 := fun e => by
    unfold rWhyW at h0
    by_cases q : r 169 = 0
    · rw [if_pos q, if_pos e] at h0; exact absurd h0 (by decide)
    · rw [if_neg q] at h0; exact absurd h0 (by decide)
  have hle : rFee r b s ≤ r (30 + b) := by
    unfold rWhyW at h0
    by_cases q : r 169 = 0
    · rw [if_pos q, if_neg hbid] at h0
      by_cases q2 : rFee r b s ≤ r (30 + b)
      · exact q2
      · rw [if_neg q2] at h0; exact absurd h0 (by decide)
    · rw [if_neg q] at h0; exact absurd h0 (by decide)
  obtain ⟨F, hF, hf⟩ := fee_nat R hb hs hbid
  have hFt : (rFee r b s).toInt = F := by rw [hf]; exact nI_toInt (by omega)
  rw [tI_le] at hle
  have hsm := O3.small R.o1 R.o3
  have hpu := purse_le R.o1 R.o3 hb
  have hfe := fees_le R.o1 R.o3 hb
  have hf0 := R.o1.fees hb
  have hp0 := R.o1.purse hb
  have hch := R.o1.chest
  have hneg : (-(rFee r b s)).toInt = -(F : Int) := by rw [tI_neg (by omega) (by omega), hFt]
  have a1 : (r (30 + b) + -(rFee r b s)).toInt = (r (30 + b)).toInt - F := by rw [tI_add (by omega) (by omega), hneg]; omega
  have a2 : (r 165 + rFee r b s).toInt = (r 165).toInt + F := by rw [tI_add (by omega) (by omega), hFt]
  have a3 : (r (48 + b) + rFee r b s).toInt = (r (48 + b)).toInt + F := by
    have := R.o3.2.2.2
    rw [tI_add (by omega) (by omega), hFt]
  refine ⟨?_, ?_, ?_, ?_, ?_, ?_, ?_⟩
  · exact ((((((R.P.updR (by omega) _).updT (by omega) _).both (PI_purse hb) _).both PI_chest _).both (PI_fees hb) _).updT (by omega) _).both PI_withdrawn _
  · refine ((((((((RelB.updR (r := upd r (54 + (b * 6 + s)) 0) (t := upd t (69 + 18 * b + 3 * s) (-1)) ?_ (by omega) _).updR (by omega) _).updR (by omega) _).updR (by omega) _).updT (by omega) _).updT (by omega) _).updT (by omega) _).updT (by omega) _).updT (by omega) _
    intro b' s' hb' hs'
    by_cases e : b' = b ∧ s' = s
    · obtain ⟨rfl, rfl⟩ := e
      exact Or.inl ⟨pk_us, pk_us⟩
    · have e2 : b' * 6 + s' ≠ b * 6 + s := fun q => e (by omega)
      exact (R.B b' s' hb' hs').congr (pk_un (by omega)) (pk_un (by omega)) (pk_un (by omega)) (pk_un (by omega)) (pk_un (by omega)) (pk_un (by omega))
  · refine RelS.updT (RelS.updR (RelS.fees (v := rFee r b s) ((((((R.S.updR (by omega) _).updR (by omega) _).updR (by omega) _).updT (by omega) _).updT (by omega) _).updT (by omega) _ |>.updT (by omega) _) hb ?_ ?_) (by omega) _) (by omega) _
    · rw [pk_un (by omega), pk_un (by omega), pk_un (by omega)]
    · rw [pk_un (by omega), pk_un (by omega), pk_un (by omega), pk_un (by omega)]
  · refine (((((R.o1.mono (Nat.le_succ m)).cell ?_).cell ?_).cell ?_).cell ?_).cell ?_
    · rw [tI0]; unfold Rng; omega
    · rw [a1]; unfold Rng; omega
    · rw [a2]; unfold Rng; omega
    · rw [a3]; unfold Rng; omega
    · unfold Rng; omega
  · refine O2.cell (O2.cell (O2.cell (O2.cell ?_ (by omega) _) (by omega) _) (by omega) _) (by omega) _
    intro b' s' hb' hs'
    by_cases e : b' = b ∧ s' = s
    · obtain ⟨rfl, rfl⟩ := e
      rw [pk_us]; intro h; exact absurd rfl h
    · have e2 : b' * 6 + s' ≠ b * 6 + s := fun q => e (by omega)
      rw [pk_un (by omega), pk_un (by omega), pk_un (by omega)]
      exact R.o2 b' s' hb' hs'
  · refine O3.cell ?_ (by omega) _
    have h3 := R.o3.cell (i := 54 + (b * 6 + s)) (by omega) 0
    unfold O3 at h3 ⊢
    have ei : ∀ i, i ≠ 54 + (b * 6 + s) → upd r (54 + (b * 6 + s)) 0 i = r i := fun i h => pk_un h
    have e1 := ei (30 + b) (by omega)
    have e2 := ei 165 (by omega)
    have e3 := ei (48 + b) (by omega)
    generalize upd r (54 + (b * 6 + s)) 0 = r1 at h3 e1 e2 e3 ⊢
    rw [S6_out (k := 30) (i := 48 + b) (by omega), S6_out (k := 30) (i := 165) (by omega), S6_in hb, pk_un (show 165 ≠ 48 + b by omega), pk_us, pk_un (show 166 ≠ 48 + b by omega), pk_un (show 166 ≠ 165 by omega), pk_un (show 166 ≠ 30 + b by omega), S6_out (k := 42) (i := 48 + b) (by omega), S6_out (k := 42) (i := 165) (by omega), S6_out (k := 42) (i := 30 + b) (by omega), S6_in (k := 48) hb, S6_out (k := 48) (i := 165) (by omega), S6_out (k := 48) (i := 30 + b) (by omega), pk_un (show 48 + b ≠ 165 by omega), pk_un (show 48 + b ≠ 30 + b by omega), a1, a2, a3]
    rw [e2] at h3
    rw [e1, e3]
    omega
  · exact ((((R.o4.cell (by omega) _).cell (by omega) _).cell (by omega) _).cell (by omega) _).cell (by omega) _
theorem hour_nat {m : Nat} {r t : Nat → Int32} (R : Rl m r t) {x : Int32} (hx0 : 1 ≤ x.toInt) (hx : x.toInt ≤ 23) : (r 168).toInt ≤ (rHour r x).toInt ∧ (rHour r x).toInt ≤ 23 := by
  have h := R.o1.hour
  have e23 : (23 : Int32).toInt = 23 := by decide
  have a : (r 168 + x).toInt = (r 168).toInt + x.toInt := tI_add (by omega) (by omega)
  unfold rHour
  by_cases q : r 168 + x < 23
  · rw [if_pos q]; rw [tI_lt, a, e23] at q; omega
  · rw [if_neg q, e23]; omega
theorem rl_hour {m : Nat} {r t : Nat → Int32} (R : Rl m r t) {x : Int32} (hx0 : 1 ≤ x.toInt) (hx : x.toInt ≤ 23) : Rl (m + 1) (upd r 168 (rHour r x)) (upd t 1 (rHour r x)) := by
  have h := R.o1.hour
  have h2 := hour_nat R hx0 hx
  refine ⟨R.P.both PI_hour _, (R.B.updR (by omega) _).updT (by omega) _, (R.S.updR (by omega) _).updT (by omega) _, (R.o1.mono (Nat.le_succ m)).cell (by unfold Rng; omega), ?_, R.o3.cell (by omega) _, R.o4.cell (by omega) _⟩
  intro b s hb hs
  rw [pk_un (by omega), pk_un (by omega), pk_us]
  intro hne
  have := R.o2 b s hb hs hne
  omega
theorem rl_pay {m : Nat} {r t : Nat → Int32} (R : Rl m r t) {b : Nat} {x : Int32} (hb : b < 6) (hx0 : 1 ≤ x.toInt) (hx : x.toInt ≤ 99) (hc : ¬ 9999 < r 166 + x) : Rl (m + 1) (upd (upd r 166 (r 166 + x)) (30 + b) (r (30 + b) + x)) (upd (upd t (45 + 4 * b + 0) (r (30 + b) + x)) 4 (r 166 + x)) := by
  have hsm := O3.small R.o1 R.o3
  have hpu := purse_le R.o1 R.o3 hb
  have hp0 := R.o1.purse hb
  have hco := R.o3
  have e : (9999 : Int32).toInt = 9999 := by decide
  have a1 : (r 166 + x).toInt = (r 166).toInt + x.toInt := by
    have := hco.2.1
    have := hco.2.2.1
    exact tI_add (by omega) (by omega)
  have a2 : (r (30 + b) + x).toInt = (r (30 + b)).toInt + x.toInt := tI_add (by omega) (by omega)
  rw [tI_lt, a1, e] at hc
  rw [upd_comm (i := 45 + 4 * b + 0) (j := 4) (by omega)]
  refine ⟨(R.P.both PI_coins _).both (PI_purse hb) _, (((R.B.updR (by omega) _).updR (by omega) _).updT (by omega) _).updT (by omega) _, (((R.S.updR (by omega) _).updR (by omega) _).updT (by omega) _).updT (by omega) _, ((R.o1.mono (Nat.le_succ m)).cell ?_).cell ?_, (R.o2.cell (by omega) _).cell (by omega) _, ?_, (R.o4.cell (by omega) _).cell (by omega) _⟩
  · unfold Rng; omega
  · rw [a2]; unfold Rng; omega
  · unfold O3 at hco ⊢
    rw [S6_in hb, S6_out (k := 30) (i := 166) (by omega), pk_un (show 30 + b ≠ 166 by omega), a2, pk_un (show 165 ≠ 30 + b by omega), pk_un (show 165 ≠ 166 by omega), pk_un (show 166 ≠ 30 + b by omega), pk_us, a1, S6_out (k := 42) (by omega), S6_out (k := 42) (by omega), S6_out (k := 48) (by omega), S6_out (k := 48) (by omega)]
    omega
-- fishing
theorem haul_nat {m : Nat} {r t : Nat → Int32} (R : Rl m r t) {s : Nat} (hs : s < 6) : ∃ H : Nat, haulV r s = nI H ∧ (H : Int) ≤ (r (6 + s)).toInt := by
  have hf := R.o1.fish hs
  have e := tI_of hf.1
  generalize hX : (r (6 + s)).toInt.toNat = X at e
  unfold haulV
  rw [e, show (4 : Int32) = nI 4 from rfl, pk_div (by omega) (by decide) (by decide), nI_1, nI_toInt (by omega)]
  by_cases q : nI (X / 4 + 1) < nI X
  · rw [if_pos q]
    rw [nI_ltI (by omega) (by omega)] at q
    exact ⟨_, rfl, by omega⟩
  · rw [if_neg q]
    exact ⟨_, rfl, by omega⟩
def tHaul (t r : Nat → Int32) (s w : Nat) : Nat → Int32 := upd (upd (upd (upd t (15 + 5 * s + 1) (r (6 + s) + -(haulV r s))) (45 + 4 * w + 1) (r (36 + w) + haulV r s)) (15 + 5 * s + 4) (r (24 + s) + haulV r s)) 8 (t 8 + haulV r s)
theorem rl_haul {m : Nat} {r t : Nat → Int32} (R : Rl m r t) {s w : Nat} (hs : s < 6) (hw : w < 6) : Rl m (rHaul r s w) (tHaul t r s w) := by
  obtain ⟨H, hH, hle⟩ := haul_nat R hs
  have hf := R.o1.fish hs
  have hHt : (haulV r s).toInt = H := by rw [hH]; exact nI_toInt (by omega)
  have a1 : (r (6 + s) + -(haulV r s)).toInt = (r (6 + s)).toInt - H := by
    have hn : (-(haulV r s)).toInt = -(H : Int) := by rw [tI_neg (by omega) (by omega), hHt]
    rw [tI_add (by omega) (by omega), hn]; omega
  refine ⟨?_, ?_, ?_, ?_, ?_, ?_, ?_⟩
  · exact (((R.P.both (PI_fish hs) _).both (PI_catch hw) _).both (PI_caught hs) _).updT (by omega) _
  · exact ((((((R.B.updR (by omega) _).updR (by omega) _).updR (by omega) _).updT (by omega) _).updT (by omega) _).updT (by omega) _).updT (by omega) _
  · unfold rHaul tHaul
    rw [upd_comm (i := 15 + 5 * s + 4) (j := 8) (by omega)]
    refine RelS.updT (RelS.updR (RelS.catch (v := haulV r s) (((R.S.updR (by omega) _).updT (by omega) _).updT (by omega) _) hw ?_ ?_) (by omega) _) (by omega) _
    · rw [pk_un (by omega)]
    · rw [pk_un (by omega), pk_un (by omega)]
  · refine ((R.o1.cell ?_).cell ?_).cell ?_
    · rw [a1]; unfold Rng; omega
    · unfold Rng; omega
    · unfold Rng; omega
  · exact ((R.o2.cell (by omega) _).cell (by omega) _).cell (by omega) _
  · exact ((R.o3.cell (by omega) _).cell (by omega) _).cell (by omega) _
  · exact ((R.o4.cell (by omega) _).cell (by omega) _).cell (by omega) _
def tSwim (t r : Nat → Int32) (s d : Nat) : Nat → Int32 := if r (12 + d) = -1 then (if r (6 + s) ≤ r (6 + d) then t else upd (upd t (15 + 5 * s + 1) (r (6 + s) + -(swimV r s d))) (15 + 5 * d + 1) (r (6 + d) + swimV r s d)) else t
theorem swim_nat {m : Nat} {r t : Nat → Int32} (R : Rl m r t) {s d : Nat} (hs : s < 6) (hd : d < 6) : ∃ V : Nat, swimV r s d = nI V ∧ (V : Int) ≤ (r (6 + s)).toInt ∧ (V : Int) ≤ 200 - (r (6 + d)).toInt := by
  have hf := R.o1.fish hs
  have hg := R.o1.fish hd
  have e := tI_of hf.1
  have e' := tI_of hg.1
  generalize hX : (r (6 + s)).toInt.toNat = X at e
  generalize hY : (r (6 + d)).toInt.toNat = Y at e'
  unfold swimV
  rw [e, e', show (10 : Int32) = nI 10 from rfl, show (200 : Int32) = nI 200 from rfl, pk_div (by omega) (by decide) (by decide), pk_sub (by omega), nI_toInt (by omega), nI_toInt (by omega)]
  by_cases q : nI (200 - Y) < nI (X / 10)
  · rw [if_pos q]
    rw [nI_ltI (by omega) (by omega)] at q
    exact ⟨_, rfl, by omega, by omega⟩
  · rw [if_neg q]
    rw [nI_ltI (by omega) (by omega)] at q
    exact ⟨_, rfl, by omega, by omega⟩
theorem rl_swim {m : Nat} {r t : Nat → Int32} (R : Rl m r t) {s d : Nat} (hs : s < 6) (hd : d < 6) (hne : s ≠ d) : Rl m (rSwim r s d) (tSwim t r s d) := by
  unfold rSwim tSwim
  by_cases h1 : r (12 + d) = -1
  · rw [if_pos h1, if_pos h1]
    by_cases h2 : r (6 + s) ≤ r (6 + d)
    · rw [if_pos h2, if_pos h2]; exact R
    · rw [if_neg h2, if_neg h2]
      obtain ⟨V, hV, hl1, hl2⟩ := swim_nat R hs hd
      have hf := R.o1.fish hs
      have hg := R.o1.fish hd
      have hVt : (swimV r s d).toInt = V := by rw [hV]; exact nI_toInt (by omega)
      have a1 : (r (6 + s) + -(swimV r s d)).toInt = (r (6 + s)).toInt - V := by
        have hn : (-(swimV r s d)).toInt = -(V : Int) := by rw [tI_neg (by omega) (by omega), hVt]
        rw [tI_add (by omega) (by omega), hn]; omega
      have a2 : (r (6 + d) + swimV r s d).toInt = (r (6 + d)).toInt + V := by rw [tI_add (by omega) (by omega), hVt]
      exact (R.one (PI_fish hs) (by omega) (by rw [a1]; unfold Rng; omega)).one (PI_fish hd) (by omega) (by rw [a2]; unfold Rng; omega)
  · rw [if_neg h1, if_neg h1]; exact R
def tLow (t r : Nat → Int32) (s : Nat) : Nat → Int32 := if s = 0 then t else tSwim t r s (s - 1)
def tHigh (t r : Nat → Int32) (s : Nat) : Nat → Int32 := if s = 5 then t else tSwim t r s (s + 1)
theorem rl_low {m : Nat} {r t : Nat → Int32} (R : Rl m r t) {s : Nat} (hs : s < 6) : Rl m (rLow r s) (tLow t r s) := by
  unfold rLow tLow
  by_cases h : s = 0
  · rw [if_pos h, if_pos h]; exact R
  · rw [if_neg h, if_neg h]; exact rl_swim R hs (by omega) (by omega)
theorem rl_high {m : Nat} {r t : Nat → Int32} (R : Rl m r t) {s : Nat} (hs : s < 6) : Rl m (rHigh r s) (tHigh t r s) := by
  unfold rHigh tHigh
  by_cases h : s = 5
  · rw [if_pos h, if_pos h]; exact R
  · rw [if_neg h, if_neg h]; exact rl_swim R hs (by omega) (by omega)
theorem tSwim_out {t r : Nat → Int32} {s d j : Nat} (hs : s < 6) (hd : d < 6) (hj : 177 ≤ j) : tSwim t r s d j = t j := by
  unfold tSwim
  by_cases h1 : r (12 + d) = -1
  · rw [if_pos h1]
    by_cases h2 : r (6 + s) ≤ r (6 + d)
    · rw [if_pos h2]
    · rw [if_neg h2, pk_un (by omega), pk_un (by omega)]
  · rw [if_neg h1]
theorem tHaul_out {t r : Nat → Int32} {s w j : Nat} (hs : s < 6) (hw : w < 6) (hj : 177 ≤ j) : tHaul t r s w j = t j := by
  unfold tHaul
  rw [pk_un (by omega), pk_un (by omega), pk_un (by omega), pk_un (by omega)]
