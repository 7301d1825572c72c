/-! pure part: what the law asks of a state in between -/
theorem tIs {a b : Int32} {x y : Int} (ha : a.toInt = x) (hb : b.toInt = y) (h0 : 0 ≤ x) (h1 : 0 ≤ y) (h : x + y ≤ 100000) : (a + b).toInt = x + y := by
  rw [tI_add (by omega) (by omega), ha, hb]
theorem sumF_S6 {r : Nat → Int32} {k : Nat} (hp : ∀ i, i < 6 → 0 ≤ (r (k + i)).toInt) (hS : S6 r k ≤ 9999) : (sumF r k 6).toInt = S6 r k := by
  unfold S6 at hS ⊢
  have h0 := hp 0 (by decide)
  have h1 := hp 1 (by decide)
  have h2 := hp 2 (by decide)
  have h3 := hp 3 (by decide)
  have h4 := hp 4 (by decide)
  have h5 := hp 5 (by decide)
  rw [Nat.add_zero] at h0
  have e0 : (0 : Int32).toInt = 0 := tI0
  show (0 + r (k + 0) + r (k + 1) + r (k + 2) + r (k + 3) + r (k + 4) + r (k + 5)).toInt = _
  have s1 := tIs (a := 0) (b := r (k + 0)) e0 rfl (by omega) h0 (by rw [Nat.add_zero]; omega)
  rw [Nat.add_zero] at s1 ⊢
  have s2 := tIs s1 (b := r (k + 1)) rfl (by omega) h1 (by omega)
  have s3 := tIs s2 (b := r (k + 2)) rfl (by omega) h2 (by omega)
  have s4 := tIs s3 (b := r (k + 3)) rfl (by omega) h3 (by omega)
  have s5 := tIs s4 (b := r (k + 4)) rfl (by omega) h4 (by omega)
  have s6 := tIs s5 (b := r (k + 5)) rfl (by omega) h5 (by omega)
  rw [s6]; omega
theorem sumG_0 : ∀ n, sumG (fun _ => (0 : Int32)) n = 0
  | 0 => rfl
  | n + 1 => by show sumG _ n + 0 = 0; rw [sumG_0 n, Int32.add_zero]
theorem sumG_add (f g : Nat → Int32) : ∀ n, sumG (fun i => f i + g i) n = sumG f n + sumG g n
  | 0 => rfl
  | n + 1 => by
    show sumG _ n + (f n + g n) = (sumG f n + f n) + (sumG g n + g n)
    rw [sumG_add f g n, Int32.add_assoc, Int32.add_assoc, ← Int32.add_assoc (sumG g n), Int32.add_comm (sumG g n) (f n), Int32.add_assoc (f n)]
theorem sumG_swap (f : Nat → Nat → Int32) (k : Nat) : ∀ n, sumG (fun i => sumG (fun j => f i j) k) n = sumG (fun j => sumG (fun i => f i j) n) k
  | 0 => (sumG_0 k).symm
  | n + 1 => by
    show sumG _ n + sumG (fun j => f n j) k = sumG (fun j => sumG (fun i => f i j) n + f n j) k
    rw [sumG_add (fun j => sumG (fun i => f i j) n) (fun j => f n j) k, sumG_swap f k n]
/-- what the law asks of the two shares -/
def FPF : Prop := ∀ (m : Nat) (σ : CS), m ≤ 100 → G m (c_row σ) → ∃ (a : UInt64) (b : UInt32), (∀ post : UInt64 → Prop, post a → wp_X4_chestShare σ post) ∧ (∀ post : UInt32 → Prop, post b → wp_X4_meanPrice σ post) ∧ ¬ (Op.cmpValue (FP.dcmp a FP.dconst0) .l) < 0 ∧ ¬ 0 < (Op.cmpValue (FP.dcmp a FP.dconst1) .g) ∧ ¬ 0 < (Op.cmpValue (FP.fcmp b 1120272384) .g)
theorem one_ne : ¬ (1 : Int32) = 0 := by decide
theorem ltI {a : Int32} {n : Nat} (hn : n < 2147483648) (h : (n : Int) ≤ a.toInt) : ¬ a < nI n := fun q => by
  rw [tI_lt, tI_n (by omega)] at q; omega
theorem gtI {a : Int32} {n : Nat} (hn : n < 2147483648) (h : a.toInt ≤ n) : ¬ nI n < a := fun q => by
  rw [tI_lt, tI_n (by omega)] at q; omega
theorem nonneg {a : Int32} (h : 0 ≤ a.toInt) : ¬ a < 0 := ltI (n := 0) (by decide) h
theorem ne_m1 {a : Int32} (h : 0 ≤ a.toInt) : ¬ a = -1 := fun e => by rw [e, tIm1] at h; omega
theorem m1_lt : (-1 : Int32) < 0 := by decide
theorem h_tail {σ : CS} {i : Nat} (hi : i < 6) {FIN BAD : Prop} {px : String → Prop} (hf : FIN) : wp_X4_bidder σ (nI i) 3 (fun r1 => ((r1 = (-1) → FIN) ∧ (¬ r1 = (-1) → wp_X4_bidder σ (nI i) 3 (fun r2 => wp_X4_spot σ r2 2 (fun r3 => ((¬ r3 = nI i → BAD) ∧ (r3 = nI i → FIN))) px) px))) px := by
  rcases findF_spec (fun k => c_row σ (12 + k)) (nI i) 6 0 with ⟨h, _⟩ | ⟨k, _, hk, hk2, h⟩
  · exact w_bidderE (k := 3) hi (by decide) (v := -1) h ⟨fun _ => hf, fun q => absurd rfl q⟩
  · refine w_bidderE (k := 3) hi (by decide) (v := nI k) h ⟨fun _ => hf, fun _ => ?_⟩
    refine w_bidderE (k := 3) hi (by decide) (v := nI k) h ?_
    exact w_spotE (k := 2) (by omega) (by decide) (v := nI i) hk2 ⟨fun q => absurd rfl q, fun _ => hf⟩
theorem h_owner {r : Nat → Int32} (h : X3 r) {i w : Nat} (hi : i < 6) (hw : w < 6) (e : r (12 + i) = nI w) : findF (fun k => r (12 + k)) (nI w) 6 0 = nI i := by
  rcases findF_spec (fun k => r (12 + k)) (nI w) 6 0 with ⟨_, h2⟩ | ⟨k, _, hk, hk2, h2⟩
  · exact absurd e (h2 i (Nat.zero_le _) (by omega))
  · have : k = i := h.2 k i (by omega) hi (hk2.trans e.symm) (by rw [hk2]; exact nI_m1 (by omega))
    subst this
    exact h2
set_option maxHeartbeats 4000000 in
theorem p_holds {m : Nat} {σ : CS} (hG : G m (c_row σ)) (hm : m ≤ 100) (F : FPF) {post : Int32 → Prop} (hp : post 1) : wp_L_holds σ post := by
  obtain ⟨fa, fb, F1, F2, F3, F4, F5⟩ := F m σ hm hG
  have h1 := hG.o1
  have h3 := hG.o3
  have hsm := O3.small h1 h3
  have hX1 := hG.x1
  obtain ⟨k1, k2, k3, k4⟩ := h3
  have s30 := sumF_S6 (r := c_row σ) (k := 30) (fun i hi => h1.purse hi) hsm.1
  have s42 := sumF_S6 (r := c_row σ) (k := 42) (fun i hi => h1.prices hi) (by omega)
  have s48 := sumF_S6 (r := c_row σ) (k := 48) (fun i hi => h1.fees hi) (by omega)
  have hch := h1.chest
  have hhr := h1.hour
  have c1 : c_row σ 165 + sumF (c_row σ) 30 6 = c_row σ 166 := Int32.toInt_inj.mp (by rw [tI_add (by omega) (by omega), s30]; omega)
  have c2 : c_row σ 165 = sumF (c_row σ) 48 6 + sumF (c_row σ) 42 6 := Int32.toInt_inj.mp (by rw [tI_add (by omega) (by omega), s48, s42]; omega)
  have hnb := nbF_le (c_row σ) 36
  have e3 : sumG (fun b => sumG (fun s => hasB (c_row σ) b s) 6) 6 = nI (nbF (c_row σ) 36) := nbF_all (c_row σ) 6
  have c5 : ¬ c_row σ 171 < nI (nbF (c_row σ) 36) + c_row σ 172 := fun q => by
    obtain ⟨a1, a2, a3⟩ := hX1
    rw [tI_lt, tI_add (by rw [tI_n (by omega)]; omega) (by rw [tI_n (by omega)]; omega), tI_n (by omega)] at q
    omega
  refine w_countE h1 (k := 4) (by decide) (v := c_row σ 165) rfl ?_
  refine w_countE h1 (k := 5) (by decide) (v := sumF (c_row σ) 30 6) rfl ?_
  refine w_countE h1 (k := 6) (by decide) (v := c_row σ 166) rfl ?_
  refine ⟨fun q => absurd c1 q, fun _ => ?_⟩
  refine w_countE h1 (k := 4) (by decide) (v := c_row σ 165) rfl ?_
  refine w_countE h1 (k := 7) (by decide) (v := sumF (c_row σ) 48 6) rfl ?_
  refine w_countE h1 (k := 8) (by decide) (v := sumF (c_row σ) 42 6) rfl ?_
  refine ⟨fun q => absurd c2 q, fun _ => ?_⟩
  refine w_countE h1 (k := 6) (by decide) (v := c_row σ 166) rfl ?_
  refine ⟨fun q => absurd q (ltI (n := 600) (by decide) k2), fun _ => ?_⟩
  refine w_countE h1 (k := 6) (by decide) (v := c_row σ 166) rfl ?_
  refine ⟨fun q => absurd q (gtI (n := 9999) (by decide) k3), fun _ => ?_⟩
  refine w_countE h1 (k := 12) (by decide) (v := c_row σ 171) rfl ?_
  refine w_countE h1 (k := 3) (by decide) (v := nI (nbF (c_row σ) 36)) e3 ?_
  refine w_countE h1 (k := 13) (by decide) (v := c_row σ 172) rfl ?_
  refine ⟨fun q => absurd q c5, fun _ => ?_⟩
  refine w_countE h1 (k := 1) (by decide) (v := c_row σ 168) rfl ?_
  refine ⟨fun q => absurd q (nonneg hhr.1), fun _ => ?_⟩
  refine w_countE h1 (k := 1) (by decide) (v := c_row σ 168) rfl ?_
  refine ⟨fun q => absurd q (gtI (n := 23) (by decide) hhr.2), fun _ => ?_⟩
  refine ⟨fun n v1 v2 v3 v4 v5 v6 v7 v8 v9 w => ∃ i : Nat, i ≤ 6 ∧ n = 6 - i ∧ w = nI i ∧ v9 = 1 ∧ v1 = sumF (c_row σ) 30 i ∧ v2 = sumF (c_row σ) 6 i ∧ v3 = sumG (fun s => sumG (fun b => hasB (c_row σ) b s) 6) i ∧ v4 = sumG (fun b => sumG (fun s => hasB (c_row σ) b s) 6) i ∧ v5 = sumF (c_row σ) 24 i ∧ v6 = sumF (c_row σ) 36 i ∧ v7 = sumF (c_row σ) 42 i ∧ v8 = sumF (c_row σ) 48 i, ⟨6, 0, Nat.zero_le _, rfl, rfl, rfl, rfl, rfl, rfl, rfl, rfl, rfl, rfl, rfl⟩, ?_⟩
  rintro n v1 v2 v3 v4 v5 v6 v7 v8 v9 w ⟨i, hi, rfl, rfl, rfl, rfl, rfl, rfl, rfl, rfl, rfl, rfl, rfl⟩
  refine ⟨fun h9 => ?_, fun h9 => ?_⟩
  · have e : i = 6 := Nat.le_antisymm hi ((nI_leI (a := 6) (by omega) (by omega)).mp h9)
    subst e
    refine ⟨fun n v w => ∃ i : Nat, i ≤ 36 ∧ n = 36 - i ∧ w = nI i ∧ v = 1, ⟨36, 0, Nat.zero_le _, rfl, rfl, rfl⟩, ?_⟩
    rintro n v w ⟨i, hi, rfl, rfl, rfl⟩
    refine ⟨fun h9 => ?_, fun h9 => ?_⟩
    · refine ⟨fun q => absurd q one_ne, fun _ => ?_⟩
      refine w_countE h1 (k := 5) (by decide) (v := sumF (c_row σ) 30 6) rfl ⟨fun q => absurd rfl q, fun _ => ?_⟩
      refine w_countE h1 (k := 10) (by decide) (v := sumF (c_row σ) 6 6) rfl ⟨fun q => absurd rfl q, fun _ => ?_⟩
      have es := sumG_swap (fun s b => hasB (c_row σ) b s) 6 6
      refine w_countE h1 (k := 3) (by decide) (v := sumG (fun b => sumG (fun s => hasB (c_row σ) b s) 6) 6) rfl ⟨fun q => absurd es q, fun _ => ?_⟩
      refine ⟨fun q => absurd es.symm q, fun _ => ?_⟩
      have ec : sumF (c_row σ) 24 6 = sumF (c_row σ) 36 6 := hG.x4
      refine w_countE h1 (k := 11) (by decide) (v := sumF (c_row σ) 36 6) rfl ⟨fun q => absurd ec q, fun _ => ?_⟩
      refine ⟨fun q => absurd ec.symm q, fun _ => ?_⟩
      refine w_countE h1 (k := 8) (by decide) (v := sumF (c_row σ) 42 6) rfl ⟨fun q => absurd rfl q, fun _ => ?_⟩
      refine w_countE h1 (k := 7) (by decide) (v := sumF (c_row σ) 48 6) rfl ⟨fun q => absurd rfl q, fun _ => ?_⟩
      refine F1 _ ⟨fun q => absurd q F3, fun _ => ?_⟩
      refine F1 _ ⟨fun q => absurd q F4, fun _ => ?_⟩
      refine F2 _ ⟨fun q => absurd q F5, fun _ => ?_⟩
      exact ⟨by decide, hp⟩
    · have e : i < 36 := Nat.lt_of_not_le fun q => h9 (nI_le (a := 36) q (by omega))
      rw [rx6 (by omega), ix6 (by omega)]
      have hb : i / 6 < 6 := by omega
      have hs : i % 6 < 6 := by omega
      have ei : i / 6 * 6 + i % 6 = i := by omega
      have fin : ∀ w : Int32, w = nI i + 1 → ∃ n' : Nat, n' < 36 - i ∧ (∃ j : Nat, j ≤ 36 ∧ n' = 36 - j ∧ w = nI j ∧ (1 : Int32) = 1) := fun w hw => ⟨36 - (i + 1), by omega, i + 1, by omega, rfl, by rw [hw, nI_1], rfl⟩
      have hx2 := hG.x2 i e
      by_cases q0 : c_row σ (54 + (i / 6 * 6 + i % 6)) = 0
      · have v0 : sealedV (c_row σ) (i / 6) (i % 6) 0 = -1 := if_pos q0
        have v1 : sealedV (c_row σ) (i / 6) (i % 6) 1 = -1 := if_pos q0
        have v2 : sealedV (c_row σ) (i / 6) (i % 6) 2 = -1 := if_pos q0
        have v3 : sealedV (c_row σ) (i / 6) (i % 6) 3 = -1 := if_pos q0
        have v4 : ¬ rWhyW (c_row σ) (i / 6) (i % 6) ≤ 0 := by
          unfold rWhyW
          by_cases q : c_row σ 169 = 0
          · rw [if_pos q, if_pos q0]; decide
          · rw [if_neg q]; decide
        refine w_sealedE (k := 0) hb hs (by decide) v0 ⟨fun q => absurd q one_ne, fun _ => ⟨fun q => absurd q (by decide), fun _ => ⟨fun q => absurd q (by decide), fun _ => ?_⟩⟩⟩
        refine w_sealedE (k := 1) hb hs (by decide) v1 ⟨fun q => absurd rfl q, fun _ => ?_⟩
        refine w_sealedE (k := 2) hb hs (by decide) v2 ⟨fun q => absurd rfl q, fun _ => ?_⟩
        refine w_sealedE (k := 3) hb hs (by decide) v3 ⟨fun q => absurd rfl q, fun _ => ?_⟩
        refine w_sealedE (k := 4) hb hs (by decide) rfl ⟨fun q => absurd q v4, fun _ => ?_⟩
        refine w_countE h1 (k := 2) (by decide) rfl ⟨fun _ => fin, fun _ => ?_⟩
        exact w_sealedE (k := 2) hb hs (by decide) v2 ⟨fun q => absurd rfl q, fun _ => fin⟩
      · rw [ei] at q0
        obtain ⟨x1, x2⟩ := hx2 q0
        have v0 : sealedV (c_row σ) (i / 6) (i % 6) 0 = c_row σ (90 + i) := by
          show (if c_row σ (54 + (i / 6 * 6 + i % 6)) = 0 then -1 else c_row σ (90 + (i / 6 * 6 + i % 6))) = _
          rw [ei, if_neg q0]
        refine w_sealedE (k := 0) hb hs (by decide) v0 ⟨fun q => absurd q one_ne, fun _ => ⟨fun q => absurd q (gtI (n := 4095) (by decide) x2), fun _ => ⟨fun _ => ?_, fun q => absurd (by rw [tI_le, tI0]; exact x1) q⟩⟩⟩
        refine w_countE h1 (k := 2) (by decide) (v := c_row σ 169) rfl ⟨fun _ => fin, fun h => ?_⟩
        have h169 : c_row σ 169 = 0 := h1.open01.resolve_right h
        have v2 : sealedV (c_row σ) (i / 6) (i % 6) 2 = -1 := by
          show (if c_row σ (54 + (i / 6 * 6 + i % 6)) = 0 then -1 else if c_row σ 169 = 0 then -1 else _) = _
          rw [ei, if_neg q0, if_pos h169]
        exact w_sealedE (k := 2) hb hs (by decide) v2 ⟨fun q => absurd rfl q, fun _ => fin⟩
  · have e : i < 6 := Nat.lt_of_not_le fun q => h9 (nI_le (a := 6) q (by omega))
    have hpu := h1.purse e
    have hfi := h1.fish e
    rcases hG.x3.1 i e with ⟨o1, o2⟩ | ⟨w, hw, o1, o2, o3, o4⟩
    · refine w_spotE (k := 2) e (by decide) (v := -1) o1 ?_
      refine w_bidderE (k := 0) e (by decide) rfl ?_
      intro u1 g1
      refine w_spotE (k := 1) e (by decide) rfl ?_
      intro u2 g2
      refine w_spotE (k := 4) e (by decide) rfl ?_
      intro u3 g3
      refine w_bidderE (k := 2) e (by decide) rfl ?_
      intro u4 g4
      refine w_spotE (k := 5) e (by decide) rfl ?_
      intro u5 g5
      refine w_bidderE (k := 1) e (by decide) rfl ?_
      intro u6 g6
      refine w_bidderE (k := 4) e (by decide) rfl ?_
      intro u7 g7
      refine w_bidderE (k := 5) e (by decide) rfl ?_
      intro u8 g8
      refine ⟨fun q => absurd q one_ne, fun _ => ?_⟩
      refine w_bidderE (k := 0) e (by decide) (v := c_row σ (30 + i)) rfl ⟨fun q => absurd q (nonneg hpu), fun _ => ?_⟩
      refine w_spotE (k := 1) e (by decide) (v := c_row σ (6 + i)) rfl ⟨fun q => absurd q (nonneg hfi.1), fun _ => ?_⟩
      refine w_spotE (k := 1) e (by decide) (v := c_row σ (6 + i)) rfl ⟨fun q => absurd q (gtI (n := 200) (by decide) hfi.2), fun _ => ?_⟩
      refine ⟨fun q => absurd rfl q, fun _ => ?_⟩
      refine w_spotE (k := 3) e (by decide) (v := -1) o2 ⟨fun q => absurd rfl q, fun _ => ?_⟩
      refine ⟨fun _ => ?_, fun q => absurd m1_lt q⟩
      refine h_tail e (fun w hw => ⟨6 - (i + 1), by omega, i + 1, by omega, rfl, by rw [hw, nI_1], rfl, by rw [g1]; rfl, by rw [g2]; rfl, by rw [g3]; rfl, by rw [g4]; rfl, by rw [g5]; rfl, by rw [g6]; rfl, by rw [g7]; rfl, by rw [g8]; rfl⟩)
    · have hne : ¬ c_row σ 169 = 0 := fun q => by
        have := (hG.o4 q i e).1
        rw [o1] at this
        exact nI_m1 (by omega) this
      have h169 : c_row σ 169 = 1 := h1.open01.resolve_left hne
      have nw : ¬ nI w = (-1 : Int32) := nI_m1 (by omega)
      refine w_spotE (k := 2) e (by decide) (v := nI w) o1 ?_
      refine w_bidderE (k := 0) e (by decide) rfl ?_
      intro u1 g1
      refine w_spotE (k := 1) e (by decide) rfl ?_
      intro u2 g2
      refine w_spotE (k := 4) e (by decide) rfl ?_
      intro u3 g3
      refine w_bidderE (k := 2) e (by decide) rfl ?_
      intro u4 g4
      refine w_spotE (k := 5) e (by decide) rfl ?_
      intro u5 g5
      refine w_bidderE (k := 1) e (by decide) rfl ?_
      intro u6 g6
      refine w_bidderE (k := 4) e (by decide) rfl ?_
      intro u7 g7
      refine w_bidderE (k := 5) e (by decide) rfl ?_
      intro u8 g8
      refine ⟨fun q => absurd q one_ne, fun _ => ?_⟩
      refine w_bidderE (k := 0) e (by decide) (v := c_row σ (30 + i)) rfl ⟨fun q => absurd q (nonneg hpu), fun _ => ?_⟩
      refine w_spotE (k := 1) e (by decide) (v := c_row σ (6 + i)) rfl ⟨fun q => absurd q (nonneg hfi.1), fun _ => ?_⟩
      refine w_spotE (k := 1) e (by decide) (v := c_row σ (6 + i)) rfl ⟨fun q => absurd q (gtI (n := 200) (by decide) hfi.2), fun _ => ?_⟩
      refine ⟨fun _ => ?_, fun q => absurd q nw⟩
      refine w_spotE (k := 3) e (by decide) (v := c_row σ (18 + i)) rfl ⟨fun _ => ?_, fun q => absurd q (ne_m1 o2)⟩
      refine ⟨fun q => absurd q (nI_pos (by omega)), fun _ => ?_⟩
      refine w_countE h1 (k := 2) (by decide) (v := 1) h169 ⟨fun q => absurd rfl q, fun _ => ?_⟩
      refine w_bidderE (k := 3) hw (by decide) (v := nI i) (h_owner hG.x3 e hw o1) ⟨fun q => absurd rfl q, fun _ => ?_⟩
      have v2 : sealedV (c_row σ) w i 2 = c_row σ (54 + (w * 6 + i)) := by
        show (if c_row σ (54 + (w * 6 + i)) = 0 then -1 else if c_row σ 169 = 0 then -1 else c_row σ (54 + (w * 6 + i))) = _
        rw [if_neg o4, if_neg hne]
      refine w_sealedE (k := 2) hw e (by decide) v2 ?_
      refine w_spotE (k := 3) e (by decide) (v := c_row σ (18 + i)) rfl ⟨fun q => absurd o3 (by rw [tI_lt] at q; omega), fun _ => ?_⟩
      refine w_spotE (k := 3) e (by decide) (v := c_row σ (18 + i)) rfl ⟨fun q => absurd q (nonneg o2), fun _ => ?_⟩
      refine h_tail e (fun w hw => ⟨6 - (i + 1), by omega, i + 1, by omega, rfl, by rw [hw, nI_1], rfl, by rw [g1]; rfl, by rw [g2]; rfl, by rw [g3]; rfl, by rw [g4]; rfl, by rw [g5]; rfl, by rw [g6]; rfl, by rw [g7]; rfl, by rw [g8]; rfl⟩)
