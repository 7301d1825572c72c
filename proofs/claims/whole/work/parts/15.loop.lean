theorem law_gt {n L : Nat} (h : L < 5 * n + 5) (hL : L ≤ 2560) (hn : n ≤ 513 := by omega) : (Int32.ofNat L - 5 : Int32) < nI (5 * n) := by
  rw [Int32.lt_iff_toInt_lt, nI_toInt (by omega), show (Int32.ofNat L - 5 : Int32) = nI L - nI 5 from rfl, pk_sub_toInt (by omega) (by omega)]
  omega
theorem law_sw {w : Int32} (h : ¬ (w.toInt < 0 ∨ 29 < w.toInt)) : w = 0 ∨ w = 1 ∨ w = 2 ∨ w = 3 ∨ w = 4 ∨ w = 5 ∨ w = 6 ∨ w = 7 ∨ w = 8 ∨ w = 9 ∨ w = 10 ∨ w = 11 ∨ w = 12 ∨ w = 13 ∨ w = 14 ∨ w = 15 ∨ w = 16 ∨ w = 17 ∨ w = 18 ∨ w = 19 ∨ w = 20 ∨ w = 21 ∨ w = 22 ∨ w = 23 ∨ w = 24 ∨ w = 25 ∨ w = 26 ∨ w = 27 ∨ w = 28 ∨ w = 29 := by
  have e : w = nI w.toInt.toNat := by
    apply Int32.toInt_inj.mp
    rw [nI_toInt (by omega)]
    omega
  have hk : w.toInt.toNat < 30 := by omega
  rw [e]
  generalize w.toInt.toNat = k at hk
  clear e h
  revert k
  decide +kernel
def wplA (k : Nat) (L : Nat) (xs : Nat → Int32) (σ : CS) (f : Nat → Int64) (μ : MS) (v4 : Int32) (K : CS → (Nat → Int64) → MS → Prop) : Prop := match k with
  | 0 => wpl_0 L xs σ f μ v4 K
  | 1 => wpl_1 L xs σ f μ v4 K
  | 2 => wpl_2 L xs σ f μ v4 K
  | 3 => wpl_3 L xs σ f μ v4 K
  | 4 => wpl_4 L xs σ f μ v4 K
  | 5 => wpl_5 L xs σ f μ v4 K
  | 6 => wpl_6 L xs σ f μ v4 K
  | 7 => wpl_7 L xs σ f μ v4 K
  | 8 => wpl_8 L xs σ f μ v4 K
  | 9 => wpl_9 L xs σ f μ v4 K
  | 10 => wpl_10 L xs σ f μ v4 K
  | 11 => wpl_11 L xs σ f μ v4 K
  | 12 => wpl_12 L xs σ f μ v4 K
  | 13 => wpl_13 L xs σ f μ v4 K
  | 14 => wpl_14 L xs σ f μ v4 K
  | 15 => wpl_15 L xs σ f μ v4 K
  | 16 => wpl_16 L xs σ f μ v4 K
  | 17 => wpl_17 L xs σ f μ v4 K
  | 18 => wpl_18 L xs σ f μ v4 K
  | 19 => wpl_19 L xs σ f μ v4 K
  | 20 => wpl_20 L xs σ f μ v4 K
  | 21 => wpl_21 L xs σ f μ v4 K
  | 22 => wpl_22 L xs σ f μ v4 K
  | 23 => wpl_23 L xs σ f μ v4 K
  | 24 => wpl_24 L xs σ f μ v4 K
  | 25 => wpl_25 L xs σ f μ v4 K
  | 26 => wpl_26 L xs σ f μ v4 K
  | 27 => wpl_27 L xs σ f μ v4 K
  | 28 => wpl_28 L xs σ f μ v4 K
  | 29 => wpl_29 L xs σ f μ v4 K
  | _ => K σ f μ
/-- what an invariant must keep over one call of the law -/
def PC (J : Nat → CS → MS → Prop) : Prop := ∀ (n k L : Nat) (xs : Nat → Int32) (σ : CS) (f : Nat → Int64) (μ : MS), n < 512 → 5 * n + 5 ≤ L → L ≤ 2560 → J n σ μ → wplA k L xs σ f μ (nI (5 * n)) (fun σ1 _ μ1 => J (n + 1) σ1 μ1)
set_option maxHeartbeats 4000000 in
set_option maxRecDepth 100000 in
theorem law_loop {p : Program} {l : Launch} {e : Env} {s : State} {m : MethodId} {below : List Frame} {meth : Method} {c : Code} {b L : Nat} {xs : Nat → Int32} (hst : l.stackTraces = false) (C0 : lw_At p s m meth c b L xs) {D : va_G} {cI cJ : ClassId} (hK : va_K D vwCl (tysIJ cI cJ) s) (hz : ZX (fun q : Nat => s.heap.size ≤ q) s s.heap) (hs : SX s) (hnc : NCX s) {a bb : Nat → Nat} {o : Nat} (hL : L ≤ 2560) (J : Nat → CS → MS → Prop) (hJ : PC J) : ∀ (N n cells slots : Nat) (σ : CS) (f : Nat → Int64) (μ : MS) (H : Heap) (locs : List Loc) (ls : Array Slot), N + n = 513 → cells ≤ 100 + 4 * n → slots ≤ 10000 + 24 * n → J n σ μ → Wd D (fun q : Nat => s.heap.size ≤ q) s.heap (hWW cI cJ a o σ f ++ mW cI cJ bb μ) H locs → lv_has ls 9 [(0, .ref b), (1, .ref (a 0)), (2, .ref (bb 0)), (3, .ref o), (4, .int (nI (5 * n)))] → W p l e room_1 s m #[Value.ref b] below meth c H locs cells slots (lw_Z below #[Value.ref b] s) (F0 m 23 ls []) := by
  obtain ⟨hx, hb, hr, hml, hown, hts0, hX, hbl, hlocks, hgv⟩ := id C0
  have hA : ∀ q : Nat, s.heap.size ≤ q → (fun q : Nat => s.heap.size ≤ q) q := fun _ h => h
  have hbA : ¬ (fun q : Nat => s.heap.size ≤ q) b := Nat.not_le.mpr hbl
  intro N
  induction N with
  | zero =>
    intro n cells slots σ f μ H locs ls hN h1 h2 hI hW hl
    -- 513 calls are more than any script has: the loop's own test ends it
    refine lv_iload hx hb dL_law_23 (lv_at hl 4 rfl) ?_
    refine lv_aload_n hx hb dL_law_25 rfl (lv_at hl 0 rfl) ?_
    refine va_slen hx hb hX hbl hbA hW.2.2 dL_law_26 ?_
    refine lv_iconst (v := 5) hx hb dL_law_27 (by decide) ?_
    refine lv_isub hx hb dL_law_28 ?_
    refine lv_icmp_gt (tgt := 1741) hx hb dL_law_29 (by decide) (fun hc => ?_) (fun hc => ?_)
    · refine lv_iconst (v := 1) hx hb dL_law_1741 (by decide) ?_
      refine va_forget (fun q hq => hW.2.2.2.2 q hq) ?_
      refine W.widen (k := 601024) (n := 7293034) (by omega) (by omega) ?_
      exact W.base (lw_ret (Drawn.sameBut.refl s.drawn lw_cs) hx hb hr hlocks dL_law_1742)
    · exact absurd (law_gt (by omega) hL) hc
  | succ N ih =>
    intro n cells slots σ f μ H locs ls hN h1 h2 hI hW hl
    refine lv_iload hx hb dL_law_23 (lv_at hl 4 rfl) ?_
    refine lv_aload_n hx hb dL_law_25 rfl (lv_at hl 0 rfl) ?_
    refine va_slen hx hb hX hbl hbA hW.2.2 dL_law_26 ?_
    refine lv_iconst (v := 5) hx hb dL_law_27 (by decide) ?_
    refine lv_isub hx hb dL_law_28 ?_
    refine lv_icmp_gt (tgt := 1741) hx hb dL_law_29 (by decide) (fun hc => ?_) (fun hc => ?_)
    · refine lv_iconst (v := 1) hx hb dL_law_1741 (by decide) ?_
      refine va_forget (fun q hq => hW.2.2.2.2 q hq) ?_
      refine W.widen (k := 601024) (n := 7293034) (by omega) (by omega) ?_
      exact W.base (lw_ret (Drawn.sameBut.refl s.drawn lw_cs) hx hb hr hlocks dL_law_1742)
    · have hn5 : 5 * n + 5 ≤ L := by
        rcases Nat.lt_or_ge L (5 * n + 5) with q | q
        · exact absurd (law_gt (n := n) q hL) hc
        · exact q
      have hn : n < 512 := by omega
      have hin : vp_in (nI (5 * n)) L := vp_in_nI (by omega) (by omega)
      have tail : ∀ (σ : CS) (f : Nat → Int64) (μ : MS) (H : Heap) (locs : List Loc) (ls : Array Slot), J (n + 1) σ μ → Wd D (fun q : Nat => s.heap.size ≤ q) s.heap (hWW cI cJ a o σ f ++ mW cI cJ bb μ) H locs → lv_has ls 9 [(0, .ref b), (1, .ref (a 0)), (2, .ref (bb 0)), (3, .ref o), (4, .int (nI (5 * n)))] → W p l e room_1 s m #[Value.ref b] below meth c H locs (cells + 4) (slots + 24) (lw_Z below #[Value.ref b] s) (F0 m 1735 ls []) := by
        intro σ f μ H locs ls hI hW hl
        obtain ⟨v4, ev4⟩ : ∃ y : Int32, y = nI (5 * n) + 5 := ⟨_, rfl⟩
        refine lv_iinc (v := v4) (lv' := [(4, .int v4), (0, .ref b), (1, .ref (a 0)), (2, .ref (bb 0)), (3, .ref o)]) hx hb dL_law_1735 hl (k := 4) rfl (by rw [ev4]; rfl) (by decide) rfl (fun ls hl => ?_)
        refine lv_goto (tgt := 23) hx hb dL_law_1738 (by decide) ?_
        have ev : v4 = nI (5 * (n + 1)) := by rw [ev4, show 5 * (n + 1) = 5 * n + 5 by omega]; exact nI_add (5 * n) 5
        rw [ev] at hl
        exact ih (n + 1) (cells + 4) (slots + 24) σ f μ H locs ls (by omega) (by omega) (by omega) hI hW (lv_sub hl [1, 2, 3, 4, 0] rfl)
      have hJk := fun k => hJ n k L xs σ f μ hn hn5 hL hI
      refine lv_aload_n hx hb dL_law_32 rfl (lv_at hl 0 rfl) ?_
      refine lv_iload hx hb dL_law_33 (lv_at hl 4 rfl) ?_
      refine va_sld hx hb hX hbl hbA hW.2.2 hin dL_law_35 ?_
      refine lv_bipush (v := 31) hx hb dL_law_36 (by decide) ?_
      refine lv_iand hx hb dL_law_38 ?_
      refine lv_topi (fun w ew => ?_)
      by_cases hout : w.toInt < 0 ∨ 29 < w.toInt
      · refine lv_tableOut (tgt := 1735) hx hb dL_law_39 hout (by decide) ?_
        refine W.widen (k := cells + 4) (n := slots + 24) (by omega) (by omega) ?_
        exact tail σ f μ H locs ls (hJk 30) hW hl
      rcases law_sw hout with hs0 | hs1 | hs2 | hs3 | hs4 | hs5 | hs6 | hs7 | hs8 | hs9 | hs10 | hs11 | hs12 | hs13 | hs14 | hs15 | hs16 | hs17 | hs18 | hs19 | hs20 | hs21 | hs22 | hs23 | hs24 | hs25 | hs26 | hs27 | hs28 | hs29
      · refine lv_tableIn (tgt := 172) hx hb dL_law_39 (by rw [hs0]; decide) (by rw [hs0]; decide) (by rw [hs0]; rfl) (by decide) ?_
        have hk : wpl_0 L xs σ f μ (nI (5 * n)) (fun σ1 _ μ1 => J (n + 1) σ1 μ1) := hJk 0
        exact law_c0 hst C0 hK hz hs hnc (by omega) (by omega) hk hW hl tail
      · refine lv_tableIn (tgt := 240) hx hb dL_law_39 (by rw [hs1]; decide) (by rw [hs1]; decide) (by rw [hs1]; rfl) (by decide) ?_
        have hk : wpl_1 L xs σ f μ (nI (5 * n)) (fun σ1 _ μ1 => J (n + 1) σ1 μ1) := hJk 1
        exact law_c1 hst C0 hK hz hs hnc (by omega) (by omega) hk hW hl tail
      · refine lv_tableIn (tgt := 308) hx hb dL_law_39 (by rw [hs2]; decide) (by rw [hs2]; decide) (by rw [hs2]; rfl) (by decide) ?_
        have hk : wpl_2 L xs σ f μ (nI (5 * n)) (fun σ1 _ μ1 => J (n + 1) σ1 μ1) := hJk 2
        exact law_c2 hst C0 hK hz hs hnc (by omega) (by omega) hk hW hl tail
      · refine lv_tableIn (tgt := 376) hx hb dL_law_39 (by rw [hs3]; decide) (by rw [hs3]; decide) (by rw [hs3]; rfl) (by decide) ?_
        have hk : wpl_3 L xs σ f μ (nI (5 * n)) (fun σ1 _ μ1 => J (n + 1) σ1 μ1) := hJk 3
        exact law_c3 hst C0 hK hz hs hnc (by omega) (by omega) hk hW hl tail
      · refine lv_tableIn (tgt := 456) hx hb dL_law_39 (by rw [hs4]; decide) (by rw [hs4]; decide) (by rw [hs4]; rfl) (by decide) ?_
        have hk : wpl_4 L xs σ f μ (nI (5 * n)) (fun σ1 _ μ1 => J (n + 1) σ1 μ1) := hJk 4
        exact law_c4 hst C0 hK hz hs hnc (by omega) (by omega) hk hW hl tail
      · refine lv_tableIn (tgt := 524) hx hb dL_law_39 (by rw [hs5]; decide) (by rw [hs5]; decide) (by rw [hs5]; rfl) (by decide) ?_
        have hk : wpl_5 L xs σ f μ (nI (5 * n)) (fun σ1 _ μ1 => J (n + 1) σ1 μ1) := hJk 5
        exact law_c5 hst C0 hK hz hs hnc (by omega) (by omega) hk hW hl tail
      · refine lv_tableIn (tgt := 580) hx hb dL_law_39 (by rw [hs6]; decide) (by rw [hs6]; decide) (by rw [hs6]; rfl) (by decide) ?_
        have hk : wpl_6 L xs σ f μ (nI (5 * n)) (fun σ1 _ μ1 => J (n + 1) σ1 μ1) := hJk 6
        exact law_c6 hst C0 hK hz hs hnc (by omega) (by omega) hk hW hl tail
      · refine lv_tableIn (tgt := 624) hx hb dL_law_39 (by rw [hs7]; decide) (by rw [hs7]; decide) (by rw [hs7]; rfl) (by decide) ?_
        have hk : wpl_7 L xs σ f μ (nI (5 * n)) (fun σ1 _ μ1 => J (n + 1) σ1 μ1) := hJk 7
        exact law_c7 hst C0 hK hz hs hnc (by omega) (by omega) hk hW hl tail
      · refine lv_tableIn (tgt := 680) hx hb dL_law_39 (by rw [hs8]; decide) (by rw [hs8]; decide) (by rw [hs8]; rfl) (by decide) ?_
        have hk : wpl_8 L xs σ f μ (nI (5 * n)) (fun σ1 _ μ1 => J (n + 1) σ1 μ1) := hJk 8
        exact law_c8 hst C0 hK hz hs hnc (by omega) (by omega) hk hW hl tail
      · refine lv_tableIn (tgt := 693) hx hb dL_law_39 (by rw [hs9]; decide) (by rw [hs9]; decide) (by rw [hs9]; rfl) (by decide) ?_
        have hk : wpl_9 L xs σ f μ (nI (5 * n)) (fun σ1 _ μ1 => J (n + 1) σ1 μ1) := hJk 9
        exact law_c9 hst C0 hK hz hs hnc (by omega) (by omega) hk hW hl tail
      · refine lv_tableIn (tgt := 749) hx hb dL_law_39 (by rw [hs10]; decide) (by rw [hs10]; decide) (by rw [hs10]; rfl) (by decide) ?_
        have hk : wpl_10 L xs σ f μ (nI (5 * n)) (fun σ1 _ μ1 => J (n + 1) σ1 μ1) := hJk 10
        exact law_c10 hst C0 hK hz hs hnc (by omega) (by omega) hk hW hl tail
      · refine lv_tableIn (tgt := 762) hx hb dL_law_39 (by rw [hs11]; decide) (by rw [hs11]; decide) (by rw [hs11]; rfl) (by decide) ?_
        have hk : wpl_11 L xs σ f μ (nI (5 * n)) (fun σ1 _ μ1 => J (n + 1) σ1 μ1) := hJk 11
        exact law_c11 hst C0 hK hz hs hnc (by omega) (by omega) hk hW hl tail
      · refine lv_tableIn (tgt := 775) hx hb dL_law_39 (by rw [hs12]; decide) (by rw [hs12]; decide) (by rw [hs12]; rfl) (by decide) ?_
        have hk : wpl_12 L xs σ f μ (nI (5 * n)) (fun σ1 _ μ1 => J (n + 1) σ1 μ1) := hJk 12
        exact law_c12 hst C0 hK hz hs hnc (by omega) (by omega) hk hW hl tail
      · refine lv_tableIn (tgt := 819) hx hb dL_law_39 (by rw [hs13]; decide) (by rw [hs13]; decide) (by rw [hs13]; rfl) (by decide) ?_
        have hk : wpl_13 L xs σ f μ (nI (5 * n)) (fun σ1 _ μ1 => J (n + 1) σ1 μ1) := hJk 13
        exact law_c13 hst C0 hK hz hs hnc (by omega) (by omega) hk hW hl tail
      · refine lv_tableIn (tgt := 832) hx hb dL_law_39 (by rw [hs14]; decide) (by rw [hs14]; decide) (by rw [hs14]; rfl) (by decide) ?_
        have hk : wpl_14 L xs σ f μ (nI (5 * n)) (fun σ1 _ μ1 => J (n + 1) σ1 μ1) := hJk 14
        exact law_c14 hst C0 hK hz hs hnc (by omega) (by omega) hk hW hl tail
      · refine lv_tableIn (tgt := 876) hx hb dL_law_39 (by rw [hs15]; decide) (by rw [hs15]; decide) (by rw [hs15]; rfl) (by decide) ?_
        have hk : wpl_15 L xs σ f μ (nI (5 * n)) (fun σ1 _ μ1 => J (n + 1) σ1 μ1) := hJk 15
        exact law_c15 hst C0 hK hz hs hnc (by omega) (by omega) hk hW hl tail
      · refine lv_tableIn (tgt := 920) hx hb dL_law_39 (by rw [hs16]; decide) (by rw [hs16]; decide) (by rw [hs16]; rfl) (by decide) ?_
        have hk : wpl_16 L xs σ f μ (nI (5 * n)) (fun σ1 _ μ1 => J (n + 1) σ1 μ1) := hJk 16
        exact law_c16 hst C0 hK hz hs hnc (by omega) (by omega) hk hW hl tail
      · refine lv_tableIn (tgt := 988) hx hb dL_law_39 (by rw [hs17]; decide) (by rw [hs17]; decide) (by rw [hs17]; rfl) (by decide) ?_
        have hk : wpl_17 L xs σ f μ (nI (5 * n)) (fun σ1 _ μ1 => J (n + 1) σ1 μ1) := hJk 17
        exact law_c17 hst C0 hK hz hs hnc (by omega) (by omega) hk hW hl tail
      · refine lv_tableIn (tgt := 1056) hx hb dL_law_39 (by rw [hs18]; decide) (by rw [hs18]; decide) (by rw [hs18]; rfl) (by decide) ?_
        have hk : wpl_18 L xs σ f μ (nI (5 * n)) (fun σ1 _ μ1 => J (n + 1) σ1 μ1) := hJk 18
        exact law_c18 hst C0 hK hz hs hnc (by omega) (by omega) hk hW hl tail
      · refine lv_tableIn (tgt := 1136) hx hb dL_law_39 (by rw [hs19]; decide) (by rw [hs19]; decide) (by rw [hs19]; rfl) (by decide) ?_
        have hk : wpl_19 L xs σ f μ (nI (5 * n)) (fun σ1 _ μ1 => J (n + 1) σ1 μ1) := hJk 19
        exact law_c19 hst C0 hK hz hs hnc (by omega) (by omega) hk hW hl tail
      · refine lv_tableIn (tgt := 1192) hx hb dL_law_39 (by rw [hs20]; decide) (by rw [hs20]; decide) (by rw [hs20]; rfl) (by decide) ?_
        have hk : wpl_20 L xs σ f μ (nI (5 * n)) (fun σ1 _ μ1 => J (n + 1) σ1 μ1) := hJk 20
        exact law_c20 hst C0 hK hz hs hnc (by omega) (by omega) hk hW hl tail
      · refine lv_tableIn (tgt := 1248) hx hb dL_law_39 (by rw [hs21]; decide) (by rw [hs21]; decide) (by rw [hs21]; rfl) (by decide) ?_
        have hk : wpl_21 L xs σ f μ (nI (5 * n)) (fun σ1 _ μ1 => J (n + 1) σ1 μ1) := hJk 21
        exact law_c21 hst C0 hK hz hs hnc (by omega) (by omega) hk hW hl tail
      · refine lv_tableIn (tgt := 1328) hx hb dL_law_39 (by rw [hs22]; decide) (by rw [hs22]; decide) (by rw [hs22]; rfl) (by decide) ?_
        have hk : wpl_22 L xs σ f μ (nI (5 * n)) (fun σ1 _ μ1 => J (n + 1) σ1 μ1) := hJk 22
        exact law_c22 hst C0 hK hz hs hnc (by omega) (by omega) hk hW hl tail
      · refine lv_tableIn (tgt := 1396) hx hb dL_law_39 (by rw [hs23]; decide) (by rw [hs23]; decide) (by rw [hs23]; rfl) (by decide) ?_
        have hk : wpl_23 L xs σ f μ (nI (5 * n)) (fun σ1 _ μ1 => J (n + 1) σ1 μ1) := hJk 23
        exact law_c23 hst C0 hK hz hs hnc (by omega) (by omega) hk hW hl tail
      · refine lv_tableIn (tgt := 1464) hx hb dL_law_39 (by rw [hs24]; decide) (by rw [hs24]; decide) (by rw [hs24]; rfl) (by decide) ?_
        have hk : wpl_24 L xs σ f μ (nI (5 * n)) (fun σ1 _ μ1 => J (n + 1) σ1 μ1) := hJk 24
        exact law_c24 hst C0 hK hz hs hnc (by omega) (by omega) hk hW hl tail
      · refine lv_tableIn (tgt := 1556) hx hb dL_law_39 (by rw [hs25]; decide) (by rw [hs25]; decide) (by rw [hs25]; rfl) (by decide) ?_
        have hk : wpl_25 L xs σ f μ (nI (5 * n)) (fun σ1 _ μ1 => J (n + 1) σ1 μ1) := hJk 25
        exact law_c25 hst C0 hK hz hs hnc (by omega) (by omega) hk hW hl tail
      · refine lv_tableIn (tgt := 1624) hx hb dL_law_39 (by rw [hs26]; decide) (by rw [hs26]; decide) (by rw [hs26]; rfl) (by decide) ?_
        have hk : wpl_26 L xs σ f μ (nI (5 * n)) (fun σ1 _ μ1 => J (n + 1) σ1 μ1) := hJk 26
        exact law_c26 hst C0 hK hz hs hnc (by omega) (by omega) hk hW hl tail
      · refine lv_tableIn (tgt := 1637) hx hb dL_law_39 (by rw [hs27]; decide) (by rw [hs27]; decide) (by rw [hs27]; rfl) (by decide) ?_
        have hk : wpl_27 L xs σ f μ (nI (5 * n)) (fun σ1 _ μ1 => J (n + 1) σ1 μ1) := hJk 27
        exact law_c27 hst C0 hK hz hs hnc (by omega) (by omega) hk hW hl tail
      · refine lv_tableIn (tgt := 1678) hx hb dL_law_39 (by rw [hs28]; decide) (by rw [hs28]; decide) (by rw [hs28]; rfl) (by decide) ?_
        have hk : wpl_28 L xs σ f μ (nI (5 * n)) (fun σ1 _ μ1 => J (n + 1) σ1 μ1) := hJk 28
        exact law_c28 hst C0 hK hz hs hnc (by omega) (by omega) hk hW hl tail
      · refine lv_tableIn (tgt := 1721) hx hb dL_law_39 (by rw [hs29]; decide) (by rw [hs29]; decide) (by rw [hs29]; rfl) (by decide) ?_
        have hk : wpl_29 L xs σ f μ (nI (5 * n)) (fun σ1 _ μ1 => J (n + 1) σ1 μ1) := hJk 29
        exact law_c29 hst C0 hK hz hs hnc (by omega) (by omega) hk hW hl tail
