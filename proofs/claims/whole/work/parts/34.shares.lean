/-! pure part: the reference's shares() -/
theorem m_shares {m : Nat} {r : Nat → Int32} {μ : MS} {a k x : Int32} (R : Rl m r (m_s μ)) (hA : AskM μ a k x) (hx0 : 0 ≤ x.toInt) (hx : x.toInt ≤ 99) {post : MS → Prop} (hp : ∀ f g h, (∀ s, s < 6 → g s = ownV (BA r a k x) s) → (∀ s, s < 6 → h s = dueV r (BA r a k x) s) → post (ms_due (ms_shared (ms_best μ f) g) h)) : wp_X5_shares μ post := by
  unfold wp_X5_shares
  refine m_worthOf R hA hx0 hx 6 (by omega) ?_
  intro f hf
  have hB : ∀ b s, BA r a k x b s ≤ 793 := fun b s => BA_le R.o1 hx b s
  rw [XX_wo6 _ 6 0 (Nat.le_refl _)]
  have hf : tabOK (BA r a k x) f 0 := fun s t h1 h2 h3 => by rw [hf s t h1 h2 h3, XX_wo6 _ _ _ (by omega)]
  have hw := fun s c (hs : s < 6) (hc : c ≤ own (BA r a k x) s) => wv_own hB hs hc hf
  have hO := own_le (BA r a k x)
  have hT := tkn_lt (BA r a k x)
  have hTs : ∀ s, tkn (BA r a k x) (s + 1) = nxt (tkn (BA r a k x) s) (own (BA r a k x) s) := fun s => rfl
  have hT0 : tkn (BA r a k x) 0 = 0 := rfl
  have hV : ∀ s, ownV (BA r a k x) s = if own (BA r a k x) s = 6 then -1 else nI (own (BA r a k x) s) := fun s => rfl
  have hD : ∀ s, dueV r (BA r a k x) s = if own (BA r a k x) s = 6 then -1 else ((r s + nI (XX (BA r a k x) 6 (2 ^ own (BA r a k x) s) / 8)) - nI (XX (BA r a k x) 6 0 / 8)) + nI (BA r a k x (own (BA r a k x) s) s / 8) := fun s => rfl
  have hlt := fun s (hs : s < 6) => own_lt (B := BA r a k x) hs
  have hXs : ∀ t, XX (BA r a k x) 6 t ≤ 4758 := fun t => XX_sm hB (Nat.le_refl _)
  have hWo : ∀ w, w < 6 → XX (wo (BA r a k x) w) 6 0 = XX (BA r a k x) 6 (2 ^ w) := fun w h => XX_wo _ w h
  have hwith := fun (μ2 : MS) (R2 : Rl m r (m_s μ2)) (hA2 : AskM μ2 a k x) (s c t : Nat) (hs : s < 6) (hc : c ≤ 6) (ht : t < 64) (post : Int32 → Prop) (hp : post (wv (BA r a k x) (m_best μ2) s c t)) => m_with R2 hA2 hx0 hx s c t hs hc ht hp
  have hbrings := fun (μ2 : MS) (R2 : Rl m r (m_s μ2)) (hA2 : AskM μ2 a k x) (b s : Nat) (hb : b < 6) (hs : s < 6) (post : Int32 → Prop) (hp : post (if BA r a k x b s = 0 then -1 else nI (BA r a k x b s))) => m_brings R2 hA2 hx0 hx b s hb hs hp
  have hworth := fun (μ2 : MS) (R2 : Rl m r (m_s μ2)) (hA2 : AskM μ2 a k x) (w : Nat) (hw : w ≤ 6) (post : Int32 → MS → Prop) (hp : ∀ f, post (nI (XX (wo (BA r a k x) w) 6 0 / 8)) (ms_best μ2 f)) => m_worthOf R2 hA2 hx0 hx w hw (fun f _ => hp f)
  generalize BA r a k x = B at *
  generalize own B = O at *
  generalize tkn B = T at *
  generalize ownV B = gV at *
  generalize dueV r B = dV at *
  have hnx : ∀ s, s < 6 → ∀ v2 : Int32, (¬ O s = 6 → v2 = (nI (T s) ||| ((1 : Int32) <<< (nI (O s) &&& 31)))) → (O s = 6 → v2 = (nI (T s) ||| 0)) → v2 = nI (T (s + 1)) := by
    intro s hs v2 h1 h2
    rw [hTs]
    unfold nxt
    by_cases e : O s = 6
    · rw [if_neg (by omega), h2 e]; exact Int32.or_zero
    · have e2 : O s < 6 := by have := hO s; omega
      rw [if_pos e2, h1 e]; exact (so_eq _ (hT s) _ e2).1
  refine ⟨fun n v2 v3 s1 => ∃ s : Nat, s ≤ 6 ∧ n = 6 - s ∧ v2 = nI (T s) ∧ v3 = nI s ∧ ∃ g, s1 = ms_shared (ms_best μ f) g ∧ ∀ q, q < s → g q = gV q, ⟨6, 0, Nat.zero_le _, rfl, by rw [hT0]; rfl, rfl, m_shared (ms_best μ f), (sh_self _).symm, fun q h => absurd h (Nat.not_lt_zero _)⟩, ?_⟩
  rintro n v2 v3 s1 ⟨s, hs, rfl, rfl, rfl, g, rfl, hg⟩
  refine ⟨fun h9 => ?_, fun h9 => ?_⟩
  · have e : s = 6 := Nat.le_antisymm hs ((nI_leI (a := 6) (by omega) (by omega)).mp h9)
    subst e
    refine ⟨fun n v3 s1 => ∃ s : Nat, s ≤ 6 ∧ n = 6 - s ∧ v3 = nI s ∧ ∃ f h, s1 = ms_due (ms_shared (ms_best μ f) g) h ∧ ∀ q, q < s → h q = dV q, ⟨6, 0, Nat.zero_le _, rfl, rfl, f, m_due (ms_shared (ms_best μ f) g), (du_self _).symm, fun q h => absurd h (Nat.not_lt_zero _)⟩, ?_⟩
    rintro n v3 s1 ⟨s, hs, rfl, rfl, f2, h, rfl, hh⟩
    refine ⟨fun h8 => ?_, fun h8 => ?_⟩
    · have e : s = 6 := Nat.le_antisymm hs ((nI_leI (a := 6) (by omega) (by omega)).mp h8)
      subst e
      exact hp f2 g h hg hh
    · have e : s < 6 := Nat.lt_of_not_le fun q => h8 (nI_le (a := 6) q (by omega))
      refine ⟨q_in (by omega) (by decide), ?_⟩
      rw [nI_clamp (by omega)]
      intro v4 hv4
      rw [g_shdu, g_sh, hg s e, hV] at hv4
      have hVs := hD s
      refine ⟨fun h5 => ?_, fun h5 => ?_⟩
      · have hO6 : ¬ O s = 6 := fun q => h5 (by rw [hv4, if_pos q])
        have hOs : O s < 6 := by have := hO s; omega
        rw [if_neg hO6] at hv4 hVs
        subst hv4
        have R2 : Rl m r (m_s (ms_due (ms_shared (ms_best μ f2) g) h)) := by rw [s_du, s_sh, s_be]; exact R
        have hA2 : AskM (ms_due (ms_shared (ms_best μ f2) g) h) a k x := ((hA.be f2).sh g).du h
        refine m_of s 0 rfl rfl e (by decide) ?_
        rw [R2.P _ _ (PI_price e)]
        refine hworth _ R2 hA2 (O s) (by omega) _ ?_
        intro f3
        have R3 : Rl m r (m_s (ms_best (ms_due (ms_shared (ms_best μ f2) g) h) f3)) := by rw [s_be]; exact R2
        refine hbrings _ R3 (hA2.be f3) (O s) s hOs e _ ?_
        rw [hWo _ hOs]
        have hb0 := (hlt s e hOs).2
        have hbs := hB (O s) s
        rw [if_neg hb0, show (8 : Int32) = nI 8 from rfl, pk_div (by omega) (by decide) (by decide)]
        refine ⟨q_in (by omega) (by decide), ?_⟩
        intro s10 h10 v hv
        rw [be_du, be_sh, be_be, du_du, g_du] at h10
        refine ⟨6 - (s + 1), by omega, s + 1, e, rfl, by rw [hv, nI_1], f3, _, h10, fun q hq => ?_⟩
        by_cases e2 : q = s
        · subst e2; rw [pk_us, hVs]
        · rw [pk_un (by omega)]; exact hh q (by omega)
      · have hO6 : O s = 6 := by
          by_cases q : O s = 6
          · exact q
          · rw [if_neg q] at hv4
            have := hO s
            exact absurd (hv4.symm.trans h5) (nI_m1 (by omega))
        rw [if_pos hO6] at hVs
        refine ⟨q_in (by omega) (by decide), ?_⟩
        intro s12 h12 v hv
        rw [du_du, g_du] at h12
        refine ⟨6 - (s + 1), by omega, s + 1, e, rfl, by rw [hv, nI_1], f2, _, h12, fun q hq => ?_⟩
        by_cases e2 : q = s
        · subst e2; rw [pk_us, hVs]
        · rw [pk_un (by omega)]; exact hh q (by omega)
  · have e : s < 6 := Nat.lt_of_not_le fun q => h9 (nI_le (a := 6) q (by omega))
    have hTl := hT s
    have R2 : Rl m r (m_s (ms_shared (ms_best μ f) g)) := by rw [s_sh, s_be]; exact R
    have hA2 : AskM (ms_shared (ms_best μ f) g) a k x := (hA.be f).sh g
    have eb : m_best (ms_shared (ms_best μ f) g) = f := by rw [g_besh, g_be]
    refine ⟨fun n v4 => ∃ i : Nat, i ≤ O s ∧ n = 6 - i ∧ v4 = nI i, ⟨6, 0, Nat.zero_le _, rfl, rfl⟩, ?_⟩
    rintro n v4 ⟨i, hi, rfl, rfl⟩
    have hOs := hO s
    refine hwith _ R2 hA2 s i (T s) e (by omega) hTl _ ?_
    rw [eb, show (64 : Int32) = nI 64 from rfl, pk_mul, nI_add, nI_clamp (by omega)]
    refine ⟨q_in (by omega) (by decide), ?_⟩
    have hwi := hw s i e hi
    refine ⟨fun h5 => ?_, fun h5 => ?_⟩
    · have ei : i = O s := hwi.mp h5
      subst ei
      have hVs := hV s
      have fin : ∀ W : Int32, W = gV s → ∀ s16 : MS, s16 = ms_shared (ms_shared (ms_best μ f) g) (upd (m_shared (ms_shared (ms_best μ f) g)) (nI s).toNatClampNeg W) → ∀ v2 : Int32, v2 = nI (T (s + 1)) → ∀ v3 : Int32, v3 = nI s + 1 → ∃ n', n' < 6 - s ∧ ∃ s', s' ≤ 6 ∧ n' = 6 - s' ∧ v2 = nI (T s') ∧ v3 = nI s' ∧ ∃ g', s16 = ms_shared (ms_best μ f) g' ∧ ∀ q, q < s' → g' q = gV q := by
        intro W hW s16 h16 v2 hv2 v3 hv3
        rw [sh_sh, g_sh, nI_clamp (by omega)] at h16
        refine ⟨6 - (s + 1), by omega, s + 1, e, rfl, hv2, by rw [hv3, nI_1], _, h16, fun q hq => ?_⟩
        by_cases e2 : q = s
        · subst e2; rw [pk_us, hW]
        · rw [pk_un (by omega)]; exact hg q (by omega)
      have e66 : ∀ {P : Prop}, nI (O s) = 6 → ¬ O s = 6 → P := fun h h2 => absurd ((nI_eq (b := 6) (by omega) (by decide)).mp h) h2
      refine ⟨fun h6 => ?_, fun h6 => ?_⟩
      · have hO6 : ¬ O s = 6 := fun q => h6 (by rw [q]; rfl)
        rw [if_neg hO6] at hVs
        refine ⟨q_in (by omega) (by decide), ?_⟩
        intro s16 h16
        refine ⟨fun _ v2 hv2 v3 hv3 => ?_, fun h => absurd h h6⟩
        exact fin _ hVs.symm s16 h16 v2 (hnx s e v2 (fun _ => hv2) (fun q => absurd q hO6)) v3 hv3
      · have hO6 : O s = 6 := (nI_eq (b := 6) (by omega) (by decide)).mp h6
        rw [if_pos hO6] at hVs
        refine ⟨q_in (by omega) (by decide), ?_⟩
        intro s16 h16
        refine ⟨fun h => absurd h6 h, fun _ v2 hv2 v3 hv3 => ?_⟩
        exact fin _ hVs.symm s16 h16 v2 (hnx s e v2 (fun q => absurd hO6 q) (fun _ => hv2)) v3 hv3
    · have hne : i ≠ O s := fun q => h5 (hwi.mpr q)
      intro v hv
      exact ⟨6 - (i + 1), by omega, i + 1, by omega, rfl, by rw [hv, nI_1]⟩
theorem m_gets {μ : MS} {f : Nat → Int32} (v : Int32) (hf : ∀ s, s < 6 → m_shared μ s = f s) {post : Int32 → Prop} (hp : post (findF f v 6 0)) : wp_X5_gets μ v post := by
  refine ⟨fun m w => ∃ i : Nat, i ≤ 6 ∧ m = 6 - i ∧ w = nI i ∧ findF f v 6 0 = findF f v (6 - i) i, ⟨6, 0, Nat.zero_le _, rfl, rfl, rfl⟩, ?_⟩
  rintro m w ⟨i, hi, rfl, rfl, hq⟩
  refine ⟨fun h9 => ?_, fun h9 => ?_⟩
  · have e : i = 6 := Nat.le_antisymm hi ((nI_leI (a := 6) (by omega) (by omega)).mp h9)
    subst e; rw [hq] at hp; exact hp
  · have e : i < 6 := Nat.lt_of_not_le fun q => h9 (nI_le (a := 6) q (by omega))
    rw [show 6 - i = (6 - (i + 1)) + 1 by omega] at hq
    rw [nI_clamp (by omega), hf i e]
    refine ⟨q_in (by omega) (by decide), fun h0 => ?_, fun h0 => ?_⟩
    · intro w hw
      refine ⟨6 - (i + 1), by omega, i + 1, e, rfl, by rw [hw, nI_1], ?_⟩
      rw [hq, findF, if_neg h0]
    · rw [hq, findF, if_pos h0] at hp; exact hp
