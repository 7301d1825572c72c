/-! pure part: the opening, fish, nextDay, append, clearBuffer, keep, goBack, undo -/
theorem hF_out {t r : Nat → Int32} {B : Nat → Nat → Nat} {j : Nat} (hj : 177 ≤ j) : ∀ s, s ≤ 6 → hF t r B s j = t j
  | 0, _ => rfl
  | s + 1, hs => by
    have ih := hF_out (t := t) (r := r) (B := B) hj s (by omega)
    have hO := own_le B s
    unfold hF
    by_cases h : own B s = 6
    · rw [if_pos h]; (repeat (first | rw [pk_us] | rw [pk_un (by omega)])); exact ih
    · rw [if_neg h]; unfold tGiveU; (repeat (first | rw [pk_us] | rw [pk_un (by omega)])); exact ih
theorem tOpen_out {t r : Nat → Int32} {j : Nat} (hj : 177 ≤ j) : tOpen t r j = t j := by
  unfold tOpen
  rw [pk_un (by omega), pk_un (by omega)]
  exact hF_out hj 6 (Nat.le_refl _)
theorem tDay_out {t r : Nat → Int32} {j : Nat} (hj : 177 ≤ j) : tDay t r j = t j := by
  unfold tDay tGone tGrow
  rw [pk_un (by omega), pk_un (by omega), pk_un (by omega), pk_un (by omega), if_neg (by omega), if_neg (by omega)]
theorem Inv.opens {m : Nat} {σ : CS} {μ : MS} (I : Inv m σ μ) (hm : m < 1000000) (h0 : c_row σ 169 = 0) (f g : Nat → Int64) {μ' : MS} (S : Sm (ms_s μ (tOpen (m_s μ) (c_row σ))) μ') : Inv (m + 1) (cs_row (cs_most (cs_keys σ f) g) (gF (c_row σ) (BC (c_row σ)) 6)) μ' := by
  have R' : Rl (m + 1) (gF (c_row σ) (BC (c_row σ)) 6) (tOpen (m_s μ) (c_row σ)) := rl_gF I.R hm h0 6 (Nat.le_refl _)
  exact ((I.key f g).deed (Nat.le_succ m) R' (fun j hj => tOpen_out hj)).sm S
theorem case_6 {m L : Nat} {xs : Nat → Int32} {σ : CS} {f : Nat → Int64} {μ : MS} {v4 : Int32} {K : KK} (hm : m ≤ 100000) (I : Inv m σ μ) (hK : Nx m K) : wpl_6 L xs σ f μ v4 K := by
  have e2 : m_s μ ((2 : Int32)).toNatClampNeg = 1 ↔ ¬ c_row σ 169 = 0 := open1 I.R
  unfold wpl_6 wp_L_open wp_X4_open
  refine w_isOpened (fun h0 => ⟨fun h => absurd rfl h, fun _ => ?_⟩) (fun h0 => ⟨fun _ => ?_, fun h => absurd h (by decide)⟩)
  · refine cS_1 ?_
    obtain ⟨n, hn, hc, hsv⟩ := I.n
    refine w_save n hn hc ?_
    have I' := (I.thr 0).save hn hc
    have ht : m_thrown (saveM (ms_thrown μ 0) n) = 0 := saveM_thr _ _
    have er : c_row (saveC σ n) = c_row σ := saveC_row σ n
    refine w_shareOut I'.R.o1 (fun f2 g2 => ?_)
    refine ⟨fun _ => ?_, fun h => absurd h0 (e2.mp h)⟩
    refine m_holds0 ⟨fun _ => ?_, fun h => absurd h (by decide)⟩
    refine m_save (μ := ms_thrown μ 0) n hn hsv ?_
    rw [← er] at h0
    generalize saveC σ n = σ2 at *
    generalize saveM (ms_thrown μ 0) n = μ2 at *
    refine m_opens I'.R I'.ask (fun μ' S => ?_)
    refine fin0 (S.1.trans ht) (hK _ _ _ ?_)
    exact (I'.opens (by omega) h0 f2 g2 S).mono (by omega)
  · refine cS_0 ⟨rfl, ?_⟩
    refine ⟨fun h => absurd (e2.mpr h0) h, fun _ => ?_⟩
    exact m_holdsN z1 ⟨fun h => absurd rfl h, fun _ => bad I hK z1⟩
theorem rCan_01 (r : Nat → Int32) (s : Nat) : rCan r s = 0 ∨ (rCan r s = 1 ∧ ¬ r (12 + s) = -1) := by
  unfold rCan
  by_cases h : r 169 = 0
  · rw [if_pos h]; exact Or.inl rfl
  · rw [if_neg h]
    by_cases h2 : r (12 + s) = -1
    · rw [if_pos h2]; exact Or.inl rfl
    · rw [if_neg h2]; exact Or.inr ⟨rfl, h2⟩
theorem owner_nat {m : Nat} {r : Nat → Int32} (h1 : O1 m r) {s : Nat} (hs : s < 6) (h : ¬ r (12 + s) = -1) : ∃ w, w < 6 ∧ r (12 + s) = nI w := by
  have := h1.owner hs
  have h0 : 0 ≤ (r (12 + s)).toInt := by
    rcases (show (r (12 + s)).toInt = -1 ∨ 0 ≤ (r (12 + s)).toInt by omega) with e | e
    · exact absurd (Int32.toInt_inj.mp (e.trans tIm1.symm)) h
    · exact e
  exact ⟨(r (12 + s)).toInt.toNat, by omega, tI_of h0⟩
theorem case_7 {m L : Nat} {xs : Nat → Int32} {σ : CS} {f : Nat → Int64} {μ : MS} {v4 : Int32} {K : KK} (A : Args L v4) (I : Inv m σ μ) (hK : Nx m K) : wpl_7 L xs σ f μ v4 K := by
  refine ⟨A.1, ?_⟩
  generalize xs (v4 + 1).toNatClampNeg = a
  unfold wp_L_fish wp_X4_fish
  rcases pl6 a with ha | ⟨s, hs, rfl⟩
  · refine cP_bad ha (Or.inl ⟨rfl, A.1, ?_⟩)
    refine m_isOne0 (pl6m ha) ⟨fun h => absurd rfl h, fun _ => ?_⟩
    exact m_holdsN z1 ⟨fun h => absurd rfl h, fun _ => bad I hK z1⟩
  · refine cP_N rfl hs (by decide) ?_
    refine w_canFish s hs ?_
    rcases rCan_01 (c_row σ) s with h0 | ⟨h0, h1⟩
    · rw [h0]
      refine cS_0 (Or.inr ⟨rfl, A.1, ?_⟩)
      refine m_isOneN s hs ⟨fun _ => ?_, fun h => absurd h (by decide)⟩
      refine m_canFish I.R s hs ?_
      rw [h0]
      refine ⟨fun h => absurd rfl h, fun _ => ?_⟩
      exact m_holdsN z2 ⟨fun h => absurd rfl h, fun _ => bad I hK z2⟩
    · rw [h0]
      refine cS_1 ?_
      obtain ⟨n, hn, hc, hsv⟩ := I.n
      refine w_save n hn hc ?_
      have I' := (I.thr 0).save hn hc
      have ht : m_thrown (saveM (ms_thrown μ 0) n) = 0 := saveM_thr _ _
      have er : c_row (saveC σ n) = c_row σ := saveC_row σ n
      obtain ⟨w, hw, ho⟩ := owner_nat I.R.o1 hs h1
      rw [← er] at ho
      refine w_catchFish s w hs hw ho ?_
      refine ⟨A.1, ?_⟩
      refine m_isOneN s hs ⟨fun _ => ?_, fun h => absurd h (by decide)⟩
      refine m_canFish I.R s hs ?_
      rw [h0]
      refine ⟨fun _ => ?_, fun h => absurd h (by decide)⟩
      refine m_holds0 ⟨fun _ => ?_, fun h => absurd h (by decide)⟩
      refine m_save (μ := ms_thrown μ 0) n hn hsv ?_
      generalize saveC σ n = σ2 at *
      generalize saveM (ms_thrown μ 0) n = μ2 at *
      refine m_fishes I'.R s w hs hw ho (fun μ3 R3 h3 => ?_)
      obtain ⟨t', rfl, ht'⟩ := h3
      refine fin0 ht (hK _ _ _ ?_)
      exact (I'.deed (Nat.le_refl m) R3 ht').mono (by omega)
theorem case_8 {m L : Nat} {xs : Nat → Int32} {σ : CS} {f : Nat → Int64} {μ : MS} {v4 : Int32} {K : KK} (I : Inv m σ μ) (hK : Nx m K) : wpl_8 L xs σ f μ v4 K := by
  unfold wpl_8 wp_X4_nextDay
  obtain ⟨n, hn, hc, hsv⟩ := I.n
  refine w_save n hn hc ?_
  have I' := (I.thr 0).save hn hc
  refine w_beginDay ?_
  intro s1 h1
  subst h1
  refine m_save (μ := ms_thrown μ 0) n hn hsv ?_
  generalize saveC σ n = σ2 at *
  generalize saveM (ms_thrown μ 0) n = μ2 at *
  refine m_dawns I'.R ?_
  refine ⟨fun _ => hK _ _ _ ?_, fun h => h rfl⟩
  exact (I'.deed (Nat.le_succ m) (rl_day I'.R) (fun j hj => tDay_out hj)).mono (by omega)
theorem case_9 {m L : Nat} {xs : Nat → Int32} {σ : CS} {f : Nat → Int64} {μ : MS} {v4 : Int32} {K : KK} (A : Args L v4) (I : Inv m σ μ) (hK : Nx m K) : wpl_9 L xs σ f μ v4 K := by
  refine ⟨A.1, ?_⟩
  generalize xs (v4 + 1).toNatClampNeg = x
  obtain ⟨l, hl, hc, hm, ht⟩ := I.tx
  unfold wp_L_append wp_X4_append
  rcases rg x 33 126 with hx | ⟨hx1, hx2⟩
  · refine cR_bad hx (Or.inl ⟨rfl, A.1, ?_⟩)
    refine m_in0 (rgm hx) ⟨fun h => absurd rfl h, fun _ => ?_⟩
    exact m_holdsN z1 ⟨fun h => absurd rfl h, fun _ => bad I hK z1⟩
  · refine cR_ok hx1 hx2 ?_
    have hbt := rgt hx1 hx2
    rw [show (33 : Int32).toInt = 33 from by decide, show (126 : Int32).toInt = 126 from by decide] at hbt
    unfold wp_X3_isFull wp_X3_add
    rw [hc]
    by_cases h60 : l = 60
    · refine ⟨fun h => absurd h (nI_nlt (a := l) (b := 60) (by omega) (by omega)), fun _ => ⟨fun _ => cS_0 (Or.inr ⟨rfl, A.1, ?_⟩), fun h => absurd h (by decide)⟩⟩
      refine m_in1 hx1 (rgn hx2) ⟨fun _ => ?_, fun h => absurd h (by decide)⟩
      refine ⟨fun h => absurd (by rw [hm, h60]; rfl) h, fun _ => ?_⟩
      exact m_holdsN z2 ⟨fun h => absurd rfl h, fun _ => bad I hK z2⟩
    · have hlt : l < 60 := by omega
      refine ⟨fun _ => ⟨fun h => absurd rfl h, fun _ => cS_1 ?_⟩, fun h => absurd (nI_lt (b := 60) hlt (by omega)) h⟩
      refine ⟨fun h => absurd h (nI_pos (by omega)), fun _ => ⟨fun h => absurd h (nI_ge (b := 60) hlt (by omega)), fun _ => ⟨q_in hlt (by decide), ?_⟩⟩⟩
      rw [nI_clamp (by omega)]
      intro s1 h1 s2 h2
      subst h1
      have h2 : s2 = cs_len (cs_codes σ (upd (c_codes σ) l x)) (c_len σ + 1) := h2
      rw [hc, nI_1] at h2
      subst h2
      refine ⟨A.1, ?_⟩
      refine m_in1 hx1 (rgn hx2) ⟨fun _ => ?_, fun h => absurd h (by decide)⟩
      refine ⟨fun _ => ?_, fun h => absurd ((nI_eq (b := 60) (by omega) (by omega)).mp (hm.symm.trans h)) h60⟩
      refine m_holds0 ⟨fun _ => ?_, fun h => absurd h (by decide)⟩
      have hm0 : m_length (ms_thrown μ 0) = nI l := hm
      rw [hm0, nI_clamp (by omega)]
      refine ⟨q_in hlt (by decide), ?_⟩
      intro s4 h4 s5 h5
      have hm4 : m_length s4 = nI l := by rw [h4]; exact hm
      rw [hm4, nI_1] at h5
      have e5 : m_length s5 = nI (l + 1) := by rw [h5]; rfl
      have e6 : c_len (cs_len (cs_codes σ (upd (c_codes σ) l x)) (nI (l + 1))) = nI (l + 1) := rfl
      rw [e5, e6]
      have et : m_thrown s5 = 0 := by rw [h5, h4]; rfl
      refine fin0 et (hK _ _ _ ?_)
      refine Inv.mono (m := m) ?_ (by omega)
      subst h5; subst h4
      refine ⟨I.R, I.sv, I.kp, ⟨l + 1, by omega, rfl, rfl, fun i hi => ?_⟩, I.ask⟩
      show upd (c_codes σ) l x i = upd (m_text μ) l x i ∧ _ ≤ (upd (m_text μ) l x i).toInt ∧ (upd (m_text μ) l x i).toInt ≤ _
      by_cases e : i = l
      · subst e
        rw [pk_us, pk_us]; exact ⟨rfl, hbt.1, hbt.2⟩
      · rw [pk_un e, pk_un e]; exact ht i (by omega)
theorem case_10 {m L : Nat} {xs : Nat → Int32} {σ : CS} {f : Nat → Int64} {μ : MS} {v4 : Int32} {K : KK} (I : Inv m σ μ) (hK : Nx m K) : wpl_10 L xs σ f μ v4 K := by
  unfold wpl_10 wp_X4_clearBuffer wp_X3_empty
  obtain ⟨l, hl, hc, hm, ht⟩ := I.tx
  intro v1 h1 s2 h2 s1 hs1 v2 hv2 s3 hs3
  have e : v1 = v2 := by rw [h1, hv2, hs1, hc]; exact hm.symm
  refine ⟨fun _ => hK _ _ _ ?_, fun h => h e⟩
  refine Inv.mono (m := m) ?_ (by omega)
  subst hs3; subst hs1; subst h2
  exact ⟨I.R, I.sv, I.kp, ⟨0, by omega, rfl, rfl, fun i hi => absurd hi (Nat.not_lt_zero _)⟩, I.ask⟩
theorem case_13 {m L : Nat} {xs : Nat → Int32} {σ : CS} {f : Nat → Int64} {μ : MS} {v4 : Int32} {K : KK} (I : Inv m σ μ) (hK : Nx m K) : wpl_13 L xs σ f μ v4 K := by
  unfold wpl_13 wp_X4_keep wp_X0_takeSnapshot
  refine w_copyTo_s ?_
  intro s2 h2
  subst h2
  refine w_get_ 165 rfl (by decide) ?_
  intro s1 h1
  subst h1
  refine m_copies 0 7 rfl rfl (by decide) (by decide) (by decide) ?_
  intro s3 h3
  subst h3
  have I0 := I.thr 0
  have eR : Rl m (c_row σ) (cpyF (m_s (ms_thrown μ 0)) (m_s (ms_thrown μ 0)) (177 * 7) (177 * 0) 177) := I0.R.congr (fun i _ => rfl) (fun j hj => cpyF_out (by omega))
  have ev : c_row (cs_taken (cs_snap σ (cpyF (c_snap σ) (c_row σ) 0 0 174)) 1) 165 = m_s (ms_isKept (ms_s (ms_thrown μ 0) (cpyF (m_s (ms_thrown μ 0)) (m_s (ms_thrown μ 0)) (177 * 7) (177 * 0) 177)) 1) ((3 : Int32)).toNatClampNeg := (eR.P _ _ PI_chest).symm
  refine ⟨fun _ => hK _ _ _ ?_, fun h => h ev⟩
  refine Inv.mono (m := m) ?_ (by omega)
  obtain ⟨k, hk, hc, hs, H⟩ := I0.sv
  refine ⟨eR, ⟨k, hk, hc, hs, fun i hi => ?_⟩, Or.inr ⟨rfl, rfl, ?_⟩, I.tx, I.ask⟩
  · exact (H i hi).congr (fun j _ => rfl) (fun j hj => cpyF_out (by omega))
  · refine I0.R.congr (fun i hi => ?_) (fun j hj => ?_)
    · show cpyF _ _ 0 0 174 i = _
      rw [cpyF_in (by omega) (by omega)]
      exact congrArg _ (by omega)
    · show cpyF _ _ (177 * 7) (177 * 0) 177 (177 * 7 + j) = _
      rw [cpyF_in (by omega) (by omega)]
      exact congrArg _ (by omega)
theorem case_14 {m L : Nat} {xs : Nat → Int32} {σ : CS} {f : Nat → Int64} {μ : MS} {v4 : Int32} {K : KK} (I : Inv m σ μ) (hK : Nx m K) : wpl_14 L xs σ f μ v4 K := by
  unfold wpl_14 wp_L_goBack wp_X4_goBack
  rcases I.kp with ⟨h1, h2⟩ | ⟨h1, h2, h3⟩
  · refine ⟨by rw [h1]; rfl, ?_⟩
    rw [h1]
    refine cS_0 ⟨rfl, ?_⟩
    refine ⟨fun _ => ?_, fun h => absurd h2 h⟩
    exact m_holdsN z1 ⟨fun h => absurd rfl h, fun _ => bad I hK z1⟩
  · refine ⟨by rw [h1]; rfl, ?_⟩
    rw [h1]
    refine cS_1 ?_
    obtain ⟨n, hn, hc, hsv⟩ := I.n
    refine w_save n hn hc ?_
    have I' := (I.thr 0).save hn hc
    have ht : m_thrown (saveM (ms_thrown μ 0) n) = 0 := saveM_thr _ _
    have e1 : c_taken (saveC σ n) = c_taken σ := by
      unfold saveC
      by_cases h : n = 6
      · rw [if_pos h]; rfl
      · rw [if_neg h]; rfl
    rw [h1] at e1
    refine w_copyFrom_s ?_
    refine w_get_ 165 rfl (by decide) ?_
    refine ⟨fun h => absurd h (by rw [h2]; decide), fun _ => ?_⟩
    refine m_holds0 ⟨fun _ => ?_, fun h => absurd h (by decide)⟩
    refine m_save (μ := ms_thrown μ 0) n hn hsv ?_
    generalize saveC σ n = σ2 at *
    generalize saveM (ms_thrown μ 0) n = μ2 at *
    refine m_copies 7 0 rfl rfl (by decide) (by decide) (by decide) ?_
    have h4 : Rl m (c_snap σ2) (fun j => m_s μ2 (177 * 7 + j)) := by
      rcases I'.kp with ⟨q, _⟩ | ⟨_, _, q⟩
      · rw [e1] at q; exact absurd q (by decide)
      · exact q
    have R' : Rl m (cpyF (c_row σ2) (c_snap σ2) 0 0 174) (cpyF (m_s μ2) (m_s μ2) (177 * 0) (177 * 7) 177) := by
      refine h4.congr (fun i hi => ?_) (fun j hj => ?_)
      · rw [cpyF_in (by omega) (by omega)]; exact congrArg _ (by omega)
      · rw [cpyF_in (by omega) (by omega)]; exact congrArg _ (by omega)
    have ev : m_s (ms_s μ2 (cpyF (m_s μ2) (m_s μ2) (177 * 0) (177 * 7) 177)) ((3 : Int32)).toNatClampNeg = c_row (cs_row σ2 (cpyF (c_row σ2) (c_snap σ2) 0 0 174)) 165 := R'.P _ _ PI_chest
    rw [ev]
    refine fin0 ht (hK _ _ _ ?_)
    exact (I'.deed (Nat.le_refl m) R' (fun j hj => cpyF_out (by omega))).mono (by omega)
theorem case_15 {m L : Nat} {xs : Nat → Int32} {σ : CS} {f : Nat → Int64} {μ : MS} {v4 : Int32} {K : KK} (I : Inv m σ μ) (hK : Nx m K) : wpl_15 L xs σ f μ v4 K := by
  obtain ⟨n, hn, hc, hsv, H⟩ := I.sv
  unfold wpl_15 wp_L_undo wp_X4_undo wp_X0_savedStates
  rw [hc]
  by_cases h0 : n = 0
  · subst h0
    refine ⟨fun _ => cS_0 ⟨rfl, ?_⟩, fun h => absurd (by decide) h⟩
    refine ⟨fun _ => ?_, fun h => absurd (by rw [hsv]; decide) h⟩
    exact m_holdsN z1 ⟨fun h => absurd rfl h, fun _ => bad I hK z1⟩
  · obtain ⟨k, rfl⟩ : ∃ k, n = k + 1 := ⟨n - 1, by omega⟩
    have hpos : ¬ nI (k + 1) ≤ 0 := nI_nle (by omega) (by omega)
    refine ⟨fun h => absurd h hpos, fun _ => cS_1 ?_⟩
    refine w_restoreLatest k (by omega) hc ?_
    refine ⟨fun h => absurd h (by rw [hsv]; exact hpos), fun _ => ?_⟩
    refine m_holds0 ⟨fun _ => ?_, fun h => absurd h (by decide)⟩
    have hs0 : m_saved (ms_thrown μ 0) = nI (k + 1) := hsv
    rw [hs0]
    refine m_copies (k + 1) 0 rfl rfl (by omega) (by decide) (by omega) ?_
    intro s4 h4
    have hs1 : m_saved (ms_s (ms_thrown μ 0) (cpyF (m_s (ms_thrown μ 0)) (m_s (ms_thrown μ 0)) (177 * 0) (177 * (k + 1)) 177)) = nI (k + 1) := hsv
    rw [hs1, nI_pred] at h4
    have e5 : m_saved s4 = nI k := by rw [h4]; rfl
    have e6 : c_saved (cs_row (cs_saved σ (nI k)) (cpyF (c_row σ) (c_rows σ) 0 (k * 174) 174)) = nI k := rfl
    rw [e5, e6]
    have et : m_thrown s4 = 0 := by rw [h4]; rfl
    refine fin0 et (hK _ _ _ ?_)
    refine Inv.mono (m := m) ?_ (by omega)
    subst h4
    have Hk := H k (by omega)
    refine ⟨?_, ⟨k, by omega, rfl, rfl, fun i hi => ?_⟩, ?_, I.tx, I.ask⟩
    · refine Hk.congr (fun i hi => ?_) (fun j hj => ?_)
      · show cpyF _ _ 0 (k * 174) 174 i = _
        rw [cpyF_in (by omega) (by omega)]; exact congrArg _ (by omega)
      · show cpyF _ _ (177 * 0) (177 * (k + 1)) 177 j = _
        rw [cpyF_in (by omega) (by omega)]; exact congrArg _ (by omega)
    · exact (H i (by omega)).congr (fun j _ => rfl) (fun j hj => cpyF_out (by omega))
    · rcases I.kp with h | ⟨h1, h2, h3⟩
      · exact Or.inl h
      · exact Or.inr ⟨h1, h2, h3.congr (fun i _ => rfl) (fun j hj => cpyF_out (by omega))⟩
