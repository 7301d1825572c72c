/-! pure part: what holds between two calls -/
theorem Rl.congr {m : Nat} {r t r' t' : Nat → Int32} (R : Rl m r t) (hr : ∀ i, i < 174 → r' i = r i) (ht : ∀ j, j < 177 → t' j = t j) : Rl m r' t' := by
  have hs : ∀ k, k + 6 ≤ 174 → sumF r' k 6 = sumF r k 6 := fun k hk => sumF_congr 6 fun i hi => hr _ (by omega)
  have h6 : ∀ k, k + 6 ≤ 174 → S6 r' k = S6 r k := fun k hk => by
    unfold S6
    rw [hr _ (by omega), hr _ (by omega), hr _ (by omega), hr _ (by omega), hr _ (by omega), hr _ (by omega)]
  refine ⟨?_, ?_, ?_, ?_, ?_, ?_, ?_⟩
  · intro i j hij
    have := PI_out hij
    rw [hr i (by omega), ht j (by omega)]
    exact R.P i j hij
  · intro b s hb hs
    exact (R.B b s hb hs).congr (hr _ (by omega)) (hr _ (by omega)) (hr _ (by omega)) (ht _ (by omega)) (ht _ (by omega)) (ht _ (by omega))
  · unfold RelS
    rw [hs 48 (by omega), hs 42 (by omega), hs 36 (by omega), ht 5 (by omega), ht 6 (by omega), ht 8 (by omega)]
    exact R.S
  · intro i
    by_cases h : i < 174
    · rw [hr i h]; exact R.o1 i
    · unfold Rng; omega
  · intro b s hb hs
    rw [hr _ (by omega), hr _ (by omega), hr _ (by omega)]
    exact R.o2 b s hb hs
  · unfold O3
    rw [h6 30 (by omega), h6 42 (by omega), h6 48 (by omega), hr _ (by omega), hr _ (by omega)]
    exact R.o3
  · intro h k hk
    rw [hr _ (by omega)] at h
    rw [hr _ (by omega), hr _ (by omega)]
    exact R.o4 h k hk
/-- the saved states -/
def Hs (m : Nat) (rows t : Nat → Int32) (k : Nat) : Prop := ∀ i, i < k → Rl m (fun j => rows (i * 174 + j)) (fun j => t (177 * (i + 1) + j))
def Tx (σ : CS) (μ : MS) : Prop := ∃ l : Nat, l ≤ 60 ∧ c_len σ = nI l ∧ m_length μ = nI l ∧ ∀ i, i < l → c_codes σ i = m_text μ i ∧ 33 ≤ (m_text μ i).toInt ∧ (m_text μ i).toInt ≤ 126
def Kp (m : Nat) (σ : CS) (μ : MS) : Prop := (c_taken σ = 0 ∧ m_isKept μ = 0) ∨ (c_taken σ = 1 ∧ m_isKept μ = 1 ∧ Rl m (c_snap σ) (fun j => m_s μ (177 * 7 + j)))
def Inv (m : Nat) (σ : CS) (μ : MS) : Prop := Rl m (c_row σ) (m_s μ) ∧ (∃ k : Nat, k ≤ 6 ∧ c_saved σ = nI k ∧ m_saved μ = nI k ∧ Hs m (c_rows σ) (m_s μ) k) ∧ Kp m σ μ ∧ Tx σ μ ∧ Ask0 μ
theorem Inv.R {m : Nat} {σ : CS} {μ : MS} (h : Inv m σ μ) : Rl m (c_row σ) (m_s μ) := h.1
theorem Inv.sv {m : Nat} {σ : CS} {μ : MS} (h : Inv m σ μ) : ∃ k : Nat, k ≤ 6 ∧ c_saved σ = nI k ∧ m_saved μ = nI k ∧ Hs m (c_rows σ) (m_s μ) k := h.2.1
theorem Inv.kp {m : Nat} {σ : CS} {μ : MS} (h : Inv m σ μ) : Kp m σ μ := h.2.2.1
theorem Inv.tx {m : Nat} {σ : CS} {μ : MS} (h : Inv m σ μ) : Tx σ μ := h.2.2.2.1
theorem Inv.ask {m : Nat} {σ : CS} {μ : MS} (h : Inv m σ μ) : Ask0 μ := h.2.2.2.2
theorem Hs.mono {m m' : Nat} {rows t : Nat → Int32} {k : Nat} (h : Hs m rows t k) (hm : m ≤ m') : Hs m' rows t k := fun i hi => (h i hi).mono hm
theorem Kp.mono {m m' : Nat} {σ : CS} {μ : MS} (h : Kp m σ μ) (hm : m ≤ m') : Kp m' σ μ := by
  rcases h with h | ⟨h1, h2, h3⟩
  · exact Or.inl h
  · exact Or.inr ⟨h1, h2, h3.mono hm⟩
theorem Inv.mono {m m' : Nat} {σ : CS} {μ : MS} (h : Inv m σ μ) (hm : m ≤ m') : Inv m' σ μ := by
  obtain ⟨k, h1, h2, h3, h4⟩ := h.sv
  exact ⟨h.R.mono hm, ⟨k, h1, h2, h3, h4.mono hm⟩, h.kp.mono hm, h.tx, h.ask⟩
theorem Inv.sm {m : Nat} {σ : CS} {μ μ' : MS} (h : Inv m σ μ) (S : Sm μ μ') : Inv m σ μ' := by
  obtain ⟨s1, s2, s3, s4, s5, s6, s7, s9, s8⟩ := S
  refine ⟨by rw [s2]; exact h.R, ?_, ?_, ?_, s8 h.ask⟩
  · rw [s2, s3]; exact h.sv
  · unfold Kp; rw [s2, s4]; exact h.kp
  · unfold Tx; rw [s5, s6]; exact h.tx
theorem Inv.key {m : Nat} {σ : CS} {μ : MS} (h : Inv m σ μ) (f : Nat → Int64) (g : Nat → Int64) : Inv m (cs_most (cs_keys σ f) g) μ := ⟨h.R, h.sv, h.kp, h.tx, h.ask⟩
theorem thr_thr (μ : MS) (k : Int32) : m_thrown (ms_thrown μ k) = k := rfl
theorem Inv.thr {m : Nat} {σ : CS} {μ : MS} (h : Inv m σ μ) (k : Int32) : Inv m σ (ms_thrown μ k) := ⟨h.R, h.sv, h.kp, h.tx, h.ask⟩
theorem saveC_row (σ : CS) (n : Nat) : c_row (saveC σ n) = c_row σ := by
  unfold saveC
  by_cases h : n = 6
  · rw [if_pos h]; rfl
  · rw [if_neg h]; rfl
theorem saveM_thr (μ : MS) (n : Nat) : m_thrown (saveM μ n) = m_thrown μ := by
  unfold saveM
  by_cases h : n = 6
  · rw [if_pos h]; rfl
  · rw [if_neg h]; rfl
theorem saveM_s (μ : MS) (n : Nat) : m_s (saveM μ n) = if n = 6 then cpyF (shiftF (m_s μ) 6) (shiftF (m_s μ) 6) (177 * 6) 0 177 else cpyF (m_s μ) (m_s μ) (177 * (n + 1)) 0 177 := by
  unfold saveM
  by_cases h : n = 6
  · rw [if_pos h, if_pos h]; rfl
  · rw [if_neg h, if_neg h]; rfl
theorem saveM_low {μ : MS} {n j : Nat} (hn : n ≤ 6) (hj : j < 177) : m_s (saveM μ n) j = m_s μ j := by
  rw [saveM_s]
  by_cases h : n = 6
  · rw [if_pos h, cpyF_out (by omega)]; exact if_neg (by omega)
  · rw [if_neg h, cpyF_out (by omega)]
theorem saveM_top {μ : MS} {n j : Nat} (hn : n ≤ 6) (hj : 177 * 7 ≤ j) : m_s (saveM μ n) j = m_s μ j := by
  rw [saveM_s]
  by_cases h : n = 6
  · rw [if_pos h, cpyF_out (by omega)]; exact if_neg (by omega)
  · rw [if_neg h, cpyF_out (by omega)]
theorem Inv.save {m : Nat} {σ : CS} {μ : MS} (I : Inv m σ μ) {n : Nat} (hn : n ≤ 6) (h1 : c_saved σ = nI n) : Inv m (saveC σ n) (saveM μ n) := by
  obtain ⟨k, hk, hc, hm, H⟩ := I.sv
  obtain rfl : k = n := (nI_eq (by omega) (by omega)).mp (hc.symm.trans h1)
  have hR : Rl m (c_row (saveC σ k)) (m_s (saveM μ k)) := by
    rw [saveC_row]
    exact I.R.congr (fun i _ => rfl) (fun j hj => saveM_low hk hj)
  refine ⟨hR, ?_, ?_, ?_, ?_⟩
  · by_cases h : k = 6
    · subst h
      refine ⟨6, Nat.le_refl _, ?_, ?_, ?_⟩
      · unfold saveC; rw [if_pos rfl]; rfl
      · unfold saveM; rw [if_pos rfl]; rfl
      · have er : c_rows (saveC σ 6) = cpyF (dropF (c_rows σ) 870) (c_row σ) 870 0 174 := by unfold saveC; rw [if_pos rfl]; rfl
        rw [er, saveM_s, if_pos rfl]
        intro i hi
        by_cases h5 : i = 5
        · subst h5
          refine I.R.congr (fun j hj => ?_) (fun j hj => ?_)
          · show cpyF _ _ 870 0 174 (5 * 174 + j) = _
            rw [cpyF_in (by omega) (by omega)]
            exact congrArg _ (by omega)
          · show cpyF _ _ (177 * 6) 0 177 (177 * (5 + 1) + j) = _
            rw [cpyF_in (by omega) (by omega)]
            show shiftF _ 6 _ = _
            unfold shiftF
            rw [if_neg (by omega)]
            exact congrArg _ (by omega)
        · refine (H (i + 1) (by omega)).congr (fun j hj => ?_) (fun j hj => ?_)
          · show cpyF _ _ 870 0 174 (i * 174 + j) = c_rows σ ((i + 1) * 174 + j)
            rw [cpyF_out (by omega)]
            unfold dropF
            rw [if_pos (by omega)]
            exact congrArg _ (by omega)
          · show cpyF _ _ (177 * 6) 0 177 (177 * (i + 1) + j) = m_s μ (177 * (i + 1 + 1) + j)
            rw [cpyF_out (by omega)]
            unfold shiftF
            rw [if_pos (by omega)]
            exact congrArg _ (by omega)
    · refine ⟨k + 1, by omega, ?_, ?_, ?_⟩
      · unfold saveC; rw [if_neg h]; rfl
      · unfold saveM; rw [if_neg h]; rfl
      · have er : c_rows (saveC σ k) = cpyF (c_rows σ) (c_row σ) (k * 174) 0 174 := by unfold saveC; rw [if_neg h]; rfl
        rw [er, saveM_s, if_neg h]
        intro i hi
        by_cases h5 : i = k
        · subst h5
          refine I.R.congr (fun j hj => ?_) (fun j hj => ?_)
          · show cpyF _ _ (i * 174) 0 174 (i * 174 + j) = _
            rw [cpyF_in (by omega) (by omega)]
            exact congrArg _ (by omega)
          · show cpyF _ _ (177 * (i + 1)) 0 177 (177 * (i + 1) + j) = _
            rw [cpyF_in (by omega) (by omega)]
            exact congrArg _ (by omega)
        · refine (H i (by omega)).congr (fun j hj => ?_) (fun j hj => ?_)
          · show cpyF _ _ (k * 174) 0 174 (i * 174 + j) = c_rows σ (i * 174 + j)
            rw [cpyF_out (by omega)]
          · show cpyF _ _ (177 * (k + 1)) 0 177 (177 * (i + 1) + j) = m_s μ (177 * (i + 1) + j)
            rw [cpyF_out (by omega)]
  · have e1 : c_taken (saveC σ k) = c_taken σ := by
      unfold saveC
      by_cases h : k = 6
      · rw [if_pos h]; rfl
      · rw [if_neg h]; rfl
    have e2 : c_snap (saveC σ k) = c_snap σ := by
      unfold saveC
      by_cases h : k = 6
      · rw [if_pos h]; rfl
      · rw [if_neg h]; rfl
    have e3 : m_isKept (saveM μ k) = m_isKept μ := by
      unfold saveM
      by_cases h : k = 6
      · rw [if_pos h]; rfl
      · rw [if_neg h]; rfl
    unfold Kp
    rw [e1, e2, e3]
    rcases I.kp with h | ⟨h1, h2, h3⟩
    · exact Or.inl h
    · exact Or.inr ⟨h1, h2, h3.congr (fun i _ => rfl) (fun j hj => saveM_top hk (by omega))⟩
  · have e1 : c_len (saveC σ k) = c_len σ ∧ c_codes (saveC σ k) = c_codes σ := by
      unfold saveC
      by_cases h : k = 6
      · rw [if_pos h]; exact ⟨rfl, rfl⟩
      · rw [if_neg h]; exact ⟨rfl, rfl⟩
    have e3 : m_length (saveM μ k) = m_length μ ∧ m_text (saveM μ k) = m_text μ := by
      unfold saveM
      by_cases h : k = 6
      · rw [if_pos h]; exact ⟨rfl, rfl⟩
      · rw [if_neg h]; exact ⟨rfl, rfl⟩
    unfold Tx
    rw [e1.1, e1.2, e3.1, e3.2]
    exact I.tx
  · unfold saveM
    by_cases h : k = 6
    · rw [if_pos h]; exact I.ask
    · rw [if_neg h]; exact I.ask
/-- a deed changes the two rows alone -/
theorem Inv.deed {m m' : Nat} {σ : CS} {μ : MS} (I : Inv m σ μ) (hm : m ≤ m') {r' t' : Nat → Int32} (R' : Rl m' r' t') (ht : ∀ j, 177 ≤ j → t' j = m_s μ j) : Inv m' (cs_row σ r') (ms_s μ t') := by
  obtain ⟨k, hk, hc, hs, H⟩ := I.sv
  refine ⟨R', ⟨k, hk, hc, hs, fun i hi => ?_⟩, ?_, I.tx, I.ask⟩
  · exact ((H i hi).mono hm).congr (fun j hj => rfl) (fun j hj => ht _ (by omega))
  · rcases I.kp with h | ⟨h1, h2, h3⟩
    · exact Or.inl h
    · exact Or.inr ⟨h1, h2, (h3.mono hm).congr (fun i _ => rfl) (fun j hj => ht _ (by omega))⟩
theorem Inv.n {m : Nat} {σ : CS} {μ : MS} (I : Inv m σ μ) : ∃ n : Nat, n ≤ 6 ∧ c_saved σ = nI n ∧ m_saved μ = nI n := by
  obtain ⟨k, hk, hc, hs, _⟩ := I.sv
  exact ⟨k, hk, hc, hs⟩
-- the ends of a call
theorem finK {r4 : Int32} {f3 : Nat → Int64} {μ5 : MS} {k : Int32} {P : Prop} (h1 : m_thrown μ5 = k) (hk : ¬ k = 0) (hK : P) : wp_X5_thrown μ5 (fun r_6 => ((r_6 = k → ((¬ k = 0 → P) ∧ (k = 0 → (((lg_cmp (f3 ((0 : Int32)).toNatClampNeg) (r4).toInt64) = 0 → P) ∧ (¬ (lg_cmp (f3 ((0 : Int32)).toNatClampNeg) (r4).toInt64) = 0 → False))))) ∧ (¬ r_6 = k → False))) :=
  ⟨fun _ => ⟨fun _ => hK, fun h => absurd h hk⟩, fun h => h h1⟩
theorem lg_refl (x : Int64) : lg_cmp x x = 0 := by
  unfold lg_cmp
  rw [if_neg (by rw [gt_iff_lt]; exact Int64.lt_irrefl), if_pos rfl]
theorem fin0 {r4 : Int32} {f : Nat → Int64} {μ5 : MS} {P : Prop} (h1 : m_thrown μ5 = 0) (hK : P) : wp_X5_thrown μ5 (fun r_6 => ((r_6 = 0 → ((¬ (0 : Int32) = 0 → P) ∧ ((0 : Int32) = 0 → (((lg_cmp (vp_updL f ((0 : Int32)).toNatClampNeg (r4).toInt64 ((0 : Int32)).toNatClampNeg) (r4).toInt64) = 0 → P) ∧ (¬ (lg_cmp (vp_updL f ((0 : Int32)).toNatClampNeg (r4).toInt64 ((0 : Int32)).toNatClampNeg) (r4).toInt64) = 0 → False))))) ∧ (¬ r_6 = 0 → False))) :=
  ⟨fun _ => ⟨fun h => absurd rfl h, fun _ => ⟨fun _ => hK, fun h => h (by rw [pk_uLs]; exact lg_refl _)⟩⟩, fun h => h h1⟩
