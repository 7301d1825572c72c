/-! pure part: the law's own loop -/
def J (n : Nat) (σ : CS) : Prop := G n (c_row σ) ∧ (∃ k, k ≤ 6 ∧ c_saved σ = nI k) ∧ c_taken σ = 1 ∧ G n (c_snap σ)
theorem J.at {n : Nat} {σ : CS} (h : J n σ) : At (c_row σ) (c_snap σ) σ := ⟨rfl, h.2.1, rfl, h.2.2.1⟩
theorem At.j {n : Nat} {r z : Nat → Int32} {σ : CS} (h : At r z σ) (hG : G n r) (hZ : G n z) : J n σ := ⟨by rw [h.1]; exact hG, h.2.1, h.2.2.2, by rw [h.2.2.1]; exact hZ⟩
section
variable {n L : Nat} {xs : Nat → Int32} {σ : CS}
theorem l274 (h : J (n + 1) σ) : wps_L_law_274 L xs σ (nI n) (fun v2 v3 σ1 => v2 = 1 ∧ v3 = nI (n + 1) ∧ J (n + 1) σ1) := by
  unfold wps_L_law_274 wps_L_law_279
  intro v hv
  exact ⟨rfl, by rw [hv, nI_1], h⟩
theorem l253 (h : J (n + 1) σ) : wps_L_law_253 L xs σ (nI n) (fun v2 v3 σ1 => v2 = 1 ∧ v3 = nI (n + 1) ∧ J (n + 1) σ1) := by
  unfold wps_L_law_253
  refine ⟨fun _ => l274 h, fun _ => ?_⟩
  refine W_keep (fun σ1 h1 h2 h3 h4 h5 => ?_)
  have e : c_snap σ1 = c_row σ := h4.trans (back_eq h.2.2.2.z h.1.z)
  have hJ : J (n + 1) σ1 := ⟨by rw [h1]; exact h.1, by rw [h2]; exact h.2.1, h5, by rw [e]; exact h.1⟩
  exact w_countE hJ.1.o1 (k := 4) (by decide) (v := c_row σ 165) (by rw [h1]; rfl) ⟨fun q => absurd rfl q, fun _ => l274 hJ⟩
theorem l198 (F : FPF) (hn : n < 50) (h : J (n + 1) σ) (x y : Int32) : wps_L_law_198 L xs σ 1 (nI n) x y (fun v2 v3 σ1 => v2 = 1 ∧ v3 = nI (n + 1) ∧ J (n + 1) σ1) := by
  unfold wps_L_law_198
  refine ⟨fun q => absurd q one_ne, fun _ => ?_⟩
  refine p_holds h.1 (by omega) F ⟨fun q => absurd q one_ne, fun _ => ⟨fun _ => l253 h, fun _ => ?_⟩⟩
  obtain ⟨b, hb, eb⟩ := up_ok (x >>> (5 &&& 31)) (n := 6) (by decide) (by decide)
  obtain ⟨s, hs, es⟩ := up_ok (x >>> (8 &&& 31)) (n := 6) (by decide) (by decide)
  obtain ⟨k, hk, ek⟩ := up_ok (y >>> (4 &&& 31)) (n := 99) (by decide) (by decide)
  refine w_up (n := 6) rfl (by decide) (by decide) eb ?_
  refine w_up (n := 6) rfl (by decide) (by decide) es ?_
  refine w_up (n := 99) rfl (by decide) (by decide) ek ?_
  rw [show (1 : Int32) + nI k = nI (1 + k) from nI_add 1 k]
  refine p_isAhead h.1 (by omega) hb hs (by omega) (by omega) h.at (fun σ1 hA => ?_)
  exact ⟨fun q => absurd q one_ne, fun _ => l253 (hA.j h.1 h.2.2.2)⟩
theorem After.j {r' : Nat → Int32} {σ σ1 : CS} {k : Nat} (A : After σ σ1 r' k) (hk : k ≤ 6) (hg : G (n + 1) r') (h3 : c_taken σ = 1) (h4 : G n (c_snap σ)) : J (n + 1) σ1 := by
  obtain ⟨a1, a2, a3, a4, a5⟩ := A
  have := if6 hk
  exact ⟨by rw [a1]; exact hg, ⟨_, by omega, a2⟩, a5.trans h3, by rw [a4]; exact h4.mono (Nat.le_succ n)⟩
theorem l119 (F : FPF) (hn : n < 50) {σ0 : CS} (h : J n σ0) {k : Nat} (hk : k ≤ 6) (hsv : c_saved σ0 = nI k) (x y : Int32) {ans : Int32} {r' : Nat → Int32} (hg : G (n + 1) r') (H : ∀ (σ : CS) (n : Nat), n ≤ 6 → c_saved σ = nI n → c_row σ = c_row σ0 → c_snap σ = c_snap σ0 → c_taken σ = 1 → ∀ post : Int32 → CS → Prop, (∀ σ1, After σ σ1 r' n → post ans σ1) → wp_L_act σ x y post) (A : After σ0 σ r' k) : wps_L_law_119 L xs σ (nI n) x y (looksV (c_row σ0)) ans 1 (fun v2 v3 σ1 => v2 = 1 ∧ v3 = nI (n + 1) ∧ J (n + 1) σ1) := by
  have hJ : J (n + 1) σ := A.j hk hg h.2.2.1 h.2.2.2
  have eA := A.1
  have h6 := if6 hk
  unfold wps_L_law_119
  refine ⟨fun q => absurd q one_ne, fun _ => ⟨fun _ => l198 F hn hJ x y, fun _ => ?_⟩⟩
  refine w_looks hJ.1.o1 ?_
  refine w_countE hJ.1.o1 (k := 14) (by decide) (v := nI ((if k = 6 then 5 else k) + 1)) A.2.1 ?_
  intro v hv
  rw [nI_pred] at hv
  subst hv
  refine back h.1.z hg.z h.at hk A (fun σ2 hA2 hs2 => ⟨fun q => absurd rfl q, fun _ => ?_⟩)
  refine w_looks (hA2.o1 h.1) ?_
  rw [hA2.1]
  refine ⟨fun q => absurd (lg_refl _) q, fun _ => ?_⟩
  refine H σ2 _ (by omega) hs2 hA2.1 hA2.2.2.1 hA2.2.2.2 _ (fun σ3 A3 => ⟨fun q => absurd rfl q, fun _ => ?_⟩)
  have hJ3 : J (n + 1) σ3 := A3.j (by omega) hg hA2.2.2.2 (by rw [hA2.2.2.1]; exact h.2.2.2)
  refine w_looks hJ3.1.o1 ?_
  rw [A3.1, eA]
  refine ⟨fun q => absurd (lg_refl _) q, fun _ => ?_⟩
  unfold wps_L_law_197
  exact l198 F hn hJ3 x y
theorem pc_J (F : FPF) : PC J := by
  intro n L xs σ hn hL h
  obtain ⟨k, hk, hsv⟩ := h.2.1
  have e2 : (2 : Int32) * nI n = nI (2 * n) := pk_mul 2 n
  have e3 : nI (2 * n) + 1 = nI (2 * n + 1) := nI_1 _
  unfold wps_L_law_40
  rw [e2, e3]
  refine ⟨nI_pos (by omega), ?_⟩
  intro x _
  refine ⟨nI_pos (by omega), ?_⟩
  intro y _
  refine w_looks h.1.o1 ?_
  refine w_countE h.1.o1 (k := 14) (by decide) (v := nI k) hsv ?_
  obtain ⟨ans, r', hg, hnn, H⟩ := act_ok h.1 h.2.2.2 (by omega) x y
  refine H σ k hk hsv rfl rfl h.2.2.1 _ (fun σ1 A => ⟨fun q => absurd q hnn, fun _ => ?_⟩)
  have hJ1 : J (n + 1) σ1 := A.j hk hg h.2.2.1 h.2.2.2
  refine w_countE hJ1.1.o1 (k := 14) (by decide) (v := nI ((if k = 6 then 5 else k) + 1)) A.2.1 ?_
  have fin := l119 (L := L) (xs := xs) F hn h hk hsv x y hg H A
  by_cases q : k = 6
  · subst q
    refine ⟨fun _ => ?_, fun z => absurd (by decide) z⟩
    unfold wps_L_law_111
    exact ⟨fun z => absurd rfl z, fun _ => fin⟩
  · rw [if_neg q]
    refine ⟨fun z => absurd z (nI_ge (b := 6) (by omega) (by decide)), fun _ => ?_⟩
    unfold wps_L_law_111
    exact ⟨fun z => absurd (nI_1 k).symm z, fun _ => fin⟩
theorem g_0 : G 0 R0 := by
  refine ⟨⟨T0, rl_0⟩, ?_, fun k hk hne => absurd ?_ hne, X3.none (fun k hk => ?_), ?_, ?_, ?_, fun j hj => ?_⟩
  · unfold X1
    rw [nbF_none 36 (fun k hk => ?_), show R0 171 = 0 from rfl, show R0 172 = 0 from rfl, tI0]
    · omega
    · unfold R0; (repeat (first | rw [if_pos (by omega)] | rw [if_neg (by omega)]))
  · unfold R0; (repeat (first | rw [if_pos (by omega)] | rw [if_neg (by omega)]))
  · unfold R0; (repeat (first | rw [if_pos (by omega)] | rw [if_neg (by omega)]))
    exact ⟨rfl, rfl⟩
  · show sumF R0 24 6 = sumF R0 36 6
    decide
  · unfold X5
    decide
  · unfold X6
    decide
  · unfold R0; (repeat (first | rw [if_pos (by omega)] | rw [if_neg (by omega)]))
theorem l8 (F : FPF) (h : σ = c0 R0) : wps_L_law_8 L xs σ (fun v2 v3 σ1 => v2 = 1 ∧ v3 = nI 0 ∧ J 0 σ1) := by
  subst h
  unfold wps_L_law_8
  refine W_keep (fun σ1 h1 h2 h3 h4 h5 => ⟨fun q => absurd rfl q, fun _ => ?_⟩)
  have e0 : c_row σ1 = R0 := h1
  have e : c_snap σ1 = R0 := h4.trans (back_eq (fun _ _ => rfl) g_0.z)
  have hJ : J 0 σ1 := ⟨by rw [e0]; exact g_0, ⟨0, by omega, h2⟩, h5, by rw [e]; exact g_0⟩
  refine p_holds hJ.1 (by omega) F ⟨fun q => absurd q one_ne, fun _ => ?_⟩
  exact ⟨rfl, rfl, hJ⟩
end
