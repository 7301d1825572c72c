/-! the law's loop over an invariant, and its start -/
def PC (J : Nat → CS → Prop) : Prop := ∀ (n L : Nat) (xs : Nat → Int32) (σ : CS), n < 50 → L ≤ 260 → J n σ → wps_L_law_40 L xs σ (nI n) (fun v2 v3 σ1 => v2 = 1 ∧ v3 = nI (n + 1) ∧ J (n + 1) σ1)
set_option maxHeartbeats 4000000 in
set_option maxRecDepth 100000 in
theorem law_loop {p : Program} {l : Launch} {e : Env} {s : State} {m : MethodId} {below : List Frame} {meth : Method} {c : Code} {b L : Nat} {xs : Nat → Int32} (C0 : lw_At p s m meth c b L xs) {D : va_G} {cI cJ : ClassId} (hK : va_K D vwCl (tysIJ cI cJ) s) {a : Nat → Nat} (hL : L ≤ 260) (J : Nat → CS → Prop) (hJ : PC J) : ∀ (N n : Nat) (σ : CS) (H : Heap) (locs : List Loc) (ls : Array Slot), N + n = 50 → J n σ → Wd D (fun q : Nat => s.heap.size ≤ q) s.heap (cW cI cJ a σ) H locs → lv_has ls 13 [(0, .ref b), (1, .ref (a 0)), (2, .int 1), (3, .int (nI n))] → W p l e room_1 s m #[Value.ref b] below meth c H locs 20 2000 (lw_Z below #[Value.ref b] s) (F0 m 30 ls []) := by
  obtain ⟨hx, hb, hr, hml, hown, hts0, hX, hbl, hlocks, hgv⟩ := id C0
  have hts : ∀ w ∈ wsL_law, w.before #[Value.ref b] s = true := fun w h => hts0 w (wsL_law_in w h)
  have hA : ∀ q : Nat, s.heap.size ≤ q → (fun q : Nat => s.heap.size ≤ q) q := fun _ h => h
  have hbA : ¬ (fun q : Nat => s.heap.size ≤ q) b := Nat.not_le.mpr hbl
  intro N
  induction N with
  | zero =>
    intro n σ H locs ls hN hI hW hl
    have e : n = 50 := by omega
    subst e
    refine lv_iload_n hx hb dL_law_30 rfl (lv_at hl 3 rfl) ?_
    refine lv_bipush (v := 50) hx hb dL_law_31 (by decide) ?_
    refine lv_icmp_ge (tgt := 286) hx hb dL_law_33 (by decide) (fun hc => ?_) (fun hc => absurd (by decide) hc)
    refine lv_iload_n hx hb dL_law_286 rfl (lv_at hl 2 rfl) ?_
    refine va_forget (fun q hq => hW.2.2.2.2 q hq) ?_
    refine W.widen (k := 600104) (n := 7301314) (Nat.le_of_ble_eq_true rfl) (Nat.le_of_ble_eq_true rfl) ?_
    exact W.base (lw_ret (Drawn.sameBut.refl s.drawn lw_cs) hx hb hr hlocks dL_law_287)
  | succ N ih =>
    intro n σ H locs ls hN hI hW hl
    have hn : n < 50 := by omega
    refine lv_iload_n hx hb dL_law_30 rfl (lv_at hl 3 rfl) ?_
    refine lv_bipush (v := 50) hx hb dL_law_31 (by decide) ?_
    refine lv_icmp_ge (tgt := 286) hx hb dL_law_33 (by decide) (fun hc => absurd hc (nI_ge (b := 50) hn (by decide))) (fun hc => ?_)
    refine lv_iload_n hx hb dL_law_36 rfl (lv_at hl 2 rfl) ?_
    refine lv_if_eq (tgt := 286) hx hb dL_law_37 (by decide) (fun hc => absurd hc (by decide)) (fun hc => ?_)
    refine sg_L_law_40 (K := fun v2 v3 σ1 => v2 = 1 ∧ v3 = nI (n + 1) ∧ J (n + 1) σ1) hx hb hml hts hown hK hA hX hbl hbA hL ?_ σ (nI n) H locs ls (hJ n L xs σ hn hL hI) hW (lv_sub hl [0, 1, 3] rfl)
    intro σ1 v2 v3 H locs ls hk hW hl
    obtain ⟨rfl, rfl, hJ1⟩ := hk
    exact ih (n + 1) σ1 H locs ls (by omega) hJ1 hW hl
set_option maxHeartbeats 4000000 in
set_option maxRecDepth 100000 in
theorem nx_start {p : Program} {s : State} {m : MethodId} {meth : Method} {c : Code} {b L : Nat} {xs : Nat → Int32} (C0 : lw_At p s m meth c b L xs) : NX4 s := by
  obtain ⟨hx, hb, hr, hml, hown, hts, hX, hbl, hlocks, hgv⟩ := C0
  exact ⟨va_Nw.of rfl (hts (.methodLinkNest RX4 18 yX1_init RX4) (by decide +kernel)), va_Nw.of rfl (hts (.methodLinkNest RX4 25 yX0_init RX4) (by decide +kernel)), va_Nw.of rfl (hts (.methodLinkNest RX4 32 yX3_init RX4) (by decide +kernel))⟩
set_option maxHeartbeats 4000000 in
set_option maxRecDepth 100000 in
theorem start_of {p : Program} {e : Env} {s : State} {m : MethodId} {below : List Frame} {meth : Method} {c : Code} (l : Launch) {b L : Nat} {xs : Nat → Int32} (hL : L ≤ 260) (C0 : lw_At p s m meth c b L xs) (J : Nat → CS → Prop) (hJ : PC J) (Pc : CS → Prop) (hwC : wp_X2_init (c0 (fun _ => 0)) (fun σ1 => Pc (c0 (c_row σ1)))) (h0 : ∀ σ, Pc σ → wps_L_law_8 L xs σ (fun v2 v3 σ1 => v2 = 1 ∧ v3 = nI 0 ∧ J 0 σ1)) : W p l e room_1 s m #[Value.ref b] below meth c s.heap [] 0 0 (lw_Z below #[Value.ref b] s) (entryFrame m ([Value.ref b] : List Value).toArray 13) := by
  have hnx := nx_start C0
  obtain ⟨hx, hb, hr, hml, hown, hts0, hX, hbl, hlocks, hgv⟩ := id C0
  have hts : ∀ w ∈ wsL_law, w.before #[Value.ref b] s = true := fun w h => hts0 w (wsL_law_in w h)
  have hA : ∀ q : Nat, s.heap.size ≤ q → (fun q : Nat => s.heap.size ≤ q) q := fun _ h => h
  have hbA : ¬ (fun q : Nat => s.heap.size ≤ q) b := Nat.not_le.mpr hbl
  obtain ⟨k0, i0, hn0⟩ := u_known (C := RX0) (T := TX0) (N := 4) (n := 4) hts0 inX0 (hts0 (.instantiable RX0 4) (by decide +kernel))
  obtain ⟨k1, i1, hn1⟩ := u_known (C := RX1) (T := TX1) (N := 2) (n := 2) hts0 inX1 (hts0 (.instantiable RX1 2) (by decide +kernel))
  obtain ⟨k2, i2, hn2⟩ := u_known (C := RX2) (T := TX2) (N := 1) (n := 1) hts0 inX2 (hts0 (.instantiable RX2 1) (by decide +kernel))
  obtain ⟨k3, i3, hn3⟩ := u_known (C := RX3) (T := TX3) (N := 2) (n := 2) hts0 inX3 (hts0 (.instantiable RX3 2) (by decide +kernel))
  obtain ⟨k4, i4, hn4⟩ := u_known (C := RX4) (T := TX4) (N := 4) (n := 4) hts0 inX4 (hts0 (.instantiable RX4 4) (by decide +kernel))
  obtain ⟨dC, dI, hKc⟩ : ∃ (dC : Nat → ClassId) (dI : Nat → Nat → Nat), ∀ (k : Nat) (q : vw_C), vwCl[k]? = some q → u_Kn s q.1 q.2.1 q.2.2 (dC k) (dI k) := by
    refine ⟨fun k => match k with | 0 => k0 | 1 => k1 | 2 => k2 | 3 => k3 | _ => k4, fun k => match k with | 0 => i0 | 1 => i1 | 2 => i2 | 3 => i3 | _ => i4, ?_⟩
    intro k q hq
    match k, hq with
    | 0, hq => cases hq; exact hn0
    | 1, hq => cases hq; exact hn1
    | 2, hq => cases hq; exact hn2
    | 3, hq => cases hq; exact hn3
    | 4, hq => cases hq; exact hn4
    | k + 5, hq => simp [vwCl] at hq
  have hK : va_K (dC, dI) vwCl [] s := ⟨hKc, fun k q h => by simp at h⟩
  have hW : Wd (dC, dI) (fun q : Nat => s.heap.size ≤ q) s.heap [] s.heap [] := ⟨fun k q h => by simp at h, ⟨fun i j p q h => by simp at h, fun k q h => by simp at h⟩, va_S.rf⟩
  have hl := lv_entry ([.ref b]) (n := 13) (Nat.le_of_ble_eq_true rfl)
  rw [lg_entry_eq]
  generalize (lg_sl ([.ref b]) ++ List.replicate (13 - (lg_sl ([.ref b])).length) Slot.unset).toArray = ls at hl ⊢
  have hl : lv_has ls 13 [(0, .ref b)] := hl
  refine va_new (ci := 4) (fs := [.null, .null, .null, .null]) (C := RX4) (T := TX4) (N := 4) hx hb hts0 inX4 tyX4 tyX4_ok hown (hts0 (.classLink RL 14 RX4) (by decide +kernel)) (hts0 (.instantiable RX4 4) (by decide +kernel)) (hts0 (.initialized RX4) (by decide +kernel)) hK hW.1 hW.2.1 hW.2.2 hA rfl (fun j hj => by rcases (show j = 0 ∨ j = 1 ∨ j = 2 ∨ j = 3 by omega) with rfl | rfl | rfl | rfl <;> rfl) (Nat.le_of_ble_eq_true rfl) (Nat.le_of_ble_eq_true rfl) dL_law_0 (fun h H h1 h2 h3 => ?_)
  have hW : Wd (dC, dI) (fun q : Nat => s.heap.size ≤ q) s.heap [(h, .inr (4, [.null, .null, .null, .null]))] H [] := And.intro h1 (And.intro h2 h3)
  refine lv_dup hx hb dL_law_3 rfl ?_
  have hPc := hW.1.sub (ws' := [(h, .inr (4, [.null, .null, .null, .null]))]) [0] rfl
  have hDc := hW.2.1.sub (ws' := [(h, .inr (4, [.null, .null, .null, .null]))]) [0] (by decide) rfl
  have hFc := va_free (wc := [(h, .inr (4, [.null, .null, .null, .null]))]) hW.2.1 hW.2.2 hA [0] rfl
  refine va_callv (va_runI (As := []) (rest := [.ref h]) ⟨hx, hb, hml, hown, hts⟩ (ok_X4_init l (dC, dI) h H.size (c0 (fun _ => 0)) rfl Pc hwC) (cwI 0 hts gL_law_X4_init rfl rfl rfl (hts0 (.initialized RX4) (by decide +kernel)) (hts0 (.methodLink RL 108 yX4_init) (by decide +kernel)) (hts0 (.instanceMethod yX4_init) (by decide +kernel)) rfl (by decide +kernel) ⟨(Nat.le_of_ble_eq_true rfl), (Nat.le_of_ble_eq_true rfl)⟩) ⟨NX4_blind, fun U hU hWm => ⟨rfl, ⟨by rw [hU], by rw [hU]; exact hPc, va_K.moved hWm.alike (hK.sub [] rfl), hDc.weaken (fun _ _ _ _ => trivial)⟩, NX4.warm hWm hnx⟩⟩ rfl rfl hl.1 rfl (lv_room (Nat.le_of_ble_eq_true rfl)) dL_law_4 ⟨(Nat.le_of_ble_eq_true rfl), (Nat.le_of_ble_eq_true rfl)⟩) hW.2.2 (fun q _ h => hFc q h) hFc (fun u t H1 locs ht hvm hw1 hB hz1 hk1 hS1 => ?_)
  obtain ⟨a, cI, cJ, σ⟩ := u
  obtain ⟨hP1, hK1, hD1⟩ := hB
  rw [ht] at hP1
  have hK1 := va_K.moved hvm.symm hK1
  obtain ⟨rfl, hpC⟩ := hw1
  obtain ⟨hP, hD⟩ := va_join (wr := []) (w1 := cW cI cJ a σ) hW.1 hW.2.1 [0] [] rfl rfl (by decide) (by decide) hk1 hFc hP1 hD1
  rw [List.nil_append] at hP hD
  have hK : va_K (dC, dI) vwCl (tysIJ cI cJ) s := hK1
  have hW : Wd (dC, dI) (fun q : Nat => s.heap.size ≤ q) s.heap (cW cI cJ a σ) H1 locs := And.intro hP (And.intro hD hS1)
  generalize H1 = H at hW ⊢
  refine lv_astore_n (lv' := [(1, .ref (a 0)), (0, .ref b)]) hx hb dL_law_7 rfl hl (by decide) rfl (fun ls hl => ?_)
  refine W.widen (k := 20) (n := 2000) (Nat.le_of_ble_eq_true rfl) (Nat.le_of_ble_eq_true rfl) ?_
  refine sg_L_law_8 (K := fun v2 v3 σ1 => v2 = 1 ∧ v3 = nI 0 ∧ J 0 σ1) hx hb hml hts hown hK hA hX hbl hbA hL ?_ σ H locs ls (h0 σ hpC) hW (lv_sub hl [1, 0] rfl)
  intro σ1 v2 v3 H locs ls hk hW hl
  obtain ⟨rfl, rfl, hJ1⟩ := hk
  exact law_loop C0 hK hL J hJ 50 0 σ1 H locs ls rfl hJ1 hW hl
