/-- the last cell of a world may stand ahead of its middle -/
theorem va_Pperm {D : va_G} {w1 w2 w3 : va_W} {H : Heap} (h : va_P D vwCl (w1 ++ w3 ++ w2) H) : va_P D vwCl (w1 ++ (w2 ++ w3)) H := by
  have h1 := pAppL (pAppL h)
  have h2 := pAppR h
  have h3 := pAppR (pAppL h)
  exact va_P.app h1 (va_P.app h2 h3)
theorem va_Dperm {A : Nat → Prop} {w1 w2 w3 : va_W} (h : va_D A (w1 ++ w3 ++ w2)) : va_D A (w1 ++ (w2 ++ w3)) := by
  have h13 := dAppL h
  refine va_D.app (dAppL h13) (va_D.app (dAppR h) (dAppR h13) (fun i j x y hx hy => ?_)) (fun i j x y hx hy => ?_)
  · intro e
    have h1 := (List.getElem?_eq_some_iff.mp hy).1
    exact dApart h (w1.length + j) i y x (by rw [List.getElem?_append_right (Nat.le_add_right _ _), Nat.add_sub_cancel_left]; exact hy) hx e.symm
  · intro e
    rcases Nat.lt_or_ge j w2.length with q | q
    · rw [List.getElem?_append_left q] at hy
      have h1 := (List.getElem?_eq_some_iff.mp hx).1
      exact dApart h i j x y (by rw [List.getElem?_append_left h1]; exact hx) hy e
    · rw [List.getElem?_append_right q] at hy
      exact dApart h13 i (j - w2.length) x y hx hy e
/-- what holds of the statics, the texts and the classes at the law's entry -/
theorem str_of {own tx : String} {k : Nat} {A : Array Value} {s : State} (h1 : (Cond.stringRef own k tx).before A s = true) (h2 : (Cond.exactly (.string own k) "java/lang/String").before A s = true) : ∃ sa : Nat, vk_R own k tx sa s := by
  obtain ⟨b9, cB, cell, kB, hb9, -⟩ := Cond.exactly_spec h2
  refine ⟨b9, vk_R.of h1 ?_⟩
  rw [← hb9]
set_option maxHeartbeats 4000000 in
set_option maxRecDepth 100000 in
theorem sx_start {p : Program} {s : State} {m : MethodId} {meth : Method} {c : Code} {b L : Nat} {xs : Nat → Int32} (C0 : lw_At p s m meth c b L xs) : SX s := by
  obtain ⟨hx, hb, hr, hml, hown, hts, hX, hbl, hlocks, hgv⟩ := C0
  exact ⟨str_of (hts (.stringRef RX4 119 "the buffer is not a complete auction") (by decide +kernel)) (flat_of_before _ hgv (.exactly (.string RX4 119) "java/lang/String") (by decide +kernel)), str_of (hts (.stringRef RX4 152 "no such number of a spot") (by decide +kernel)) (flat_of_before _ hgv (.exactly (.string RX4 152) "java/lang/String") (by decide +kernel)), str_of (hts (.stringRef RX4 160 "no such number of a bidder") (by decide +kernel)) (flat_of_before _ hgv (.exactly (.string RX4 160) "java/lang/String") (by decide +kernel)), str_of (hts (.stringRef RX4 174 "no such count") (by decide +kernel)) (flat_of_before _ hgv (.exactly (.string RX4 174) "java/lang/String") (by decide +kernel)), str_of (hts (.stringRef RX4 265 "no such spot, bidder or setting") (by decide +kernel)) (flat_of_before _ hgv (.exactly (.string RX4 265) "java/lang/String") (by decide +kernel)), str_of (hts (.stringRef RX4 268 "a number is out of range") (by decide +kernel)) (flat_of_before _ hgv (.exactly (.string RX4 268) "java/lang/String") (by decide +kernel)), str_of (hts (.stringRef RX4 272 "that can not be done now") (by decide +kernel)) (flat_of_before _ hgv (.exactly (.string RX4 272) "java/lang/String") (by decide +kernel)), va_Nw.of rfl (hts (.castable "java/lang/IndexOutOfBoundsException" "java/lang/IndexOutOfBoundsException") (by decide +kernel)), va_Nw.of rfl (hts (.castable "java/lang/IllegalArgumentException" "java/lang/IllegalArgumentException") (by decide +kernel)), va_Nw.of rfl (hts (.castable "java/lang/IllegalStateException" "java/lang/IllegalStateException") (by decide +kernel)), va_Nw.of rfl (hts (.declares (Bundle.initS "java/lang/RuntimeException")) (by decide +kernel)), va_Nw.of rfl (hts (.declares (Bundle.initS "java/lang/Exception")) (by decide +kernel)), va_Nw.of rfl (hts (.declares (Bundle.initS "java/lang/Throwable")) (by decide +kernel))⟩
set_option maxHeartbeats 4000000 in
set_option maxRecDepth 100000 in
theorem zx_start {p : Program} {s : State} {m : MethodId} {meth : Method} {c : Code} {b L : Nat} {xs : Nat → Int32} (C0 : lw_At p s m meth c b L xs) : ZX (fun q : Nat => s.heap.size ≤ q) s s.heap := by
  obtain ⟨hx, hb, hr, hml, hown, hts, hX, hbl, hlocks, hgv⟩ := C0
  have hA : ∀ q : Nat, q < s.heap.size → ¬ (fun q : Nat => s.heap.size ≤ q) q := fun q h1 h2 => absurd h1 (Nat.not_lt.mpr h2)
  exact ⟨vx_Zqof (hts (.laysStatic Bundle.tN "UNASSIGNED_STACK" Bundle.steD) (by decide +kernel)) (hts (.initialized Bundle.tN) (by decide +kernel)) (flat_of_before _ hgv (.isRef (.static Bundle.tN "UNASSIGNED_STACK" Bundle.steD)) (by decide +kernel)) hA, vx_Zqof (hts (.laysStatic Bundle.tN "SUPPRESSED_SENTINEL" Bundle.listD) (by decide +kernel)) (hts (.initialized Bundle.tN) (by decide +kernel)) (flat_of_before _ hgv (.isRef (.static Bundle.tN "SUPPRESSED_SENTINEL" Bundle.listD)) (by decide +kernel)) hA⟩
set_option maxHeartbeats 4000000 in
set_option maxRecDepth 100000 in
theorem nc_start {p : Program} {s : State} {m : MethodId} {meth : Method} {c : Code} {b L : Nat} {xs : Nat → Int32} (C0 : lw_At p s m meth c b L xs) : NCX s := by
  obtain ⟨hx, hb, hr, hml, hown, hts, hX, hbl, hlocks, hgv⟩ := C0
  exact ⟨va_Nc.of (flat_of_before _ hgv (.not (.castable "java/lang/IllegalArgumentException" "java/lang/IndexOutOfBoundsException")) (by decide +kernel)), va_Nc.of (flat_of_before _ hgv (.not (.castable "java/lang/IllegalStateException" "java/lang/IndexOutOfBoundsException")) (by decide +kernel)), va_Nc.of (flat_of_before _ hgv (.not (.castable "java/lang/IllegalStateException" "java/lang/IllegalArgumentException")) (by decide +kernel))⟩
set_option maxHeartbeats 4000000 in
set_option maxRecDepth 100000 in
theorem nx_start {p : Program} {s : State} {m : MethodId} {meth : Method} {c : Code} {b L : Nat} {xs : Nat → Int32} (C0 : lw_At p s m meth c b L xs) : NX4 s := by
  obtain ⟨hx, hb, hr, hml, hown, hts, hX, hbl, hlocks, hgv⟩ := C0
  exact ⟨va_Nw.of rfl (hts (.methodLinkNest RX4 18 yX1_init RX4) (by decide +kernel)), va_Nw.of rfl (hts (.methodLinkNest RX4 25 yX0_init RX4) (by decide +kernel)), va_Nw.of rfl (hts (.methodLinkNest RX4 32 yX3_init RX4) (by decide +kernel))⟩
set_option maxHeartbeats 4000000 in
set_option maxRecDepth 100000 in
theorem start_of {p : Program} {e : Env} {s : State} {m : MethodId} {below : List Frame} {meth : Method} {c : Code} (l : Launch) (hflags : l.flags = flags0) {b L : Nat} {xs : Nat → Int32} (hL : L ≤ 2560) (C0 : lw_At p s m meth c b L xs) (J : Nat → CS → MS → Prop) (hJ : PC J) (Pc : CS → Prop) (hwC : wp_X2_init (c0 (fun _ => 0)) (fun σ1 => Pc (c0 (c_row σ1)))) (Pm : MS → Prop) (hwM : wp_X5_init Pm) (h0 : ∀ σ μ, Pc σ → Pm μ → J 0 σ μ) : W p l e room_1 s m #[Value.ref b] below meth c s.heap [] 0 0 (lw_Z below #[Value.ref b] s) (entryFrame m ([Value.ref b] : List Value).toArray 9) := by
  have hst : l.stackTraces = false := by rw [Launch.stackTraces, hflags]; decide +kernel
  have hs := sx_start C0
  have hz := zx_start C0
  have hnc := nc_start C0
  have hnx := nx_start C0
  obtain ⟨hx, hb, hr, hml, hown, hts0, hX, hbl, hlocks, hgv⟩ := id C0
  have hts : ∀ w ∈ wsL_law, w.before #[Value.ref b] s = true := fun w h => hts0 w (wsL_law_in w h)
  have hA : ∀ q : Nat, s.heap.size ≤ q → (fun q : Nat => s.heap.size ≤ q) q := fun _ h => h
  obtain ⟨k0, i0, hn0⟩ := u_known (C := RX0) (T := TX0) (N := 4) (n := 4) hts0 inX0 (hts0 (.instantiable RX0 4) (by decide +kernel))
  obtain ⟨k1, i1, hn1⟩ := u_known (C := RX1) (T := TX1) (N := 2) (n := 2) hts0 inX1 (hts0 (.instantiable RX1 2) (by decide +kernel))
  obtain ⟨k2, i2, hn2⟩ := u_known (C := RX2) (T := TX2) (N := 1) (n := 1) hts0 inX2 (hts0 (.instantiable RX2 1) (by decide +kernel))
  obtain ⟨k3, i3, hn3⟩ := u_known (C := RX3) (T := TX3) (N := 2) (n := 2) hts0 inX3 (hts0 (.instantiable RX3 2) (by decide +kernel))
  obtain ⟨k4, i4, hn4⟩ := u_known (C := RX4) (T := TX4) (N := 4) (n := 4) hts0 inX4 (hts0 (.instantiable RX4 4) (by decide +kernel))
  obtain ⟨k5, i5, hn5⟩ := u_known (C := RX5) (T := TX5) (N := 18) (n := 18) hts0 inX5 (hts0 (.instantiable RX5 18) (by decide +kernel))
  obtain ⟨dC, dI, hKc⟩ : ∃ (dC : Nat → ClassId) (dI : Nat → Nat → Nat), ∀ (k : Nat) (q : vw_C), vwCl[k]? = some q → u_Kn s q.1 q.2.1 q.2.2 (dC k) (dI k) := by
    refine ⟨fun k => match k with | 0 => k0 | 1 => k1 | 2 => k2 | 3 => k3 | 4 => k4 | _ => k5, fun k => match k with | 0 => i0 | 1 => i1 | 2 => i2 | 3 => i3 | 4 => i4 | _ => i5, ?_⟩
    intro k q hq
    match k, hq with
    | 0, hq => cases hq; exact hn0
    | 1, hq => cases hq; exact hn1
    | 2, hq => cases hq; exact hn2
    | 3, hq => cases hq; exact hn3
    | 4, hq => cases hq; exact hn4
    | 5, hq => cases hq; exact hn5
    | k + 6, hq => simp [vwCl] at hq
  have hK : va_K (dC, dI) vwCl [] s := ⟨hKc, fun k q h => by simp at h⟩
  have hW : Wd (dC, dI) (fun q : Nat => s.heap.size ≤ q) s.heap [] s.heap [] := ⟨fun k q h => by simp at h, ⟨fun i j p q h => by simp at h, fun k q h => by simp at h⟩, va_S.rf⟩
  have hl := lv_entry ([.ref b]) (n := 9) (Nat.le_of_ble_eq_true rfl)
  rw [lg_entry_eq]
  generalize (lg_sl ([.ref b]) ++ List.replicate (9 - (lg_sl ([.ref b])).length) Slot.unset).toArray = ls at hl ⊢
  have hl : lv_has ls 9 [(0, .ref b)] := hl
  refine va_new (ci := 4) (fs := [.null, .null, .null, .null]) (C := RX4) (T := TX4) (N := 4) hx hb hts0 inX4 tyX4 tyX4_ok hown (hts0 (.classLink RL 8 RX4) (by decide +kernel)) (hts0 (.instantiable RX4 4) (by decide +kernel)) (hts0 (.initialized RX4) (by decide +kernel)) hK hW.1 hW.2.1 hW.2.2 hA rfl (fun j hj => by rcases (show j = 0 ∨ j = 1 ∨ j = 2 ∨ j = 3 by omega) with rfl | rfl | rfl | rfl <;> rfl) (Nat.le_of_ble_eq_true rfl) (Nat.le_of_ble_eq_true rfl) dL_law_0 (fun h H h1 h2 h3 => ?_)
  have hW : Wd (dC, dI) (fun q : Nat => s.heap.size ≤ q) s.heap [(h, .inr (4, [.null, .null, .null, .null]))] H [] := And.intro h1 (And.intro h2 h3)
  refine lv_dup hx hb dL_law_3 rfl ?_
  have hPc := hW.1.sub (ws' := [(h, .inr (4, [.null, .null, .null, .null]))]) [0] rfl
  have hDc := hW.2.1.sub (ws' := [(h, .inr (4, [.null, .null, .null, .null]))]) [0] (by decide) rfl
  have hFc := va_free (wc := [(h, .inr (4, [.null, .null, .null, .null]))]) hW.2.1 hW.2.2 hA [0] rfl
  refine va_callv (va_runI (As := []) (rest := [.ref h]) ⟨hx, hb, hml, hown, hts⟩ (ok_X4_init l (dC, dI) h H.size (c0 (fun _ => 0)) rfl Pc hwC) (cwI 0 hts gL_law_X4_init rfl rfl rfl (hts0 (.initialized RX4) (by decide +kernel)) (hts0 (.methodLink RL 86 yX4_init) (by decide +kernel)) (hts0 (.instanceMethod yX4_init) (by decide +kernel)) rfl (by decide +kernel) ⟨(Nat.le_of_ble_eq_true rfl), (Nat.le_of_ble_eq_true rfl)⟩) ⟨NX4_blind, fun U hU hWm => ⟨rfl, ⟨by rw [hU], by rw [hU]; exact hPc, va_K.moved hWm.alike (hK.sub [] rfl), hDc.weaken (fun _ _ _ _ => trivial)⟩, NX4.warm hWm hnx⟩⟩ rfl rfl hl.1 rfl (lv_room (Nat.le_of_ble_eq_true rfl)) dL_law_4 ⟨(Nat.le_of_ble_eq_true rfl), (Nat.le_of_ble_eq_true rfl)⟩) hW.2.2 (fun q _ h => hFc q h) hFc (fun u t H1 locs ht hvm hw1 hB hz1 hk1 hS1 => ?_)
  obtain ⟨a, cI, cJ, σ⟩ := u
  obtain ⟨hP1, hK1, hD1⟩ := hB
  rw [ht] at hP1
  have hK1 := va_K.moved hvm.symm hK1
  obtain ⟨rfl, hpC⟩ := hw1
  obtain ⟨hP, hD⟩ := va_join (wr := []) (w1 := cW cI cJ a σ) hW.1 hW.2.1 [0] [] rfl rfl (by decide) (by decide) hk1 hFc hP1 hD1
  rw [List.nil_append] at hP hD
  have hK : va_K (dC, dI) vwCl (tysIJ cI cJ) s := hK1
  have hW : Wd (dC, dI) (fun q : Nat => s.heap.size ≤ q) s.heap (cW cI cJ a σ) H1 locs := And.intro hP (And.intro hD hS1)
  generalize H1 = H at hW ⊢
  refine lv_astore_n (lv' := [(1, .ref (a 0)), (0, .ref b)]) hx hb dL_law_7 rfl hl (by decide) rfl (fun ls hl => ?_)
  refine va_new (ci := 5) (fs := [.int 0, .null, .int 0, .int 0, .null, .int 0, .int 0, .int 0, .int 0, .int 0, .int 0, .int 0, .int 0, .int 0, .null, .null, .null, .long 0]) (C := RX5) (T := TX5) (N := 18) hx hb hts0 inX5 tyX5 tyX5_ok hown (hts0 (.classLink RL 87 RX5) (by decide +kernel)) (hts0 (.instantiable RX5 18) (by decide +kernel)) (hts0 (.initialized RX5) (by decide +kernel)) hK hW.1 hW.2.1 hW.2.2 hA rfl (fun j hj => by rcases (show j = 0 ∨ j = 1 ∨ j = 2 ∨ j = 3 ∨ j = 4 ∨ j = 5 ∨ j = 6 ∨ j = 7 ∨ j = 8 ∨ j = 9 ∨ j = 10 ∨ j = 11 ∨ j = 12 ∨ j = 13 ∨ j = 14 ∨ j = 15 ∨ j = 16 ∨ j = 17 by omega) with rfl | rfl | rfl | rfl | rfl | rfl | rfl | rfl | rfl | rfl | rfl | rfl | rfl | rfl | rfl | rfl | rfl | rfl <;> rfl) (Nat.le_of_ble_eq_true rfl) (Nat.le_of_ble_eq_true rfl) dL_law_8 (fun h H h1 h2 h3 => ?_)
  have hW : Wd (dC, dI) (fun q : Nat => s.heap.size ≤ q) s.heap (cW cI cJ a σ ++ [(h, .inr (5, [.int 0, .null, .int 0, .int 0, .null, .int 0, .int 0, .int 0, .int 0, .int 0, .int 0, .int 0, .int 0, .int 0, .null, .null, .null, .long 0]))]) H locs := And.intro h1 (And.intro h2 h3)
  refine lv_dup hx hb dL_law_11 rfl ?_
  have hWr := hW.right
  have hFr := hWr.free hA
  refine va_callv (va_runI (As := []) (rest := [.ref h]) ⟨hx, hb, hml, hown, hts⟩ (ok_X5_init l (dC, dI) cI cJ h H.size Pm hwM) (cwI 0 hts gL_law_X5_init rfl rfl rfl (hts0 (.initialized RX5) (by decide +kernel)) (hts0 (.methodLink RL 89 yX5_init) (by decide +kernel)) (hts0 (.instanceMethod yX5_init) (by decide +kernel)) rfl (by decide +kernel) ⟨(Nat.le_of_ble_eq_true rfl), (Nat.le_of_ble_eq_true rfl)⟩) ⟨N_blind, fun U hU hWm => ⟨rfl, ⟨by rw [hU], by rw [hU]; exact hWr.1, va_K.moved hWm.alike hK, hWr.2.1.weaken (fun _ _ _ _ => trivial)⟩, trivial⟩⟩ rfl rfl hl.1 rfl (lv_room (Nat.le_of_ble_eq_true rfl)) dL_law_12 ⟨(Nat.le_of_ble_eq_true rfl), (Nat.le_of_ble_eq_true rfl)⟩) hW.2.2 (fun q _ h => hFr q h) hFr (fun u t H1 locs1 ht hvm hw1 hB hz1 hk1 hS1 => ?_)
  obtain ⟨bb, μ⟩ := u
  obtain ⟨hP1, hK1, hD1⟩ := hB
  obtain ⟨rfl, hpM⟩ := hw1
  have hW : Wd (dC, dI) (fun q : Nat => s.heap.size ≤ q) s.heap (cW cI cJ a σ ++ mW cI cJ bb μ) H1 locs1 := hW.rejoinR hA hk1 (by rw [← ht]; exact hP1) hD1 hS1
  generalize H1 = H at hW ⊢
  refine lv_astore_n (lv' := [(2, .ref (bb 0)), (1, .ref (a 0)), (0, .ref b)]) hx hb dL_law_15 rfl hl (by decide) rfl (fun ls hl => ?_)
  refine lv_iconst (v := 1) hx hb dL_law_16 (by decide) ?_
  refine va_newa (atype := .long) (ty := .long) (a0 := (1, .inr (.inl (fun _ => 0)))) (N' := 1) hx hb (hts0 (.arrayClass .long) (by decide +kernel)) rfl hK hW.1 hW.2.1 hW.2.2 hA (fun _ => rfl) (by decide) rfl (by decide) (Nat.le_of_ble_eq_true rfl) (Nat.le_of_ble_eq_true rfl) dL_law_17 (fun o cO H hK h1 h2 h3 => ?_)
  obtain rfl : cO = cJ := cid_eqL hK 1 2 rfl rfl
  have hK : va_K (dC, dI) vwCl (tysIJ cI cO) s := hK.sub [0, 1] rfl
  have hP : va_P (dC, dI) vwCl (hWW cI cO a o σ (fun _ => 0) ++ mW cI cO bb μ) H := by
    rw [hWW_assoc]
    exact va_Pperm h1
  have hD : va_D (fun q : Nat => s.heap.size ≤ q) (hWW cI cO a o σ (fun _ => 0) ++ mW cI cO bb μ) := by
    rw [hWW_assoc]
    exact va_Dperm h2
  have hW : Wd (dC, dI) (fun q : Nat => s.heap.size ≤ q) s.heap (hWW cI cO a o σ (fun _ => 0) ++ mW cI cO bb μ) H locs1 := ⟨hP, hD, h3⟩
  refine lv_astore_n (lv' := [(3, .ref o), (2, .ref (bb 0)), (1, .ref (a 0)), (0, .ref b)]) hx hb dL_law_19 rfl hl (by decide) rfl (fun ls hl => ?_)
  refine lv_iconst (v := 0) hx hb dL_law_20 (by decide) ?_
  refine lv_istore (lv' := [(4, .int 0), (3, .ref o), (2, .ref (bb 0)), (1, .ref (a 0)), (0, .ref b)]) hx hb dL_law_21 hl (by decide) rfl (fun ls hl => ?_)
  exact law_loop hst C0 hK hz hs hnc hL J hJ 513 0 _ _ σ _ μ H locs1 ls rfl (Nat.le_of_ble_eq_true rfl) (Nat.le_of_ble_eq_true rfl) (h0 σ μ hpC hpM) hW (lv_sub hl [4, 3, 2, 1, 0] rfl)
