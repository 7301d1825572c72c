def wp_X0_dropOldest (σ : CS) (post : CS → Prop) : Prop := ∃ I1 : Nat → Int32 → CS → Prop, (∃ n : Nat, I1 n 0 (σ)) ∧ ∀ (n1 : Nat) (v1_1 : Int32) (σ_1 : CS), I1 n1 v1_1 σ_1 → ((1044 ≤ (v1_1 + 174) → ∀ σ_2 : CS, σ_2 = cs_saved σ_1 ((c_saved σ_1) - 1) → post σ_2) ∧ (¬ 1044 ≤ (v1_1 + 174) → vp_in (v1_1 + 174) 1044 ∧ vp_in v1_1 1044 ∧ ∀ σ_3 : CS, σ_3 = cs_rows σ_1 (upd (c_rows σ_1) (v1_1).toNatClampNeg ((c_rows σ_1) (v1_1 + 174).toNatClampNeg)) → ∀ v1_4 : Int32, v1_4 = v1_1 + 1 → ∃ n' : Nat, n' < n1 ∧ I1 n' v1_4 (σ_3)))
abbrev rm_X0_dropOldest : Room := { frames := 0, cells := 0, slots := 0, locals := 0 }
theorem in_X0_dropOldest_X0 : ∀ w ∈ wsX00, w ∈ wsX0_dropOldest := fun w h => List.mem_cons_of_mem _ (List.mem_append_right _ (h))
set_option maxHeartbeats 4000000 in
set_option maxRecDepth 100000 in
theorem ok_X0_dropOldest (l : Launch) (D : va_G) (cI cJ : ClassId) (a : Nat → Nat) (sz : Nat) (σ : CS) (post : CS → Prop) (hw : wp_X0_dropOldest σ post) : Mv l yX0_dropOldest wsX0_dropOldest rm_X0_dropOldest [.ref (a 6)] D (tysIJ cI cJ) (cW cI cJ a σ) sz post (cW cI cJ a) := by
  refine s_Mv (by decide) rfl (Nat.le_of_ble_eq_true rfl) ?_
  intro p e s m args below meth c A Q hx hb hml hts hown hin hK hA hret H locs ls hW hl
  have hown : s.vm.findClass RX0 = some m.cls := hown
  have hl : lv_has ls 2 [(0, .ref (a 6))] := hl
  have hinX0 := in_X0_dropOldest_X0
  refine lv_iconst (v := 0) hx hb dX0_dropOldest_0 (by decide) ?_
  refine lv_istore_n (lv' := [(1, .int 0), (0, .ref (a 6))]) hx hb dX0_dropOldest_1 rfl hl (by decide) rfl (fun ls hl => ?_)
  obtain ⟨I1, ⟨n1, hI1⟩, hJ1⟩ := hw
  have hl : lv_has ls 2 [(0, .ref (a 6)), (1, .int 0)] := lv_sub hl [1, 0] rfl
  suffices LP1 : ∀ (n : Nat) (v1_1 : Int32) (σ_1 : CS) (H : Heap) (locs : List Loc) (ls : Array Slot), I1 n v1_1 σ_1 → Wd D A s.heap (cW cI cJ a σ_1) H locs → lv_has ls 2 [(0, .ref (a 6)), (1, .int v1_1)] → W p l e rm_X0_dropOldest s m args below meth c H locs 0 0 Q (F0 m 2 ls []) from LP1 n1 0 _ H locs ls hI1 hW hl
  intro n1
  induction n1 using Nat.strongRecOn with
  | ind n1 ih1 =>
    intro v1_1 σ_1 H locs ls hIn hW hl
    have hw := hJ1 n1 v1_1 σ_1 hIn
    refine lv_iload_n hx hb dX0_dropOldest_2 rfl (lv_at hl 1 rfl) ?_
    refine lv_sipush (v := 174) hx hb dX0_dropOldest_3 (by decide) ?_
    refine lv_iadd hx hb dX0_dropOldest_6 ?_
    refine lv_aload_n hx hb dX0_dropOldest_7 rfl (lv_at hl 0 rfl) ?_
    refine va_get (D := D) (ci := 0) (v := .ref (a 7)) (C := RX0) (T := TX0) (N := 4) hx hb hts hinX0 hown hK hW.1 6 rfl rfl 0 (by decide) (hts _ (List.mem_of_getElem? (i := 1) rfl)) (fun _ h9 => h9) rfl dX0_dropOldest_8 ?_
    refine va_alen (v := 1044) hx hb hK hW.1 7 0 rfl rfl rfl dX0_dropOldest_11 ?_
    refine lv_icmp_ge (tgt := 37) hx hb dX0_dropOldest_12 (by decide) (fun hc => ?_) (fun hc => ?_)
    · have hw := hw.1 hc
      refine lv_aload_n hx hb dX0_dropOldest_37 rfl (lv_at hl 0 rfl) ?_
      refine lv_dup hx hb dX0_dropOldest_38 rfl ?_
      refine va_get (D := D) (ci := 0) (v := .int (c_saved σ_1)) (C := RX0) (T := TX0) (N := 4) hx hb hts hinX0 hown hK hW.1 6 rfl rfl 1 (by decide) (hts _ (List.mem_of_getElem? (i := 2) rfl)) (fun _ h9 => h9) rfl dX0_dropOldest_39 ?_
      refine lv_iconst (v := 1) hx hb dX0_dropOldest_42 (by decide) ?_
      refine lv_isub hx hb dX0_dropOldest_43 ?_
      refine pf_c_saved hx hb hts hinX0 hown hK hW (hts _ (List.mem_of_getElem? (i := 2) rfl)) dX0_dropOldest_44 (fun σ_2 eσ_2 H locs hW => ?_)
      have hw := hw σ_2 eσ_2
      exact hret σ_2 _ _ _ _ hw hW dX0_dropOldest_47
    · have hw := hw.2 hc
      refine lv_aload_n hx hb dX0_dropOldest_15 rfl (lv_at hl 0 rfl) ?_
      refine va_get (D := D) (ci := 0) (v := .ref (a 7)) (C := RX0) (T := TX0) (N := 4) hx hb hts hinX0 hown hK hW.1 6 rfl rfl 0 (by decide) (hts _ (List.mem_of_getElem? (i := 1) rfl)) (fun _ h9 => h9) rfl dX0_dropOldest_16 ?_
      refine lv_iload_n hx hb dX0_dropOldest_19 rfl (lv_at hl 1 rfl) ?_
      refine lv_aload_n hx hb dX0_dropOldest_20 rfl (lv_at hl 0 rfl) ?_
      refine va_get (D := D) (ci := 0) (v := .ref (a 7)) (C := RX0) (T := TX0) (N := 4) hx hb hts hinX0 hown hK hW.1 6 rfl rfl 0 (by decide) (hts _ (List.mem_of_getElem? (i := 1) rfl)) (fun _ h9 => h9) rfl dX0_dropOldest_21 ?_
      refine lv_iload_n hx hb dX0_dropOldest_24 rfl (lv_at hl 1 rfl) ?_
      refine lv_sipush (v := 174) hx hb dX0_dropOldest_25 (by decide) ?_
      refine lv_iadd hx hb dX0_dropOldest_28 ?_
      refine va_iald hx hb hK hW.1 7 0 rfl rfl hw.1 dX0_dropOldest_29 ?_
      have hw := hw.2
      refine st_c_rows hx hb hK hW hw.1 dX0_dropOldest_30 (fun σ_3 eσ_3 H locs hW => ?_)
      have hw := hw.2
      have hw := hw σ_3 eσ_3
      obtain ⟨v1_4, ev1_4⟩ : ∃ y : Int32, y = v1_1 + 1 := ⟨_, rfl⟩
      have hw := hw v1_4 ev1_4
      refine lv_iinc (v := v1_4) (lv' := [(1, .int v1_4), (0, .ref (a 6))]) hx hb dX0_dropOldest_31 hl (k := 1) rfl (by rw [ev1_4]; rfl) (by decide) rfl (fun ls hl => ?_)
      refine lv_goto (tgt := 2) hx hb dX0_dropOldest_34 (by decide) ?_
      obtain ⟨n9, hlt9, hI9⟩ := hw
      exact ih1 n9 hlt9 _ _ _ _ _ hI9 hW (lv_sub hl [1, 0] rfl)
def wp_X0_save (σ : CS) (post : CS → Prop) : Prop := ((¬ (c_saved σ) = 6 → wp_X2_copyTo_r σ ((c_saved σ) * 174) (fun σ_1 => ∀ σ_2 : CS, σ_2 = cs_saved σ_1 ((c_saved σ_1) + 1) → post σ_2)) ∧ ((c_saved σ) = 6 → wp_X0_dropOldest σ (fun σ_3 => wp_X2_copyTo_r σ_3 ((c_saved σ_3) * 174) (fun σ_4 => ∀ σ_5 : CS, σ_5 = cs_saved σ_4 ((c_saved σ_4) + 1) → post σ_5))))
abbrev rm_X0_save : Room := { frames := 3, cells := 0, slots := 0, locals := 68 }
theorem in_X0_save_X0 : ∀ w ∈ wsX00, w ∈ wsX0_save := fun w h => List.mem_cons_of_mem _ (List.mem_append_left _ (List.mem_append_right _ (h)))
set_option maxHeartbeats 4000000 in
set_option maxRecDepth 100000 in
theorem ok_X0_save (l : Launch) (D : va_G) (cI cJ : ClassId) (a : Nat → Nat) (sz : Nat) (σ : CS) (post : CS → Prop) (hw : wp_X0_save σ post) : Mv l yX0_save wsX0_save rm_X0_save [.ref (a 6), .ref (a 1)] D (tysIJ cI cJ) (cW cI cJ a σ) sz post (cW cI cJ a) := by
  refine s_Mv (by decide) rfl (Nat.le_of_ble_eq_true rfl) ?_
  intro p e s m args below meth c A Q hx hb hml hts hown hin hK hA hret H locs ls hW hl
  have hown : s.vm.findClass RX0 = some m.cls := hown
  have hl : lv_has ls 2 [(0, .ref (a 6)), (1, .ref (a 1))] := hl
  have hinX0 := in_X0_save_X0
  refine lv_aload_n hx hb dX0_save_0 rfl (lv_at hl 0 rfl) ?_
  refine va_get (D := D) (ci := 0) (v := .int (c_saved σ)) (C := RX0) (T := TX0) (N := 4) hx hb hts hinX0 hown hK hW.1 6 rfl rfl 1 (by decide) (hts _ (List.mem_of_getElem? (i := 1) rfl)) (fun _ h9 => h9) rfl dX0_save_1 ?_
  refine lv_bipush (v := 6) hx hb dX0_save_4 (by decide) ?_
  refine lv_icmp_ne (tgt := 13) hx hb dX0_save_6 (by decide) (fun hc => ?_) (fun hc => ?_)
  · have hw := hw.1 hc
    refine lv_aload_n hx hb dX0_save_13 rfl (lv_at hl 1 rfl) ?_
    refine lv_aload_n hx hb dX0_save_14 rfl (lv_at hl 0 rfl) ?_
    refine va_get (D := D) (ci := 0) (v := .ref (a 7)) (C := RX0) (T := TX0) (N := 4) hx hb hts hinX0 hown hK hW.1 6 rfl rfl 0 (by decide) (hts _ (List.mem_of_getElem? (i := 2) rfl)) (fun _ h9 => h9) rfl dX0_save_15 ?_
    refine lv_aload_n hx hb dX0_save_18 rfl (lv_at hl 0 rfl) ?_
    refine va_get (D := D) (ci := 0) (v := .int (c_saved σ)) (C := RX0) (T := TX0) (N := 4) hx hb hts hinX0 hown hK hW.1 6 rfl rfl 1 (by decide) (hts _ (List.mem_of_getElem? (i := 1) rfl)) (fun _ h9 => h9) rfl dX0_save_19 ?_
    refine lv_sipush (v := 174) hx hb dX0_save_22 (by decide) ?_
    refine lv_imul hx hb dX0_save_25 ?_
    refine kV_Mv (As := [.ref (a 7), .int ((c_saved σ) * 174)]) (rest := []) ⟨hx, hb, hml, hown, hts⟩ (ok_X2_copyTo_r l D cI cJ a _ _ _ _ hw) (cwV 2 hts gX0_save_X2_copyTo rfl rfl rfl (by decide +kernel) ⟨Nat.le_of_ble_eq_true rfl, Nat.le_of_ble_eq_true rfl⟩) hK hW hA 1 rfl rfl rfl hl.1 rfl (Nat.le_of_ble_eq_true rfl) dX0_save_26 ⟨Nat.le_of_ble_eq_true rfl, Nat.le_of_ble_eq_true rfl⟩ (fun σ_1 H locs hw hW => ?_)
    refine lv_aload_n hx hb dX0_save_29 rfl (lv_at hl 0 rfl) ?_
    refine lv_dup hx hb dX0_save_30 rfl ?_
    refine va_get (D := D) (ci := 0) (v := .int (c_saved σ_1)) (C := RX0) (T := TX0) (N := 4) hx hb hts hinX0 hown hK hW.1 6 rfl rfl 1 (by decide) (hts _ (List.mem_of_getElem? (i := 1) rfl)) (fun _ h9 => h9) rfl dX0_save_31 ?_
    refine lv_iconst (v := 1) hx hb dX0_save_34 (by decide) ?_
    refine lv_iadd hx hb dX0_save_35 ?_
    refine pf_c_saved hx hb hts hinX0 hown hK hW (hts _ (List.mem_of_getElem? (i := 1) rfl)) dX0_save_36 (fun σ_2 eσ_2 H locs hW => ?_)
    have hw := hw σ_2 eσ_2
    exact hret σ_2 _ _ _ _ hw hW dX0_save_39
  · have hw := hw.2 hc
    refine lv_aload_n hx hb dX0_save_9 rfl (lv_at hl 0 rfl) ?_
    refine kV_Mv (As := []) (rest := []) ⟨hx, hb, hml, hown, hts⟩ (ok_X0_dropOldest l D cI cJ a _ _ _ hw) (cwV 0 hts gX0_save_X0_dropOldest rfl rfl rfl (by decide +kernel) ⟨Nat.le_of_ble_eq_true rfl, Nat.le_of_ble_eq_true rfl⟩) hK hW hA 6 rfl rfl rfl hl.1 rfl (Nat.le_of_ble_eq_true rfl) dX0_save_10 ⟨Nat.le_of_ble_eq_true rfl, Nat.le_of_ble_eq_true rfl⟩ (fun σ_3 H locs hw hW => ?_)
    refine lv_aload_n hx hb dX0_save_13 rfl (lv_at hl 1 rfl) ?_
    refine lv_aload_n hx hb dX0_save_14 rfl (lv_at hl 0 rfl) ?_
    refine va_get (D := D) (ci := 0) (v := .ref (a 7)) (C := RX0) (T := TX0) (N := 4) hx hb hts hinX0 hown hK hW.1 6 rfl rfl 0 (by decide) (hts _ (List.mem_of_getElem? (i := 2) rfl)) (fun _ h9 => h9) rfl dX0_save_15 ?_
    refine lv_aload_n hx hb dX0_save_18 rfl (lv_at hl 0 rfl) ?_
    refine va_get (D := D) (ci := 0) (v := .int (c_saved σ_3)) (C := RX0) (T := TX0) (N := 4) hx hb hts hinX0 hown hK hW.1 6 rfl rfl 1 (by decide) (hts _ (List.mem_of_getElem? (i := 1) rfl)) (fun _ h9 => h9) rfl dX0_save_19 ?_
    refine lv_sipush (v := 174) hx hb dX0_save_22 (by decide) ?_
    refine lv_imul hx hb dX0_save_25 ?_
    refine kV_Mv (As := [.ref (a 7), .int ((c_saved σ_3) * 174)]) (rest := []) ⟨hx, hb, hml, hown, hts⟩ (ok_X2_copyTo_r l D cI cJ a _ _ _ _ hw) (cwV 2 hts gX0_save_X2_copyTo rfl rfl rfl (by decide +kernel) ⟨Nat.le_of_ble_eq_true rfl, Nat.le_of_ble_eq_true rfl⟩) hK hW hA 1 rfl rfl rfl hl.1 rfl (Nat.le_of_ble_eq_true rfl) dX0_save_26 ⟨Nat.le_of_ble_eq_true rfl, Nat.le_of_ble_eq_true rfl⟩ (fun σ_4 H locs hw hW => ?_)
    refine lv_aload_n hx hb dX0_save_29 rfl (lv_at hl 0 rfl) ?_
    refine lv_dup hx hb dX0_save_30 rfl ?_
    refine va_get (D := D) (ci := 0) (v := .int (c_saved σ_4)) (C := RX0) (T := TX0) (N := 4) hx hb hts hinX0 hown hK hW.1 6 rfl rfl 1 (by decide) (hts _ (List.mem_of_getElem? (i := 1) rfl)) (fun _ h9 => h9) rfl dX0_save_31 ?_
    refine lv_iconst (v := 1) hx hb dX0_save_34 (by decide) ?_
    refine lv_iadd hx hb dX0_save_35 ?_
    refine pf_c_saved hx hb hts hinX0 hown hK hW (hts _ (List.mem_of_getElem? (i := 1) rfl)) dX0_save_36 (fun σ_5 eσ_5 H locs hW => ?_)
    have hw := hw σ_5 eσ_5
    exact hret σ_5 _ _ _ _ hw hW dX0_save_39
def wp_X0_savedStates (σ : CS) (post : Int32 → Prop) : Prop := post (c_saved σ)
abbrev rm_X0_savedStates : Room := { frames := 0, cells := 0, slots := 0, locals := 0 }
theorem in_X0_savedStates_X0 : ∀ w ∈ wsX00, w ∈ wsX0_savedStates := fun w h => List.mem_cons_of_mem _ (List.mem_append_right _ (h))
set_option maxHeartbeats 4000000 in
set_option maxRecDepth 100000 in
theorem ok_X0_savedStates (l : Launch) (D : va_G) (cI cJ : ClassId) (a : Nat → Nat) (sz : Nat) (σ : CS) (post : Int32 → Prop) (hw : wp_X0_savedStates σ post) : Mi l yX0_savedStates wsX0_savedStates rm_X0_savedStates [.ref (a 6)] D (tysIJ cI cJ) (cW cI cJ a σ) sz (fun r (_ : Unit) => post r) (fun _ => cW cI cJ a σ) := by
  refine s_Mi (by decide) rfl (Nat.le_of_ble_eq_true rfl) ?_
  intro p e s m args below meth c A Q hx hb hml hts hown hin hK hA hret H locs ls hW hl
  have hown : s.vm.findClass RX0 = some m.cls := hown
  have hl : lv_has ls 1 [(0, .ref (a 6))] := hl
  have hinX0 := in_X0_savedStates_X0
  refine lv_aload_n hx hb dX0_savedStates_0 rfl (lv_at hl 0 rfl) ?_
  refine va_get (D := D) (ci := 0) (v := .int (c_saved σ)) (C := RX0) (T := TX0) (N := 4) hx hb hts hinX0 hown hK hW.1 6 rfl rfl 1 (by decide) (hts _ (List.mem_of_getElem? (i := 1) rfl)) (fun _ h9 => h9) rfl dX0_savedStates_1 ?_
  exact hret _ () _ _ _ _ hw hW dX0_savedStates_4
def wp_X0_restoreLatest (σ : CS) (post : CS → Prop) : Prop := (((c_saved σ) ≤ 0 → post σ) ∧ (¬ (c_saved σ) ≤ 0 → ∀ σ_1 : CS, σ_1 = cs_saved σ ((c_saved σ) - 1) → wp_X2_copyFrom_r σ_1 ((c_saved σ_1) * 174) (fun σ_2 => post σ_2)))
abbrev rm_X0_restoreLatest : Room := { frames := 2, cells := 0, slots := 0, locals := 48 }
theorem in_X0_restoreLatest_X0 : ∀ w ∈ wsX00, w ∈ wsX0_restoreLatest := fun w h => List.mem_cons_of_mem _ (List.mem_append_left _ (List.mem_append_right _ (h)))
set_option maxHeartbeats 4000000 in
set_option maxRecDepth 100000 in
theorem ok_X0_restoreLatest (l : Launch) (D : va_G) (cI cJ : ClassId) (a : Nat → Nat) (sz : Nat) (σ : CS) (post : CS → Prop) (hw : wp_X0_restoreLatest σ post) : Mv l yX0_restoreLatest wsX0_restoreLatest rm_X0_restoreLatest [.ref (a 6), .ref (a 1)] D (tysIJ cI cJ) (cW cI cJ a σ) sz post (cW cI cJ a) := by
  refine s_Mv (by decide) rfl (Nat.le_of_ble_eq_true rfl) ?_
  intro p e s m args below meth c A Q hx hb hml hts hown hin hK hA hret H locs ls hW hl
  have hown : s.vm.findClass RX0 = some m.cls := hown
  have hl : lv_has ls 2 [(0, .ref (a 6)), (1, .ref (a 1))] := hl
  have hinX0 := in_X0_restoreLatest_X0
  refine lv_aload_n hx hb dX0_restoreLatest_0 rfl (lv_at hl 0 rfl) ?_
  refine va_get (D := D) (ci := 0) (v := .int (c_saved σ)) (C := RX0) (T := TX0) (N := 4) hx hb hts hinX0 hown hK hW.1 6 rfl rfl 1 (by decide) (hts _ (List.mem_of_getElem? (i := 1) rfl)) (fun _ h9 => h9) rfl dX0_restoreLatest_1 ?_
  refine lv_if_le (tgt := 33) hx hb dX0_restoreLatest_4 (by decide) (fun hc => ?_) (fun hc => ?_)
  · have hw := hw.1 hc
    exact hret σ _ _ _ _ hw hW dX0_restoreLatest_33
  · have hw := hw.2 hc
    refine lv_aload_n hx hb dX0_restoreLatest_7 rfl (lv_at hl 0 rfl) ?_
    refine lv_dup hx hb dX0_restoreLatest_8 rfl ?_
    refine va_get (D := D) (ci := 0) (v := .int (c_saved σ)) (C := RX0) (T := TX0) (N := 4) hx hb hts hinX0 hown hK hW.1 6 rfl rfl 1 (by decide) (hts _ (List.mem_of_getElem? (i := 1) rfl)) (fun _ h9 => h9) rfl dX0_restoreLatest_9 ?_
    refine lv_iconst (v := 1) hx hb dX0_restoreLatest_12 (by decide) ?_
    refine lv_isub hx hb dX0_restoreLatest_13 ?_
    refine pf_c_saved hx hb hts hinX0 hown hK hW (hts _ (List.mem_of_getElem? (i := 1) rfl)) dX0_restoreLatest_14 (fun σ_1 eσ_1 H locs hW => ?_)
    have hw := hw σ_1 eσ_1
    refine lv_aload_n hx hb dX0_restoreLatest_17 rfl (lv_at hl 1 rfl) ?_
    refine lv_aload_n hx hb dX0_restoreLatest_18 rfl (lv_at hl 0 rfl) ?_
    refine va_get (D := D) (ci := 0) (v := .ref (a 7)) (C := RX0) (T := TX0) (N := 4) hx hb hts hinX0 hown hK hW.1 6 rfl rfl 0 (by decide) (hts _ (List.mem_of_getElem? (i := 2) rfl)) (fun _ h9 => h9) rfl dX0_restoreLatest_19 ?_
    refine lv_aload_n hx hb dX0_restoreLatest_22 rfl (lv_at hl 0 rfl) ?_
    refine va_get (D := D) (ci := 0) (v := .int (c_saved σ_1)) (C := RX0) (T := TX0) (N := 4) hx hb hts hinX0 hown hK hW.1 6 rfl rfl 1 (by decide) (hts _ (List.mem_of_getElem? (i := 1) rfl)) (fun _ h9 => h9) rfl dX0_restoreLatest_23 ?_
    refine lv_sipush (v := 174) hx hb dX0_restoreLatest_26 (by decide) ?_
    refine lv_imul hx hb dX0_restoreLatest_29 ?_
    refine kV_Mv (As := [.ref (a 7), .int ((c_saved σ_1) * 174)]) (rest := []) ⟨hx, hb, hml, hown, hts⟩ (ok_X2_copyFrom_r l D cI cJ a _ _ _ _ hw) (cwV 2 hts gX0_restoreLatest_X2_copyFrom rfl rfl rfl (by decide +kernel) ⟨Nat.le_of_ble_eq_true rfl, Nat.le_of_ble_eq_true rfl⟩) hK hW hA 1 rfl rfl rfl hl.1 rfl (Nat.le_of_ble_eq_true rfl) dX0_restoreLatest_30 ⟨Nat.le_of_ble_eq_true rfl, Nat.le_of_ble_eq_true rfl⟩ (fun σ_2 H locs hw hW => ?_)
    exact hret σ_2 _ _ _ _ hw hW dX0_restoreLatest_33
def wp_X0_hasSnapshot (σ : CS) (post : Int32 → Prop) : Prop := (narrow .boolean (.int (c_taken σ)) = .int (c_taken σ) ∧ post (c_taken σ))
abbrev rm_X0_hasSnapshot : Room := { frames := 0, cells := 0, slots := 0, locals := 0 }
theorem in_X0_hasSnapshot_X0 : ∀ w ∈ wsX00, w ∈ wsX0_hasSnapshot := fun w h => List.mem_cons_of_mem _ (List.mem_append_right _ (h))
set_option maxHeartbeats 4000000 in
set_option maxRecDepth 100000 in
theorem ok_X0_hasSnapshot (l : Launch) (D : va_G) (cI cJ : ClassId) (a : Nat → Nat) (sz : Nat) (σ : CS) (post : Int32 → Prop) (hw : wp_X0_hasSnapshot σ post) : Mi l yX0_hasSnapshot wsX0_hasSnapshot rm_X0_hasSnapshot [.ref (a 6)] D (tysIJ cI cJ) (cW cI cJ a σ) sz (fun r (_ : Unit) => post r) (fun _ => cW cI cJ a σ) := by
  refine s_Mz (by decide) rfl (Nat.le_of_ble_eq_true rfl) ?_
  intro p e s m args below meth c A Q hx hb hml hts hown hin hK hA hret H locs ls hW hl
  have hown : s.vm.findClass RX0 = some m.cls := hown
  have hl : lv_has ls 1 [(0, .ref (a 6))] := hl
  have hinX0 := in_X0_hasSnapshot_X0
  refine lv_aload_n hx hb dX0_hasSnapshot_0 rfl (lv_at hl 0 rfl) ?_
  refine va_get (D := D) (ci := 0) (v := .int (c_taken σ)) (C := RX0) (T := TX0) (N := 4) hx hb hts hinX0 hown hK hW.1 6 rfl rfl 3 (by decide) (hts _ (List.mem_of_getElem? (i := 1) rfl)) (fun _ h9 => h9) rfl dX0_hasSnapshot_1 ?_
  exact hret _ () _ _ _ _ hw.1 hw.2 hW dX0_hasSnapshot_4
def wp_X0_takeSnapshot (σ : CS) (post : CS → Prop) : Prop := wp_X2_copyTo_s σ 0 (fun σ_1 => ∀ σ_2 : CS, σ_2 = cs_taken σ_1 1 → post σ_2)
abbrev rm_X0_takeSnapshot : Room := { frames := 3, cells := 0, slots := 0, locals := 68 }
theorem in_X0_takeSnapshot_X0 : ∀ w ∈ wsX00, w ∈ wsX0_takeSnapshot := fun w h => List.mem_cons_of_mem _ (List.mem_append_left _ (List.mem_append_right _ (h)))
set_option maxHeartbeats 4000000 in
set_option maxRecDepth 100000 in
theorem ok_X0_takeSnapshot (l : Launch) (D : va_G) (cI cJ : ClassId) (a : Nat → Nat) (sz : Nat) (σ : CS) (post : CS → Prop) (hw : wp_X0_takeSnapshot σ post) : Mv l yX0_takeSnapshot wsX0_takeSnapshot rm_X0_takeSnapshot [.ref (a 6), .ref (a 1)] D (tysIJ cI cJ) (cW cI cJ a σ) sz post (cW cI cJ a) := by
  refine s_Mv (by decide) rfl (Nat.le_of_ble_eq_true rfl) ?_
  intro p e s m args below meth c A Q hx hb hml hts hown hin hK hA hret H locs ls hW hl
  have hown : s.vm.findClass RX0 = some m.cls := hown
  have hl : lv_has ls 2 [(0, .ref (a 6)), (1, .ref (a 1))] := hl
  have hinX0 := in_X0_takeSnapshot_X0
  refine lv_aload_n hx hb dX0_takeSnapshot_0 rfl (lv_at hl 1 rfl) ?_
  refine lv_aload_n hx hb dX0_takeSnapshot_1 rfl (lv_at hl 0 rfl) ?_
  refine va_get (D := D) (ci := 0) (v := .ref (a 8)) (C := RX0) (T := TX0) (N := 4) hx hb hts hinX0 hown hK hW.1 6 rfl rfl 2 (by decide) (hts _ (List.mem_of_getElem? (i := 1) rfl)) (fun _ h9 => h9) rfl dX0_takeSnapshot_2 ?_
  refine lv_iconst (v := 0) hx hb dX0_takeSnapshot_5 (by decide) ?_
  refine kV_Mv (As := [.ref (a 8), .int 0]) (rest := []) ⟨hx, hb, hml, hown, hts⟩ (ok_X2_copyTo_s l D cI cJ a _ _ _ _ hw) (cwV 2 hts gX0_takeSnapshot_X2_copyTo rfl rfl rfl (by decide +kernel) ⟨Nat.le_of_ble_eq_true rfl, Nat.le_of_ble_eq_true rfl⟩) hK hW hA 1 rfl rfl rfl hl.1 rfl (Nat.le_of_ble_eq_true rfl) dX0_takeSnapshot_6 ⟨Nat.le_of_ble_eq_true rfl, Nat.le_of_ble_eq_true rfl⟩ (fun σ_1 H locs hw hW => ?_)
  refine lv_aload_n hx hb dX0_takeSnapshot_9 rfl (lv_at hl 0 rfl) ?_
  refine lv_iconst (v := 1) hx hb dX0_takeSnapshot_10 (by decide) ?_
  refine pf_c_taken (by decide) (by decide) hx hb hts hinX0 hown hK hW (hts _ (List.mem_of_getElem? (i := 2) rfl)) dX0_takeSnapshot_11 (fun σ_2 eσ_2 H locs hW => ?_)
  have hw := hw σ_2 eσ_2
  exact hret σ_2 _ _ _ _ hw hW dX0_takeSnapshot_14
def wp_X0_restoreSnapshot (σ : CS) (post : CS → Prop) : Prop := wp_X2_copyFrom_s σ 0 (fun σ_1 => post σ_1)
abbrev rm_X0_restoreSnapshot : Room := { frames := 2, cells := 0, slots := 0, locals := 48 }
theorem in_X0_restoreSnapshot_X0 : ∀ w ∈ wsX00, w ∈ wsX0_restoreSnapshot := fun w h => List.mem_cons_of_mem _ (List.mem_append_left _ (List.mem_append_right _ (h)))
set_option maxHeartbeats 4000000 in
set_option maxRecDepth 100000 in
theorem ok_X0_restoreSnapshot (l : Launch) (D : va_G) (cI cJ : ClassId) (a : Nat → Nat) (sz : Nat) (σ : CS) (post : CS → Prop) (hw : wp_X0_restoreSnapshot σ post) : Mv l yX0_restoreSnapshot wsX0_restoreSnapshot rm_X0_restoreSnapshot [.ref (a 6), .ref (a 1)] D (tysIJ cI cJ) (cW cI cJ a σ) sz post (cW cI cJ a) := by
  refine s_Mv (by decide) rfl (Nat.le_of_ble_eq_true rfl) ?_
  intro p e s m args below meth c A Q hx hb hml hts hown hin hK hA hret H locs ls hW hl
  have hown : s.vm.findClass RX0 = some m.cls := hown
  have hl : lv_has ls 2 [(0, .ref (a 6)), (1, .ref (a 1))] := hl
  have hinX0 := in_X0_restoreSnapshot_X0
  refine lv_aload_n hx hb dX0_restoreSnapshot_0 rfl (lv_at hl 1 rfl) ?_
  refine lv_aload_n hx hb dX0_restoreSnapshot_1 rfl (lv_at hl 0 rfl) ?_
  refine va_get (D := D) (ci := 0) (v := .ref (a 8)) (C := RX0) (T := TX0) (N := 4) hx hb hts hinX0 hown hK hW.1 6 rfl rfl 2 (by decide) (hts _ (List.mem_of_getElem? (i := 1) rfl)) (fun _ h9 => h9) rfl dX0_restoreSnapshot_2 ?_
  refine lv_iconst (v := 0) hx hb dX0_restoreSnapshot_5 (by decide) ?_
  refine kV_Mv (As := [.ref (a 8), .int 0]) (rest := []) ⟨hx, hb, hml, hown, hts⟩ (ok_X2_copyFrom_s l D cI cJ a _ _ _ _ hw) (cwV 2 hts gX0_restoreSnapshot_X2_copyFrom rfl rfl rfl (by decide +kernel) ⟨Nat.le_of_ble_eq_true rfl, Nat.le_of_ble_eq_true rfl⟩) hK hW hA 1 rfl rfl rfl hl.1 rfl (Nat.le_of_ble_eq_true rfl) dX0_restoreSnapshot_6 ⟨Nat.le_of_ble_eq_true rfl, Nat.le_of_ble_eq_true rfl⟩ (fun σ_1 H locs hw hW => ?_)
  exact hret σ_1 _ _ _ _ hw hW dX0_restoreSnapshot_9
def wp_X1_digitShift (p1 : Int32) (post : Int32 → Prop) : Prop := post (3 * (5 - p1))
abbrev rm_X1_digitShift : Room := { frames := 0, cells := 0, slots := 0, locals := 0 }
set_option maxHeartbeats 4000000 in
set_option maxRecDepth 100000 in
theorem ok_X1_digitShift (l : Launch) (p1 : Int32) (post : Int32 → Prop) (hw : wp_X1_digitShift p1 post) : Pi l yX1_digitShift wsX1_digitShift rm_X1_digitShift [.int p1] post := by
  refine s_Pi (by decide) rfl (Nat.le_of_ble_eq_true rfl) ?_
  intro p e s m args below meth c A Q hx hb hml hts hown hin hret H locs ls hW hl
  have hown : s.vm.findClass RX1 = some m.cls := hown
  have hl : lv_has ls 1 [(0, .int p1)] := hl
  refine lv_iconst (v := 3) hx hb dX1_digitShift_0 (by decide) ?_
  refine lv_iconst (v := 5) hx hb dX1_digitShift_1 (by decide) ?_
  refine lv_iload_n hx hb dX1_digitShift_2 rfl (lv_at hl 0 rfl) ?_
  refine lv_isub hx hb dX1_digitShift_3 ?_
  refine lv_imul hx hb dX1_digitShift_4 ?_
  exact hret _ _ _ _ _ hw hW dX1_digitShift_5
def wp_X1_keyOf (σ : CS) (p2 : Int32) (p3 : Int32) (p4 : Int32) (post : Int64 → Prop) : Prop := wp_X2_get σ 0 p3 (fun r_1 => ∀ v4_2 : Int32, v4_2 = (p4 - r_1) → ((p4 = 0 → post 0) ∧ (¬ p4 = 0 → ((v4_2 < 0 → post 0) ∧ (¬ v4_2 < 0 → wp_X2_get σ 30 p2 (fun r_3 => ((p4 ≤ r_3 → wp_X1_digitShift p3 (fun r_4 => ∀ v5_5 : Int64, v5_5 = (((6 - p2)).toInt64 <<< (r_4.toInt64 &&& 63)) → post ((((v4_2).toInt64 <<< ((21 : Int32).toInt64 &&& 63)) + 262144) + v5_5))) ∧ (¬ p4 ≤ r_3 → post 0))))))))
abbrev rm_X1_keyOf : Room := { frames := 1, cells := 0, slots := 0, locals := 23 }
set_option maxHeartbeats 4000000 in
set_option maxRecDepth 100000 in
theorem ok_X1_keyOf (l : Launch) (D : va_G) (cI cJ : ClassId) (a : Nat → Nat) (sz : Nat) (σ : CS) (p2 : Int32) (p3 : Int32) (p4 : Int32) (post : Int64 → Prop) (hw : wp_X1_keyOf σ p2 p3 p4 post) : Ml l yX1_keyOf wsX1_keyOf rm_X1_keyOf [.ref (a 1), .int p2, .int p3, .int p4] D (tysIJ cI cJ) (cW cI cJ a σ) sz (fun r (_ : Unit) => post r) (fun _ => cW cI cJ a σ) := by
  refine s_Ml (by decide) rfl (Nat.le_of_ble_eq_true rfl) ?_
  intro p e s m args below meth c A Q hx hb hml hts hown hin hK hA hret H locs ls hW hl
  have hown : s.vm.findClass RX1 = some m.cls := hown
  have hl : lv_has ls 7 [(0, .ref (a 1)), (1, .int p2), (2, .int p3), (3, .int p4)] := hl
  refine lv_iload_n hx hb dX1_keyOf_0 rfl (lv_at hl 3 rfl) ?_
  refine lv_aload_n hx hb dX1_keyOf_1 rfl (lv_at hl 0 rfl) ?_
  refine lv_iconst (v := 0) hx hb dX1_keyOf_2 (by decide) ?_
  refine lv_iload_n hx hb dX1_keyOf_3 rfl (lv_at hl 2 rfl) ?_
  refine kV_Mi (As := [.int 0, .int p3]) (rest := [.int p4]) ⟨hx, hb, hml, hown, hts⟩ (ok_X2_get l D cI cJ a _ _ _ _ _ hw) (cwV 2 hts gX1_keyOf_X2_get rfl rfl rfl (by decide +kernel) ⟨Nat.le_of_ble_eq_true rfl, Nat.le_of_ble_eq_true rfl⟩) hK hW hA 1 rfl rfl rfl hl.1 rfl (Nat.le_of_ble_eq_true rfl) dX1_keyOf_4 ⟨Nat.le_of_ble_eq_true rfl, Nat.le_of_ble_eq_true rfl⟩ (fun r_1 _ H locs hw hW => ?_)
  refine lv_isub hx hb dX1_keyOf_7 ?_
  refine lv_topi (fun v4_2 ev4_2 => ?_)
  have hw := hw v4_2 ev4_2
  refine lv_istore (lv' := [(4, .int v4_2), (0, .ref (a 1)), (1, .int p2), (2, .int p3), (3, .int p4)]) hx hb dX1_keyOf_8 hl (by decide) rfl (fun ls hl => ?_)
  refine lv_iload_n hx hb dX1_keyOf_10 rfl (lv_at hl 4 rfl) ?_
  refine lv_if_eq (tgt := 30) hx hb dX1_keyOf_11 (by decide) (fun hc => ?_) (fun hc => ?_)
  · have hw := hw.1 hc
    refine lv_lconst (v := 0) hx hb dX1_keyOf_30 (by decide) ?_
    exact hret _ () _ _ _ _ hw hW dX1_keyOf_31
  · have hw := hw.2 hc
    refine lv_iload hx hb dX1_keyOf_14 (lv_at hl 0 rfl) ?_
    refine lv_if_lt (tgt := 30) hx hb dX1_keyOf_16 (by decide) (fun hc => ?_) (fun hc => ?_)
    · have hw := hw.1 hc
      refine lv_lconst (v := 0) hx hb dX1_keyOf_30 (by decide) ?_
      exact hret _ () _ _ _ _ hw hW dX1_keyOf_31
    · have hw := hw.2 hc
      refine lv_aload_n hx hb dX1_keyOf_19 rfl (lv_at hl 1 rfl) ?_
      refine lv_bipush (v := 30) hx hb dX1_keyOf_20 (by decide) ?_
      refine lv_iload_n hx hb dX1_keyOf_22 rfl (lv_at hl 2 rfl) ?_
      refine kV_Mi (As := [.int 30, .int p2]) (rest := []) ⟨hx, hb, hml, hown, hts⟩ (ok_X2_get l D cI cJ a _ _ _ _ _ hw) (cwV 2 hts gX1_keyOf_X2_get rfl rfl rfl (by decide +kernel) ⟨Nat.le_of_ble_eq_true rfl, Nat.le_of_ble_eq_true rfl⟩) hK hW hA 1 rfl rfl rfl hl.1 rfl (Nat.le_of_ble_eq_true rfl) dX1_keyOf_23 ⟨Nat.le_of_ble_eq_true rfl, Nat.le_of_ble_eq_true rfl⟩ (fun r_3 _ H locs hw hW => ?_)
      refine lv_iload_n hx hb dX1_keyOf_26 rfl (lv_at hl 4 rfl) ?_
      refine lv_icmp_ge (tgt := 32) hx hb dX1_keyOf_27 (by decide) (fun hc => ?_) (fun hc => ?_)
      · have hw := hw.1 hc
        refine lv_bipush (v := 6) hx hb dX1_keyOf_32 (by decide) ?_
        refine lv_iload_n hx hb dX1_keyOf_34 rfl (lv_at hl 2 rfl) ?_
        refine lv_isub hx hb dX1_keyOf_35 ?_
        refine lv_i2l hx hb dX1_keyOf_36 rfl ?_
        refine lv_iload_n hx hb dX1_keyOf_37 rfl (lv_at hl 3 rfl) ?_
        refine kS_Pi (As := [.int p3]) (rest := [.long ((6 - p2)).toInt64]) ⟨hx, hb, hml, hown, hts⟩ (ok_X1_digitShift l _ _ hw) (va_cwS 1 hts gX1_keyOf_X1_digitShift rfl rfl rfl (by decide +kernel) ⟨Nat.le_of_ble_eq_true rfl, Nat.le_of_ble_eq_true rfl⟩) hW.2.2 rfl hl.1 rfl (Nat.le_of_ble_eq_true rfl) dX1_keyOf_38 ⟨Nat.le_of_ble_eq_true rfl, Nat.le_of_ble_eq_true rfl⟩ (fun r_4 H locs hw hk hS => ?_)
        have hW := hW.kept hk hS
        refine lv_lshl hx hb dX1_keyOf_41 rfl ?_
        refine lv_topl (fun v5_5 ev5_5 => ?_)
        have hw := hw v5_5 ev5_5
        refine lv_lstore (lv' := [(5, .long v5_5), (4, .int v4_2), (0, .ref (a 1)), (1, .int p2), (2, .int p3), (3, .int p4)]) hx hb dX1_keyOf_42 hl (by decide) rfl (fun ls hl => ?_)
        refine lv_iload hx hb dX1_keyOf_44 (lv_at hl 1 rfl) ?_
        refine lv_i2l hx hb dX1_keyOf_46 rfl ?_
        refine lv_bipush (v := 21) hx hb dX1_keyOf_47 (by decide) ?_
        refine lv_lshl hx hb dX1_keyOf_49 rfl ?_
        refine lv_ldc2 (own := RX1) (v := 262144) hx hb hown (hts _ (List.mem_of_getElem? (i := 1) rfl)) dX1_keyOf_50 ?_
        refine lv_ladd hx hb dX1_keyOf_53 ?_
        refine lv_lload hx hb dX1_keyOf_54 (lv_at hl 0 rfl) ?_
        refine lv_ladd hx hb dX1_keyOf_56 ?_
        exact hret _ () _ _ _ _ hw hW dX1_keyOf_57
      · have hw := hw.2 hc
        refine lv_lconst (v := 0) hx hb dX1_keyOf_30 (by decide) ?_
        exact hret _ () _ _ _ _ hw hW dX1_keyOf_31
def wp_X1_worthOf (p1 : Int64) (post : Int32 → Prop) : Prop := post ((p1 >>> ((21 : Int32).toInt64 &&& 63))).toInt32
abbrev rm_X1_worthOf : Room := { frames := 0, cells := 0, slots := 0, locals := 0 }
set_option maxHeartbeats 4000000 in
set_option maxRecDepth 100000 in
theorem ok_X1_worthOf (l : Launch) (p1 : Int64) (post : Int32 → Prop) (hw : wp_X1_worthOf p1 post) : Pi l yX1_worthOf wsX1_worthOf rm_X1_worthOf [.long p1] post := by
  refine s_Pi (by decide) rfl (Nat.le_of_ble_eq_true rfl) ?_
  intro p e s m args below meth c A Q hx hb hml hts hown hin hret H locs ls hW hl
  have hown : s.vm.findClass RX1 = some m.cls := hown
  have hl : lv_has ls 2 [(0, .long p1)] := hl
  refine lv_lload_n hx hb dX1_worthOf_0 rfl (lv_at hl 0 rfl) ?_
  refine lv_bipush (v := 21) hx hb dX1_worthOf_1 (by decide) ?_
  refine lv_lshr hx hb dX1_worthOf_3 rfl ?_
  refine lv_l2i hx hb dX1_worthOf_4 rfl ?_
  exact hret _ _ _ _ _ hw hW dX1_worthOf_5
def wp_X1_setWithout (p1 : Int32) (p2 : Int32) (post : Int32 → Prop) : Prop := ((p2 < 0 → post p1) ∧ (¬ p2 < 0 → ((6 ≤ p2 → post p1) ∧ (¬ 6 ≤ p2 → post (p1 &&& (((1 : Int32) <<< (p2 &&& 31)) ^^^ (-1)))))))
abbrev rm_X1_setWithout : Room := { frames := 0, cells := 0, slots := 0, locals := 0 }
set_option maxHeartbeats 4000000 in
set_option maxRecDepth 100000 in
theorem ok_X1_setWithout (l : Launch) (p1 : Int32) (p2 : Int32) (post : Int32 → Prop) (hw : wp_X1_setWithout p1 p2 post) : Pi l yX1_setWithout wsX1_setWithout rm_X1_setWithout [.int p1, .int p2] post := by
  refine s_Pi (by decide) rfl (Nat.le_of_ble_eq_true rfl) ?_
  intro p e s m args below meth c A Q hx hb hml hts hown hin hret H locs ls hW hl
  have hown : s.vm.findClass RX1 = some m.cls := hown
  have hl : lv_has ls 2 [(0, .int p1), (1, .int p2)] := hl
  refine lv_iload_n hx hb dX1_setWithout_0 rfl (lv_at hl 1 rfl) ?_
  refine lv_if_lt (tgt := 20) hx hb dX1_setWithout_1 (by decide) (fun hc => ?_) (fun hc => ?_)
  · have hw := hw.1 hc
    refine lv_iload_n hx hb dX1_setWithout_20 rfl (lv_at hl 0 rfl) ?_
    exact hret _ _ _ _ _ hw hW dX1_setWithout_21
  · have hw := hw.2 hc
    refine lv_iload_n hx hb dX1_setWithout_4 rfl (lv_at hl 1 rfl) ?_
    refine lv_bipush (v := 6) hx hb dX1_setWithout_5 (by decide) ?_
    refine lv_icmp_ge (tgt := 20) hx hb dX1_setWithout_7 (by decide) (fun hc => ?_) (fun hc => ?_)
    · have hw := hw.1 hc
      refine lv_iload_n hx hb dX1_setWithout_20 rfl (lv_at hl 0 rfl) ?_
      exact hret _ _ _ _ _ hw hW dX1_setWithout_21
    · have hw := hw.2 hc
      refine lv_iload_n hx hb dX1_setWithout_10 rfl (lv_at hl 0 rfl) ?_
      refine lv_iconst (v := 1) hx hb dX1_setWithout_11 (by decide) ?_
      refine lv_iload_n hx hb dX1_setWithout_12 rfl (lv_at hl 1 rfl) ?_
      refine lv_ishl hx hb dX1_setWithout_13 ?_
      refine lv_iconst (v := (-1)) hx hb dX1_setWithout_14 (by decide) ?_
      refine lv_ixor hx hb dX1_setWithout_15 ?_
      refine lv_iand hx hb dX1_setWithout_16 ?_
      refine lv_goto (tgt := 21) hx hb dX1_setWithout_17 (by decide) ?_
      exact hret _ _ _ _ _ hw hW dX1_setWithout_21
def wp_X1_isIn (p1 : Int32) (p2 : Int32) (post : Int32 → Prop) : Prop := ((((p1 >>> (p2 &&& 31)) &&& 1) = 0 → post 0) ∧ (¬ ((p1 >>> (p2 &&& 31)) &&& 1) = 0 → post 1))
abbrev rm_X1_isIn : Room := { frames := 0, cells := 0, slots := 0, locals := 0 }
set_option maxHeartbeats 4000000 in
set_option maxRecDepth 100000 in
theorem ok_X1_isIn (l : Launch) (p1 : Int32) (p2 : Int32) (post : Int32 → Prop) (hw : wp_X1_isIn p1 p2 post) : Pi l yX1_isIn wsX1_isIn rm_X1_isIn [.int p1, .int p2] post := by
  refine s_Pz (by decide) rfl (Nat.le_of_ble_eq_true rfl) ?_
  intro p e s m args below meth c A Q hx hb hml hts hown hin hret H locs ls hW hl
  have hown : s.vm.findClass RX1 = some m.cls := hown
  have hl : lv_has ls 2 [(0, .int p1), (1, .int p2)] := hl
  refine lv_iload_n hx hb dX1_isIn_0 rfl (lv_at hl 0 rfl) ?_
  refine lv_iload_n hx hb dX1_isIn_1 rfl (lv_at hl 1 rfl) ?_
  refine lv_ishr hx hb dX1_isIn_2 ?_
  refine lv_iconst (v := 1) hx hb dX1_isIn_3 (by decide) ?_
  refine lv_iand hx hb dX1_isIn_4 ?_
  refine lv_if_eq (tgt := 12) hx hb dX1_isIn_5 (by decide) (fun hc => ?_) (fun hc => ?_)
  · have hw := hw.1 hc
    refine lv_iconst (v := 0) hx hb dX1_isIn_12 (by decide) ?_
    exact hret _ _ _ _ _ (by decide) hw hW dX1_isIn_13
  · have hw := hw.2 hc
    refine lv_iconst (v := 1) hx hb dX1_isIn_8 (by decide) ?_
    refine lv_goto (tgt := 13) hx hb dX1_isIn_9 (by decide) ?_
    exact hret _ _ _ _ _ (by decide) hw hW dX1_isIn_13
def wp_X1_replaceBid (σ : CS) (p1 : Int32) (p2 : Int32) (p3 : Int64) (post : CS → Prop) : Prop := ∀ v5_1 : Int32, v5_1 = ((p1 * 6) + p2) → ((v5_1 < 0 → post σ) ∧ (¬ v5_1 < 0 → ((36 ≤ v5_1 → post σ) ∧ (¬ 36 ≤ v5_1 → vp_in v5_1 36 ∧ ∀ σ_2 : CS, σ_2 = cs_keys σ (vp_updL (c_keys σ) (v5_1).toNatClampNeg p3) → post σ_2))))
abbrev rm_X1_replaceBid : Room := { frames := 0, cells := 0, slots := 0, locals := 0 }
theorem in_X1_replaceBid_X1 : ∀ w ∈ wsX10, w ∈ wsX1_replaceBid := fun w h => List.mem_cons_of_mem _ (List.mem_append_right _ (h))
set_option maxHeartbeats 4000000 in
set_option maxRecDepth 100000 in
theorem ok_X1_replaceBid (l : Launch) (D : va_G) (cI cJ : ClassId) (a : Nat → Nat) (sz : Nat) (σ : CS) (p1 : Int32) (p2 : Int32) (p3 : Int64) (post : CS → Prop) (hw : wp_X1_replaceBid σ p1 p2 p3 post) : Mv l yX1_replaceBid wsX1_replaceBid rm_X1_replaceBid [.ref (a 3), .int p1, .int p2, .long p3] D (tysIJ cI cJ) (cW cI cJ a σ) sz post (cW cI cJ a) := by
  refine s_Mv (by decide) rfl (Nat.le_of_ble_eq_true rfl) ?_
  intro p e s m args below meth c A Q hx hb hml hts hown hin hK hA hret H locs ls hW hl
  have hown : s.vm.findClass RX1 = some m.cls := hown
  have hl : lv_has ls 6 [(0, .ref (a 3)), (1, .int p1), (2, .int p2), (3, .long p3)] := hl
  have hinX1 := in_X1_replaceBid_X1
  refine lv_iload_n hx hb dX1_replaceBid_0 rfl (lv_at hl 1 rfl) ?_
  refine lv_bipush (v := 6) hx hb dX1_replaceBid_1 (by decide) ?_
  refine lv_imul hx hb dX1_replaceBid_3 ?_
  refine lv_iload_n hx hb dX1_replaceBid_4 rfl (lv_at hl 2 rfl) ?_
  refine lv_iadd hx hb dX1_replaceBid_5 ?_
  refine lv_topi (fun v5_1 ev5_1 => ?_)
  have hw := hw v5_1 ev5_1
  refine lv_istore (lv' := [(5, .int v5_1), (0, .ref (a 3)), (1, .int p1), (2, .int p2), (3, .long p3)]) hx hb dX1_replaceBid_6 hl (by decide) rfl (fun ls hl => ?_)
  refine lv_iload hx hb dX1_replaceBid_8 (lv_at hl 0 rfl) ?_
  refine lv_if_lt (tgt := 31) hx hb dX1_replaceBid_10 (by decide) (fun hc => ?_) (fun hc => ?_)
  · have hw := hw.1 hc
    exact hret σ _ _ _ _ hw hW dX1_replaceBid_31
  · have hw := hw.2 hc
    refine lv_iload hx hb dX1_replaceBid_13 (lv_at hl 0 rfl) ?_
    refine lv_aload_n hx hb dX1_replaceBid_15 rfl (lv_at hl 1 rfl) ?_
    refine va_get (D := D) (ci := 1) (v := .ref (a 4)) (C := RX1) (T := TX1) (N := 2) hx hb hts hinX1 hown hK hW.1 3 rfl rfl 0 (by decide) (hts _ (List.mem_of_getElem? (i := 1) rfl)) (fun _ h9 => h9) rfl dX1_replaceBid_16 ?_
    refine va_alen (v := 36) hx hb hK hW.1 4 1 rfl rfl rfl dX1_replaceBid_19 ?_
    refine lv_icmp_ge (tgt := 31) hx hb dX1_replaceBid_20 (by decide) (fun hc => ?_) (fun hc => ?_)
    · have hw := hw.1 hc
      exact hret σ _ _ _ _ hw hW dX1_replaceBid_31
    · have hw := hw.2 hc
      refine lv_aload_n hx hb dX1_replaceBid_23 rfl (lv_at hl 1 rfl) ?_
      refine va_get (D := D) (ci := 1) (v := .ref (a 4)) (C := RX1) (T := TX1) (N := 2) hx hb hts hinX1 hown hK hW.1 3 rfl rfl 0 (by decide) (hts _ (List.mem_of_getElem? (i := 1) rfl)) (fun _ h9 => h9) rfl dX1_replaceBid_24 ?_
      refine lv_iload hx hb dX1_replaceBid_27 (lv_at hl 0 rfl) ?_
      refine lv_lload_n hx hb dX1_replaceBid_29 rfl (lv_at hl 4 rfl) ?_
      refine st_c_keys hx hb hK hW hw.1 dX1_replaceBid_30 (fun σ_2 eσ_2 H locs hW => ?_)
      have hw := hw.2
      have hw := hw σ_2 eσ_2
      exact hret σ_2 _ _ _ _ hw hW dX1_replaceBid_31
def wp_X1_readBids (σ : CS) (post : CS → Prop) : Prop := ∃ I1 : Nat → Int32 → CS → Prop, (∃ n : Nat, I1 n 0 (σ)) ∧ ∀ (n1 : Nat) (v2_1 : Int32) (σ_1 : CS), I1 n1 v2_1 σ_1 → ((6 ≤ v2_1 → post σ_1) ∧ (¬ 6 ≤ v2_1 → ∃ I2 : Nat → Int32 → CS → Prop, (∃ n : Nat, I2 n 0 (σ_1)) ∧ ∀ (n2 : Nat) (v3_2 : Int32) (σ_2 : CS), I2 n2 v3_2 σ_2 → ((6 ≤ v3_2 → ∀ v2_3 : Int32, v2_3 = v2_1 + 1 → ∃ n' : Nat, n' < n1 ∧ I1 n' v2_3 (σ_2)) ∧ (¬ 6 ≤ v3_2 → wp_X2_ofBid σ_2 54 v2_1 v3_2 (fun r_4 => wp_X1_keyOf σ_2 v2_1 v3_2 r_4 (fun r_5 => wp_X1_replaceBid σ_2 v2_1 v3_2 r_5 (fun σ_6 => ∀ v3_7 : Int32, v3_7 = v3_2 + 1 → ∃ n' : Nat, n' < n2 ∧ I2 n' v3_7 (σ_6))))))))
abbrev rm_X1_readBids : Room := { frames := 2, cells := 0, slots := 0, locals := 49 }
set_option maxHeartbeats 4000000 in
set_option maxRecDepth 100000 in
theorem ok_X1_readBids (l : Launch) (D : va_G) (cI cJ : ClassId) (a : Nat → Nat) (sz : Nat) (σ : CS) (post : CS → Prop) (hw : wp_X1_readBids σ post) : Mv l yX1_readBids wsX1_readBids rm_X1_readBids [.ref (a 3), .ref (a 1)] D (tysIJ cI cJ) (cW cI cJ a σ) sz post (cW cI cJ a) := by
  refine s_Mv (by decide) rfl (Nat.le_of_ble_eq_true rfl) ?_
  intro p e s m args below meth c A Q hx hb hml hts hown hin hK hA hret H locs ls hW hl
  have hown : s.vm.findClass RX1 = some m.cls := hown
  have hl : lv_has ls 5 [(0, .ref (a 3)), (1, .ref (a 1))] := hl
  refine lv_iconst (v := 0) hx hb dX1_readBids_0 (by decide) ?_
  refine lv_istore_n (lv' := [(2, .int 0), (0, .ref (a 3)), (1, .ref (a 1))]) hx hb dX1_readBids_1 rfl hl (by decide) rfl (fun ls hl => ?_)
  obtain ⟨I1, ⟨n1, hI1⟩, hJ1⟩ := hw
  have hl : lv_has ls 5 [(0, .ref (a 3)), (1, .ref (a 1)), (2, .int 0)] := lv_sub hl [1, 2, 0] rfl
  suffices LP1 : ∀ (n : Nat) (v2_1 : Int32) (σ_1 : CS) (H : Heap) (locs : List Loc) (ls : Array Slot), I1 n v2_1 σ_1 → Wd D A s.heap (cW cI cJ a σ_1) H locs → lv_has ls 5 [(0, .ref (a 3)), (1, .ref (a 1)), (2, .int v2_1)] → W p l e rm_X1_readBids s m args below meth c H locs 0 0 Q (F0 m 2 ls []) from LP1 n1 0 _ H locs ls hI1 hW hl
  intro n1
  induction n1 using Nat.strongRecOn with
  | ind n1 ih1 =>
    intro v2_1 σ_1 H locs ls hIn hW hl
    have hw := hJ1 n1 v2_1 σ_1 hIn
    refine lv_iload_n hx hb dX1_readBids_2 rfl (lv_at hl 2 rfl) ?_
    refine lv_bipush (v := 6) hx hb dX1_readBids_3 (by decide) ?_
    refine lv_icmp_ge (tgt := 52) hx hb dX1_readBids_5 (by decide) (fun hc => ?_) (fun hc => ?_)
    · have hw := hw.1 hc
      exact hret σ_1 _ _ _ _ hw hW dX1_readBids_52
    · have hw := hw.2 hc
      refine lv_iconst (v := 0) hx hb dX1_readBids_8 (by decide) ?_
      refine lv_istore_n (lv' := [(3, .int 0), (0, .ref (a 3)), (1, .ref (a 1)), (2, .int v2_1)]) hx hb dX1_readBids_9 rfl hl (by decide) rfl (fun ls hl => ?_)
      obtain ⟨I2, ⟨n2, hI2⟩, hJ2⟩ := hw
      have hl : lv_has ls 5 [(0, .ref (a 3)), (1, .ref (a 1)), (2, .int v2_1), (3, .int 0)] := lv_sub hl [1, 2, 3, 0] rfl
      suffices LP2 : ∀ (n : Nat) (v3_2 : Int32) (σ_2 : CS) (H : Heap) (locs : List Loc) (ls : Array Slot), I2 n v3_2 σ_2 → Wd D A s.heap (cW cI cJ a σ_2) H locs → lv_has ls 5 [(0, .ref (a 3)), (1, .ref (a 1)), (2, .int v2_1), (3, .int v3_2)] → W p l e rm_X1_readBids s m args below meth c H locs 0 0 Q (F0 m 10 ls []) from LP2 n2 0 _ H locs ls hI2 hW hl
      intro n2
      induction n2 using Nat.strongRecOn with
      | ind n2 ih2 =>
        intro v3_2 σ_2 H locs ls hIn hW hl
        have hw := hJ2 n2 v3_2 σ_2 hIn
        refine lv_iload_n hx hb dX1_readBids_10 rfl (lv_at hl 3 rfl) ?_
        refine lv_bipush (v := 6) hx hb dX1_readBids_11 (by decide) ?_
        refine lv_icmp_ge (tgt := 46) hx hb dX1_readBids_13 (by decide) (fun hc => ?_) (fun hc => ?_)
        · have hw := hw.1 hc
          obtain ⟨v2_3, ev2_3⟩ : ∃ y : Int32, y = v2_1 + 1 := ⟨_, rfl⟩
          have hw := hw v2_3 ev2_3
          refine lv_iinc (v := v2_3) (lv' := [(2, .int v2_3), (0, .ref (a 3)), (1, .ref (a 1)), (3, .int v3_2)]) hx hb dX1_readBids_46 hl (k := 2) rfl (by rw [ev2_3]; rfl) (by decide) rfl (fun ls hl => ?_)
          refine lv_goto (tgt := 2) hx hb dX1_readBids_49 (by decide) ?_
          obtain ⟨n9, hlt9, hI9⟩ := hw
          exact ih1 n9 hlt9 _ _ _ _ _ hI9 hW (lv_sub hl [1, 2, 0] rfl)
        · have hw := hw.2 hc
          refine lv_aload_n hx hb dX1_readBids_16 rfl (lv_at hl 1 rfl) ?_
          refine lv_bipush (v := 54) hx hb dX1_readBids_17 (by decide) ?_
          refine lv_iload_n hx hb dX1_readBids_19 rfl (lv_at hl 2 rfl) ?_
          refine lv_iload_n hx hb dX1_readBids_20 rfl (lv_at hl 3 rfl) ?_
          refine kV_Mi (As := [.int 54, .int v2_1, .int v3_2]) (rest := []) ⟨hx, hb, hml, hown, hts⟩ (ok_X2_ofBid l D cI cJ a _ _ _ _ _ _ hw) (cwV 3 hts gX1_readBids_X2_ofBid rfl rfl rfl (by decide +kernel) ⟨Nat.le_of_ble_eq_true rfl, Nat.le_of_ble_eq_true rfl⟩) hK hW hA 1 rfl rfl rfl hl.1 rfl (Nat.le_of_ble_eq_true rfl) dX1_readBids_21 ⟨Nat.le_of_ble_eq_true rfl, Nat.le_of_ble_eq_true rfl⟩ (fun r_4 _ H locs hw hW => ?_)
          refine lv_istore (lv' := [(4, .int r_4), (0, .ref (a 3)), (1, .ref (a 1)), (2, .int v2_1), (3, .int v3_2)]) hx hb dX1_readBids_24 hl (by decide) rfl (fun ls hl => ?_)
          refine lv_aload_n hx hb dX1_readBids_26 rfl (lv_at hl 1 rfl) ?_
          refine lv_iload_n hx hb dX1_readBids_27 rfl (lv_at hl 3 rfl) ?_
          refine lv_iload_n hx hb dX1_readBids_28 rfl (lv_at hl 4 rfl) ?_
          refine lv_aload_n hx hb dX1_readBids_29 rfl (lv_at hl 2 rfl) ?_
          refine lv_iload_n hx hb dX1_readBids_30 rfl (lv_at hl 3 rfl) ?_
          refine lv_iload_n hx hb dX1_readBids_31 rfl (lv_at hl 4 rfl) ?_
          refine lv_iload hx hb dX1_readBids_32 (lv_at hl 0 rfl) ?_
          refine kS_Ml (As := [.ref (a 1), .int v2_1, .int v3_2, .int r_4]) (rest := [.int v3_2, .int v2_1, .ref (a 3)]) ⟨hx, hb, hml, hown, hts⟩ (ok_X1_keyOf l D cI cJ a _ _ _ _ _ _ hw) (va_cwS 4 hts gX1_readBids_X1_keyOf rfl rfl rfl (by decide +kernel) ⟨Nat.le_of_ble_eq_true rfl, Nat.le_of_ble_eq_true rfl⟩) hK hW hA rfl hl.1 rfl (Nat.le_of_ble_eq_true rfl) dX1_readBids_34 ⟨Nat.le_of_ble_eq_true rfl, Nat.le_of_ble_eq_true rfl⟩ (fun r_5 _ H locs hw hW => ?_)
          refine kV_Mv (As := [.int v2_1, .int v3_2, .long r_5]) (rest := []) ⟨hx, hb, hml, hown, hts⟩ (ok_X1_replaceBid l D cI cJ a _ _ _ _ _ _ hw) (cwV 3 hts gX1_readBids_X1_replaceBid rfl rfl rfl (by decide +kernel) ⟨Nat.le_of_ble_eq_true rfl, Nat.le_of_ble_eq_true rfl⟩) hK hW hA 3 rfl rfl rfl hl.1 rfl (Nat.le_of_ble_eq_true rfl) dX1_readBids_37 ⟨Nat.le_of_ble_eq_true rfl, Nat.le_of_ble_eq_true rfl⟩ (fun σ_6 H locs hw hW => ?_)
          obtain ⟨v3_7, ev3_7⟩ : ∃ y : Int32, y = v3_2 + 1 := ⟨_, rfl⟩
          have hw := hw v3_7 ev3_7
          refine lv_iinc (v := v3_7) (lv' := [(3, .int v3_7), (4, .int r_4), (0, .ref (a 3)), (1, .ref (a 1)), (2, .int v2_1)]) hx hb dX1_readBids_40 hl (k := 4) rfl (by rw [ev3_7]; rfl) (by decide) rfl (fun ls hl => ?_)
          refine lv_goto (tgt := 10) hx hb dX1_readBids_43 (by decide) ?_
          obtain ⟨n9, hlt9, hI9⟩ := hw
          exact ih2 n9 hlt9 _ _ _ _ _ hI9 hW (lv_sub hl [2, 3, 4, 0] rfl)
def wp_X1_keyIn (σ : CS) (p2 : Int32) (p3 : Int32) (post : Int64 → Prop) : Prop := ∀ v3_1 : Int32, v3_1 = ((p2 * 6) + p3) → ((v3_1 < 0 → post 0) ∧ (¬ v3_1 < 0 → ((36 ≤ v3_1 → post 0) ∧ (¬ 36 ≤ v3_1 → vp_in v3_1 36 ∧ post ((c_keys σ) (v3_1).toNatClampNeg)))))
abbrev rm_X1_keyIn : Room := { frames := 0, cells := 0, slots := 0, locals := 0 }
set_option maxHeartbeats 4000000 in
set_option maxRecDepth 100000 in
theorem ok_X1_keyIn (l : Launch) (D : va_G) (cI cJ : ClassId) (a : Nat → Nat) (sz : Nat) (σ : CS) (p2 : Int32) (p3 : Int32) (post : Int64 → Prop) (hw : wp_X1_keyIn σ p2 p3 post) : Ml l yX1_keyIn wsX1_keyIn rm_X1_keyIn [.ref (a 4), .int p2, .int p3] D (tysIJ cI cJ) (cW cI cJ a σ) sz (fun r (_ : Unit) => post r) (fun _ => cW cI cJ a σ) := by
  refine s_Ml (by decide) rfl (Nat.le_of_ble_eq_true rfl) ?_
  intro p e s m args below meth c A Q hx hb hml hts hown hin hK hA hret H locs ls hW hl
  have hown : s.vm.findClass RX1 = some m.cls := hown
  have hl : lv_has ls 4 [(0, .ref (a 4)), (1, .int p2), (2, .int p3)] := hl
  refine lv_iload_n hx hb dX1_keyIn_0 rfl (lv_at hl 1 rfl) ?_
  refine lv_bipush (v := 6) hx hb dX1_keyIn_1 (by decide) ?_
  refine lv_imul hx hb dX1_keyIn_3 ?_
  refine lv_iload_n hx hb dX1_keyIn_4 rfl (lv_at hl 2 rfl) ?_
  refine lv_iadd hx hb dX1_keyIn_5 ?_
  refine lv_topi (fun v3_1 ev3_1 => ?_)
  have hw := hw v3_1 ev3_1
  refine lv_istore_n (lv' := [(3, .int v3_1), (0, .ref (a 4)), (1, .int p2), (2, .int p3)]) hx hb dX1_keyIn_6 rfl hl (by decide) rfl (fun ls hl => ?_)
  refine lv_iload_n hx hb dX1_keyIn_7 rfl (lv_at hl 0 rfl) ?_
  refine lv_if_lt (tgt := 23) hx hb dX1_keyIn_8 (by decide) (fun hc => ?_) (fun hc => ?_)
  · have hw := hw.1 hc
    refine lv_lconst (v := 0) hx hb dX1_keyIn_23 (by decide) ?_
    exact hret _ () _ _ _ _ hw hW dX1_keyIn_24
  · have hw := hw.2 hc
    refine lv_iload_n hx hb dX1_keyIn_11 rfl (lv_at hl 0 rfl) ?_
    refine lv_aload_n hx hb dX1_keyIn_12 rfl (lv_at hl 1 rfl) ?_
    refine va_alen (v := 36) hx hb hK hW.1 4 1 rfl rfl rfl dX1_keyIn_13 ?_
    refine lv_icmp_ge (tgt := 23) hx hb dX1_keyIn_14 (by decide) (fun hc => ?_) (fun hc => ?_)
    · have hw := hw.1 hc
      refine lv_lconst (v := 0) hx hb dX1_keyIn_23 (by decide) ?_
      exact hret _ () _ _ _ _ hw hW dX1_keyIn_24
    · have hw := hw.2 hc
      refine lv_aload_n hx hb dX1_keyIn_17 rfl (lv_at hl 1 rfl) ?_
      refine lv_iload_n hx hb dX1_keyIn_18 rfl (lv_at hl 0 rfl) ?_
      refine va_lald hx hb hK hW.1 4 1 rfl rfl hw.1 dX1_keyIn_19 ?_
      have hw := hw.2
      refine lv_goto (tgt := 24) hx hb dX1_keyIn_20 (by decide) ?_
      exact hret _ () _ _ _ _ hw hW dX1_keyIn_24
def wp_X1_mostOf (σ : CS) (p1 : Int32) (post : Int64 → Prop) : Prop := ((p1 < 0 → post 0) ∧ (¬ p1 < 0 → ((64 ≤ p1 → post 0) ∧ (¬ 64 ≤ p1 → vp_in p1 64 ∧ post ((c_most σ) (p1).toNatClampNeg)))))
abbrev rm_X1_mostOf : Room := { frames := 0, cells := 0, slots := 0, locals := 0 }
theorem in_X1_mostOf_X1 : ∀ w ∈ wsX10, w ∈ wsX1_mostOf := fun w h => List.mem_cons_of_mem _ (List.mem_append_right _ (h))
set_option maxHeartbeats 4000000 in
set_option maxRecDepth 100000 in
theorem ok_X1_mostOf (l : Launch) (D : va_G) (cI cJ : ClassId) (a : Nat → Nat) (sz : Nat) (σ : CS) (p1 : Int32) (post : Int64 → Prop) (hw : wp_X1_mostOf σ p1 post) : Ml l yX1_mostOf wsX1_mostOf rm_X1_mostOf [.ref (a 3), .int p1] D (tysIJ cI cJ) (cW cI cJ a σ) sz (fun r (_ : Unit) => post r) (fun _ => cW cI cJ a σ) := by
  refine s_Ml (by decide) rfl (Nat.le_of_ble_eq_true rfl) ?_
  intro p e s m args below meth c A Q hx hb hml hts hown hin hK hA hret H locs ls hW hl
  have hown : s.vm.findClass RX1 = some m.cls := hown
  have hl : lv_has ls 2 [(0, .ref (a 3)), (1, .int p1)] := hl
  have hinX1 := in_X1_mostOf_X1
  refine lv_iload_n hx hb dX1_mostOf_0 rfl (lv_at hl 1 rfl) ?_
  refine lv_if_lt (tgt := 22) hx hb dX1_mostOf_1 (by decide) (fun hc => ?_) (fun hc => ?_)
  · have hw := hw.1 hc
    refine lv_lconst (v := 0) hx hb dX1_mostOf_22 (by decide) ?_
    exact hret _ () _ _ _ _ hw hW dX1_mostOf_23
  · have hw := hw.2 hc
    refine lv_iload_n hx hb dX1_mostOf_4 rfl (lv_at hl 1 rfl) ?_
    refine lv_aload_n hx hb dX1_mostOf_5 rfl (lv_at hl 0 rfl) ?_
    refine va_get (D := D) (ci := 1) (v := .ref (a 5)) (C := RX1) (T := TX1) (N := 2) hx hb hts hinX1 hown hK hW.1 3 rfl rfl 1 (by decide) (hts _ (List.mem_of_getElem? (i := 1) rfl)) (fun _ h9 => h9) rfl dX1_mostOf_6 ?_
    refine va_alen (v := 64) hx hb hK hW.1 5 1 rfl rfl rfl dX1_mostOf_9 ?_
    refine lv_icmp_ge (tgt := 22) hx hb dX1_mostOf_10 (by decide) (fun hc => ?_) (fun hc => ?_)
    · have hw := hw.1 hc
      refine lv_lconst (v := 0) hx hb dX1_mostOf_22 (by decide) ?_
      exact hret _ () _ _ _ _ hw hW dX1_mostOf_23
    · have hw := hw.2 hc
      refine lv_aload_n hx hb dX1_mostOf_13 rfl (lv_at hl 0 rfl) ?_
      refine va_get (D := D) (ci := 1) (v := .ref (a 5)) (C := RX1) (T := TX1) (N := 2) hx hb hts hinX1 hown hK hW.1 3 rfl rfl 1 (by decide) (hts _ (List.mem_of_getElem? (i := 1) rfl)) (fun _ h9 => h9) rfl dX1_mostOf_14 ?_
      refine lv_iload_n hx hb dX1_mostOf_17 rfl (lv_at hl 1 rfl) ?_
      refine va_lald hx hb hK hW.1 5 1 rfl rfl hw.1 dX1_mostOf_18 ?_
      have hw := hw.2
      refine lv_goto (tgt := 23) hx hb dX1_mostOf_19 (by decide) ?_
      exact hret _ () _ _ _ _ hw hW dX1_mostOf_23
def wp_X1_lookAtSpot (σ : CS) (p1 : Int32) (post : CS → Prop) : Prop := ∀ v2_1 : Int32, v2_1 = (64 - 1) → ∃ I2 : Nat → Int32 → CS → Prop, (∃ n : Nat, I2 n v2_1 (σ)) ∧ ∀ (n2 : Nat) (v2_2 : Int32) (σ_2 : CS), I2 n2 v2_2 σ_2 → ((v2_2 ≤ 0 → post σ_2) ∧ (¬ v2_2 ≤ 0 → vp_in v2_2 64 ∧ ∀ v3_3 : Int64, v3_3 = ((c_most σ_2) (v2_2).toNatClampNeg) → ∃ I4 : Nat → Int64 → Int32 → Prop, (∃ n : Nat, I4 n v3_3 0) ∧ ∀ (n4 : Nat) (v3_4 : Int64) (v5_4 : Int32), I4 n4 v3_4 v5_4 → ((6 ≤ v5_4 → vp_in v2_2 64 ∧ ∀ σ_5 : CS, σ_5 = cs_most σ_2 (vp_updL (c_most σ_2) (v2_2).toNatClampNeg v3_4) → ∀ v2_6 : Int32, v2_6 = v2_2 + (-1) → ∃ n' : Nat, n' < n2 ∧ I2 n' v2_6 (σ_5)) ∧ (¬ 6 ≤ v5_4 → wp_X1_isIn v2_2 v5_4 (fun r_7 => ((r_7 = 0 → (((lg_cmp 0 0) = 0 → ∀ v5_8 : Int32, v5_8 = v5_4 + 1 → ∃ n' : Nat, n' < n4 ∧ I4 n' v3_4 v5_8) ∧ (¬ (lg_cmp 0 0) = 0 → wp_X1_setWithout v2_2 v5_4 (fun r_9 => wp_X1_mostOf σ_2 r_9 (fun r_10 => ∀ v3_11 : Int64, v3_11 = (if (r_10 + 0) < v3_4 then v3_4 else (r_10 + 0)) → ∀ v5_12 : Int32, v5_12 = v5_4 + 1 → ∃ n' : Nat, n' < n4 ∧ I4 n' v3_11 v5_12))))) ∧ (¬ r_7 = 0 → wp_X1_keyIn σ_2 v5_4 p1 (fun r_13 => (((lg_cmp r_13 0) = 0 → ∀ v5_14 : Int32, v5_14 = v5_4 + 1 → ∃ n' : Nat, n' < n4 ∧ I4 n' v3_4 v5_14) ∧ (¬ (lg_cmp r_13 0) = 0 → wp_X1_setWithout v2_2 v5_4 (fun r_15 => wp_X1_mostOf σ_2 r_15 (fun r_16 => ∀ v3_17 : Int64, v3_17 = (if (r_16 + r_13) < v3_4 then v3_4 else (r_16 + r_13)) → ∀ v5_18 : Int32, v5_18 = v5_4 + 1 → ∃ n' : Nat, n' < n4 ∧ I4 n' v3_17 v5_18))))))))))))
abbrev rm_X1_lookAtSpot : Room := { frames := 1, cells := 0, slots := 0, locals := 40 }
theorem in_X1_lookAtSpot_X1 : ∀ w ∈ wsX10, w ∈ wsX1_lookAtSpot := fun w h => List.mem_cons_of_mem _ (List.mem_append_right _ (h))
set_option maxHeartbeats 4000000 in
set_option maxRecDepth 100000 in
theorem ok_X1_lookAtSpot (l : Launch) (D : va_G) (cI cJ : ClassId) (a : Nat → Nat) (sz : Nat) (σ : CS) (p1 : Int32) (post : CS → Prop) (hw : wp_X1_lookAtSpot σ p1 post) : Mv l yX1_lookAtSpot wsX1_lookAtSpot rm_X1_lookAtSpot [.ref (a 3), .int p1] D (tysIJ cI cJ) (cW cI cJ a σ) sz post (cW cI cJ a) := by
  refine s_Mv (by decide) rfl (Nat.le_of_ble_eq_true rfl) ?_
  intro p e s m args below meth c A Q hx hb hml hts hown hin hK hA hret H locs ls hW hl
  have hown : s.vm.findClass RX1 = some m.cls := hown
  have hl : lv_has ls 8 [(0, .ref (a 3)), (1, .int p1)] := hl
  have hinX1 := in_X1_lookAtSpot_X1
  refine lv_aload_n hx hb dX1_lookAtSpot_0 rfl (lv_at hl 0 rfl) ?_
  refine va_get (D := D) (ci := 1) (v := .ref (a 5)) (C := RX1) (T := TX1) (N := 2) hx hb hts hinX1 hown hK hW.1 3 rfl rfl 1 (by decide) (hts _ (List.mem_of_getElem? (i := 1) rfl)) (fun _ h9 => h9) rfl dX1_lookAtSpot_1 ?_
  refine va_alen (v := 64) hx hb hK hW.1 5 1 rfl rfl rfl dX1_lookAtSpot_4 ?_
  refine lv_iconst (v := 1) hx hb dX1_lookAtSpot_5 (by decide) ?_
  refine lv_isub hx hb dX1_lookAtSpot_6 ?_
  refine lv_topi (fun v2_1 ev2_1 => ?_)
  have hw := hw v2_1 ev2_1
  refine lv_istore_n (lv' := [(2, .int v2_1), (0, .ref (a 3)), (1, .int p1)]) hx hb dX1_lookAtSpot_7 rfl hl (by decide) rfl (fun ls hl => ?_)
  obtain ⟨I2, ⟨n2, hI2⟩, hJ2⟩ := hw
  have hl : lv_has ls 8 [(0, .ref (a 3)), (1, .int p1), (2, .int v2_1)] := lv_sub hl [1, 2, 0] rfl
  suffices LP2 : ∀ (n : Nat) (v2_2 : Int32) (σ_2 : CS) (H : Heap) (locs : List Loc) (ls : Array Slot), I2 n v2_2 σ_2 → Wd D A s.heap (cW cI cJ a σ_2) H locs → lv_has ls 8 [(0, .ref (a 3)), (1, .int p1), (2, .int v2_2)] → W p l e rm_X1_lookAtSpot s m args below meth c H locs 0 0 Q (F0 m 8 ls []) from LP2 n2 v2_1 _ H locs ls hI2 hW hl
  intro n2
  induction n2 using Nat.strongRecOn with
  | ind n2 ih2 =>
    intro v2_2 σ_2 H locs ls hIn hW hl
    have hw := hJ2 n2 v2_2 σ_2 hIn
    refine lv_iload_n hx hb dX1_lookAtSpot_8 rfl (lv_at hl 2 rfl) ?_
    refine lv_if_le (tgt := 98) hx hb dX1_lookAtSpot_9 (by decide) (fun hc => ?_) (fun hc => ?_)
    · have hw := hw.1 hc
      exact hret σ_2 _ _ _ _ hw hW dX1_lookAtSpot_98
    · have hw := hw.2 hc
      refine lv_aload_n hx hb dX1_lookAtSpot_12 rfl (lv_at hl 0 rfl) ?_
      refine va_get (D := D) (ci := 1) (v := .ref (a 5)) (C := RX1) (T := TX1) (N := 2) hx hb hts hinX1 hown hK hW.1 3 rfl rfl 1 (by decide) (hts _ (List.mem_of_getElem? (i := 1) rfl)) (fun _ h9 => h9) rfl dX1_lookAtSpot_13 ?_
      refine lv_iload_n hx hb dX1_lookAtSpot_16 rfl (lv_at hl 2 rfl) ?_
      refine va_lald hx hb hK hW.1 5 1 rfl rfl hw.1 dX1_lookAtSpot_17 ?_
      have hw := hw.2
      refine lv_topl (fun v3_3 ev3_3 => ?_)
      have hw := hw v3_3 ev3_3
      refine lv_lstore_n (lv' := [(3, .long v3_3), (0, .ref (a 3)), (1, .int p1), (2, .int v2_2)]) hx hb dX1_lookAtSpot_18 rfl hl (by decide) rfl (fun ls hl => ?_)
      refine lv_iconst (v := 0) hx hb dX1_lookAtSpot_19 (by decide) ?_
      refine lv_istore (lv' := [(5, .int 0), (3, .long v3_3), (0, .ref (a 3)), (1, .int p1), (2, .int v2_2)]) hx hb dX1_lookAtSpot_20 hl (by decide) rfl (fun ls hl => ?_)
      obtain ⟨I4, ⟨n4, hI4⟩, hJ4⟩ := hw
      have hl : lv_has ls 8 [(0, .ref (a 3)), (1, .int p1), (2, .int v2_2), (3, .long v3_3), (5, .int 0)] := lv_sub hl [2, 3, 4, 1, 0] rfl
      suffices LP4 : ∀ (n : Nat) (v3_4 : Int64) (v5_4 : Int32) (H : Heap) (locs : List Loc) (ls : Array Slot), I4 n v3_4 v5_4 → Wd D A s.heap (cW cI cJ a σ_2) H locs → lv_has ls 8 [(0, .ref (a 3)), (1, .int p1), (2, .int v2_2), (3, .long v3_4), (5, .int v5_4)] → W p l e rm_X1_lookAtSpot s m args below meth c H locs 0 0 Q (F0 m 22 ls []) from LP4 n4 v3_3 0 H locs ls hI4 hW hl
      intro n4
      induction n4 using Nat.strongRecOn with
      | ind n4 ih4 =>
        intro v3_4 v5_4 H locs ls hIn hW hl
        have hw := hJ4 n4 v3_4 v5_4 hIn
        refine lv_iload hx hb dX1_lookAtSpot_22 (lv_at hl 4 rfl) ?_
        refine lv_bipush (v := 6) hx hb dX1_lookAtSpot_24 (by decide) ?_
        refine lv_icmp_ge (tgt := 85) hx hb dX1_lookAtSpot_26 (by decide) (fun hc => ?_) (fun hc => ?_)
        · have hw := hw.1 hc
          refine lv_aload_n hx hb dX1_lookAtSpot_85 rfl (lv_at hl 0 rfl) ?_
          refine va_get (D := D) (ci := 1) (v := .ref (a 5)) (C := RX1) (T := TX1) (N := 2) hx hb hts hinX1 hown hK hW.1 3 rfl rfl 1 (by decide) (hts _ (List.mem_of_getElem? (i := 1) rfl)) (fun _ h9 => h9) rfl dX1_lookAtSpot_86 ?_
          refine lv_iload_n hx hb dX1_lookAtSpot_89 rfl (lv_at hl 2 rfl) ?_
          refine lv_lload_n hx hb dX1_lookAtSpot_90 rfl (lv_at hl 3 rfl) ?_
          refine st_c_most hx hb hK hW hw.1 dX1_lookAtSpot_91 (fun σ_5 eσ_5 H locs hW => ?_)
          have hw := hw.2
          have hw := hw σ_5 eσ_5
          obtain ⟨v2_6, ev2_6⟩ : ∃ y : Int32, y = v2_2 + (-1) := ⟨_, rfl⟩
          have hw := hw v2_6 ev2_6
          refine lv_iinc (v := v2_6) (lv' := [(2, .int v2_6), (0, .ref (a 3)), (1, .int p1), (3, .long v3_4), (5, .int v5_4)]) hx hb dX1_lookAtSpot_92 hl (k := 2) rfl (by rw [ev2_6]; rfl) (by decide) rfl (fun ls hl => ?_)
          refine lv_goto (tgt := 8) hx hb dX1_lookAtSpot_95 (by decide) ?_
          obtain ⟨n9, hlt9, hI9⟩ := hw
          exact ih2 n9 hlt9 _ _ _ _ _ hI9 hW (lv_sub hl [1, 2, 0] rfl)
        · have hw := hw.2 hc
          refine lv_iload_n hx hb dX1_lookAtSpot_29 rfl (lv_at hl 2 rfl) ?_
          refine lv_iload hx hb dX1_lookAtSpot_30 (lv_at hl 4 rfl) ?_
          refine kS_Pi (As := [.int v2_2, .int v5_4]) (rest := []) ⟨hx, hb, hml, hown, hts⟩ (ok_X1_isIn l _ _ _ hw) (va_cwS 2 hts gX1_lookAtSpot_X1_isIn rfl rfl rfl (by decide +kernel) ⟨Nat.le_of_ble_eq_true rfl, Nat.le_of_ble_eq_true rfl⟩) hW.2.2 rfl hl.1 rfl (Nat.le_of_ble_eq_true rfl) dX1_lookAtSpot_32 ⟨Nat.le_of_ble_eq_true rfl, Nat.le_of_ble_eq_true rfl⟩ (fun r_7 H locs hw hk hS => ?_)
          have hW := hW.kept hk hS
          refine lv_if_eq (tgt := 51) hx hb dX1_lookAtSpot_35 (by decide) (fun hc => ?_) (fun hc => ?_)
          · have hw := hw.1 hc
            refine lv_lconst (v := 0) hx hb dX1_lookAtSpot_51 (by decide) ?_
            refine lv_lstore (lv' := [(6, .long 0), (0, .ref (a 3)), (1, .int p1), (2, .int v2_2), (3, .long v3_4), (5, .int v5_4)]) hx hb dX1_lookAtSpot_52 hl (by decide) rfl (fun ls hl => ?_)
            refine lv_lload hx hb dX1_lookAtSpot_54 (lv_at hl 0 rfl) ?_
            refine lv_lconst (v := 0) hx hb dX1_lookAtSpot_56 (by decide) ?_
            refine W.lcmp hx hb dX1_lookAtSpot_57 ?_
            refine lv_if_eq (tgt := 79) hx hb dX1_lookAtSpot_58 (by decide) (fun hc => ?_) (fun hc => ?_)
            · have hw := hw.1 hc
              obtain ⟨v5_8, ev5_8⟩ : ∃ y : Int32, y = v5_4 + 1 := ⟨_, rfl⟩
              have hw := hw v5_8 ev5_8
              refine lv_iinc (v := v5_8) (lv' := [(5, .int v5_8), (6, .long 0), (0, .ref (a 3)), (1, .int p1), (2, .int v2_2), (3, .long v3_4)]) hx hb dX1_lookAtSpot_79 hl (k := 5) rfl (by rw [ev5_8]; rfl) (by decide) rfl (fun ls hl => ?_)
              refine lv_goto (tgt := 22) hx hb dX1_lookAtSpot_82 (by decide) ?_
              obtain ⟨n9, hlt9, hI9⟩ := hw
              exact ih4 n9 hlt9 _ _ _ _ _ hI9 hW (lv_sub hl [2, 3, 4, 5, 0] rfl)
            · have hw := hw.2 hc
              refine lv_lload_n hx hb dX1_lookAtSpot_61 rfl (lv_at hl 4 rfl) ?_
              refine lv_aload_n hx hb dX1_lookAtSpot_62 rfl (lv_at hl 1 rfl) ?_
              refine lv_iload_n hx hb dX1_lookAtSpot_63 rfl (lv_at hl 3 rfl) ?_
              refine lv_iload hx hb dX1_lookAtSpot_64 (lv_at hl 5 rfl) ?_
              refine kS_Pi (As := [.int v2_2, .int v5_4]) (rest := [.ref (a 3), .long v3_4]) ⟨hx, hb, hml, hown, hts⟩ (ok_X1_setWithout l _ _ _ hw) (va_cwS 2 hts gX1_lookAtSpot_X1_setWithout rfl rfl rfl (by decide +kernel) ⟨Nat.le_of_ble_eq_true rfl, Nat.le_of_ble_eq_true rfl⟩) hW.2.2 rfl hl.1 rfl (Nat.le_of_ble_eq_true rfl) dX1_lookAtSpot_66 ⟨Nat.le_of_ble_eq_true rfl, Nat.le_of_ble_eq_true rfl⟩ (fun r_9 H locs hw hk hS => ?_)
              have hW := hW.kept hk hS
              refine kV_Ml (As := [.int r_9]) (rest := [.long v3_4]) ⟨hx, hb, hml, hown, hts⟩ (ok_X1_mostOf l D cI cJ a _ _ _ _ hw) (cwV 1 hts gX1_lookAtSpot_X1_mostOf rfl rfl rfl (by decide +kernel) ⟨Nat.le_of_ble_eq_true rfl, Nat.le_of_ble_eq_true rfl⟩) hK hW hA 3 rfl rfl rfl hl.1 rfl (Nat.le_of_ble_eq_true rfl) dX1_lookAtSpot_69 ⟨Nat.le_of_ble_eq_true rfl, Nat.le_of_ble_eq_true rfl⟩ (fun r_10 _ H locs hw hW => ?_)
              refine lv_lload hx hb dX1_lookAtSpot_72 (lv_at hl 0 rfl) ?_
              refine lv_ladd hx hb dX1_lookAtSpot_74 ?_
              refine va_mmax_long hx hb (hml.trans hl.1.symm) hown (hts _ (List.mem_of_getElem? (i := 3) rfl)) (hts _ (List.mem_of_getElem? (i := 4) rfl)) (hts _ (List.mem_of_getElem? (i := 5) rfl)) (hts _ (List.mem_of_getElem? (i := 6) rfl)) (Nat.le_of_ble_eq_true rfl) (Nat.le_of_ble_eq_true rfl) (Nat.zero_le _) (Nat.zero_le _) dX1_lookAtSpot_75 ?_
              refine lv_topl (fun v3_11 ev3_11 => ?_)
              have hw := hw v3_11 ev3_11
              refine lv_lstore_n (lv' := [(3, .long v3_11), (6, .long 0), (0, .ref (a 3)), (1, .int p1), (2, .int v2_2), (5, .int v5_4)]) hx hb dX1_lookAtSpot_78 rfl hl (by decide) rfl (fun ls hl => ?_)
              obtain ⟨v5_12, ev5_12⟩ : ∃ y : Int32, y = v5_4 + 1 := ⟨_, rfl⟩
              have hw := hw v5_12 ev5_12
              refine lv_iinc (v := v5_12) (lv' := [(5, .int v5_12), (3, .long v3_11), (6, .long 0), (0, .ref (a 3)), (1, .int p1), (2, .int v2_2)]) hx hb dX1_lookAtSpot_79 hl (k := 5) rfl (by rw [ev5_12]; rfl) (by decide) rfl (fun ls hl => ?_)
              refine lv_goto (tgt := 22) hx hb dX1_lookAtSpot_82 (by decide) ?_
              obtain ⟨n9, hlt9, hI9⟩ := hw
              exact ih4 n9 hlt9 _ _ _ _ _ hI9 hW (lv_sub hl [3, 4, 5, 1, 0] rfl)
          · have hw := hw.2 hc
            refine lv_aload_n hx hb dX1_lookAtSpot_38 rfl (lv_at hl 0 rfl) ?_
            refine va_get (D := D) (ci := 1) (v := .ref (a 4)) (C := RX1) (T := TX1) (N := 2) hx hb hts hinX1 hown hK hW.1 3 rfl rfl 0 (by decide) (hts _ (List.mem_of_getElem? (i := 2) rfl)) (fun _ h9 => h9) rfl dX1_lookAtSpot_39 ?_
            refine lv_iload hx hb dX1_lookAtSpot_42 (lv_at hl 4 rfl) ?_
            refine lv_iload_n hx hb dX1_lookAtSpot_44 rfl (lv_at hl 1 rfl) ?_
            refine kS_Ml (As := [.ref (a 4), .int v5_4, .int p1]) (rest := []) ⟨hx, hb, hml, hown, hts⟩ (ok_X1_keyIn l D cI cJ a _ _ _ _ _ hw) (va_cwS 3 hts gX1_lookAtSpot_X1_keyIn rfl rfl rfl (by decide +kernel) ⟨Nat.le_of_ble_eq_true rfl, Nat.le_of_ble_eq_true rfl⟩) hK hW hA rfl hl.1 rfl (Nat.le_of_ble_eq_true rfl) dX1_lookAtSpot_45 ⟨Nat.le_of_ble_eq_true rfl, Nat.le_of_ble_eq_true rfl⟩ (fun r_13 _ H locs hw hW => ?_)
            refine lv_goto (tgt := 52) hx hb dX1_lookAtSpot_48 (by decide) ?_
            refine lv_lstore (lv' := [(6, .long r_13), (0, .ref (a 3)), (1, .int p1), (2, .int v2_2), (3, .long v3_4), (5, .int v5_4)]) hx hb dX1_lookAtSpot_52 hl (by decide) rfl (fun ls hl => ?_)
            refine lv_lload hx hb dX1_lookAtSpot_54 (lv_at hl 0 rfl) ?_
            refine lv_lconst (v := 0) hx hb dX1_lookAtSpot_56 (by decide) ?_
            refine W.lcmp hx hb dX1_lookAtSpot_57 ?_
            refine lv_if_eq (tgt := 79) hx hb dX1_lookAtSpot_58 (by decide) (fun hc => ?_) (fun hc => ?_)
            · have hw := hw.1 hc
              obtain ⟨v5_14, ev5_14⟩ : ∃ y : Int32, y = v5_4 + 1 := ⟨_, rfl⟩
              have hw := hw v5_14 ev5_14
              refine lv_iinc (v := v5_14) (lv' := [(5, .int v5_14), (6, .long r_13), (0, .ref (a 3)), (1, .int p1), (2, .int v2_2), (3, .long v3_4)]) hx hb dX1_lookAtSpot_79 hl (k := 5) rfl (by rw [ev5_14]; rfl) (by decide) rfl (fun ls hl => ?_)
              refine lv_goto (tgt := 22) hx hb dX1_lookAtSpot_82 (by decide) ?_
              obtain ⟨n9, hlt9, hI9⟩ := hw
              exact ih4 n9 hlt9 _ _ _ _ _ hI9 hW (lv_sub hl [2, 3, 4, 5, 0] rfl)
            · have hw := hw.2 hc
              refine lv_lload_n hx hb dX1_lookAtSpot_61 rfl (lv_at hl 4 rfl) ?_
              refine lv_aload_n hx hb dX1_lookAtSpot_62 rfl (lv_at hl 1 rfl) ?_
              refine lv_iload_n hx hb dX1_lookAtSpot_63 rfl (lv_at hl 3 rfl) ?_
              refine lv_iload hx hb dX1_lookAtSpot_64 (lv_at hl 5 rfl) ?_
              refine kS_Pi (As := [.int v2_2, .int v5_4]) (rest := [.ref (a 3), .long v3_4]) ⟨hx, hb, hml, hown, hts⟩ (ok_X1_setWithout l _ _ _ hw) (va_cwS 2 hts gX1_lookAtSpot_X1_setWithout rfl rfl rfl (by decide +kernel) ⟨Nat.le_of_ble_eq_true rfl, Nat.le_of_ble_eq_true rfl⟩) hW.2.2 rfl hl.1 rfl (Nat.le_of_ble_eq_true rfl) dX1_lookAtSpot_66 ⟨Nat.le_of_ble_eq_true rfl, Nat.le_of_ble_eq_true rfl⟩ (fun r_15 H locs hw hk hS => ?_)
              have hW := hW.kept hk hS
              refine kV_Ml (As := [.int r_15]) (rest := [.long v3_4]) ⟨hx, hb, hml, hown, hts⟩ (ok_X1_mostOf l D cI cJ a _ _ _ _ hw) (cwV 1 hts gX1_lookAtSpot_X1_mostOf rfl rfl rfl (by decide +kernel) ⟨Nat.le_of_ble_eq_true rfl, Nat.le_of_ble_eq_true rfl⟩) hK hW hA 3 rfl rfl rfl hl.1 rfl (Nat.le_of_ble_eq_true rfl) dX1_lookAtSpot_69 ⟨Nat.le_of_ble_eq_true rfl, Nat.le_of_ble_eq_true rfl⟩ (fun r_16 _ H locs hw hW => ?_)
              refine lv_lload hx hb dX1_lookAtSpot_72 (lv_at hl 0 rfl) ?_
              refine lv_ladd hx hb dX1_lookAtSpot_74 ?_
              refine va_mmax_long hx hb (hml.trans hl.1.symm) hown (hts _ (List.mem_of_getElem? (i := 3) rfl)) (hts _ (List.mem_of_getElem? (i := 4) rfl)) (hts _ (List.mem_of_getElem? (i := 5) rfl)) (hts _ (List.mem_of_getElem? (i := 6) rfl)) (Nat.le_of_ble_eq_true rfl) (Nat.le_of_ble_eq_true rfl) (Nat.zero_le _) (Nat.zero_le _) dX1_lookAtSpot_75 ?_
              refine lv_topl (fun v3_17 ev3_17 => ?_)
              have hw := hw v3_17 ev3_17
              refine lv_lstore_n (lv' := [(3, .long v3_17), (6, .long r_13), (0, .ref (a 3)), (1, .int p1), (2, .int v2_2), (5, .int v5_4)]) hx hb dX1_lookAtSpot_78 rfl hl (by decide) rfl (fun ls hl => ?_)
              obtain ⟨v5_18, ev5_18⟩ : ∃ y : Int32, y = v5_4 + 1 := ⟨_, rfl⟩
              have hw := hw v5_18 ev5_18
              refine lv_iinc (v := v5_18) (lv' := [(5, .int v5_18), (3, .long v3_17), (6, .long r_13), (0, .ref (a 3)), (1, .int p1), (2, .int v2_2)]) hx hb dX1_lookAtSpot_79 hl (k := 5) rfl (by rw [ev5_18]; rfl) (by decide) rfl (fun ls hl => ?_)
              refine lv_goto (tgt := 22) hx hb dX1_lookAtSpot_82 (by decide) ?_
              obtain ⟨n9, hlt9, hI9⟩ := hw
              exact ih4 n9 hlt9 _ _ _ _ _ hI9 hW (lv_sub hl [3, 4, 5, 1, 0] rfl)
def wp_X1_find (σ : CS) (p1 : Int32) (post : CS → Prop) : Prop := ∃ I1 : Nat → Int32 → CS → Prop, (∃ n : Nat, I1 n 0 (σ)) ∧ ∀ (n1 : Nat) (v2_1 : Int32) (σ_1 : CS), I1 n1 v2_1 σ_1 → ((64 ≤ v2_1 → ∃ I2 : Nat → Int32 → CS → Prop, (∃ n : Nat, I2 n 0 (σ_1)) ∧ ∀ (n2 : Nat) (v2_2 : Int32) (σ_2 : CS), I2 n2 v2_2 σ_2 → ((6 ≤ v2_2 → post σ_2) ∧ (¬ 6 ≤ v2_2 → ((v2_2 = p1 → ∀ v2_3 : Int32, v2_3 = v2_2 + 1 → ∃ n' : Nat, n' < n2 ∧ I2 n' v2_3 (σ_2)) ∧ (¬ v2_2 = p1 → wp_X1_lookAtSpot σ_2 v2_2 (fun σ_4 => ∀ v2_5 : Int32, v2_5 = v2_2 + 1 → ∃ n' : Nat, n' < n2 ∧ I2 n' v2_5 (σ_4))))))) ∧ (¬ 64 ≤ v2_1 → vp_in v2_1 64 ∧ ∀ σ_6 : CS, σ_6 = cs_most σ_1 (vp_updL (c_most σ_1) (v2_1).toNatClampNeg 0) → ∀ v2_7 : Int32, v2_7 = v2_1 + 1 → ∃ n' : Nat, n' < n1 ∧ I1 n' v2_7 (σ_6)))
abbrev rm_X1_find : Room := { frames := 2, cells := 0, slots := 0, locals := 67 }
theorem in_X1_find_X1 : ∀ w ∈ wsX10, w ∈ wsX1_find := fun w h => List.mem_cons_of_mem _ (List.mem_append_right _ (h))
set_option maxHeartbeats 4000000 in
set_option maxRecDepth 100000 in
theorem ok_X1_find (l : Launch) (D : va_G) (cI cJ : ClassId) (a : Nat → Nat) (sz : Nat) (σ : CS) (p1 : Int32) (post : CS → Prop) (hw : wp_X1_find σ p1 post) : Mv l yX1_find wsX1_find rm_X1_find [.ref (a 3), .int p1] D (tysIJ cI cJ) (cW cI cJ a σ) sz post (cW cI cJ a) := by
  refine s_Mv (by decide) rfl (Nat.le_of_ble_eq_true rfl) ?_
  intro p e s m args below meth c A Q hx hb hml hts hown hin hK hA hret H locs ls hW hl
  have hown : s.vm.findClass RX1 = some m.cls := hown
  have hl : lv_has ls 3 [(0, .ref (a 3)), (1, .int p1)] := hl
  have hinX1 := in_X1_find_X1
  refine lv_iconst (v := 0) hx hb dX1_find_0 (by decide) ?_
  refine lv_istore_n (lv' := [(2, .int 0), (0, .ref (a 3)), (1, .int p1)]) hx hb dX1_find_1 rfl hl (by decide) rfl (fun ls hl => ?_)
  obtain ⟨I1, ⟨n1, hI1⟩, hJ1⟩ := hw
  have hl : lv_has ls 3 [(0, .ref (a 3)), (1, .int p1), (2, .int 0)] := lv_sub hl [1, 2, 0] rfl
  suffices LP1 : ∀ (n : Nat) (v2_1 : Int32) (σ_1 : CS) (H : Heap) (locs : List Loc) (ls : Array Slot), I1 n v2_1 σ_1 → Wd D A s.heap (cW cI cJ a σ_1) H locs → lv_has ls 3 [(0, .ref (a 3)), (1, .int p1), (2, .int v2_1)] → W p l e rm_X1_find s m args below meth c H locs 0 0 Q (F0 m 2 ls []) from LP1 n1 0 _ H locs ls hI1 hW hl
  intro n1
  induction n1 using Nat.strongRecOn with
  | ind n1 ih1 =>
    intro v2_1 σ_1 H locs ls hIn hW hl
    have hw := hJ1 n1 v2_1 σ_1 hIn
    refine lv_iload_n hx hb dX1_find_2 rfl (lv_at hl 2 rfl) ?_
    refine lv_aload_n hx hb dX1_find_3 rfl (lv_at hl 0 rfl) ?_
    refine va_get (D := D) (ci := 1) (v := .ref (a 5)) (C := RX1) (T := TX1) (N := 2) hx hb hts hinX1 hown hK hW.1 3 rfl rfl 1 (by decide) (hts _ (List.mem_of_getElem? (i := 1) rfl)) (fun _ h9 => h9) rfl dX1_find_4 ?_
    refine va_alen (v := 64) hx hb hK hW.1 5 1 rfl rfl rfl dX1_find_7 ?_
    refine lv_icmp_ge (tgt := 24) hx hb dX1_find_8 (by decide) (fun hc => ?_) (fun hc => ?_)
    · have hw := hw.1 hc
      refine lv_iconst (v := 0) hx hb dX1_find_24 (by decide) ?_
      refine lv_istore_n (lv' := [(2, .int 0), (0, .ref (a 3)), (1, .int p1)]) hx hb dX1_find_25 rfl hl (by decide) rfl (fun ls hl => ?_)
      obtain ⟨I2, ⟨n2, hI2⟩, hJ2⟩ := hw
      have hl : lv_has ls 3 [(0, .ref (a 3)), (1, .int p1), (2, .int 0)] := lv_sub hl [1, 2, 0] rfl
      suffices LP2 : ∀ (n : Nat) (v2_2 : Int32) (σ_2 : CS) (H : Heap) (locs : List Loc) (ls : Array Slot), I2 n v2_2 σ_2 → Wd D A s.heap (cW cI cJ a σ_2) H locs → lv_has ls 3 [(0, .ref (a 3)), (1, .int p1), (2, .int v2_2)] → W p l e rm_X1_find s m args below meth c H locs 0 0 Q (F0 m 26 ls []) from LP2 n2 0 _ H locs ls hI2 hW hl
      intro n2
      induction n2 using Nat.strongRecOn with
      | ind n2 ih2 =>
        intro v2_2 σ_2 H locs ls hIn hW hl
        have hw := hJ2 n2 v2_2 σ_2 hIn
        refine lv_iload_n hx hb dX1_find_26 rfl (lv_at hl 2 rfl) ?_
        refine lv_bipush (v := 6) hx hb dX1_find_27 (by decide) ?_
        refine lv_icmp_ge (tgt := 48) hx hb dX1_find_29 (by decide) (fun hc => ?_) (fun hc => ?_)
        · have hw := hw.1 hc
          exact hret σ_2 _ _ _ _ hw hW dX1_find_48
        · have hw := hw.2 hc
          refine lv_iload_n hx hb dX1_find_32 rfl (lv_at hl 2 rfl) ?_
          refine lv_iload_n hx hb dX1_find_33 rfl (lv_at hl 1 rfl) ?_
          refine lv_icmp_eq (tgt := 42) hx hb dX1_find_34 (by decide) (fun hc => ?_) (fun hc => ?_)
          · have hw := hw.1 hc
            obtain ⟨v2_3, ev2_3⟩ : ∃ y : Int32, y = v2_2 + 1 := ⟨_, rfl⟩
            have hw := hw v2_3 ev2_3
            refine lv_iinc (v := v2_3) (lv' := [(2, .int v2_3), (0, .ref (a 3)), (1, .int p1)]) hx hb dX1_find_42 hl (k := 2) rfl (by rw [ev2_3]; rfl) (by decide) rfl (fun ls hl => ?_)
            refine lv_goto (tgt := 26) hx hb dX1_find_45 (by decide) ?_
            obtain ⟨n9, hlt9, hI9⟩ := hw
            exact ih2 n9 hlt9 _ _ _ _ _ hI9 hW (lv_sub hl [1, 2, 0] rfl)
          · have hw := hw.2 hc
            refine lv_aload_n hx hb dX1_find_37 rfl (lv_at hl 0 rfl) ?_
            refine lv_iload_n hx hb dX1_find_38 rfl (lv_at hl 2 rfl) ?_
            refine kV_Mv (As := [.int v2_2]) (rest := []) ⟨hx, hb, hml, hown, hts⟩ (ok_X1_lookAtSpot l D cI cJ a _ _ _ _ hw) (cwV 1 hts gX1_find_X1_lookAtSpot rfl rfl rfl (by decide +kernel) ⟨Nat.le_of_ble_eq_true rfl, Nat.le_of_ble_eq_true rfl⟩) hK hW hA 3 rfl rfl rfl hl.1 rfl (Nat.le_of_ble_eq_true rfl) dX1_find_39 ⟨Nat.le_of_ble_eq_true rfl, Nat.le_of_ble_eq_true rfl⟩ (fun σ_4 H locs hw hW => ?_)
            obtain ⟨v2_5, ev2_5⟩ : ∃ y : Int32, y = v2_2 + 1 := ⟨_, rfl⟩
            have hw := hw v2_5 ev2_5
            refine lv_iinc (v := v2_5) (lv' := [(2, .int v2_5), (0, .ref (a 3)), (1, .int p1)]) hx hb dX1_find_42 hl (k := 2) rfl (by rw [ev2_5]; rfl) (by decide) rfl (fun ls hl => ?_)
            refine lv_goto (tgt := 26) hx hb dX1_find_45 (by decide) ?_
            obtain ⟨n9, hlt9, hI9⟩ := hw
            exact ih2 n9 hlt9 _ _ _ _ _ hI9 hW (lv_sub hl [1, 2, 0] rfl)
    · have hw := hw.2 hc
      refine lv_aload_n hx hb dX1_find_11 rfl (lv_at hl 0 rfl) ?_
      refine va_get (D := D) (ci := 1) (v := .ref (a 5)) (C := RX1) (T := TX1) (N := 2) hx hb hts hinX1 hown hK hW.1 3 rfl rfl 1 (by decide) (hts _ (List.mem_of_getElem? (i := 1) rfl)) (fun _ h9 => h9) rfl dX1_find_12 ?_
      refine lv_iload_n hx hb dX1_find_15 rfl (lv_at hl 2 rfl) ?_
      refine lv_lconst (v := 0) hx hb dX1_find_16 (by decide) ?_
      refine st_c_most hx hb hK hW hw.1 dX1_find_17 (fun σ_6 eσ_6 H locs hW => ?_)
      have hw := hw.2
      have hw := hw σ_6 eσ_6
      obtain ⟨v2_7, ev2_7⟩ : ∃ y : Int32, y = v2_1 + 1 := ⟨_, rfl⟩
      have hw := hw v2_7 ev2_7
      refine lv_iinc (v := v2_7) (lv' := [(2, .int v2_7), (0, .ref (a 3)), (1, .int p1)]) hx hb dX1_find_18 hl (k := 2) rfl (by rw [ev2_7]; rfl) (by decide) rfl (fun ls hl => ?_)
      refine lv_goto (tgt := 2) hx hb dX1_find_21 (by decide) ?_
      obtain ⟨n9, hlt9, hI9⟩ := hw
      exact ih1 n9 hlt9 _ _ _ _ _ hI9 hW (lv_sub hl [1, 2, 0] rfl)
def wp_X1_keyWithout (σ : CS) (p1 : Int32) (post : Int64 → Prop) : Prop := wp_X1_setWithout 63 p1 (fun r_1 => wp_X1_mostOf σ r_1 (fun r_2 => post r_2))
abbrev rm_X1_keyWithout : Room := { frames := 1, cells := 0, slots := 0, locals := 21 }
set_option maxHeartbeats 4000000 in
set_option maxRecDepth 100000 in
theorem ok_X1_keyWithout (l : Launch) (D : va_G) (cI cJ : ClassId) (a : Nat → Nat) (sz : Nat) (σ : CS) (p1 : Int32) (post : Int64 → Prop) (hw : wp_X1_keyWithout σ p1 post) : Ml l yX1_keyWithout wsX1_keyWithout rm_X1_keyWithout [.ref (a 3), .int p1] D (tysIJ cI cJ) (cW cI cJ a σ) sz (fun r (_ : Unit) => post r) (fun _ => cW cI cJ a σ) := by
  refine s_Ml (by decide) rfl (Nat.le_of_ble_eq_true rfl) ?_
  intro p e s m args below meth c A Q hx hb hml hts hown hin hK hA hret H locs ls hW hl
  have hown : s.vm.findClass RX1 = some m.cls := hown
  have hl : lv_has ls 2 [(0, .ref (a 3)), (1, .int p1)] := hl
  refine lv_aload_n hx hb dX1_keyWithout_0 rfl (lv_at hl 0 rfl) ?_
  refine lv_bipush (v := 63) hx hb dX1_keyWithout_1 (by decide) ?_
  refine lv_iload_n hx hb dX1_keyWithout_3 rfl (lv_at hl 1 rfl) ?_
  refine kS_Pi (As := [.int 63, .int p1]) (rest := [.ref (a 3)]) ⟨hx, hb, hml, hown, hts⟩ (ok_X1_setWithout l _ _ _ hw) (va_cwS 2 hts gX1_keyWithout_X1_setWithout rfl rfl rfl (by decide +kernel) ⟨Nat.le_of_ble_eq_true rfl, Nat.le_of_ble_eq_true rfl⟩) hW.2.2 rfl hl.1 rfl (Nat.le_of_ble_eq_true rfl) dX1_keyWithout_4 ⟨Nat.le_of_ble_eq_true rfl, Nat.le_of_ble_eq_true rfl⟩ (fun r_1 H locs hw hk hS => ?_)
  have hW := hW.kept hk hS
  refine kV_Ml (As := [.int r_1]) (rest := []) ⟨hx, hb, hml, hown, hts⟩ (ok_X1_mostOf l D cI cJ a _ _ _ _ hw) (cwV 1 hts gX1_keyWithout_X1_mostOf rfl rfl rfl (by decide +kernel) ⟨Nat.le_of_ble_eq_true rfl, Nat.le_of_ble_eq_true rfl⟩) hK hW hA 3 rfl rfl rfl hl.1 rfl (Nat.le_of_ble_eq_true rfl) dX1_keyWithout_7 ⟨Nat.le_of_ble_eq_true rfl, Nat.le_of_ble_eq_true rfl⟩ (fun r_2 _ H locs hw hW => ?_)
  exact hret _ () _ _ _ _ hw hW dX1_keyWithout_10
def wp_X1_worthWithout (σ : CS) (p1 : Int32) (post : Int32 → Prop) : Prop := wp_X1_keyWithout σ p1 (fun r_1 => wp_X1_worthOf r_1 (fun r_2 => post r_2))
abbrev rm_X1_worthWithout : Room := { frames := 2, cells := 0, slots := 0, locals := 42 }
set_option maxHeartbeats 4000000 in
set_option maxRecDepth 100000 in
theorem ok_X1_worthWithout (l : Launch) (D : va_G) (cI cJ : ClassId) (a : Nat → Nat) (sz : Nat) (σ : CS) (p1 : Int32) (post : Int32 → Prop) (hw : wp_X1_worthWithout σ p1 post) : Mi l yX1_worthWithout wsX1_worthWithout rm_X1_worthWithout [.ref (a 3), .int p1] D (tysIJ cI cJ) (cW cI cJ a σ) sz (fun r (_ : Unit) => post r) (fun _ => cW cI cJ a σ) := by
  refine s_Mi (by decide) rfl (Nat.le_of_ble_eq_true rfl) ?_
  intro p e s m args below meth c A Q hx hb hml hts hown hin hK hA hret H locs ls hW hl
  have hown : s.vm.findClass RX1 = some m.cls := hown
  have hl : lv_has ls 2 [(0, .ref (a 3)), (1, .int p1)] := hl
  refine lv_aload_n hx hb dX1_worthWithout_0 rfl (lv_at hl 0 rfl) ?_
  refine lv_iload_n hx hb dX1_worthWithout_1 rfl (lv_at hl 1 rfl) ?_
  refine kV_Ml (As := [.int p1]) (rest := []) ⟨hx, hb, hml, hown, hts⟩ (ok_X1_keyWithout l D cI cJ a _ _ _ _ hw) (cwV 1 hts gX1_worthWithout_X1_keyWithout rfl rfl rfl (by decide +kernel) ⟨Nat.le_of_ble_eq_true rfl, Nat.le_of_ble_eq_true rfl⟩) hK hW hA 3 rfl rfl rfl hl.1 rfl (Nat.le_of_ble_eq_true rfl) dX1_worthWithout_2 ⟨Nat.le_of_ble_eq_true rfl, Nat.le_of_ble_eq_true rfl⟩ (fun r_1 _ H locs hw hW => ?_)
  refine kS_Pi (As := [.long r_1]) (rest := []) ⟨hx, hb, hml, hown, hts⟩ (ok_X1_worthOf l _ _ hw) (va_cwS 1 hts gX1_worthWithout_X1_worthOf rfl rfl rfl (by decide +kernel) ⟨Nat.le_of_ble_eq_true rfl, Nat.le_of_ble_eq_true rfl⟩) hW.2.2 rfl hl.1 rfl (Nat.le_of_ble_eq_true rfl) dX1_worthWithout_5 ⟨Nat.le_of_ble_eq_true rfl, Nat.le_of_ble_eq_true rfl⟩ (fun r_2 H locs hw hk hS => ?_)
  have hW := hW.kept hk hS
  exact hret _ () _ _ _ _ hw hW dX1_worthWithout_8
def wp_X1_ownerOf (σ : CS) (p1 : Int32) (post : Int32 → Prop) : Prop := wp_X1_keyWithout σ (-1) (fun r_1 => wp_X1_digitShift p1 (fun r_2 => ∀ v2_3 : Int32, v2_3 = (((r_1 >>> (r_2.toInt64 &&& 63))).toInt32 &&& 7) → ((¬ v2_3 = 0 → post (6 - v2_3)) ∧ (v2_3 = 0 → post (-1)))))
abbrev rm_X1_ownerOf : Room := { frames := 2, cells := 0, slots := 0, locals := 42 }
set_option maxHeartbeats 4000000 in
set_option maxRecDepth 100000 in
theorem ok_X1_ownerOf (l : Launch) (D : va_G) (cI cJ : ClassId) (a : Nat → Nat) (sz : Nat) (σ : CS) (p1 : Int32) (post : Int32 → Prop) (hw : wp_X1_ownerOf σ p1 post) : Mi l yX1_ownerOf wsX1_ownerOf rm_X1_ownerOf [.ref (a 3), .int p1] D (tysIJ cI cJ) (cW cI cJ a σ) sz (fun r (_ : Unit) => post r) (fun _ => cW cI cJ a σ) := by
  refine s_Mi (by decide) rfl (Nat.le_of_ble_eq_true rfl) ?_
  intro p e s m args below meth c A Q hx hb hml hts hown hin hK hA hret H locs ls hW hl
  have hown : s.vm.findClass RX1 = some m.cls := hown
  have hl : lv_has ls 3 [(0, .ref (a 3)), (1, .int p1)] := hl
  refine lv_aload_n hx hb dX1_ownerOf_0 rfl (lv_at hl 0 rfl) ?_
  refine lv_iconst (v := (-1)) hx hb dX1_ownerOf_1 (by decide) ?_
  refine kV_Ml (As := [.int (-1)]) (rest := []) ⟨hx, hb, hml, hown, hts⟩ (ok_X1_keyWithout l D cI cJ a _ _ _ _ hw) (cwV 1 hts gX1_ownerOf_X1_keyWithout rfl rfl rfl (by decide +kernel) ⟨Nat.le_of_ble_eq_true rfl, Nat.le_of_ble_eq_true rfl⟩) hK hW hA 3 rfl rfl rfl hl.1 rfl (Nat.le_of_ble_eq_true rfl) dX1_ownerOf_2 ⟨Nat.le_of_ble_eq_true rfl, Nat.le_of_ble_eq_true rfl⟩ (fun r_1 _ H locs hw hW => ?_)
  refine lv_iload_n hx hb dX1_ownerOf_5 rfl (lv_at hl 1 rfl) ?_
  refine kS_Pi (As := [.int p1]) (rest := [.long r_1]) ⟨hx, hb, hml, hown, hts⟩ (ok_X1_digitShift l _ _ hw) (va_cwS 1 hts gX1_ownerOf_X1_digitShift rfl rfl rfl (by decide +kernel) ⟨Nat.le_of_ble_eq_true rfl, Nat.le_of_ble_eq_true rfl⟩) hW.2.2 rfl hl.1 rfl (Nat.le_of_ble_eq_true rfl) dX1_ownerOf_6 ⟨Nat.le_of_ble_eq_true rfl, Nat.le_of_ble_eq_true rfl⟩ (fun r_2 H locs hw hk hS => ?_)
  have hW := hW.kept hk hS
  refine lv_lshr hx hb dX1_ownerOf_9 rfl ?_
  refine lv_l2i hx hb dX1_ownerOf_10 rfl ?_
  refine lv_bipush (v := 7) hx hb dX1_ownerOf_11 (by decide) ?_
  refine lv_iand hx hb dX1_ownerOf_13 ?_
  refine lv_topi (fun v2_3 ev2_3 => ?_)
  have hw := hw v2_3 ev2_3
  refine lv_istore_n (lv' := [(2, .int v2_3), (0, .ref (a 3)), (1, .int p1)]) hx hb dX1_ownerOf_14 rfl hl (by decide) rfl (fun ls hl => ?_)
  refine lv_iload_n hx hb dX1_ownerOf_15 rfl (lv_at hl 0 rfl) ?_
  refine lv_if_ne (tgt := 23) hx hb dX1_ownerOf_16 (by decide) (fun hc => ?_) (fun hc => ?_)
  · have hw := hw.1 hc
    refine lv_bipush (v := 6) hx hb dX1_ownerOf_23 (by decide) ?_
    refine lv_iload_n hx hb dX1_ownerOf_25 rfl (lv_at hl 0 rfl) ?_
    refine lv_isub hx hb dX1_ownerOf_26 ?_
    exact hret _ () _ _ _ _ hw hW dX1_ownerOf_27
  · have hw := hw.2 hc
    refine lv_iconst (v := (-1)) hx hb dX1_ownerOf_19 (by decide) ?_
    refine lv_goto (tgt := 27) hx hb dX1_ownerOf_20 (by decide) ?_
    exact hret _ () _ _ _ _ hw hW dX1_ownerOf_27
def wp_X1_spotOf (σ : CS) (p1 : Int32) (post : Int32 → Prop) : Prop := ∃ I1 : Nat → Int32 → Prop, (∃ n : Nat, I1 n 0) ∧ ∀ (n1 : Nat) (v2_1 : Int32), I1 n1 v2_1 → ((6 ≤ v2_1 → post (-1)) ∧ (¬ 6 ≤ v2_1 → wp_X1_ownerOf σ v2_1 (fun r_2 => ((¬ r_2 = p1 → ∀ v2_3 : Int32, v2_3 = v2_1 + 1 → ∃ n' : Nat, n' < n1 ∧ I1 n' v2_3) ∧ (r_2 = p1 → post v2_1)))))
abbrev rm_X1_spotOf : Room := { frames := 3, cells := 0, slots := 0, locals := 64 }
set_option maxHeartbeats 4000000 in
set_option maxRecDepth 100000 in
theorem ok_X1_spotOf (l : Launch) (D : va_G) (cI cJ : ClassId) (a : Nat → Nat) (sz : Nat) (σ : CS) (p1 : Int32) (post : Int32 → Prop) (hw : wp_X1_spotOf σ p1 post) : Mi l yX1_spotOf wsX1_spotOf rm_X1_spotOf [.ref (a 3), .int p1] D (tysIJ cI cJ) (cW cI cJ a σ) sz (fun r (_ : Unit) => post r) (fun _ => cW cI cJ a σ) := by
  refine s_Mi (by decide) rfl (Nat.le_of_ble_eq_true rfl) ?_
  intro p e s m args below meth c A Q hx hb hml hts hown hin hK hA hret H locs ls hW hl
  have hown : s.vm.findClass RX1 = some m.cls := hown
  have hl : lv_has ls 3 [(0, .ref (a 3)), (1, .int p1)] := hl
  refine lv_iconst (v := 0) hx hb dX1_spotOf_0 (by decide) ?_
  refine lv_istore_n (lv' := [(2, .int 0), (0, .ref (a 3)), (1, .int p1)]) hx hb dX1_spotOf_1 rfl hl (by decide) rfl (fun ls hl => ?_)
  obtain ⟨I1, ⟨n1, hI1⟩, hJ1⟩ := hw
  have hl : lv_has ls 3 [(0, .ref (a 3)), (1, .int p1), (2, .int 0)] := lv_sub hl [1, 2, 0] rfl
  suffices LP1 : ∀ (n : Nat) (v2_1 : Int32) (H : Heap) (locs : List Loc) (ls : Array Slot), I1 n v2_1 → Wd D A s.heap (cW cI cJ a σ) H locs → lv_has ls 3 [(0, .ref (a 3)), (1, .int p1), (2, .int v2_1)] → W p l e rm_X1_spotOf s m args below meth c H locs 0 0 Q (F0 m 2 ls []) from LP1 n1 0 H locs ls hI1 hW hl
  intro n1
  induction n1 using Nat.strongRecOn with
  | ind n1 ih1 =>
    intro v2_1 H locs ls hIn hW hl
    have hw := hJ1 n1 v2_1 hIn
    refine lv_iload_n hx hb dX1_spotOf_2 rfl (lv_at hl 2 rfl) ?_
    refine lv_bipush (v := 6) hx hb dX1_spotOf_3 (by decide) ?_
    refine lv_icmp_ge (tgt := 25) hx hb dX1_spotOf_5 (by decide) (fun hc => ?_) (fun hc => ?_)
    · have hw := hw.1 hc
      refine lv_iconst (v := (-1)) hx hb dX1_spotOf_25 (by decide) ?_
      exact hret _ () _ _ _ _ hw hW dX1_spotOf_26
    · have hw := hw.2 hc
      refine lv_aload_n hx hb dX1_spotOf_8 rfl (lv_at hl 0 rfl) ?_
      refine lv_iload_n hx hb dX1_spotOf_9 rfl (lv_at hl 2 rfl) ?_
      refine kV_Mi (As := [.int v2_1]) (rest := []) ⟨hx, hb, hml, hown, hts⟩ (ok_X1_ownerOf l D cI cJ a _ _ _ _ hw) (cwV 1 hts gX1_spotOf_X1_ownerOf rfl rfl rfl (by decide +kernel) ⟨Nat.le_of_ble_eq_true rfl, Nat.le_of_ble_eq_true rfl⟩) hK hW hA 3 rfl rfl rfl hl.1 rfl (Nat.le_of_ble_eq_true rfl) dX1_spotOf_10 ⟨Nat.le_of_ble_eq_true rfl, Nat.le_of_ble_eq_true rfl⟩ (fun r_2 _ H locs hw hW => ?_)
      refine lv_iload_n hx hb dX1_spotOf_13 rfl (lv_at hl 1 rfl) ?_
      refine lv_icmp_ne (tgt := 19) hx hb dX1_spotOf_14 (by decide) (fun hc => ?_) (fun hc => ?_)
      · have hw := hw.1 hc
        obtain ⟨v2_3, ev2_3⟩ : ∃ y : Int32, y = v2_1 + 1 := ⟨_, rfl⟩
        have hw := hw v2_3 ev2_3
        refine lv_iinc (v := v2_3) (lv' := [(2, .int v2_3), (0, .ref (a 3)), (1, .int p1)]) hx hb dX1_spotOf_19 hl (k := 2) rfl (by rw [ev2_3]; rfl) (by decide) rfl (fun ls hl => ?_)
        refine lv_goto (tgt := 2) hx hb dX1_spotOf_22 (by decide) ?_
        obtain ⟨n9, hlt9, hI9⟩ := hw
        exact ih1 n9 hlt9 _ _ _ _ hI9 hW (lv_sub hl [1, 2, 0] rfl)
      · have hw := hw.2 hc
        refine lv_iload_n hx hb dX1_spotOf_17 rfl (lv_at hl 2 rfl) ?_
        exact hret _ () _ _ _ _ hw hW dX1_spotOf_18
def wp_X1_priceOf (σ : CS) (p1 : Int32) (post : Int32 → Prop) : Prop := wp_X1_ownerOf σ p1 (fun r_1 => ((¬ r_1 = (-1) → wp_X1_worthWithout σ (-1) (fun r_2 => wp_X1_keyIn σ r_1 p1 (fun r_3 => wp_X1_worthOf r_3 (fun r_4 => ∀ v4_5 : Int32, v4_5 = (r_2 - r_4) → wp_X2_get σ 0 p1 (fun r_6 => wp_X1_worthWithout σ r_1 (fun r_7 => post ((r_6 + r_7) - v4_5))))))) ∧ (r_1 = (-1) → post (-1))))
abbrev rm_X1_priceOf : Room := { frames := 3, cells := 0, slots := 0, locals := 64 }
theorem in_X1_priceOf_X1 : ∀ w ∈ wsX10, w ∈ wsX1_priceOf := fun w h => List.mem_cons_of_mem _ (List.mem_append_left _ (List.mem_append_right _ (h)))
set_option maxHeartbeats 4000000 in
set_option maxRecDepth 100000 in
theorem ok_X1_priceOf (l : Launch) (D : va_G) (cI cJ : ClassId) (a : Nat → Nat) (sz : Nat) (σ : CS) (p1 : Int32) (post : Int32 → Prop) (hw : wp_X1_priceOf σ p1 post) : Mi l yX1_priceOf wsX1_priceOf rm_X1_priceOf [.ref (a 3), .int p1, .ref (a 1)] D (tysIJ cI cJ) (cW cI cJ a σ) sz (fun r (_ : Unit) => post r) (fun _ => cW cI cJ a σ) := by
  refine s_Mi (by decide) rfl (Nat.le_of_ble_eq_true rfl) ?_
  intro p e s m args below meth c A Q hx hb hml hts hown hin hK hA hret H locs ls hW hl
  have hown : s.vm.findClass RX1 = some m.cls := hown
  have hl : lv_has ls 5 [(0, .ref (a 3)), (1, .int p1), (2, .ref (a 1))] := hl
  have hinX1 := in_X1_priceOf_X1
  refine lv_aload_n hx hb dX1_priceOf_0 rfl (lv_at hl 0 rfl) ?_
  refine lv_iload_n hx hb dX1_priceOf_1 rfl (lv_at hl 1 rfl) ?_
  refine kV_Mi (As := [.int p1]) (rest := []) ⟨hx, hb, hml, hown, hts⟩ (ok_X1_ownerOf l D cI cJ a _ _ _ _ hw) (cwV 1 hts gX1_priceOf_X1_ownerOf rfl rfl rfl (by decide +kernel) ⟨Nat.le_of_ble_eq_true rfl, Nat.le_of_ble_eq_true rfl⟩) hK hW hA 3 rfl rfl rfl hl.1 rfl (Nat.le_of_ble_eq_true rfl) dX1_priceOf_2 ⟨Nat.le_of_ble_eq_true rfl, Nat.le_of_ble_eq_true rfl⟩ (fun r_1 _ H locs hw hW => ?_)
  refine lv_istore_n (lv' := [(3, .int r_1), (0, .ref (a 3)), (1, .int p1), (2, .ref (a 1))]) hx hb dX1_priceOf_5 rfl hl (by decide) rfl (fun ls hl => ?_)
  refine lv_iload_n hx hb dX1_priceOf_6 rfl (lv_at hl 0 rfl) ?_
  refine lv_iconst (v := (-1)) hx hb dX1_priceOf_7 (by decide) ?_
  refine lv_icmp_ne (tgt := 13) hx hb dX1_priceOf_8 (by decide) (fun hc => ?_) (fun hc => ?_)
  · have hw := hw.1 hc
    refine lv_aload_n hx hb dX1_priceOf_13 rfl (lv_at hl 1 rfl) ?_
    refine lv_iconst (v := (-1)) hx hb dX1_priceOf_14 (by decide) ?_
    refine kV_Mi (As := [.int (-1)]) (rest := []) ⟨hx, hb, hml, hown, hts⟩ (ok_X1_worthWithout l D cI cJ a _ _ _ _ hw) (cwV 1 hts gX1_priceOf_X1_worthWithout rfl rfl rfl (by decide +kernel) ⟨Nat.le_of_ble_eq_true rfl, Nat.le_of_ble_eq_true rfl⟩) hK hW hA 3 rfl rfl rfl hl.1 rfl (Nat.le_of_ble_eq_true rfl) dX1_priceOf_15 ⟨Nat.le_of_ble_eq_true rfl, Nat.le_of_ble_eq_true rfl⟩ (fun r_2 _ H locs hw hW => ?_)
    refine lv_aload_n hx hb dX1_priceOf_18 rfl (lv_at hl 1 rfl) ?_
    refine va_get (D := D) (ci := 1) (v := .ref (a 4)) (C := RX1) (T := TX1) (N := 2) hx hb hts hinX1 hown hK hW.1 3 rfl rfl 0 (by decide) (hts _ (List.mem_of_getElem? (i := 1) rfl)) (fun _ h9 => h9) rfl dX1_priceOf_19 ?_
    refine lv_iload_n hx hb dX1_priceOf_22 rfl (lv_at hl 0 rfl) ?_
    refine lv_iload_n hx hb dX1_priceOf_23 rfl (lv_at hl 2 rfl) ?_
    refine kS_Ml (As := [.ref (a 4), .int r_1, .int p1]) (rest := [.int r_2]) ⟨hx, hb, hml, hown, hts⟩ (ok_X1_keyIn l D cI cJ a _ _ _ _ _ hw) (va_cwS 3 hts gX1_priceOf_X1_keyIn rfl rfl rfl (by decide +kernel) ⟨Nat.le_of_ble_eq_true rfl, Nat.le_of_ble_eq_true rfl⟩) hK hW hA rfl hl.1 rfl (Nat.le_of_ble_eq_true rfl) dX1_priceOf_24 ⟨Nat.le_of_ble_eq_true rfl, Nat.le_of_ble_eq_true rfl⟩ (fun r_3 _ H locs hw hW => ?_)
    refine kS_Pi (As := [.long r_3]) (rest := [.int r_2]) ⟨hx, hb, hml, hown, hts⟩ (ok_X1_worthOf l _ _ hw) (va_cwS 1 hts gX1_priceOf_X1_worthOf rfl rfl rfl (by decide +kernel) ⟨Nat.le_of_ble_eq_true rfl, Nat.le_of_ble_eq_true rfl⟩) hW.2.2 rfl hl.1 rfl (Nat.le_of_ble_eq_true rfl) dX1_priceOf_27 ⟨Nat.le_of_ble_eq_true rfl, Nat.le_of_ble_eq_true rfl⟩ (fun r_4 H locs hw hk hS => ?_)
    have hW := hW.kept hk hS
    refine lv_isub hx hb dX1_priceOf_30 ?_
    refine lv_topi (fun v4_5 ev4_5 => ?_)
    have hw := hw v4_5 ev4_5
    refine lv_istore (lv' := [(4, .int v4_5), (3, .int r_1), (0, .ref (a 3)), (1, .int p1), (2, .ref (a 1))]) hx hb dX1_priceOf_31 hl (by decide) rfl (fun ls hl => ?_)
    refine lv_aload_n hx hb dX1_priceOf_33 rfl (lv_at hl 4 rfl) ?_
    refine lv_iconst (v := 0) hx hb dX1_priceOf_34 (by decide) ?_
    refine lv_iload_n hx hb dX1_priceOf_35 rfl (lv_at hl 3 rfl) ?_
    refine kV_Mi (As := [.int 0, .int p1]) (rest := []) ⟨hx, hb, hml, hown, hts⟩ (ok_X2_get l D cI cJ a _ _ _ _ _ hw) (cwV 2 hts gX1_priceOf_X2_get rfl rfl rfl (by decide +kernel) ⟨Nat.le_of_ble_eq_true rfl, Nat.le_of_ble_eq_true rfl⟩) hK hW hA 1 rfl rfl rfl hl.1 rfl (Nat.le_of_ble_eq_true rfl) dX1_priceOf_36 ⟨Nat.le_of_ble_eq_true rfl, Nat.le_of_ble_eq_true rfl⟩ (fun r_6 _ H locs hw hW => ?_)
    refine lv_aload_n hx hb dX1_priceOf_39 rfl (lv_at hl 2 rfl) ?_
    refine lv_iload_n hx hb dX1_priceOf_40 rfl (lv_at hl 1 rfl) ?_
    refine kV_Mi (As := [.int r_1]) (rest := [.int r_6]) ⟨hx, hb, hml, hown, hts⟩ (ok_X1_worthWithout l D cI cJ a _ _ _ _ hw) (cwV 1 hts gX1_priceOf_X1_worthWithout rfl rfl rfl (by decide +kernel) ⟨Nat.le_of_ble_eq_true rfl, Nat.le_of_ble_eq_true rfl⟩) hK hW hA 3 rfl rfl rfl hl.1 rfl (Nat.le_of_ble_eq_true rfl) dX1_priceOf_41 ⟨Nat.le_of_ble_eq_true rfl, Nat.le_of_ble_eq_true rfl⟩ (fun r_7 _ H locs hw hW => ?_)
    refine lv_iadd hx hb dX1_priceOf_44 ?_
    refine lv_iload hx hb dX1_priceOf_45 (lv_at hl 0 rfl) ?_
    refine lv_isub hx hb dX1_priceOf_47 ?_
    exact hret _ () _ _ _ _ hw hW dX1_priceOf_48
  · have hw := hw.2 hc
    refine lv_iconst (v := (-1)) hx hb dX1_priceOf_11 (by decide) ?_
    exact hret _ () _ _ _ _ hw hW dX1_priceOf_12
def wp_X1_tryFrom : Nat → CS → Int32 → Int32 → (Int32 → Prop) → Prop
  | 0, _, _, _, _ => False
  | d + 1, σ, p2, p3, post => ((p2 < 6 → wp_X1_tryFrom d σ (p2 + 1) p3 (fun r_1 => ∃ I2 : Nat → Int32 → Int32 → Prop, (∃ n : Nat, I2 n r_1 0) ∧ ∀ (n2 : Nat) (v3_2 : Int32) (v4_2 : Int32), I2 n2 v3_2 v4_2 → ((6 ≤ v4_2 → post v3_2) ∧ (¬ 6 ≤ v4_2 → wp_X1_isIn p3 v4_2 (fun r_3 => ((r_3 = 0 → (((lg_cmp 0 0) = 0 → ∀ v4_4 : Int32, v4_4 = v4_2 + 1 → ∃ n' : Nat, n' < n2 ∧ I2 n' v3_2 v4_4) ∧ (¬ (lg_cmp 0 0) = 0 → wp_X1_setWithout p3 v4_2 (fun r_5 => wp_X1_tryFrom d σ (p2 + 1) r_5 (fun r_6 => wp_X1_worthOf 0 (fun r_7 => ∀ v3_8 : Int32, v3_8 = (if v3_2 < (r_7 + r_6) then (r_7 + r_6) else v3_2) → ∀ v4_9 : Int32, v4_9 = v4_2 + 1 → ∃ n' : Nat, n' < n2 ∧ I2 n' v3_8 v4_9)))))) ∧ (¬ r_3 = 0 → wp_X1_keyIn σ v4_2 p2 (fun r_10 => (((lg_cmp r_10 0) = 0 → ∀ v4_11 : Int32, v4_11 = v4_2 + 1 → ∃ n' : Nat, n' < n2 ∧ I2 n' v3_2 v4_11) ∧ (¬ (lg_cmp r_10 0) = 0 → wp_X1_setWithout p3 v4_2 (fun r_12 => wp_X1_tryFrom d σ (p2 + 1) r_12 (fun r_13 => wp_X1_worthOf r_10 (fun r_14 => ∀ v3_15 : Int32, v3_15 = (if v3_2 < (r_14 + r_13) then (r_14 + r_13) else v3_2) → ∀ v4_16 : Int32, v4_16 = v4_2 + 1 → ∃ n' : Nat, n' < n2 ∧ I2 n' v3_15 v4_16))))))))))))) ∧ (¬ p2 < 6 → post 0))
abbrev rm_X1_tryFrom (d : Nat) : Room := { frames := d + 1, cells := 0, slots := 0, locals := 40 + d * 50 }
set_option maxHeartbeats 4000000 in
set_option maxRecDepth 100000 in
theorem ok_X1_tryFrom (l : Launch) (D : va_G) (cI cJ : ClassId) (a : Nat → Nat) (d : Nat) : ∀ (sz : Nat) (σ : CS) (p2 p3 : Int32) (post : Int32 → Prop), wp_X1_tryFrom d σ p2 p3 post → Mi l yX1_tryFrom wsX1_tryFrom (rm_X1_tryFrom d) [.ref (a 4), .int p2, .int p3] D (tysIJ cI cJ) (cW cI cJ a σ) sz (fun r (_ : Unit) => post r) (fun _ => cW cI cJ a σ) := by
  induction d with
  | zero => intro sz σ p2 p3 post hw; exact hw.elim
  | succ d ih =>
  intro sz σ p2 p3 post hw
  refine s_Mi (by decide) rfl (Nat.le_of_ble_eq_true rfl) ?_
  intro p e s m args below meth c A Q hx hb hml hts hown hin hK hA hret H locs ls hW hl
  have hown : s.vm.findClass RX1 = some m.cls := hown
  have hl : lv_has ls 8 [(0, .ref (a 4)), (1, .int p2), (2, .int p3)] := hl
  refine lv_iload_n hx hb dX1_tryFrom_0 rfl (lv_at hl 1 rfl) ?_
  refine lv_bipush (v := 6) hx hb dX1_tryFrom_1 (by decide) ?_
  refine lv_icmp_lt (tgt := 8) hx hb dX1_tryFrom_3 (by decide) (fun hc => ?_) (fun hc => ?_)
  · have hw := hw.1 hc
    refine lv_aload_n hx hb dX1_tryFrom_8 rfl (lv_at hl 0 rfl) ?_
    refine lv_iload_n hx hb dX1_tryFrom_9 rfl (lv_at hl 1 rfl) ?_
    refine lv_iconst (v := 1) hx hb dX1_tryFrom_10 (by decide) ?_
    refine lv_iadd hx hb dX1_tryFrom_11 ?_
    refine lv_iload_n hx hb dX1_tryFrom_12 rfl (lv_at hl 2 rfl) ?_
    refine kS_Mi (As := [.ref (a 4), .int (p2 + 1), .int p3]) (rest := []) ⟨hx, hb, hml, hown, hts⟩ (ih _ _ _ _ _ hw) (va_cwS 3 hts gX1_tryFrom_X1_tryFrom rfl rfl rfl (by decide +kernel) ⟨(by first | exact Nat.le_of_ble_eq_true rfl | (simp only [rm_X1_tryFrom, List.map_cons, List.map_nil, List.sum_cons, List.sum_nil, Value.category]; omega)), (by first | exact Nat.le_of_ble_eq_true rfl | (simp only [rm_X1_tryFrom, List.map_cons, List.map_nil, List.sum_cons, List.sum_nil, Value.category]; omega))⟩) hK hW hA rfl hl.1 rfl (Nat.le_of_ble_eq_true rfl) dX1_tryFrom_13 ⟨Nat.le_of_ble_eq_true rfl, Nat.le_of_ble_eq_true rfl⟩ (fun r_1 _ H locs hw hW => ?_)
    refine lv_istore_n (lv' := [(3, .int r_1), (0, .ref (a 4)), (1, .int p2), (2, .int p3)]) hx hb dX1_tryFrom_16 rfl hl (by decide) rfl (fun ls hl => ?_)
    refine lv_iconst (v := 0) hx hb dX1_tryFrom_17 (by decide) ?_
    refine lv_istore (lv' := [(4, .int 0), (3, .int r_1), (0, .ref (a 4)), (1, .int p2), (2, .int p3)]) hx hb dX1_tryFrom_18 hl (by decide) rfl (fun ls hl => ?_)
    obtain ⟨I2, ⟨n2, hI2⟩, hJ2⟩ := hw
    have hl : lv_has ls 8 [(0, .ref (a 4)), (1, .int p2), (2, .int p3), (3, .int r_1), (4, .int 0)] := lv_sub hl [2, 3, 4, 1, 0] rfl
    suffices LP2 : ∀ (n : Nat) (v3_2 : Int32) (v4_2 : Int32) (H : Heap) (locs : List Loc) (ls : Array Slot), I2 n v3_2 v4_2 → Wd D A s.heap (cW cI cJ a σ) H locs → lv_has ls 8 [(0, .ref (a 4)), (1, .int p2), (2, .int p3), (3, .int v3_2), (4, .int v4_2)] → W p l e (rm_X1_tryFrom (d + 1)) s m args below meth c H locs 0 0 Q (F0 m 20 ls []) from LP2 n2 r_1 0 H locs ls hI2 hW hl
    intro n2
    induction n2 using Nat.strongRecOn with
    | ind n2 ih2 =>
      intro v3_2 v4_2 H locs ls hIn hW hl
      have hw := hJ2 n2 v3_2 v4_2 hIn
      refine lv_iload hx hb dX1_tryFrom_20 (lv_at hl 4 rfl) ?_
      refine lv_bipush (v := 6) hx hb dX1_tryFrom_22 (by decide) ?_
      refine lv_icmp_ge (tgt := 90) hx hb dX1_tryFrom_24 (by decide) (fun hc => ?_) (fun hc => ?_)
      · have hw := hw.1 hc
        refine lv_iload_n hx hb dX1_tryFrom_90 rfl (lv_at hl 3 rfl) ?_
        exact hret _ () _ _ _ _ hw hW dX1_tryFrom_91
      · have hw := hw.2 hc
        refine lv_iload_n hx hb dX1_tryFrom_27 rfl (lv_at hl 2 rfl) ?_
        refine lv_iload hx hb dX1_tryFrom_28 (lv_at hl 4 rfl) ?_
        refine kS_Pi (As := [.int p3, .int v4_2]) (rest := []) ⟨hx, hb, hml, hown, hts⟩ (ok_X1_isIn l _ _ _ hw) (va_cwS 2 hts gX1_tryFrom_X1_isIn rfl rfl rfl (by decide +kernel) ⟨(by first | exact Nat.le_of_ble_eq_true rfl | (simp only [rm_X1_tryFrom, List.map_cons, List.map_nil, List.sum_cons, List.sum_nil, Value.category]; omega)), (by first | exact Nat.le_of_ble_eq_true rfl | (simp only [rm_X1_tryFrom, List.map_cons, List.map_nil, List.sum_cons, List.sum_nil, Value.category]; omega))⟩) hW.2.2 rfl hl.1 rfl (Nat.le_of_ble_eq_true rfl) dX1_tryFrom_30 ⟨Nat.le_of_ble_eq_true rfl, Nat.le_of_ble_eq_true rfl⟩ (fun r_3 H locs hw hk hS => ?_)
        have hW := hW.kept hk hS
        refine lv_if_eq (tgt := 46) hx hb dX1_tryFrom_33 (by decide) (fun hc => ?_) (fun hc => ?_)
        · have hw := hw.1 hc
          refine lv_lconst (v := 0) hx hb dX1_tryFrom_46 (by decide) ?_
          refine lv_lstore (lv' := [(5, .long 0), (0, .ref (a 4)), (1, .int p2), (2, .int p3), (3, .int v3_2), (4, .int v4_2)]) hx hb dX1_tryFrom_47 hl (by decide) rfl (fun ls hl => ?_)
          refine lv_lload hx hb dX1_tryFrom_49 (lv_at hl 0 rfl) ?_
          refine lv_lconst (v := 0) hx hb dX1_tryFrom_51 (by decide) ?_
          refine W.lcmp hx hb dX1_tryFrom_52 ?_
          refine lv_if_eq (tgt := 84) hx hb dX1_tryFrom_53 (by decide) (fun hc => ?_) (fun hc => ?_)
          · have hw := hw.1 hc
            obtain ⟨v4_4, ev4_4⟩ : ∃ y : Int32, y = v4_2 + 1 := ⟨_, rfl⟩
            have hw := hw v4_4 ev4_4
            refine lv_iinc (v := v4_4) (lv' := [(4, .int v4_4), (5, .long 0), (0, .ref (a 4)), (1, .int p2), (2, .int p3), (3, .int v3_2)]) hx hb dX1_tryFrom_84 hl (k := 5) rfl (by rw [ev4_4]; rfl) (by decide) rfl (fun ls hl => ?_)
            refine lv_goto (tgt := 20) hx hb dX1_tryFrom_87 (by decide) ?_
            obtain ⟨n9, hlt9, hI9⟩ := hw
            exact ih2 n9 hlt9 _ _ _ _ _ hI9 hW (lv_sub hl [2, 3, 4, 5, 0] rfl)
          · have hw := hw.2 hc
            refine lv_aload_n hx hb dX1_tryFrom_56 rfl (lv_at hl 1 rfl) ?_
            refine lv_iload_n hx hb dX1_tryFrom_57 rfl (lv_at hl 2 rfl) ?_
            refine lv_iconst (v := 1) hx hb dX1_tryFrom_58 (by decide) ?_
            refine lv_iadd hx hb dX1_tryFrom_59 ?_
            refine lv_iload_n hx hb dX1_tryFrom_60 rfl (lv_at hl 3 rfl) ?_
            refine lv_iload hx hb dX1_tryFrom_61 (lv_at hl 5 rfl) ?_
            refine kS_Pi (As := [.int p3, .int v4_2]) (rest := [.int (p2 + 1), .ref (a 4)]) ⟨hx, hb, hml, hown, hts⟩ (ok_X1_setWithout l _ _ _ hw) (va_cwS 2 hts gX1_tryFrom_X1_setWithout rfl rfl rfl (by decide +kernel) ⟨(by first | exact Nat.le_of_ble_eq_true rfl | (simp only [rm_X1_tryFrom, List.map_cons, List.map_nil, List.sum_cons, List.sum_nil, Value.category]; omega)), (by first | exact Nat.le_of_ble_eq_true rfl | (simp only [rm_X1_tryFrom, List.map_cons, List.map_nil, List.sum_cons, List.sum_nil, Value.category]; omega))⟩) hW.2.2 rfl hl.1 rfl (Nat.le_of_ble_eq_true rfl) dX1_tryFrom_63 ⟨Nat.le_of_ble_eq_true rfl, Nat.le_of_ble_eq_true rfl⟩ (fun r_5 H locs hw hk hS => ?_)
            have hW := hW.kept hk hS
            refine kS_Mi (As := [.ref (a 4), .int (p2 + 1), .int r_5]) (rest := []) ⟨hx, hb, hml, hown, hts⟩ (ih _ _ _ _ _ hw) (va_cwS 3 hts gX1_tryFrom_X1_tryFrom rfl rfl rfl (by decide +kernel) ⟨(by first | exact Nat.le_of_ble_eq_true rfl | (simp only [rm_X1_tryFrom, List.map_cons, List.map_nil, List.sum_cons, List.sum_nil, Value.category]; omega)), (by first | exact Nat.le_of_ble_eq_true rfl | (simp only [rm_X1_tryFrom, List.map_cons, List.map_nil, List.sum_cons, List.sum_nil, Value.category]; omega))⟩) hK hW hA rfl hl.1 rfl (Nat.le_of_ble_eq_true rfl) dX1_tryFrom_66 ⟨Nat.le_of_ble_eq_true rfl, Nat.le_of_ble_eq_true rfl⟩ (fun r_6 _ H locs hw hW => ?_)
            refine lv_istore (lv' := [(7, .int r_6), (5, .long 0), (0, .ref (a 4)), (1, .int p2), (2, .int p3), (3, .int v3_2), (4, .int v4_2)]) hx hb dX1_tryFrom_69 hl (by decide) rfl (fun ls hl => ?_)
            refine lv_iload_n hx hb dX1_tryFrom_71 rfl (lv_at hl 5 rfl) ?_
            refine lv_lload hx hb dX1_tryFrom_72 (lv_at hl 1 rfl) ?_
            refine kS_Pi (As := [.long 0]) (rest := [.int v3_2]) ⟨hx, hb, hml, hown, hts⟩ (ok_X1_worthOf l _ _ hw) (va_cwS 1 hts gX1_tryFrom_X1_worthOf rfl rfl rfl (by decide +kernel) ⟨(by first | exact Nat.le_of_ble_eq_true rfl | (simp only [rm_X1_tryFrom, List.map_cons, List.map_nil, List.sum_cons, List.sum_nil, Value.category]; omega)), (by first | exact Nat.le_of_ble_eq_true rfl | (simp only [rm_X1_tryFrom, List.map_cons, List.map_nil, List.sum_cons, List.sum_nil, Value.category]; omega))⟩) hW.2.2 rfl hl.1 rfl (Nat.le_of_ble_eq_true rfl) dX1_tryFrom_74 ⟨Nat.le_of_ble_eq_true rfl, Nat.le_of_ble_eq_true rfl⟩ (fun r_7 H locs hw hk hS => ?_)
            have hW := hW.kept hk hS
            refine lv_iload hx hb dX1_tryFrom_77 (lv_at hl 0 rfl) ?_
            refine lv_iadd hx hb dX1_tryFrom_79 ?_
            have hf9 : 1 ≤ (rm_X1_tryFrom (d + 1)).frames := (by first | exact Nat.le_of_ble_eq_true rfl | (simp only [rm_X1_tryFrom, List.map_cons, List.map_nil, List.sum_cons, List.sum_nil, Value.category]; omega))
            refine va_mmax hx hb (hml.trans hl.1.symm) hown (hts _ (List.mem_of_getElem? (i := 1) rfl)) (hts _ (List.mem_of_getElem? (i := 2) rfl)) (hts _ (List.mem_of_getElem? (i := 3) rfl)) (hts _ (List.mem_of_getElem? (i := 4) rfl)) (by first | exact Nat.le_of_ble_eq_true rfl | (simp only [rm_X1_tryFrom, List.map_cons, List.map_nil, List.sum_cons, List.sum_nil, Value.category]; omega)) (by first | exact Nat.le_of_ble_eq_true rfl | (simp only [rm_X1_tryFrom, List.map_cons, List.map_nil, List.sum_cons, List.sum_nil, Value.category]; omega)) (Nat.zero_le _) (Nat.zero_le _) dX1_tryFrom_80 ?_
            refine lv_topi (fun v3_8 ev3_8 => ?_)
            have hw := hw v3_8 ev3_8
            refine lv_istore_n (lv' := [(3, .int v3_8), (7, .int r_6), (5, .long 0), (0, .ref (a 4)), (1, .int p2), (2, .int p3), (4, .int v4_2)]) hx hb dX1_tryFrom_83 rfl hl (by decide) rfl (fun ls hl => ?_)
            obtain ⟨v4_9, ev4_9⟩ : ∃ y : Int32, y = v4_2 + 1 := ⟨_, rfl⟩
            have hw := hw v4_9 ev4_9
            refine lv_iinc (v := v4_9) (lv' := [(4, .int v4_9), (3, .int v3_8), (7, .int r_6), (5, .long 0), (0, .ref (a 4)), (1, .int p2), (2, .int p3)]) hx hb dX1_tryFrom_84 hl (k := 6) rfl (by rw [ev4_9]; rfl) (by decide) rfl (fun ls hl => ?_)
            refine lv_goto (tgt := 20) hx hb dX1_tryFrom_87 (by decide) ?_
            obtain ⟨n9, hlt9, hI9⟩ := hw
            exact ih2 n9 hlt9 _ _ _ _ _ hI9 hW (lv_sub hl [4, 5, 6, 1, 0] rfl)
        · have hw := hw.2 hc
          refine lv_aload_n hx hb dX1_tryFrom_36 rfl (lv_at hl 0 rfl) ?_
          refine lv_iload hx hb dX1_tryFrom_37 (lv_at hl 4 rfl) ?_
          refine lv_iload_n hx hb dX1_tryFrom_39 rfl (lv_at hl 1 rfl) ?_
          refine kS_Ml (As := [.ref (a 4), .int v4_2, .int p2]) (rest := []) ⟨hx, hb, hml, hown, hts⟩ (ok_X1_keyIn l D cI cJ a _ _ _ _ _ hw) (va_cwS 3 hts gX1_tryFrom_X1_keyIn rfl rfl rfl (by decide +kernel) ⟨(by first | exact Nat.le_of_ble_eq_true rfl | (simp only [rm_X1_tryFrom, List.map_cons, List.map_nil, List.sum_cons, List.sum_nil, Value.category]; omega)), (by first | exact Nat.le_of_ble_eq_true rfl | (simp only [rm_X1_tryFrom, List.map_cons, List.map_nil, List.sum_cons, List.sum_nil, Value.category]; omega))⟩) hK hW hA rfl hl.1 rfl (Nat.le_of_ble_eq_true rfl) dX1_tryFrom_40 ⟨Nat.le_of_ble_eq_true rfl, Nat.le_of_ble_eq_true rfl⟩ (fun r_10 _ H locs hw hW => ?_)
          refine lv_goto (tgt := 47) hx hb dX1_tryFrom_43 (by decide) ?_
          refine lv_lstore (lv' := [(5, .long r_10), (0, .ref (a 4)), (1, .int p2), (2, .int p3), (3, .int v3_2), (4, .int v4_2)]) hx hb dX1_tryFrom_47 hl (by decide) rfl (fun ls hl => ?_)
          refine lv_lload hx hb dX1_tryFrom_49 (lv_at hl 0 rfl) ?_
          refine lv_lconst (v := 0) hx hb dX1_tryFrom_51 (by decide) ?_
          refine W.lcmp hx hb dX1_tryFrom_52 ?_
          refine lv_if_eq (tgt := 84) hx hb dX1_tryFrom_53 (by decide) (fun hc => ?_) (fun hc => ?_)
          · have hw := hw.1 hc
            obtain ⟨v4_11, ev4_11⟩ : ∃ y : Int32, y = v4_2 + 1 := ⟨_, rfl⟩
            have hw := hw v4_11 ev4_11
            refine lv_iinc (v := v4_11) (lv' := [(4, .int v4_11), (5, .long r_10), (0, .ref (a 4)), (1, .int p2), (2, .int p3), (3, .int v3_2)]) hx hb dX1_tryFrom_84 hl (k := 5) rfl (by rw [ev4_11]; rfl) (by decide) rfl (fun ls hl => ?_)
            refine lv_goto (tgt := 20) hx hb dX1_tryFrom_87 (by decide) ?_
            obtain ⟨n9, hlt9, hI9⟩ := hw
            exact ih2 n9 hlt9 _ _ _ _ _ hI9 hW (lv_sub hl [2, 3, 4, 5, 0] rfl)
          · have hw := hw.2 hc
            refine lv_aload_n hx hb dX1_tryFrom_56 rfl (lv_at hl 1 rfl) ?_
            refine lv_iload_n hx hb dX1_tryFrom_57 rfl (lv_at hl 2 rfl) ?_
            refine lv_iconst (v := 1) hx hb dX1_tryFrom_58 (by decide) ?_
            refine lv_iadd hx hb dX1_tryFrom_59 ?_
            refine lv_iload_n hx hb dX1_tryFrom_60 rfl (lv_at hl 3 rfl) ?_
            refine lv_iload hx hb dX1_tryFrom_61 (lv_at hl 5 rfl) ?_
            refine kS_Pi (As := [.int p3, .int v4_2]) (rest := [.int (p2 + 1), .ref (a 4)]) ⟨hx, hb, hml, hown, hts⟩ (ok_X1_setWithout l _ _ _ hw) (va_cwS 2 hts gX1_tryFrom_X1_setWithout rfl rfl rfl (by decide +kernel) ⟨(by first | exact Nat.le_of_ble_eq_true rfl | (simp only [rm_X1_tryFrom, List.map_cons, List.map_nil, List.sum_cons, List.sum_nil, Value.category]; omega)), (by first | exact Nat.le_of_ble_eq_true rfl | (simp only [rm_X1_tryFrom, List.map_cons, List.map_nil, List.sum_cons, List.sum_nil, Value.category]; omega))⟩) hW.2.2 rfl hl.1 rfl (Nat.le_of_ble_eq_true rfl) dX1_tryFrom_63 ⟨Nat.le_of_ble_eq_true rfl, Nat.le_of_ble_eq_true rfl⟩ (fun r_12 H locs hw hk hS => ?_)
            have hW := hW.kept hk hS
            refine kS_Mi (As := [.ref (a 4), .int (p2 + 1), .int r_12]) (rest := []) ⟨hx, hb, hml, hown, hts⟩ (ih _ _ _ _ _ hw) (va_cwS 3 hts gX1_tryFrom_X1_tryFrom rfl rfl rfl (by decide +kernel) ⟨(by first | exact Nat.le_of_ble_eq_true rfl | (simp only [rm_X1_tryFrom, List.map_cons, List.map_nil, List.sum_cons, List.sum_nil, Value.category]; omega)), (by first | exact Nat.le_of_ble_eq_true rfl | (simp only [rm_X1_tryFrom, List.map_cons, List.map_nil, List.sum_cons, List.sum_nil, Value.category]; omega))⟩) hK hW hA rfl hl.1 rfl (Nat.le_of_ble_eq_true rfl) dX1_tryFrom_66 ⟨Nat.le_of_ble_eq_true rfl, Nat.le_of_ble_eq_true rfl⟩ (fun r_13 _ H locs hw hW => ?_)
            refine lv_istore (lv' := [(7, .int r_13), (5, .long r_10), (0, .ref (a 4)), (1, .int p2), (2, .int p3), (3, .int v3_2), (4, .int v4_2)]) hx hb dX1_tryFrom_69 hl (by decide) rfl (fun ls hl => ?_)
            refine lv_iload_n hx hb dX1_tryFrom_71 rfl (lv_at hl 5 rfl) ?_
            refine lv_lload hx hb dX1_tryFrom_72 (lv_at hl 1 rfl) ?_
            refine kS_Pi (As := [.long r_10]) (rest := [.int v3_2]) ⟨hx, hb, hml, hown, hts⟩ (ok_X1_worthOf l _ _ hw) (va_cwS 1 hts gX1_tryFrom_X1_worthOf rfl rfl rfl (by decide +kernel) ⟨(by first | exact Nat.le_of_ble_eq_true rfl | (simp only [rm_X1_tryFrom, List.map_cons, List.map_nil, List.sum_cons, List.sum_nil, Value.category]; omega)), (by first | exact Nat.le_of_ble_eq_true rfl | (simp only [rm_X1_tryFrom, List.map_cons, List.map_nil, List.sum_cons, List.sum_nil, Value.category]; omega))⟩) hW.2.2 rfl hl.1 rfl (Nat.le_of_ble_eq_true rfl) dX1_tryFrom_74 ⟨Nat.le_of_ble_eq_true rfl, Nat.le_of_ble_eq_true rfl⟩ (fun r_14 H locs hw hk hS => ?_)
            have hW := hW.kept hk hS
            refine lv_iload hx hb dX1_tryFrom_77 (lv_at hl 0 rfl) ?_
            refine lv_iadd hx hb dX1_tryFrom_79 ?_
            have hf9 : 1 ≤ (rm_X1_tryFrom (d + 1)).frames := (by first | exact Nat.le_of_ble_eq_true rfl | (simp only [rm_X1_tryFrom, List.map_cons, List.map_nil, List.sum_cons, List.sum_nil, Value.category]; omega))
            refine va_mmax hx hb (hml.trans hl.1.symm) hown (hts _ (List.mem_of_getElem? (i := 1) rfl)) (hts _ (List.mem_of_getElem? (i := 2) rfl)) (hts _ (List.mem_of_getElem? (i := 3) rfl)) (hts _ (List.mem_of_getElem? (i := 4) rfl)) (by first | exact Nat.le_of_ble_eq_true rfl | (simp only [rm_X1_tryFrom, List.map_cons, List.map_nil, List.sum_cons, List.sum_nil, Value.category]; omega)) (by first | exact Nat.le_of_ble_eq_true rfl | (simp only [rm_X1_tryFrom, List.map_cons, List.map_nil, List.sum_cons, List.sum_nil, Value.category]; omega)) (Nat.zero_le _) (Nat.zero_le _) dX1_tryFrom_80 ?_
            refine lv_topi (fun v3_15 ev3_15 => ?_)
            have hw := hw v3_15 ev3_15
            refine lv_istore_n (lv' := [(3, .int v3_15), (7, .int r_13), (5, .long r_10), (0, .ref (a 4)), (1, .int p2), (2, .int p3), (4, .int v4_2)]) hx hb dX1_tryFrom_83 rfl hl (by decide) rfl (fun ls hl => ?_)
            obtain ⟨v4_16, ev4_16⟩ : ∃ y : Int32, y = v4_2 + 1 := ⟨_, rfl⟩
            have hw := hw v4_16 ev4_16
            refine lv_iinc (v := v4_16) (lv' := [(4, .int v4_16), (3, .int v3_15), (7, .int r_13), (5, .long r_10), (0, .ref (a 4)), (1, .int p2), (2, .int p3)]) hx hb dX1_tryFrom_84 hl (k := 6) rfl (by rw [ev4_16]; rfl) (by decide) rfl (fun ls hl => ?_)
            refine lv_goto (tgt := 20) hx hb dX1_tryFrom_87 (by decide) ?_
            obtain ⟨n9, hlt9, hI9⟩ := hw
            exact ih2 n9 hlt9 _ _ _ _ _ hI9 hW (lv_sub hl [4, 5, 6, 1, 0] rfl)
  · have hw := hw.2 hc
    refine lv_iconst (v := 0) hx hb dX1_tryFrom_6 (by decide) ?_
    exact hret _ () _ _ _ _ hw hW dX1_tryFrom_7
def wp_X1_worthByTrying (σ : CS) (p1 : Int32) (post : Int32 → Prop) : Prop := wp_X1_setWithout 63 p1 (fun r_1 => wp_X1_tryFrom 7 σ 0 r_1 (fun r_2 => post r_2))
abbrev rm_X1_worthByTrying : Room := { frames := 9, cells := 0, slots := 0, locals := 417 }
theorem in_X1_worthByTrying_X1 : ∀ w ∈ wsX10, w ∈ wsX1_worthByTrying := fun w h => List.mem_cons_of_mem _ (List.mem_append_right _ (h))
set_option maxHeartbeats 4000000 in
set_option maxRecDepth 100000 in
theorem ok_X1_worthByTrying (l : Launch) (D : va_G) (cI cJ : ClassId) (a : Nat → Nat) (sz : Nat) (σ : CS) (p1 : Int32) (post : Int32 → Prop) (hw : wp_X1_worthByTrying σ p1 post) : Mi l yX1_worthByTrying wsX1_worthByTrying rm_X1_worthByTrying [.ref (a 3), .int p1] D (tysIJ cI cJ) (cW cI cJ a σ) sz (fun r (_ : Unit) => post r) (fun _ => cW cI cJ a σ) := by
  refine s_Mi (by decide) rfl (Nat.le_of_ble_eq_true rfl) ?_
  intro p e s m args below meth c A Q hx hb hml hts hown hin hK hA hret H locs ls hW hl
  have hown : s.vm.findClass RX1 = some m.cls := hown
  have hl : lv_has ls 2 [(0, .ref (a 3)), (1, .int p1)] := hl
  have hinX1 := in_X1_worthByTrying_X1
  refine lv_aload_n hx hb dX1_worthByTrying_0 rfl (lv_at hl 0 rfl) ?_
  refine va_get (D := D) (ci := 1) (v := .ref (a 4)) (C := RX1) (T := TX1) (N := 2) hx hb hts hinX1 hown hK hW.1 3 rfl rfl 0 (by decide) (hts _ (List.mem_of_getElem? (i := 1) rfl)) (fun _ h9 => h9) rfl dX1_worthByTrying_1 ?_
  refine lv_iconst (v := 0) hx hb dX1_worthByTrying_4 (by decide) ?_
  refine lv_bipush (v := 63) hx hb dX1_worthByTrying_5 (by decide) ?_
  refine lv_iload_n hx hb dX1_worthByTrying_7 rfl (lv_at hl 1 rfl) ?_
  refine kS_Pi (As := [.int 63, .int p1]) (rest := [.int 0, .ref (a 4)]) ⟨hx, hb, hml, hown, hts⟩ (ok_X1_setWithout l _ _ _ hw) (va_cwS 2 hts gX1_worthByTrying_X1_setWithout rfl rfl rfl (by decide +kernel) ⟨Nat.le_of_ble_eq_true rfl, Nat.le_of_ble_eq_true rfl⟩) hW.2.2 rfl hl.1 rfl (Nat.le_of_ble_eq_true rfl) dX1_worthByTrying_8 ⟨Nat.le_of_ble_eq_true rfl, Nat.le_of_ble_eq_true rfl⟩ (fun r_1 H locs hw hk hS => ?_)
  have hW := hW.kept hk hS
  refine kS_Mi (As := [.ref (a 4), .int 0, .int r_1]) (rest := []) ⟨hx, hb, hml, hown, hts⟩ (ok_X1_tryFrom l D cI cJ a 7 _ _ _ _ _ hw) (va_cwS 3 hts gX1_worthByTrying_X1_tryFrom rfl rfl rfl (by decide +kernel) ⟨Nat.le_of_ble_eq_true rfl, Nat.le_of_ble_eq_true rfl⟩) hK hW hA rfl hl.1 rfl (Nat.le_of_ble_eq_true rfl) dX1_worthByTrying_11 ⟨Nat.le_of_ble_eq_true rfl, Nat.le_of_ble_eq_true rfl⟩ (fun r_2 _ H locs hw hW => ?_)
  exact hret _ () _ _ _ _ hw hW dX1_worthByTrying_14
