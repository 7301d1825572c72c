def wp_X2_mostOfSetting (p1 : Int32) (post : Int32 → Prop) : Prop := ∀ w_1 : Int32, w_1 = p1 → ((w_1 = 0 → post 20) ∧ (¬ w_1 = 0 → ((w_1 = 1 → post 9) ∧ (¬ w_1 = 1 → post 50))))
abbrev rm_X2_mostOfSetting : Room := { frames := 0, cells := 0, slots := 0, locals := 0 }
set_option maxHeartbeats 4000000 in
set_option maxRecDepth 100000 in
theorem ok_X2_mostOfSetting (l : Launch) (p1 : Int32) (post : Int32 → Prop) (hw : wp_X2_mostOfSetting p1 post) : Pi l yX2_mostOfSetting wsX2_mostOfSetting rm_X2_mostOfSetting [.int p1] post := by
  refine s_Pi (by decide) rfl (Nat.le_of_ble_eq_true rfl) ?_
  intro p e s m args below meth c A Q hx hb hml hts hown hin hret H locs ls hW hl
  have hown : s.vm.findClass RX2 = some m.cls := hown
  have hl : lv_has ls 1 [(0, .int p1)] := hl
  refine lv_iload_n hx hb dX2_mostOfSetting_0 rfl (lv_at hl 0 rfl) ?_
  refine lv_topi (fun w_1 ew_1 => ?_)
  have hw := hw w_1 ew_1
  by_cases hs0 : w_1 = 0
  · have hw := hw.1 hs0
    refine lv_lookup (tgt := 28) (off := 27) hx hb dX2_mostOfSetting_1 (by decide) (by rw [hs0]; rfl) (by decide) ?_
    refine lv_bipush (v := 20) hx hb dX2_mostOfSetting_28 (by decide) ?_
    exact hret _ _ _ _ _ hw hW dX2_mostOfSetting_30
  have hw := hw.2 hs0
  by_cases hs1 : w_1 = 1
  · have hw := hw.1 hs1
    refine lv_lookup (tgt := 31) (off := 30) hx hb dX2_mostOfSetting_1 (by decide) (by rw [hs1]; rfl) (by decide) ?_
    refine lv_bipush (v := 9) hx hb dX2_mostOfSetting_31 (by decide) ?_
    exact hret _ _ _ _ _ hw hW dX2_mostOfSetting_33
  have hw := hw.2 hs1
  refine lv_lookup (tgt := 34) (off := 33) hx hb dX2_mostOfSetting_1 (by decide) (by show Op.lookupswitch.offset [(0, 27), (1, 30)] 33 w_1.toInt = 33; rw [lv_osw hs0 (by decide), lv_osw hs1 (by decide)]; rfl) (by decide) ?_
  refine lv_bipush (v := 50) hx hb dX2_mostOfSetting_34 (by decide) ?_
  exact hret _ _ _ _ _ hw hW dX2_mostOfSetting_36
def wp_X2_get (σ : CS) (p1 : Int32) (p2 : Int32) (post : Int32 → Prop) : Prop := ∀ v3_1 : Int32, v3_1 = (p1 + p2) → ((v3_1 < 0 → post 0) ∧ (¬ v3_1 < 0 → ((174 ≤ v3_1 → post 0) ∧ (¬ 174 ≤ v3_1 → vp_in v3_1 174 ∧ post ((c_row σ) (v3_1).toNatClampNeg)))))
abbrev rm_X2_get : Room := { frames := 0, cells := 0, slots := 0, locals := 0 }
theorem in_X2_get_X2 : ∀ w ∈ wsX20, w ∈ wsX2_get := fun w h => List.mem_cons_of_mem _ (List.mem_append_right _ (h))
set_option maxHeartbeats 4000000 in
set_option maxRecDepth 100000 in
theorem ok_X2_get (l : Launch) (D : va_G) (cI cJ : ClassId) (a : Nat → Nat) (sz : Nat) (σ : CS) (p1 : Int32) (p2 : Int32) (post : Int32 → Prop) (hw : wp_X2_get σ p1 p2 post) : Mi l yX2_get wsX2_get rm_X2_get [.ref (a 1), .int p1, .int p2] D (tysIJ cI cJ) (cW cI cJ a σ) sz (fun r (_ : Unit) => post r) (fun _ => cW cI cJ a σ) := by
  refine s_Mi (by decide) rfl (Nat.le_of_ble_eq_true rfl) ?_
  intro p e s m args below meth c A Q hx hb hml hts hown hin hK hA hret H locs ls hW hl
  have hown : s.vm.findClass RX2 = some m.cls := hown
  have hl : lv_has ls 4 [(0, .ref (a 1)), (1, .int p1), (2, .int p2)] := hl
  have hinX2 := in_X2_get_X2
  refine lv_iload_n hx hb dX2_get_0 rfl (lv_at hl 1 rfl) ?_
  refine lv_iload_n hx hb dX2_get_1 rfl (lv_at hl 2 rfl) ?_
  refine lv_iadd hx hb dX2_get_2 ?_
  refine lv_topi (fun v3_1 ev3_1 => ?_)
  have hw := hw v3_1 ev3_1
  refine lv_istore_n (lv' := [(3, .int v3_1), (0, .ref (a 1)), (1, .int p1), (2, .int p2)]) hx hb dX2_get_3 rfl hl (by decide) rfl (fun ls hl => ?_)
  refine lv_iload_n hx hb dX2_get_4 rfl (lv_at hl 0 rfl) ?_
  refine lv_if_lt (tgt := 26) hx hb dX2_get_5 (by decide) (fun hc => ?_) (fun hc => ?_)
  · have hw := hw.1 hc
    refine lv_iconst (v := 0) hx hb dX2_get_26 (by decide) ?_
    exact hret _ () _ _ _ _ hw hW dX2_get_27
  · have hw := hw.2 hc
    refine lv_iload_n hx hb dX2_get_8 rfl (lv_at hl 0 rfl) ?_
    refine lv_aload_n hx hb dX2_get_9 rfl (lv_at hl 1 rfl) ?_
    refine va_get (D := D) (ci := 2) (v := .ref (a 2)) (C := RX2) (T := TX2) (N := 1) hx hb hts hinX2 hown hK hW.1 1 rfl rfl 0 (by decide) (hts _ (List.mem_of_getElem? (i := 1) rfl)) (fun _ h9 => h9) rfl dX2_get_10 ?_
    refine va_alen (v := 174) hx hb hK hW.1 2 0 rfl rfl rfl dX2_get_13 ?_
    refine lv_icmp_ge (tgt := 26) hx hb dX2_get_14 (by decide) (fun hc => ?_) (fun hc => ?_)
    · have hw := hw.1 hc
      refine lv_iconst (v := 0) hx hb dX2_get_26 (by decide) ?_
      exact hret _ () _ _ _ _ hw hW dX2_get_27
    · have hw := hw.2 hc
      refine lv_aload_n hx hb dX2_get_17 rfl (lv_at hl 1 rfl) ?_
      refine va_get (D := D) (ci := 2) (v := .ref (a 2)) (C := RX2) (T := TX2) (N := 1) hx hb hts hinX2 hown hK hW.1 1 rfl rfl 0 (by decide) (hts _ (List.mem_of_getElem? (i := 1) rfl)) (fun _ h9 => h9) rfl dX2_get_18 ?_
      refine lv_iload_n hx hb dX2_get_21 rfl (lv_at hl 0 rfl) ?_
      refine va_iald hx hb hK hW.1 2 0 rfl rfl hw.1 dX2_get_22 ?_
      have hw := hw.2
      refine lv_goto (tgt := 27) hx hb dX2_get_23 (by decide) ?_
      exact hret _ () _ _ _ _ hw hW dX2_get_27
def wp_X2_get_ (σ : CS) (p1 : Int32) (post : Int32 → Prop) : Prop := wp_X2_get σ p1 0 (fun r_1 => post r_1)
abbrev rm_X2_get_ : Room := { frames := 1, cells := 0, slots := 0, locals := 23 }
set_option maxHeartbeats 4000000 in
set_option maxRecDepth 100000 in
theorem ok_X2_get_ (l : Launch) (D : va_G) (cI cJ : ClassId) (a : Nat → Nat) (sz : Nat) (σ : CS) (p1 : Int32) (post : Int32 → Prop) (hw : wp_X2_get_ σ p1 post) : Mi l yX2_get_ wsX2_get_ rm_X2_get_ [.ref (a 1), .int p1] D (tysIJ cI cJ) (cW cI cJ a σ) sz (fun r (_ : Unit) => post r) (fun _ => cW cI cJ a σ) := by
  refine s_Mi (by decide) rfl (Nat.le_of_ble_eq_true rfl) ?_
  intro p e s m args below meth c A Q hx hb hml hts hown hin hK hA hret H locs ls hW hl
  have hown : s.vm.findClass RX2 = some m.cls := hown
  have hl : lv_has ls 2 [(0, .ref (a 1)), (1, .int p1)] := hl
  refine lv_aload_n hx hb dX2_get__0 rfl (lv_at hl 0 rfl) ?_
  refine lv_iload_n hx hb dX2_get__1 rfl (lv_at hl 1 rfl) ?_
  refine lv_iconst (v := 0) hx hb dX2_get__2 (by decide) ?_
  refine kV_Mi (As := [.int p1, .int 0]) (rest := []) ⟨hx, hb, hml, hown, hts⟩ (ok_X2_get l D cI cJ a _ _ _ _ _ hw) (cwV 2 hts gX2_get__X2_get rfl rfl rfl (by decide +kernel) ⟨Nat.le_of_ble_eq_true rfl, Nat.le_of_ble_eq_true rfl⟩) hK hW hA 1 rfl rfl rfl hl.1 rfl (Nat.le_of_ble_eq_true rfl) dX2_get__3 ⟨Nat.le_of_ble_eq_true rfl, Nat.le_of_ble_eq_true rfl⟩ (fun r_1 _ H locs hw hW => ?_)
  exact hret _ () _ _ _ _ hw hW dX2_get__6
def wp_X2_put (σ : CS) (p1 : Int32) (p2 : Int32) (p3 : Int32) (post : CS → Prop) : Prop := ∀ v4_1 : Int32, v4_1 = (p1 + p2) → ((v4_1 < 0 → post σ) ∧ (¬ v4_1 < 0 → ((174 ≤ v4_1 → post σ) ∧ (¬ 174 ≤ v4_1 → vp_in v4_1 174 ∧ ∀ σ_2 : CS, σ_2 = cs_row σ (upd (c_row σ) (v4_1).toNatClampNeg p3) → post σ_2))))
abbrev rm_X2_put : Room := { frames := 0, cells := 0, slots := 0, locals := 0 }
theorem in_X2_put_X2 : ∀ w ∈ wsX20, w ∈ wsX2_put := fun w h => List.mem_cons_of_mem _ (List.mem_append_right _ (h))
set_option maxHeartbeats 4000000 in
set_option maxRecDepth 100000 in
theorem ok_X2_put (l : Launch) (D : va_G) (cI cJ : ClassId) (a : Nat → Nat) (sz : Nat) (σ : CS) (p1 : Int32) (p2 : Int32) (p3 : Int32) (post : CS → Prop) (hw : wp_X2_put σ p1 p2 p3 post) : Mv l yX2_put wsX2_put rm_X2_put [.ref (a 1), .int p1, .int p2, .int p3] D (tysIJ cI cJ) (cW cI cJ a σ) sz post (cW cI cJ a) := by
  refine s_Mv (by decide) rfl (Nat.le_of_ble_eq_true rfl) ?_
  intro p e s m args below meth c A Q hx hb hml hts hown hin hK hA hret H locs ls hW hl
  have hown : s.vm.findClass RX2 = some m.cls := hown
  have hl : lv_has ls 5 [(0, .ref (a 1)), (1, .int p1), (2, .int p2), (3, .int p3)] := hl
  have hinX2 := in_X2_put_X2
  refine lv_iload_n hx hb dX2_put_0 rfl (lv_at hl 1 rfl) ?_
  refine lv_iload_n hx hb dX2_put_1 rfl (lv_at hl 2 rfl) ?_
  refine lv_iadd hx hb dX2_put_2 ?_
  refine lv_topi (fun v4_1 ev4_1 => ?_)
  have hw := hw v4_1 ev4_1
  refine lv_istore (lv' := [(4, .int v4_1), (0, .ref (a 1)), (1, .int p1), (2, .int p2), (3, .int p3)]) hx hb dX2_put_3 hl (by decide) rfl (fun ls hl => ?_)
  refine lv_iload hx hb dX2_put_5 (lv_at hl 0 rfl) ?_
  refine lv_if_lt (tgt := 28) hx hb dX2_put_7 (by decide) (fun hc => ?_) (fun hc => ?_)
  · have hw := hw.1 hc
    exact hret σ _ _ _ _ hw hW dX2_put_28
  · have hw := hw.2 hc
    refine lv_iload hx hb dX2_put_10 (lv_at hl 0 rfl) ?_
    refine lv_aload_n hx hb dX2_put_12 rfl (lv_at hl 1 rfl) ?_
    refine va_get (D := D) (ci := 2) (v := .ref (a 2)) (C := RX2) (T := TX2) (N := 1) hx hb hts hinX2 hown hK hW.1 1 rfl rfl 0 (by decide) (hts _ (List.mem_of_getElem? (i := 1) rfl)) (fun _ h9 => h9) rfl dX2_put_13 ?_
    refine va_alen (v := 174) hx hb hK hW.1 2 0 rfl rfl rfl dX2_put_16 ?_
    refine lv_icmp_ge (tgt := 28) hx hb dX2_put_17 (by decide) (fun hc => ?_) (fun hc => ?_)
    · have hw := hw.1 hc
      exact hret σ _ _ _ _ hw hW dX2_put_28
    · have hw := hw.2 hc
      refine lv_aload_n hx hb dX2_put_20 rfl (lv_at hl 1 rfl) ?_
      refine va_get (D := D) (ci := 2) (v := .ref (a 2)) (C := RX2) (T := TX2) (N := 1) hx hb hts hinX2 hown hK hW.1 1 rfl rfl 0 (by decide) (hts _ (List.mem_of_getElem? (i := 1) rfl)) (fun _ h9 => h9) rfl dX2_put_21 ?_
      refine lv_iload hx hb dX2_put_24 (lv_at hl 0 rfl) ?_
      refine lv_iload_n hx hb dX2_put_26 rfl (lv_at hl 4 rfl) ?_
      refine st_c_row hx hb hK hW hw.1 dX2_put_27 (fun σ_2 eσ_2 H locs hW => ?_)
      have hw := hw.2
      have hw := hw σ_2 eσ_2
      exact hret σ_2 _ _ _ _ hw hW dX2_put_28
def wp_X2_add (σ : CS) (p1 : Int32) (p2 : Int32) (p3 : Int32) (post : CS → Prop) : Prop := wp_X2_get σ p1 p2 (fun r_1 => wp_X2_put σ p1 p2 (r_1 + p3) (fun σ_2 => post σ_2))
abbrev rm_X2_add : Room := { frames := 1, cells := 0, slots := 0, locals := 24 }
set_option maxHeartbeats 4000000 in
set_option maxRecDepth 100000 in
theorem ok_X2_add (l : Launch) (D : va_G) (cI cJ : ClassId) (a : Nat → Nat) (sz : Nat) (σ : CS) (p1 : Int32) (p2 : Int32) (p3 : Int32) (post : CS → Prop) (hw : wp_X2_add σ p1 p2 p3 post) : Mv l yX2_add wsX2_add rm_X2_add [.ref (a 1), .int p1, .int p2, .int p3] D (tysIJ cI cJ) (cW cI cJ a σ) sz post (cW cI cJ a) := by
  refine s_Mv (by decide) rfl (Nat.le_of_ble_eq_true rfl) ?_
  intro p e s m args below meth c A Q hx hb hml hts hown hin hK hA hret H locs ls hW hl
  have hown : s.vm.findClass RX2 = some m.cls := hown
  have hl : lv_has ls 4 [(0, .ref (a 1)), (1, .int p1), (2, .int p2), (3, .int p3)] := hl
  refine lv_aload_n hx hb dX2_add_0 rfl (lv_at hl 0 rfl) ?_
  refine lv_iload_n hx hb dX2_add_1 rfl (lv_at hl 1 rfl) ?_
  refine lv_iload_n hx hb dX2_add_2 rfl (lv_at hl 2 rfl) ?_
  refine lv_aload_n hx hb dX2_add_3 rfl (lv_at hl 0 rfl) ?_
  refine lv_iload_n hx hb dX2_add_4 rfl (lv_at hl 1 rfl) ?_
  refine lv_iload_n hx hb dX2_add_5 rfl (lv_at hl 2 rfl) ?_
  refine kV_Mi (As := [.int p1, .int p2]) (rest := [.int p2, .int p1, .ref (a 1)]) ⟨hx, hb, hml, hown, hts⟩ (ok_X2_get l D cI cJ a _ _ _ _ _ hw) (cwV 2 hts gX2_add_X2_get rfl rfl rfl (by decide +kernel) ⟨Nat.le_of_ble_eq_true rfl, Nat.le_of_ble_eq_true rfl⟩) hK hW hA 1 rfl rfl rfl hl.1 rfl (Nat.le_of_ble_eq_true rfl) dX2_add_6 ⟨Nat.le_of_ble_eq_true rfl, Nat.le_of_ble_eq_true rfl⟩ (fun r_1 _ H locs hw hW => ?_)
  refine lv_iload_n hx hb dX2_add_9 rfl (lv_at hl 3 rfl) ?_
  refine lv_iadd hx hb dX2_add_10 ?_
  refine kV_Mv (As := [.int p1, .int p2, .int (r_1 + p3)]) (rest := []) ⟨hx, hb, hml, hown, hts⟩ (ok_X2_put l D cI cJ a _ _ _ _ _ _ hw) (cwV 3 hts gX2_add_X2_put rfl rfl rfl (by decide +kernel) ⟨Nat.le_of_ble_eq_true rfl, Nat.le_of_ble_eq_true rfl⟩) hK hW hA 1 rfl rfl rfl hl.1 rfl (Nat.le_of_ble_eq_true rfl) dX2_add_11 ⟨Nat.le_of_ble_eq_true rfl, Nat.le_of_ble_eq_true rfl⟩ (fun σ_2 H locs hw hW => ?_)
  exact hret σ_2 _ _ _ _ hw hW dX2_add_14
def wp_X2_fill (σ : CS) (p1 : Int32) (p2 : Int32) (p3 : Int32) (post : CS → Prop) : Prop := ∃ I1 : Nat → Int32 → CS → Prop, (∃ n : Nat, I1 n 0 (σ)) ∧ ∀ (n1 : Nat) (v4_1 : Int32) (σ_1 : CS), I1 n1 v4_1 σ_1 → ((p2 ≤ v4_1 → post σ_1) ∧ (¬ p2 ≤ v4_1 → wp_X2_put σ_1 p1 v4_1 p3 (fun σ_2 => ∀ v4_3 : Int32, v4_3 = v4_1 + 1 → ∃ n' : Nat, n' < n1 ∧ I1 n' v4_3 (σ_2))))
abbrev rm_X2_fill : Room := { frames := 1, cells := 0, slots := 0, locals := 24 }
set_option maxHeartbeats 4000000 in
set_option maxRecDepth 100000 in
theorem ok_X2_fill (l : Launch) (D : va_G) (cI cJ : ClassId) (a : Nat → Nat) (sz : Nat) (σ : CS) (p1 : Int32) (p2 : Int32) (p3 : Int32) (post : CS → Prop) (hw : wp_X2_fill σ p1 p2 p3 post) : Mv l yX2_fill wsX2_fill rm_X2_fill [.ref (a 1), .int p1, .int p2, .int p3] D (tysIJ cI cJ) (cW cI cJ a σ) sz post (cW cI cJ a) := by
  refine s_Mv (by decide) rfl (Nat.le_of_ble_eq_true rfl) ?_
  intro p e s m args below meth c A Q hx hb hml hts hown hin hK hA hret H locs ls hW hl
  have hown : s.vm.findClass RX2 = some m.cls := hown
  have hl : lv_has ls 5 [(0, .ref (a 1)), (1, .int p1), (2, .int p2), (3, .int p3)] := hl
  refine lv_iconst (v := 0) hx hb dX2_fill_0 (by decide) ?_
  refine lv_istore (lv' := [(4, .int 0), (0, .ref (a 1)), (1, .int p1), (2, .int p2), (3, .int p3)]) hx hb dX2_fill_1 hl (by decide) rfl (fun ls hl => ?_)
  obtain ⟨I1, ⟨n1, hI1⟩, hJ1⟩ := hw
  have hl : lv_has ls 5 [(0, .ref (a 1)), (1, .int p1), (2, .int p2), (3, .int p3), (4, .int 0)] := lv_sub hl [1, 2, 3, 4, 0] rfl
  suffices LP1 : ∀ (n : Nat) (v4_1 : Int32) (σ_1 : CS) (H : Heap) (locs : List Loc) (ls : Array Slot), I1 n v4_1 σ_1 → Wd D A s.heap (cW cI cJ a σ_1) H locs → lv_has ls 5 [(0, .ref (a 1)), (1, .int p1), (2, .int p2), (3, .int p3), (4, .int v4_1)] → W p l e rm_X2_fill s m args below meth c H locs 0 0 Q (F0 m 3 ls []) from LP1 n1 0 _ H locs ls hI1 hW hl
  intro n1
  induction n1 using Nat.strongRecOn with
  | ind n1 ih1 =>
    intro v4_1 σ_1 H locs ls hIn hW hl
    have hw := hJ1 n1 v4_1 σ_1 hIn
    refine lv_iload hx hb dX2_fill_3 (lv_at hl 4 rfl) ?_
    refine lv_iload_n hx hb dX2_fill_5 rfl (lv_at hl 2 rfl) ?_
    refine lv_icmp_ge (tgt := 23) hx hb dX2_fill_6 (by decide) (fun hc => ?_) (fun hc => ?_)
    · have hw := hw.1 hc
      exact hret σ_1 _ _ _ _ hw hW dX2_fill_23
    · have hw := hw.2 hc
      refine lv_aload_n hx hb dX2_fill_9 rfl (lv_at hl 0 rfl) ?_
      refine lv_iload_n hx hb dX2_fill_10 rfl (lv_at hl 1 rfl) ?_
      refine lv_iload hx hb dX2_fill_11 (lv_at hl 4 rfl) ?_
      refine lv_iload_n hx hb dX2_fill_13 rfl (lv_at hl 3 rfl) ?_
      refine kV_Mv (As := [.int p1, .int v4_1, .int p3]) (rest := []) ⟨hx, hb, hml, hown, hts⟩ (ok_X2_put l D cI cJ a _ _ _ _ _ _ hw) (cwV 3 hts gX2_fill_X2_put rfl rfl rfl (by decide +kernel) ⟨Nat.le_of_ble_eq_true rfl, Nat.le_of_ble_eq_true rfl⟩) hK hW hA 1 rfl rfl rfl hl.1 rfl (Nat.le_of_ble_eq_true rfl) dX2_fill_14 ⟨Nat.le_of_ble_eq_true rfl, Nat.le_of_ble_eq_true rfl⟩ (fun σ_2 H locs hw hW => ?_)
      obtain ⟨v4_3, ev4_3⟩ : ∃ y : Int32, y = v4_1 + 1 := ⟨_, rfl⟩
      have hw := hw v4_3 ev4_3
      refine lv_iinc (v := v4_3) (lv' := [(4, .int v4_3), (0, .ref (a 1)), (1, .int p1), (2, .int p2), (3, .int p3)]) hx hb dX2_fill_17 hl (k := 4) rfl (by rw [ev4_3]; rfl) (by decide) rfl (fun ls hl => ?_)
      refine lv_goto (tgt := 3) hx hb dX2_fill_20 (by decide) ?_
      obtain ⟨n9, hlt9, hI9⟩ := hw
      exact ih1 n9 hlt9 _ _ _ _ _ hI9 hW (lv_sub hl [1, 2, 3, 4, 0] rfl)
def wp_X2_sum (σ : CS) (p1 : Int32) (p2 : Int32) (post : Int32 → Prop) : Prop := ∃ I1 : Nat → Int32 → Int32 → Prop, (∃ n : Nat, I1 n 0 0) ∧ ∀ (n1 : Nat) (v3_1 : Int32) (v4_1 : Int32), I1 n1 v3_1 v4_1 → ((p2 ≤ v4_1 → post v3_1) ∧ (¬ p2 ≤ v4_1 → wp_X2_get σ p1 v4_1 (fun r_2 => ∀ v3_3 : Int32, v3_3 = (v3_1 + r_2) → ∀ v4_4 : Int32, v4_4 = v4_1 + 1 → ∃ n' : Nat, n' < n1 ∧ I1 n' v3_3 v4_4)))
abbrev rm_X2_sum : Room := { frames := 1, cells := 0, slots := 0, locals := 23 }
set_option maxHeartbeats 4000000 in
set_option maxRecDepth 100000 in
theorem ok_X2_sum (l : Launch) (D : va_G) (cI cJ : ClassId) (a : Nat → Nat) (sz : Nat) (σ : CS) (p1 : Int32) (p2 : Int32) (post : Int32 → Prop) (hw : wp_X2_sum σ p1 p2 post) : Mi l yX2_sum wsX2_sum rm_X2_sum [.ref (a 1), .int p1, .int p2] D (tysIJ cI cJ) (cW cI cJ a σ) sz (fun r (_ : Unit) => post r) (fun _ => cW cI cJ a σ) := by
  refine s_Mi (by decide) rfl (Nat.le_of_ble_eq_true rfl) ?_
  intro p e s m args below meth c A Q hx hb hml hts hown hin hK hA hret H locs ls hW hl
  have hown : s.vm.findClass RX2 = some m.cls := hown
  have hl : lv_has ls 5 [(0, .ref (a 1)), (1, .int p1), (2, .int p2)] := hl
  refine lv_iconst (v := 0) hx hb dX2_sum_0 (by decide) ?_
  refine lv_istore_n (lv' := [(3, .int 0), (0, .ref (a 1)), (1, .int p1), (2, .int p2)]) hx hb dX2_sum_1 rfl hl (by decide) rfl (fun ls hl => ?_)
  refine lv_iconst (v := 0) hx hb dX2_sum_2 (by decide) ?_
  refine lv_istore (lv' := [(4, .int 0), (3, .int 0), (0, .ref (a 1)), (1, .int p1), (2, .int p2)]) hx hb dX2_sum_3 hl (by decide) rfl (fun ls hl => ?_)
  obtain ⟨I1, ⟨n1, hI1⟩, hJ1⟩ := hw
  have hl : lv_has ls 5 [(0, .ref (a 1)), (1, .int p1), (2, .int p2), (3, .int 0), (4, .int 0)] := lv_sub hl [2, 3, 4, 1, 0] rfl
  suffices LP1 : ∀ (n : Nat) (v3_1 : Int32) (v4_1 : Int32) (H : Heap) (locs : List Loc) (ls : Array Slot), I1 n v3_1 v4_1 → Wd D A s.heap (cW cI cJ a σ) H locs → lv_has ls 5 [(0, .ref (a 1)), (1, .int p1), (2, .int p2), (3, .int v3_1), (4, .int v4_1)] → W p l e rm_X2_sum s m args below meth c H locs 0 0 Q (F0 m 5 ls []) from LP1 n1 0 0 H locs ls hI1 hW hl
  intro n1
  induction n1 using Nat.strongRecOn with
  | ind n1 ih1 =>
    intro v3_1 v4_1 H locs ls hIn hW hl
    have hw := hJ1 n1 v3_1 v4_1 hIn
    refine lv_iload hx hb dX2_sum_5 (lv_at hl 4 rfl) ?_
    refine lv_iload_n hx hb dX2_sum_7 rfl (lv_at hl 2 rfl) ?_
    refine lv_icmp_ge (tgt := 27) hx hb dX2_sum_8 (by decide) (fun hc => ?_) (fun hc => ?_)
    · have hw := hw.1 hc
      refine lv_iload_n hx hb dX2_sum_27 rfl (lv_at hl 3 rfl) ?_
      exact hret _ () _ _ _ _ hw hW dX2_sum_28
    · have hw := hw.2 hc
      refine lv_iload_n hx hb dX2_sum_11 rfl (lv_at hl 3 rfl) ?_
      refine lv_aload_n hx hb dX2_sum_12 rfl (lv_at hl 0 rfl) ?_
      refine lv_iload_n hx hb dX2_sum_13 rfl (lv_at hl 1 rfl) ?_
      refine lv_iload hx hb dX2_sum_14 (lv_at hl 4 rfl) ?_
      refine kV_Mi (As := [.int p1, .int v4_1]) (rest := [.int v3_1]) ⟨hx, hb, hml, hown, hts⟩ (ok_X2_get l D cI cJ a _ _ _ _ _ hw) (cwV 2 hts gX2_sum_X2_get rfl rfl rfl (by decide +kernel) ⟨Nat.le_of_ble_eq_true rfl, Nat.le_of_ble_eq_true rfl⟩) hK hW hA 1 rfl rfl rfl hl.1 rfl (Nat.le_of_ble_eq_true rfl) dX2_sum_16 ⟨Nat.le_of_ble_eq_true rfl, Nat.le_of_ble_eq_true rfl⟩ (fun r_2 _ H locs hw hW => ?_)
      refine lv_iadd hx hb dX2_sum_19 ?_
      refine lv_topi (fun v3_3 ev3_3 => ?_)
      have hw := hw v3_3 ev3_3
      refine lv_istore_n (lv' := [(3, .int v3_3), (0, .ref (a 1)), (1, .int p1), (2, .int p2), (4, .int v4_1)]) hx hb dX2_sum_20 rfl hl (by decide) rfl (fun ls hl => ?_)
      obtain ⟨v4_4, ev4_4⟩ : ∃ y : Int32, y = v4_1 + 1 := ⟨_, rfl⟩
      have hw := hw v4_4 ev4_4
      refine lv_iinc (v := v4_4) (lv' := [(4, .int v4_4), (3, .int v3_3), (0, .ref (a 1)), (1, .int p1), (2, .int p2)]) hx hb dX2_sum_21 hl (k := 4) rfl (by rw [ev4_4]; rfl) (by decide) rfl (fun ls hl => ?_)
      refine lv_goto (tgt := 5) hx hb dX2_sum_24 (by decide) ?_
      obtain ⟨n9, hlt9, hI9⟩ := hw
      exact ih1 n9 hlt9 _ _ _ _ _ hI9 hW (lv_sub hl [2, 3, 4, 1, 0] rfl)
def wp_X2_placeOfBid (p1 : Int32) (p2 : Int32) (post : Int32 → Prop) : Prop := post ((p1 * 6) + p2)
abbrev rm_X2_placeOfBid : Room := { frames := 0, cells := 0, slots := 0, locals := 0 }
set_option maxHeartbeats 4000000 in
set_option maxRecDepth 100000 in
theorem ok_X2_placeOfBid (l : Launch) (p1 : Int32) (p2 : Int32) (post : Int32 → Prop) (hw : wp_X2_placeOfBid p1 p2 post) : Pi l yX2_placeOfBid wsX2_placeOfBid rm_X2_placeOfBid [.int p1, .int p2] post := by
  refine s_Pi (by decide) rfl (Nat.le_of_ble_eq_true rfl) ?_
  intro p e s m args below meth c A Q hx hb hml hts hown hin hret H locs ls hW hl
  have hown : s.vm.findClass RX2 = some m.cls := hown
  have hl : lv_has ls 2 [(0, .int p1), (1, .int p2)] := hl
  refine lv_iload_n hx hb dX2_placeOfBid_0 rfl (lv_at hl 0 rfl) ?_
  refine lv_bipush (v := 6) hx hb dX2_placeOfBid_1 (by decide) ?_
  refine lv_imul hx hb dX2_placeOfBid_3 ?_
  refine lv_iload_n hx hb dX2_placeOfBid_4 rfl (lv_at hl 1 rfl) ?_
  refine lv_iadd hx hb dX2_placeOfBid_5 ?_
  exact hret _ _ _ _ _ hw hW dX2_placeOfBid_6
def wp_X2_ofBid (σ : CS) (p1 : Int32) (p2 : Int32) (p3 : Int32) (post : Int32 → Prop) : Prop := wp_X2_placeOfBid p2 p3 (fun r_1 => wp_X2_get σ p1 r_1 (fun r_2 => post r_2))
abbrev rm_X2_ofBid : Room := { frames := 1, cells := 0, slots := 0, locals := 23 }
set_option maxHeartbeats 4000000 in
set_option maxRecDepth 100000 in
theorem ok_X2_ofBid (l : Launch) (D : va_G) (cI cJ : ClassId) (a : Nat → Nat) (sz : Nat) (σ : CS) (p1 : Int32) (p2 : Int32) (p3 : Int32) (post : Int32 → Prop) (hw : wp_X2_ofBid σ p1 p2 p3 post) : Mi l yX2_ofBid wsX2_ofBid rm_X2_ofBid [.ref (a 1), .int p1, .int p2, .int p3] D (tysIJ cI cJ) (cW cI cJ a σ) sz (fun r (_ : Unit) => post r) (fun _ => cW cI cJ a σ) := by
  refine s_Mi (by decide) rfl (Nat.le_of_ble_eq_true rfl) ?_
  intro p e s m args below meth c A Q hx hb hml hts hown hin hK hA hret H locs ls hW hl
  have hown : s.vm.findClass RX2 = some m.cls := hown
  have hl : lv_has ls 4 [(0, .ref (a 1)), (1, .int p1), (2, .int p2), (3, .int p3)] := hl
  refine lv_aload_n hx hb dX2_ofBid_0 rfl (lv_at hl 0 rfl) ?_
  refine lv_iload_n hx hb dX2_ofBid_1 rfl (lv_at hl 1 rfl) ?_
  refine lv_iload_n hx hb dX2_ofBid_2 rfl (lv_at hl 2 rfl) ?_
  refine lv_iload_n hx hb dX2_ofBid_3 rfl (lv_at hl 3 rfl) ?_
  refine kS_Pi (As := [.int p2, .int p3]) (rest := [.int p1, .ref (a 1)]) ⟨hx, hb, hml, hown, hts⟩ (ok_X2_placeOfBid l _ _ _ hw) (va_cwS 2 hts gX2_ofBid_X2_placeOfBid rfl rfl rfl (by decide +kernel) ⟨Nat.le_of_ble_eq_true rfl, Nat.le_of_ble_eq_true rfl⟩) hW.2.2 rfl hl.1 rfl (Nat.le_of_ble_eq_true rfl) dX2_ofBid_4 ⟨Nat.le_of_ble_eq_true rfl, Nat.le_of_ble_eq_true rfl⟩ (fun r_1 H locs hw hk hS => ?_)
  have hW := hW.kept hk hS
  refine kV_Mi (As := [.int p1, .int r_1]) (rest := []) ⟨hx, hb, hml, hown, hts⟩ (ok_X2_get l D cI cJ a _ _ _ _ _ hw) (cwV 2 hts gX2_ofBid_X2_get rfl rfl rfl (by decide +kernel) ⟨Nat.le_of_ble_eq_true rfl, Nat.le_of_ble_eq_true rfl⟩) hK hW hA 1 rfl rfl rfl hl.1 rfl (Nat.le_of_ble_eq_true rfl) dX2_ofBid_7 ⟨Nat.le_of_ble_eq_true rfl, Nat.le_of_ble_eq_true rfl⟩ (fun r_2 _ H locs hw hW => ?_)
  exact hret _ () _ _ _ _ hw hW dX2_ofBid_10
def wp_X2_hasBid (σ : CS) (p1 : Int32) (p2 : Int32) (post : Int32 → Prop) : Prop := wp_X2_ofBid σ 54 p1 p2 (fun r_1 => ((r_1 = 0 → post 0) ∧ (¬ r_1 = 0 → post 1)))
abbrev rm_X2_hasBid : Room := { frames := 2, cells := 0, slots := 0, locals := 46 }
set_option maxHeartbeats 4000000 in
set_option maxRecDepth 100000 in
theorem ok_X2_hasBid (l : Launch) (D : va_G) (cI cJ : ClassId) (a : Nat → Nat) (sz : Nat) (σ : CS) (p1 : Int32) (p2 : Int32) (post : Int32 → Prop) (hw : wp_X2_hasBid σ p1 p2 post) : Mi l yX2_hasBid wsX2_hasBid rm_X2_hasBid [.ref (a 1), .int p1, .int p2] D (tysIJ cI cJ) (cW cI cJ a σ) sz (fun r (_ : Unit) => post r) (fun _ => cW cI cJ a σ) := by
  refine s_Mz (by decide) rfl (Nat.le_of_ble_eq_true rfl) ?_
  intro p e s m args below meth c A Q hx hb hml hts hown hin hK hA hret H locs ls hW hl
  have hown : s.vm.findClass RX2 = some m.cls := hown
  have hl : lv_has ls 3 [(0, .ref (a 1)), (1, .int p1), (2, .int p2)] := hl
  refine lv_aload_n hx hb dX2_hasBid_0 rfl (lv_at hl 0 rfl) ?_
  refine lv_bipush (v := 54) hx hb dX2_hasBid_1 (by decide) ?_
  refine lv_iload_n hx hb dX2_hasBid_3 rfl (lv_at hl 1 rfl) ?_
  refine lv_iload_n hx hb dX2_hasBid_4 rfl (lv_at hl 2 rfl) ?_
  refine kV_Mi (As := [.int 54, .int p1, .int p2]) (rest := []) ⟨hx, hb, hml, hown, hts⟩ (ok_X2_ofBid l D cI cJ a _ _ _ _ _ _ hw) (cwV 3 hts gX2_hasBid_X2_ofBid rfl rfl rfl (by decide +kernel) ⟨Nat.le_of_ble_eq_true rfl, Nat.le_of_ble_eq_true rfl⟩) hK hW hA 1 rfl rfl rfl hl.1 rfl (Nat.le_of_ble_eq_true rfl) dX2_hasBid_5 ⟨Nat.le_of_ble_eq_true rfl, Nat.le_of_ble_eq_true rfl⟩ (fun r_1 _ H locs hw hW => ?_)
  refine lv_if_eq (tgt := 15) hx hb dX2_hasBid_8 (by decide) (fun hc => ?_) (fun hc => ?_)
  · have hw := hw.1 hc
    refine lv_iconst (v := 0) hx hb dX2_hasBid_15 (by decide) ?_
    exact hret _ () _ _ _ _ (by decide) hw hW dX2_hasBid_16
  · have hw := hw.2 hc
    refine lv_iconst (v := 1) hx hb dX2_hasBid_11 (by decide) ?_
    refine lv_goto (tgt := 16) hx hb dX2_hasBid_12 (by decide) ?_
    exact hret _ () _ _ _ _ (by decide) hw hW dX2_hasBid_16
def wp_X2_bidsForSpot (σ : CS) (p1 : Int32) (post : Int32 → Prop) : Prop := ∃ I1 : Nat → Int32 → Int32 → Prop, (∃ n : Nat, I1 n 0 0) ∧ ∀ (n1 : Nat) (v2_1 : Int32) (v3_1 : Int32), I1 n1 v2_1 v3_1 → ((6 ≤ v3_1 → post v2_1) ∧ (¬ 6 ≤ v3_1 → wp_X2_hasBid σ v3_1 p1 (fun r_2 => ((r_2 = 0 → ∀ v2_3 : Int32, v2_3 = (v2_1 + 0) → ∀ v3_4 : Int32, v3_4 = v3_1 + 1 → ∃ n' : Nat, n' < n1 ∧ I1 n' v2_3 v3_4) ∧ (¬ r_2 = 0 → ∀ v2_5 : Int32, v2_5 = (v2_1 + 1) → ∀ v3_6 : Int32, v3_6 = v3_1 + 1 → ∃ n' : Nat, n' < n1 ∧ I1 n' v2_5 v3_6)))))
abbrev rm_X2_bidsForSpot : Room := { frames := 3, cells := 0, slots := 0, locals := 68 }
set_option maxHeartbeats 4000000 in
set_option maxRecDepth 100000 in
theorem ok_X2_bidsForSpot (l : Launch) (D : va_G) (cI cJ : ClassId) (a : Nat → Nat) (sz : Nat) (σ : CS) (p1 : Int32) (post : Int32 → Prop) (hw : wp_X2_bidsForSpot σ p1 post) : Mi l yX2_bidsForSpot wsX2_bidsForSpot rm_X2_bidsForSpot [.ref (a 1), .int p1] D (tysIJ cI cJ) (cW cI cJ a σ) sz (fun r (_ : Unit) => post r) (fun _ => cW cI cJ a σ) := by
  refine s_Mi (by decide) rfl (Nat.le_of_ble_eq_true rfl) ?_
  intro p e s m args below meth c A Q hx hb hml hts hown hin hK hA hret H locs ls hW hl
  have hown : s.vm.findClass RX2 = some m.cls := hown
  have hl : lv_has ls 4 [(0, .ref (a 1)), (1, .int p1)] := hl
  refine lv_iconst (v := 0) hx hb dX2_bidsForSpot_0 (by decide) ?_
  refine lv_istore_n (lv' := [(2, .int 0), (0, .ref (a 1)), (1, .int p1)]) hx hb dX2_bidsForSpot_1 rfl hl (by decide) rfl (fun ls hl => ?_)
  refine lv_iconst (v := 0) hx hb dX2_bidsForSpot_2 (by decide) ?_
  refine lv_istore_n (lv' := [(3, .int 0), (2, .int 0), (0, .ref (a 1)), (1, .int p1)]) hx hb dX2_bidsForSpot_3 rfl hl (by decide) rfl (fun ls hl => ?_)
  obtain ⟨I1, ⟨n1, hI1⟩, hJ1⟩ := hw
  have hl : lv_has ls 4 [(0, .ref (a 1)), (1, .int p1), (2, .int 0), (3, .int 0)] := lv_sub hl [2, 3, 1, 0] rfl
  suffices LP1 : ∀ (n : Nat) (v2_1 : Int32) (v3_1 : Int32) (H : Heap) (locs : List Loc) (ls : Array Slot), I1 n v2_1 v3_1 → Wd D A s.heap (cW cI cJ a σ) H locs → lv_has ls 4 [(0, .ref (a 1)), (1, .int p1), (2, .int v2_1), (3, .int v3_1)] → W p l e rm_X2_bidsForSpot s m args below meth c H locs 0 0 Q (F0 m 4 ls []) from LP1 n1 0 0 H locs ls hI1 hW hl
  intro n1
  induction n1 using Nat.strongRecOn with
  | ind n1 ih1 =>
    intro v2_1 v3_1 H locs ls hIn hW hl
    have hw := hJ1 n1 v2_1 v3_1 hIn
    refine lv_iload_n hx hb dX2_bidsForSpot_4 rfl (lv_at hl 3 rfl) ?_
    refine lv_bipush (v := 6) hx hb dX2_bidsForSpot_5 (by decide) ?_
    refine lv_icmp_ge (tgt := 33) hx hb dX2_bidsForSpot_7 (by decide) (fun hc => ?_) (fun hc => ?_)
    · have hw := hw.1 hc
      refine lv_iload_n hx hb dX2_bidsForSpot_33 rfl (lv_at hl 2 rfl) ?_
      exact hret _ () _ _ _ _ hw hW dX2_bidsForSpot_34
    · have hw := hw.2 hc
      refine lv_iload_n hx hb dX2_bidsForSpot_10 rfl (lv_at hl 2 rfl) ?_
      refine lv_aload_n hx hb dX2_bidsForSpot_11 rfl (lv_at hl 0 rfl) ?_
      refine lv_iload_n hx hb dX2_bidsForSpot_12 rfl (lv_at hl 3 rfl) ?_
      refine lv_iload_n hx hb dX2_bidsForSpot_13 rfl (lv_at hl 1 rfl) ?_
      refine kV_Mi (As := [.int v3_1, .int p1]) (rest := [.int v2_1]) ⟨hx, hb, hml, hown, hts⟩ (ok_X2_hasBid l D cI cJ a _ _ _ _ _ hw) (cwV 2 hts gX2_bidsForSpot_X2_hasBid rfl rfl rfl (by decide +kernel) ⟨Nat.le_of_ble_eq_true rfl, Nat.le_of_ble_eq_true rfl⟩) hK hW hA 1 rfl rfl rfl hl.1 rfl (Nat.le_of_ble_eq_true rfl) dX2_bidsForSpot_14 ⟨Nat.le_of_ble_eq_true rfl, Nat.le_of_ble_eq_true rfl⟩ (fun r_2 _ H locs hw hW => ?_)
      refine lv_if_eq (tgt := 24) hx hb dX2_bidsForSpot_17 (by decide) (fun hc => ?_) (fun hc => ?_)
      · have hw := hw.1 hc
        refine lv_iconst (v := 0) hx hb dX2_bidsForSpot_24 (by decide) ?_
        refine lv_iadd hx hb dX2_bidsForSpot_25 ?_
        refine lv_topi (fun v2_3 ev2_3 => ?_)
        have hw := hw v2_3 ev2_3
        refine lv_istore_n (lv' := [(2, .int v2_3), (0, .ref (a 1)), (1, .int p1), (3, .int v3_1)]) hx hb dX2_bidsForSpot_26 rfl hl (by decide) rfl (fun ls hl => ?_)
        obtain ⟨v3_4, ev3_4⟩ : ∃ y : Int32, y = v3_1 + 1 := ⟨_, rfl⟩
        have hw := hw v3_4 ev3_4
        refine lv_iinc (v := v3_4) (lv' := [(3, .int v3_4), (2, .int v2_3), (0, .ref (a 1)), (1, .int p1)]) hx hb dX2_bidsForSpot_27 hl (k := 3) rfl (by rw [ev3_4]; rfl) (by decide) rfl (fun ls hl => ?_)
        refine lv_goto (tgt := 4) hx hb dX2_bidsForSpot_30 (by decide) ?_
        obtain ⟨n9, hlt9, hI9⟩ := hw
        exact ih1 n9 hlt9 _ _ _ _ _ hI9 hW (lv_sub hl [2, 3, 1, 0] rfl)
      · have hw := hw.2 hc
        refine lv_iconst (v := 1) hx hb dX2_bidsForSpot_20 (by decide) ?_
        refine lv_goto (tgt := 25) hx hb dX2_bidsForSpot_21 (by decide) ?_
        refine lv_iadd hx hb dX2_bidsForSpot_25 ?_
        refine lv_topi (fun v2_5 ev2_5 => ?_)
        have hw := hw v2_5 ev2_5
        refine lv_istore_n (lv' := [(2, .int v2_5), (0, .ref (a 1)), (1, .int p1), (3, .int v3_1)]) hx hb dX2_bidsForSpot_26 rfl hl (by decide) rfl (fun ls hl => ?_)
        obtain ⟨v3_6, ev3_6⟩ : ∃ y : Int32, y = v3_1 + 1 := ⟨_, rfl⟩
        have hw := hw v3_6 ev3_6
        refine lv_iinc (v := v3_6) (lv' := [(3, .int v3_6), (2, .int v2_5), (0, .ref (a 1)), (1, .int p1)]) hx hb dX2_bidsForSpot_27 hl (k := 3) rfl (by rw [ev3_6]; rfl) (by decide) rfl (fun ls hl => ?_)
        refine lv_goto (tgt := 4) hx hb dX2_bidsForSpot_30 (by decide) ?_
        obtain ⟨n9, hlt9, hI9⟩ := hw
        exact ih1 n9 hlt9 _ _ _ _ _ hI9 hW (lv_sub hl [2, 3, 1, 0] rfl)
def wp_X2_bidsOfBidder (σ : CS) (p1 : Int32) (post : Int32 → Prop) : Prop := ∃ I1 : Nat → Int32 → Int32 → Prop, (∃ n : Nat, I1 n 0 0) ∧ ∀ (n1 : Nat) (v2_1 : Int32) (v3_1 : Int32), I1 n1 v2_1 v3_1 → ((6 ≤ v3_1 → post v2_1) ∧ (¬ 6 ≤ v3_1 → wp_X2_hasBid σ p1 v3_1 (fun r_2 => ((r_2 = 0 → ∀ v2_3 : Int32, v2_3 = (v2_1 + 0) → ∀ v3_4 : Int32, v3_4 = v3_1 + 1 → ∃ n' : Nat, n' < n1 ∧ I1 n' v2_3 v3_4) ∧ (¬ r_2 = 0 → ∀ v2_5 : Int32, v2_5 = (v2_1 + 1) → ∀ v3_6 : Int32, v3_6 = v3_1 + 1 → ∃ n' : Nat, n' < n1 ∧ I1 n' v2_5 v3_6)))))
abbrev rm_X2_bidsOfBidder : Room := { frames := 3, cells := 0, slots := 0, locals := 68 }
set_option maxHeartbeats 4000000 in
set_option maxRecDepth 100000 in
theorem ok_X2_bidsOfBidder (l : Launch) (D : va_G) (cI cJ : ClassId) (a : Nat → Nat) (sz : Nat) (σ : CS) (p1 : Int32) (post : Int32 → Prop) (hw : wp_X2_bidsOfBidder σ p1 post) : Mi l yX2_bidsOfBidder wsX2_bidsOfBidder rm_X2_bidsOfBidder [.ref (a 1), .int p1] D (tysIJ cI cJ) (cW cI cJ a σ) sz (fun r (_ : Unit) => post r) (fun _ => cW cI cJ a σ) := by
  refine s_Mi (by decide) rfl (Nat.le_of_ble_eq_true rfl) ?_
  intro p e s m args below meth c A Q hx hb hml hts hown hin hK hA hret H locs ls hW hl
  have hown : s.vm.findClass RX2 = some m.cls := hown
  have hl : lv_has ls 4 [(0, .ref (a 1)), (1, .int p1)] := hl
  refine lv_iconst (v := 0) hx hb dX2_bidsOfBidder_0 (by decide) ?_
  refine lv_istore_n (lv' := [(2, .int 0), (0, .ref (a 1)), (1, .int p1)]) hx hb dX2_bidsOfBidder_1 rfl hl (by decide) rfl (fun ls hl => ?_)
  refine lv_iconst (v := 0) hx hb dX2_bidsOfBidder_2 (by decide) ?_
  refine lv_istore_n (lv' := [(3, .int 0), (2, .int 0), (0, .ref (a 1)), (1, .int p1)]) hx hb dX2_bidsOfBidder_3 rfl hl (by decide) rfl (fun ls hl => ?_)
  obtain ⟨I1, ⟨n1, hI1⟩, hJ1⟩ := hw
  have hl : lv_has ls 4 [(0, .ref (a 1)), (1, .int p1), (2, .int 0), (3, .int 0)] := lv_sub hl [2, 3, 1, 0] rfl
  suffices LP1 : ∀ (n : Nat) (v2_1 : Int32) (v3_1 : Int32) (H : Heap) (locs : List Loc) (ls : Array Slot), I1 n v2_1 v3_1 → Wd D A s.heap (cW cI cJ a σ) H locs → lv_has ls 4 [(0, .ref (a 1)), (1, .int p1), (2, .int v2_1), (3, .int v3_1)] → W p l e rm_X2_bidsOfBidder s m args below meth c H locs 0 0 Q (F0 m 4 ls []) from LP1 n1 0 0 H locs ls hI1 hW hl
  intro n1
  induction n1 using Nat.strongRecOn with
  | ind n1 ih1 =>
    intro v2_1 v3_1 H locs ls hIn hW hl
    have hw := hJ1 n1 v2_1 v3_1 hIn
    refine lv_iload_n hx hb dX2_bidsOfBidder_4 rfl (lv_at hl 3 rfl) ?_
    refine lv_bipush (v := 6) hx hb dX2_bidsOfBidder_5 (by decide) ?_
    refine lv_icmp_ge (tgt := 33) hx hb dX2_bidsOfBidder_7 (by decide) (fun hc => ?_) (fun hc => ?_)
    · have hw := hw.1 hc
      refine lv_iload_n hx hb dX2_bidsOfBidder_33 rfl (lv_at hl 2 rfl) ?_
      exact hret _ () _ _ _ _ hw hW dX2_bidsOfBidder_34
    · have hw := hw.2 hc
      refine lv_iload_n hx hb dX2_bidsOfBidder_10 rfl (lv_at hl 2 rfl) ?_
      refine lv_aload_n hx hb dX2_bidsOfBidder_11 rfl (lv_at hl 0 rfl) ?_
      refine lv_iload_n hx hb dX2_bidsOfBidder_12 rfl (lv_at hl 1 rfl) ?_
      refine lv_iload_n hx hb dX2_bidsOfBidder_13 rfl (lv_at hl 3 rfl) ?_
      refine kV_Mi (As := [.int p1, .int v3_1]) (rest := [.int v2_1]) ⟨hx, hb, hml, hown, hts⟩ (ok_X2_hasBid l D cI cJ a _ _ _ _ _ hw) (cwV 2 hts gX2_bidsOfBidder_X2_hasBid rfl rfl rfl (by decide +kernel) ⟨Nat.le_of_ble_eq_true rfl, Nat.le_of_ble_eq_true rfl⟩) hK hW hA 1 rfl rfl rfl hl.1 rfl (Nat.le_of_ble_eq_true rfl) dX2_bidsOfBidder_14 ⟨Nat.le_of_ble_eq_true rfl, Nat.le_of_ble_eq_true rfl⟩ (fun r_2 _ H locs hw hW => ?_)
      refine lv_if_eq (tgt := 24) hx hb dX2_bidsOfBidder_17 (by decide) (fun hc => ?_) (fun hc => ?_)
      · have hw := hw.1 hc
        refine lv_iconst (v := 0) hx hb dX2_bidsOfBidder_24 (by decide) ?_
        refine lv_iadd hx hb dX2_bidsOfBidder_25 ?_
        refine lv_topi (fun v2_3 ev2_3 => ?_)
        have hw := hw v2_3 ev2_3
        refine lv_istore_n (lv' := [(2, .int v2_3), (0, .ref (a 1)), (1, .int p1), (3, .int v3_1)]) hx hb dX2_bidsOfBidder_26 rfl hl (by decide) rfl (fun ls hl => ?_)
        obtain ⟨v3_4, ev3_4⟩ : ∃ y : Int32, y = v3_1 + 1 := ⟨_, rfl⟩
        have hw := hw v3_4 ev3_4
        refine lv_iinc (v := v3_4) (lv' := [(3, .int v3_4), (2, .int v2_3), (0, .ref (a 1)), (1, .int p1)]) hx hb dX2_bidsOfBidder_27 hl (k := 3) rfl (by rw [ev3_4]; rfl) (by decide) rfl (fun ls hl => ?_)
        refine lv_goto (tgt := 4) hx hb dX2_bidsOfBidder_30 (by decide) ?_
        obtain ⟨n9, hlt9, hI9⟩ := hw
        exact ih1 n9 hlt9 _ _ _ _ _ hI9 hW (lv_sub hl [2, 3, 1, 0] rfl)
      · have hw := hw.2 hc
        refine lv_iconst (v := 1) hx hb dX2_bidsOfBidder_20 (by decide) ?_
        refine lv_goto (tgt := 25) hx hb dX2_bidsOfBidder_21 (by decide) ?_
        refine lv_iadd hx hb dX2_bidsOfBidder_25 ?_
        refine lv_topi (fun v2_5 ev2_5 => ?_)
        have hw := hw v2_5 ev2_5
        refine lv_istore_n (lv' := [(2, .int v2_5), (0, .ref (a 1)), (1, .int p1), (3, .int v3_1)]) hx hb dX2_bidsOfBidder_26 rfl hl (by decide) rfl (fun ls hl => ?_)
        obtain ⟨v3_6, ev3_6⟩ : ∃ y : Int32, y = v3_1 + 1 := ⟨_, rfl⟩
        have hw := hw v3_6 ev3_6
        refine lv_iinc (v := v3_6) (lv' := [(3, .int v3_6), (2, .int v2_5), (0, .ref (a 1)), (1, .int p1)]) hx hb dX2_bidsOfBidder_27 hl (k := 3) rfl (by rw [ev3_6]; rfl) (by decide) rfl (fun ls hl => ?_)
        refine lv_goto (tgt := 4) hx hb dX2_bidsOfBidder_30 (by decide) ?_
        obtain ⟨n9, hlt9, hI9⟩ := hw
        exact ih1 n9 hlt9 _ _ _ _ _ hI9 hW (lv_sub hl [2, 3, 1, 0] rfl)
def wp_X2_bidsInAll (σ : CS) (post : Int32 → Prop) : Prop := ∃ I1 : Nat → Int32 → Int32 → Prop, (∃ n : Nat, I1 n 0 0) ∧ ∀ (n1 : Nat) (v1_1 : Int32) (v2_1 : Int32), I1 n1 v1_1 v2_1 → ((6 ≤ v2_1 → post v1_1) ∧ (¬ 6 ≤ v2_1 → wp_X2_bidsOfBidder σ v2_1 (fun r_2 => ∀ v1_3 : Int32, v1_3 = (v1_1 + r_2) → ∀ v2_4 : Int32, v2_4 = v2_1 + 1 → ∃ n' : Nat, n' < n1 ∧ I1 n' v1_3 v2_4)))
abbrev rm_X2_bidsInAll : Room := { frames := 4, cells := 0, slots := 0, locals := 91 }
set_option maxHeartbeats 4000000 in
set_option maxRecDepth 100000 in
theorem ok_X2_bidsInAll (l : Launch) (D : va_G) (cI cJ : ClassId) (a : Nat → Nat) (sz : Nat) (σ : CS) (post : Int32 → Prop) (hw : wp_X2_bidsInAll σ post) : Mi l yX2_bidsInAll wsX2_bidsInAll rm_X2_bidsInAll [.ref (a 1)] D (tysIJ cI cJ) (cW cI cJ a σ) sz (fun r (_ : Unit) => post r) (fun _ => cW cI cJ a σ) := by
  refine s_Mi (by decide) rfl (Nat.le_of_ble_eq_true rfl) ?_
  intro p e s m args below meth c A Q hx hb hml hts hown hin hK hA hret H locs ls hW hl
  have hown : s.vm.findClass RX2 = some m.cls := hown
  have hl : lv_has ls 3 [(0, .ref (a 1))] := hl
  refine lv_iconst (v := 0) hx hb dX2_bidsInAll_0 (by decide) ?_
  refine lv_istore_n (lv' := [(1, .int 0), (0, .ref (a 1))]) hx hb dX2_bidsInAll_1 rfl hl (by decide) rfl (fun ls hl => ?_)
  refine lv_iconst (v := 0) hx hb dX2_bidsInAll_2 (by decide) ?_
  refine lv_istore_n (lv' := [(2, .int 0), (1, .int 0), (0, .ref (a 1))]) hx hb dX2_bidsInAll_3 rfl hl (by decide) rfl (fun ls hl => ?_)
  obtain ⟨I1, ⟨n1, hI1⟩, hJ1⟩ := hw
  have hl : lv_has ls 3 [(0, .ref (a 1)), (1, .int 0), (2, .int 0)] := lv_sub hl [2, 1, 0] rfl
  suffices LP1 : ∀ (n : Nat) (v1_1 : Int32) (v2_1 : Int32) (H : Heap) (locs : List Loc) (ls : Array Slot), I1 n v1_1 v2_1 → Wd D A s.heap (cW cI cJ a σ) H locs → lv_has ls 3 [(0, .ref (a 1)), (1, .int v1_1), (2, .int v2_1)] → W p l e rm_X2_bidsInAll s m args below meth c H locs 0 0 Q (F0 m 4 ls []) from LP1 n1 0 0 H locs ls hI1 hW hl
  intro n1
  induction n1 using Nat.strongRecOn with
  | ind n1 ih1 =>
    intro v1_1 v2_1 H locs ls hIn hW hl
    have hw := hJ1 n1 v1_1 v2_1 hIn
    refine lv_iload_n hx hb dX2_bidsInAll_4 rfl (lv_at hl 2 rfl) ?_
    refine lv_bipush (v := 6) hx hb dX2_bidsInAll_5 (by decide) ?_
    refine lv_icmp_ge (tgt := 24) hx hb dX2_bidsInAll_7 (by decide) (fun hc => ?_) (fun hc => ?_)
    · have hw := hw.1 hc
      refine lv_iload_n hx hb dX2_bidsInAll_24 rfl (lv_at hl 1 rfl) ?_
      exact hret _ () _ _ _ _ hw hW dX2_bidsInAll_25
    · have hw := hw.2 hc
      refine lv_iload_n hx hb dX2_bidsInAll_10 rfl (lv_at hl 1 rfl) ?_
      refine lv_aload_n hx hb dX2_bidsInAll_11 rfl (lv_at hl 0 rfl) ?_
      refine lv_iload_n hx hb dX2_bidsInAll_12 rfl (lv_at hl 2 rfl) ?_
      refine kV_Mi (As := [.int v2_1]) (rest := [.int v1_1]) ⟨hx, hb, hml, hown, hts⟩ (ok_X2_bidsOfBidder l D cI cJ a _ _ _ _ hw) (cwV 1 hts gX2_bidsInAll_X2_bidsOfBidder rfl rfl rfl (by decide +kernel) ⟨Nat.le_of_ble_eq_true rfl, Nat.le_of_ble_eq_true rfl⟩) hK hW hA 1 rfl rfl rfl hl.1 rfl (Nat.le_of_ble_eq_true rfl) dX2_bidsInAll_13 ⟨Nat.le_of_ble_eq_true rfl, Nat.le_of_ble_eq_true rfl⟩ (fun r_2 _ H locs hw hW => ?_)
      refine lv_iadd hx hb dX2_bidsInAll_16 ?_
      refine lv_topi (fun v1_3 ev1_3 => ?_)
      have hw := hw v1_3 ev1_3
      refine lv_istore_n (lv' := [(1, .int v1_3), (0, .ref (a 1)), (2, .int v2_1)]) hx hb dX2_bidsInAll_17 rfl hl (by decide) rfl (fun ls hl => ?_)
      obtain ⟨v2_4, ev2_4⟩ : ∃ y : Int32, y = v2_1 + 1 := ⟨_, rfl⟩
      have hw := hw v2_4 ev2_4
      refine lv_iinc (v := v2_4) (lv' := [(2, .int v2_4), (1, .int v1_3), (0, .ref (a 1))]) hx hb dX2_bidsInAll_18 hl (k := 2) rfl (by rw [ev2_4]; rfl) (by decide) rfl (fun ls hl => ?_)
      refine lv_goto (tgt := 4) hx hb dX2_bidsInAll_21 (by decide) ?_
      obtain ⟨n9, hlt9, hI9⟩ := hw
      exact ih1 n9 hlt9 _ _ _ _ _ hI9 hW (lv_sub hl [2, 1, 0] rfl)
def wp_X2_isOpened (σ : CS) (post : Int32 → Prop) : Prop := wp_X2_get_ σ 169 (fun r_1 => ((r_1 = 0 → post 0) ∧ (¬ r_1 = 0 → post 1)))
abbrev rm_X2_isOpened : Room := { frames := 2, cells := 0, slots := 0, locals := 44 }
set_option maxHeartbeats 4000000 in
set_option maxRecDepth 100000 in
theorem ok_X2_isOpened (l : Launch) (D : va_G) (cI cJ : ClassId) (a : Nat → Nat) (sz : Nat) (σ : CS) (post : Int32 → Prop) (hw : wp_X2_isOpened σ post) : Mi l yX2_isOpened wsX2_isOpened rm_X2_isOpened [.ref (a 1)] D (tysIJ cI cJ) (cW cI cJ a σ) sz (fun r (_ : Unit) => post r) (fun _ => cW cI cJ a σ) := by
  refine s_Mz (by decide) rfl (Nat.le_of_ble_eq_true rfl) ?_
  intro p e s m args below meth c A Q hx hb hml hts hown hin hK hA hret H locs ls hW hl
  have hown : s.vm.findClass RX2 = some m.cls := hown
  have hl : lv_has ls 1 [(0, .ref (a 1))] := hl
  refine lv_aload_n hx hb dX2_isOpened_0 rfl (lv_at hl 0 rfl) ?_
  refine lv_sipush (v := 169) hx hb dX2_isOpened_1 (by decide) ?_
  refine kV_Mi (As := [.int 169]) (rest := []) ⟨hx, hb, hml, hown, hts⟩ (ok_X2_get_ l D cI cJ a _ _ _ _ hw) (cwV 1 hts gX2_isOpened_X2_get_ rfl rfl rfl (by decide +kernel) ⟨Nat.le_of_ble_eq_true rfl, Nat.le_of_ble_eq_true rfl⟩) hK hW hA 1 rfl rfl rfl hl.1 rfl (Nat.le_of_ble_eq_true rfl) dX2_isOpened_4 ⟨Nat.le_of_ble_eq_true rfl, Nat.le_of_ble_eq_true rfl⟩ (fun r_1 _ H locs hw hW => ?_)
  refine lv_if_eq (tgt := 14) hx hb dX2_isOpened_7 (by decide) (fun hc => ?_) (fun hc => ?_)
  · have hw := hw.1 hc
    refine lv_iconst (v := 0) hx hb dX2_isOpened_14 (by decide) ?_
    exact hret _ () _ _ _ _ (by decide) hw hW dX2_isOpened_15
  · have hw := hw.2 hc
    refine lv_iconst (v := 1) hx hb dX2_isOpened_10 (by decide) ?_
    refine lv_goto (tgt := 15) hx hb dX2_isOpened_11 (by decide) ?_
    exact hret _ () _ _ _ _ (by decide) hw hW dX2_isOpened_15
def wp_X2_whyNotSealed (σ : CS) (p1 : Int32) (p2 : Int32) (p3 : Int32) (post : Int32 → Prop) : Prop := wp_X2_isOpened σ (fun r_1 => ((r_1 = 0 → wp_X2_hasBid σ p1 p2 (fun r_2 => ((r_2 = 0 → wp_X2_get σ 0 p2 (fun r_3 => ((r_3 ≤ p3 → wp_X2_get σ 30 p1 (fun r_4 => ((p3 ≤ r_4 → post 0) ∧ (¬ p3 ≤ r_4 → post 4)))) ∧ (¬ r_3 ≤ p3 → post 3)))) ∧ (¬ r_2 = 0 → post 2)))) ∧ (¬ r_1 = 0 → post 1)))
abbrev rm_X2_whyNotSealed : Room := { frames := 3, cells := 0, slots := 0, locals := 68 }
set_option maxHeartbeats 4000000 in
set_option maxRecDepth 100000 in
theorem ok_X2_whyNotSealed (l : Launch) (D : va_G) (cI cJ : ClassId) (a : Nat → Nat) (sz : Nat) (σ : CS) (p1 : Int32) (p2 : Int32) (p3 : Int32) (post : Int32 → Prop) (hw : wp_X2_whyNotSealed σ p1 p2 p3 post) : Mi l yX2_whyNotSealed wsX2_whyNotSealed rm_X2_whyNotSealed [.ref (a 1), .int p1, .int p2, .int p3] D (tysIJ cI cJ) (cW cI cJ a σ) sz (fun r (_ : Unit) => post r) (fun _ => cW cI cJ a σ) := by
  refine s_Mi (by decide) rfl (Nat.le_of_ble_eq_true rfl) ?_
  intro p e s m args below meth c A Q hx hb hml hts hown hin hK hA hret H locs ls hW hl
  have hown : s.vm.findClass RX2 = some m.cls := hown
  have hl : lv_has ls 4 [(0, .ref (a 1)), (1, .int p1), (2, .int p2), (3, .int p3)] := hl
  refine lv_aload_n hx hb dX2_whyNotSealed_0 rfl (lv_at hl 0 rfl) ?_
  refine kV_Mi (As := []) (rest := []) ⟨hx, hb, hml, hown, hts⟩ (ok_X2_isOpened l D cI cJ a _ _ _ hw) (cwV 0 hts gX2_whyNotSealed_X2_isOpened rfl rfl rfl (by decide +kernel) ⟨Nat.le_of_ble_eq_true rfl, Nat.le_of_ble_eq_true rfl⟩) hK hW hA 1 rfl rfl rfl hl.1 rfl (Nat.le_of_ble_eq_true rfl) dX2_whyNotSealed_1 ⟨Nat.le_of_ble_eq_true rfl, Nat.le_of_ble_eq_true rfl⟩ (fun r_1 _ H locs hw hW => ?_)
  refine lv_if_eq (tgt := 9) hx hb dX2_whyNotSealed_4 (by decide) (fun hc => ?_) (fun hc => ?_)
  · have hw := hw.1 hc
    refine lv_aload_n hx hb dX2_whyNotSealed_9 rfl (lv_at hl 0 rfl) ?_
    refine lv_iload_n hx hb dX2_whyNotSealed_10 rfl (lv_at hl 1 rfl) ?_
    refine lv_iload_n hx hb dX2_whyNotSealed_11 rfl (lv_at hl 2 rfl) ?_
    refine kV_Mi (As := [.int p1, .int p2]) (rest := []) ⟨hx, hb, hml, hown, hts⟩ (ok_X2_hasBid l D cI cJ a _ _ _ _ _ hw) (cwV 2 hts gX2_whyNotSealed_X2_hasBid rfl rfl rfl (by decide +kernel) ⟨Nat.le_of_ble_eq_true rfl, Nat.le_of_ble_eq_true rfl⟩) hK hW hA 1 rfl rfl rfl hl.1 rfl (Nat.le_of_ble_eq_true rfl) dX2_whyNotSealed_12 ⟨Nat.le_of_ble_eq_true rfl, Nat.le_of_ble_eq_true rfl⟩ (fun r_2 _ H locs hw hW => ?_)
    refine lv_if_eq (tgt := 20) hx hb dX2_whyNotSealed_15 (by decide) (fun hc => ?_) (fun hc => ?_)
    · have hw := hw.1 hc
      refine lv_iload_n hx hb dX2_whyNotSealed_20 rfl (lv_at hl 3 rfl) ?_
      refine lv_aload_n hx hb dX2_whyNotSealed_21 rfl (lv_at hl 0 rfl) ?_
      refine lv_iconst (v := 0) hx hb dX2_whyNotSealed_22 (by decide) ?_
      refine lv_iload_n hx hb dX2_whyNotSealed_23 rfl (lv_at hl 2 rfl) ?_
      refine kV_Mi (As := [.int 0, .int p2]) (rest := [.int p3]) ⟨hx, hb, hml, hown, hts⟩ (ok_X2_get l D cI cJ a _ _ _ _ _ hw) (cwV 2 hts gX2_whyNotSealed_X2_get rfl rfl rfl (by decide +kernel) ⟨Nat.le_of_ble_eq_true rfl, Nat.le_of_ble_eq_true rfl⟩) hK hW hA 1 rfl rfl rfl hl.1 rfl (Nat.le_of_ble_eq_true rfl) dX2_whyNotSealed_24 ⟨Nat.le_of_ble_eq_true rfl, Nat.le_of_ble_eq_true rfl⟩ (fun r_3 _ H locs hw hW => ?_)
      refine lv_icmp_ge (tgt := 32) hx hb dX2_whyNotSealed_27 (by decide) (fun hc => ?_) (fun hc => ?_)
      · have hw := hw.1 hc
        refine lv_aload_n hx hb dX2_whyNotSealed_32 rfl (lv_at hl 0 rfl) ?_
        refine lv_bipush (v := 30) hx hb dX2_whyNotSealed_33 (by decide) ?_
        refine lv_iload_n hx hb dX2_whyNotSealed_35 rfl (lv_at hl 1 rfl) ?_
        refine kV_Mi (As := [.int 30, .int p1]) (rest := []) ⟨hx, hb, hml, hown, hts⟩ (ok_X2_get l D cI cJ a _ _ _ _ _ hw) (cwV 2 hts gX2_whyNotSealed_X2_get rfl rfl rfl (by decide +kernel) ⟨Nat.le_of_ble_eq_true rfl, Nat.le_of_ble_eq_true rfl⟩) hK hW hA 1 rfl rfl rfl hl.1 rfl (Nat.le_of_ble_eq_true rfl) dX2_whyNotSealed_36 ⟨Nat.le_of_ble_eq_true rfl, Nat.le_of_ble_eq_true rfl⟩ (fun r_4 _ H locs hw hW => ?_)
        refine lv_iload_n hx hb dX2_whyNotSealed_39 rfl (lv_at hl 3 rfl) ?_
        refine lv_icmp_ge (tgt := 47) hx hb dX2_whyNotSealed_40 (by decide) (fun hc => ?_) (fun hc => ?_)
        · have hw := hw.1 hc
          refine lv_iconst (v := 0) hx hb dX2_whyNotSealed_47 (by decide) ?_
          exact hret _ () _ _ _ _ hw hW dX2_whyNotSealed_48
        · have hw := hw.2 hc
          refine lv_iconst (v := 4) hx hb dX2_whyNotSealed_43 (by decide) ?_
          refine lv_goto (tgt := 48) hx hb dX2_whyNotSealed_44 (by decide) ?_
          exact hret _ () _ _ _ _ hw hW dX2_whyNotSealed_48
      · have hw := hw.2 hc
        refine lv_iconst (v := 3) hx hb dX2_whyNotSealed_30 (by decide) ?_
        exact hret _ () _ _ _ _ hw hW dX2_whyNotSealed_31
    · have hw := hw.2 hc
      refine lv_iconst (v := 2) hx hb dX2_whyNotSealed_18 (by decide) ?_
      exact hret _ () _ _ _ _ hw hW dX2_whyNotSealed_19
  · have hw := hw.2 hc
    refine lv_iconst (v := 1) hx hb dX2_whyNotSealed_7 (by decide) ?_
    exact hret _ () _ _ _ _ hw hW dX2_whyNotSealed_8
def wp_X2_sealBid (σ : CS) (p1 : Int32) (p2 : Int32) (p3 : Int32) (post : Int32 → CS → Prop) : Prop := wp_X2_placeOfBid p1 p2 (fun r_1 => wp_X2_get_ σ 170 (fun r_2 => ∀ v5_3 : Int32, v5_3 = (((((73 * p3) + (41 * r_2)) + (6 * p1)) + p2) - ((((73 * p3) + (41 * r_2)) + (6 * p1)) + p2) / 4096 * 4096) → wp_X2_put σ 54 r_1 p3 (fun σ_4 => wp_X2_put σ_4 90 r_1 v5_3 (fun σ_5 => wp_X2_get_ σ_5 168 (fun r_6 => wp_X2_put σ_5 126 r_1 r_6 (fun σ_7 => wp_X2_add σ_7 170 0 1 (fun σ_8 => wp_X2_add σ_8 171 0 1 (fun σ_9 => post v5_3 σ_9))))))))
abbrev rm_X2_sealBid : Room := { frames := 2, cells := 0, slots := 0, locals := 47 }
set_option maxHeartbeats 4000000 in
set_option maxRecDepth 100000 in
theorem ok_X2_sealBid (l : Launch) (D : va_G) (cI cJ : ClassId) (a : Nat → Nat) (sz : Nat) (σ : CS) (p1 : Int32) (p2 : Int32) (p3 : Int32) (post : Int32 → CS → Prop) (hw : wp_X2_sealBid σ p1 p2 p3 post) : Mi l yX2_sealBid wsX2_sealBid rm_X2_sealBid [.ref (a 1), .int p1, .int p2, .int p3] D (tysIJ cI cJ) (cW cI cJ a σ) sz post (cW cI cJ a) := by
  refine s_Mi (by decide) rfl (Nat.le_of_ble_eq_true rfl) ?_
  intro p e s m args below meth c A Q hx hb hml hts hown hin hK hA hret H locs ls hW hl
  have hown : s.vm.findClass RX2 = some m.cls := hown
  have hl : lv_has ls 6 [(0, .ref (a 1)), (1, .int p1), (2, .int p2), (3, .int p3)] := hl
  refine lv_iload_n hx hb dX2_sealBid_0 rfl (lv_at hl 1 rfl) ?_
  refine lv_iload_n hx hb dX2_sealBid_1 rfl (lv_at hl 2 rfl) ?_
  refine kS_Pi (As := [.int p1, .int p2]) (rest := []) ⟨hx, hb, hml, hown, hts⟩ (ok_X2_placeOfBid l _ _ _ hw) (va_cwS 2 hts gX2_sealBid_X2_placeOfBid rfl rfl rfl (by decide +kernel) ⟨Nat.le_of_ble_eq_true rfl, Nat.le_of_ble_eq_true rfl⟩) hW.2.2 rfl hl.1 rfl (Nat.le_of_ble_eq_true rfl) dX2_sealBid_2 ⟨Nat.le_of_ble_eq_true rfl, Nat.le_of_ble_eq_true rfl⟩ (fun r_1 H locs hw hk hS => ?_)
  have hW := hW.kept hk hS
  refine lv_istore (lv' := [(4, .int r_1), (0, .ref (a 1)), (1, .int p1), (2, .int p2), (3, .int p3)]) hx hb dX2_sealBid_5 hl (by decide) rfl (fun ls hl => ?_)
  refine lv_bipush (v := 73) hx hb dX2_sealBid_7 (by decide) ?_
  refine lv_iload_n hx hb dX2_sealBid_9 rfl (lv_at hl 4 rfl) ?_
  refine lv_imul hx hb dX2_sealBid_10 ?_
  refine lv_bipush (v := 41) hx hb dX2_sealBid_11 (by decide) ?_
  refine lv_aload_n hx hb dX2_sealBid_13 rfl (lv_at hl 1 rfl) ?_
  refine lv_sipush (v := 170) hx hb dX2_sealBid_14 (by decide) ?_
  refine kV_Mi (As := [.int 170]) (rest := [.int 41, .int (73 * p3)]) ⟨hx, hb, hml, hown, hts⟩ (ok_X2_get_ l D cI cJ a _ _ _ _ hw) (cwV 1 hts gX2_sealBid_X2_get_ rfl rfl rfl (by decide +kernel) ⟨Nat.le_of_ble_eq_true rfl, Nat.le_of_ble_eq_true rfl⟩) hK hW hA 1 rfl rfl rfl hl.1 rfl (Nat.le_of_ble_eq_true rfl) dX2_sealBid_17 ⟨Nat.le_of_ble_eq_true rfl, Nat.le_of_ble_eq_true rfl⟩ (fun r_2 _ H locs hw hW => ?_)
  refine lv_imul hx hb dX2_sealBid_20 ?_
  refine lv_iadd hx hb dX2_sealBid_21 ?_
  refine lv_bipush (v := 6) hx hb dX2_sealBid_22 (by decide) ?_
  refine lv_iload_n hx hb dX2_sealBid_24 rfl (lv_at hl 2 rfl) ?_
  refine lv_imul hx hb dX2_sealBid_25 ?_
  refine lv_iadd hx hb dX2_sealBid_26 ?_
  refine lv_iload_n hx hb dX2_sealBid_27 rfl (lv_at hl 3 rfl) ?_
  refine lv_iadd hx hb dX2_sealBid_28 ?_
  refine lv_sipush (v := 4096) hx hb dX2_sealBid_29 (by decide) ?_
  refine lv_irem hx hb dX2_sealBid_32 (by decide) ?_
  refine lv_topi (fun v5_3 ev5_3 => ?_)
  have hw := hw v5_3 ev5_3
  refine lv_istore (lv' := [(5, .int v5_3), (4, .int r_1), (0, .ref (a 1)), (1, .int p1), (2, .int p2), (3, .int p3)]) hx hb dX2_sealBid_33 hl (by decide) rfl (fun ls hl => ?_)
  refine lv_aload_n hx hb dX2_sealBid_35 rfl (lv_at hl 2 rfl) ?_
  refine lv_bipush (v := 54) hx hb dX2_sealBid_36 (by decide) ?_
  refine lv_iload hx hb dX2_sealBid_38 (lv_at hl 1 rfl) ?_
  refine lv_iload_n hx hb dX2_sealBid_40 rfl (lv_at hl 5 rfl) ?_
  refine kV_Mv (As := [.int 54, .int r_1, .int p3]) (rest := []) ⟨hx, hb, hml, hown, hts⟩ (ok_X2_put l D cI cJ a _ _ _ _ _ _ hw) (cwV 3 hts gX2_sealBid_X2_put rfl rfl rfl (by decide +kernel) ⟨Nat.le_of_ble_eq_true rfl, Nat.le_of_ble_eq_true rfl⟩) hK hW hA 1 rfl rfl rfl hl.1 rfl (Nat.le_of_ble_eq_true rfl) dX2_sealBid_41 ⟨Nat.le_of_ble_eq_true rfl, Nat.le_of_ble_eq_true rfl⟩ (fun σ_4 H locs hw hW => ?_)
  refine lv_aload_n hx hb dX2_sealBid_44 rfl (lv_at hl 2 rfl) ?_
  refine lv_bipush (v := 90) hx hb dX2_sealBid_45 (by decide) ?_
  refine lv_iload hx hb dX2_sealBid_47 (lv_at hl 1 rfl) ?_
  refine lv_iload hx hb dX2_sealBid_49 (lv_at hl 0 rfl) ?_
  refine kV_Mv (As := [.int 90, .int r_1, .int v5_3]) (rest := []) ⟨hx, hb, hml, hown, hts⟩ (ok_X2_put l D cI cJ a _ _ _ _ _ _ hw) (cwV 3 hts gX2_sealBid_X2_put rfl rfl rfl (by decide +kernel) ⟨Nat.le_of_ble_eq_true rfl, Nat.le_of_ble_eq_true rfl⟩) hK hW hA 1 rfl rfl rfl hl.1 rfl (Nat.le_of_ble_eq_true rfl) dX2_sealBid_51 ⟨Nat.le_of_ble_eq_true rfl, Nat.le_of_ble_eq_true rfl⟩ (fun σ_5 H locs hw hW => ?_)
  refine lv_aload_n hx hb dX2_sealBid_54 rfl (lv_at hl 2 rfl) ?_
  refine lv_bipush (v := 126) hx hb dX2_sealBid_55 (by decide) ?_
  refine lv_iload hx hb dX2_sealBid_57 (lv_at hl 1 rfl) ?_
  refine lv_aload_n hx hb dX2_sealBid_59 rfl (lv_at hl 2 rfl) ?_
  refine lv_sipush (v := 168) hx hb dX2_sealBid_60 (by decide) ?_
  refine kV_Mi (As := [.int 168]) (rest := [.int r_1, .int 126, .ref (a 1)]) ⟨hx, hb, hml, hown, hts⟩ (ok_X2_get_ l D cI cJ a _ _ _ _ hw) (cwV 1 hts gX2_sealBid_X2_get_ rfl rfl rfl (by decide +kernel) ⟨Nat.le_of_ble_eq_true rfl, Nat.le_of_ble_eq_true rfl⟩) hK hW hA 1 rfl rfl rfl hl.1 rfl (Nat.le_of_ble_eq_true rfl) dX2_sealBid_63 ⟨Nat.le_of_ble_eq_true rfl, Nat.le_of_ble_eq_true rfl⟩ (fun r_6 _ H locs hw hW => ?_)
  refine kV_Mv (As := [.int 126, .int r_1, .int r_6]) (rest := []) ⟨hx, hb, hml, hown, hts⟩ (ok_X2_put l D cI cJ a _ _ _ _ _ _ hw) (cwV 3 hts gX2_sealBid_X2_put rfl rfl rfl (by decide +kernel) ⟨Nat.le_of_ble_eq_true rfl, Nat.le_of_ble_eq_true rfl⟩) hK hW hA 1 rfl rfl rfl hl.1 rfl (Nat.le_of_ble_eq_true rfl) dX2_sealBid_66 ⟨Nat.le_of_ble_eq_true rfl, Nat.le_of_ble_eq_true rfl⟩ (fun σ_7 H locs hw hW => ?_)
  refine lv_aload_n hx hb dX2_sealBid_69 rfl (lv_at hl 2 rfl) ?_
  refine lv_sipush (v := 170) hx hb dX2_sealBid_70 (by decide) ?_
  refine lv_iconst (v := 0) hx hb dX2_sealBid_73 (by decide) ?_
  refine lv_iconst (v := 1) hx hb dX2_sealBid_74 (by decide) ?_
  refine kV_Mv (As := [.int 170, .int 0, .int 1]) (rest := []) ⟨hx, hb, hml, hown, hts⟩ (ok_X2_add l D cI cJ a _ _ _ _ _ _ hw) (cwV 3 hts gX2_sealBid_X2_add rfl rfl rfl (by decide +kernel) ⟨Nat.le_of_ble_eq_true rfl, Nat.le_of_ble_eq_true rfl⟩) hK hW hA 1 rfl rfl rfl hl.1 rfl (Nat.le_of_ble_eq_true rfl) dX2_sealBid_75 ⟨Nat.le_of_ble_eq_true rfl, Nat.le_of_ble_eq_true rfl⟩ (fun σ_8 H locs hw hW => ?_)
  refine lv_aload_n hx hb dX2_sealBid_78 rfl (lv_at hl 2 rfl) ?_
  refine lv_sipush (v := 171) hx hb dX2_sealBid_79 (by decide) ?_
  refine lv_iconst (v := 0) hx hb dX2_sealBid_82 (by decide) ?_
  refine lv_iconst (v := 1) hx hb dX2_sealBid_83 (by decide) ?_
  refine kV_Mv (As := [.int 171, .int 0, .int 1]) (rest := []) ⟨hx, hb, hml, hown, hts⟩ (ok_X2_add l D cI cJ a _ _ _ _ _ _ hw) (cwV 3 hts gX2_sealBid_X2_add rfl rfl rfl (by decide +kernel) ⟨Nat.le_of_ble_eq_true rfl, Nat.le_of_ble_eq_true rfl⟩) hK hW hA 1 rfl rfl rfl hl.1 rfl (Nat.le_of_ble_eq_true rfl) dX2_sealBid_84 ⟨Nat.le_of_ble_eq_true rfl, Nat.le_of_ble_eq_true rfl⟩ (fun σ_9 H locs hw hW => ?_)
  refine lv_iload hx hb dX2_sealBid_87 (lv_at hl 0 rfl) ?_
  exact hret _ σ_9 _ _ _ _ hw hW dX2_sealBid_89
def wp_X2_feeFor (σ : CS) (p1 : Int32) (p2 : Int32) (post : Int32 → Prop) : Prop := wp_X2_get_ σ 168 (fun r_1 => wp_X2_ofBid σ 126 p1 p2 (fun r_2 => ∀ v3_3 : Int32, v3_3 = (r_1 - r_2) → wp_X2_get σ 162 0 (fun r_4 => wp_X2_get σ 162 1 (fun r_5 => post (r_4 + (r_5 * v3_3))))))
abbrev rm_X2_feeFor : Room := { frames := 2, cells := 0, slots := 0, locals := 46 }
set_option maxHeartbeats 4000000 in
set_option maxRecDepth 100000 in
theorem ok_X2_feeFor (l : Launch) (D : va_G) (cI cJ : ClassId) (a : Nat → Nat) (sz : Nat) (σ : CS) (p1 : Int32) (p2 : Int32) (post : Int32 → Prop) (hw : wp_X2_feeFor σ p1 p2 post) : Mi l yX2_feeFor wsX2_feeFor rm_X2_feeFor [.ref (a 1), .int p1, .int p2] D (tysIJ cI cJ) (cW cI cJ a σ) sz (fun r (_ : Unit) => post r) (fun _ => cW cI cJ a σ) := by
  refine s_Mi (by decide) rfl (Nat.le_of_ble_eq_true rfl) ?_
  intro p e s m args below meth c A Q hx hb hml hts hown hin hK hA hret H locs ls hW hl
  have hown : s.vm.findClass RX2 = some m.cls := hown
  have hl : lv_has ls 4 [(0, .ref (a 1)), (1, .int p1), (2, .int p2)] := hl
  refine lv_aload_n hx hb dX2_feeFor_0 rfl (lv_at hl 0 rfl) ?_
  refine lv_sipush (v := 168) hx hb dX2_feeFor_1 (by decide) ?_
  refine kV_Mi (As := [.int 168]) (rest := []) ⟨hx, hb, hml, hown, hts⟩ (ok_X2_get_ l D cI cJ a _ _ _ _ hw) (cwV 1 hts gX2_feeFor_X2_get_ rfl rfl rfl (by decide +kernel) ⟨Nat.le_of_ble_eq_true rfl, Nat.le_of_ble_eq_true rfl⟩) hK hW hA 1 rfl rfl rfl hl.1 rfl (Nat.le_of_ble_eq_true rfl) dX2_feeFor_4 ⟨Nat.le_of_ble_eq_true rfl, Nat.le_of_ble_eq_true rfl⟩ (fun r_1 _ H locs hw hW => ?_)
  refine lv_aload_n hx hb dX2_feeFor_7 rfl (lv_at hl 0 rfl) ?_
  refine lv_bipush (v := 126) hx hb dX2_feeFor_8 (by decide) ?_
  refine lv_iload_n hx hb dX2_feeFor_10 rfl (lv_at hl 1 rfl) ?_
  refine lv_iload_n hx hb dX2_feeFor_11 rfl (lv_at hl 2 rfl) ?_
  refine kV_Mi (As := [.int 126, .int p1, .int p2]) (rest := [.int r_1]) ⟨hx, hb, hml, hown, hts⟩ (ok_X2_ofBid l D cI cJ a _ _ _ _ _ _ hw) (cwV 3 hts gX2_feeFor_X2_ofBid rfl rfl rfl (by decide +kernel) ⟨Nat.le_of_ble_eq_true rfl, Nat.le_of_ble_eq_true rfl⟩) hK hW hA 1 rfl rfl rfl hl.1 rfl (Nat.le_of_ble_eq_true rfl) dX2_feeFor_12 ⟨Nat.le_of_ble_eq_true rfl, Nat.le_of_ble_eq_true rfl⟩ (fun r_2 _ H locs hw hW => ?_)
  refine lv_isub hx hb dX2_feeFor_15 ?_
  refine lv_topi (fun v3_3 ev3_3 => ?_)
  have hw := hw v3_3 ev3_3
  refine lv_istore_n (lv' := [(3, .int v3_3), (0, .ref (a 1)), (1, .int p1), (2, .int p2)]) hx hb dX2_feeFor_16 rfl hl (by decide) rfl (fun ls hl => ?_)
  refine lv_aload_n hx hb dX2_feeFor_17 rfl (lv_at hl 1 rfl) ?_
  refine lv_sipush (v := 162) hx hb dX2_feeFor_18 (by decide) ?_
  refine lv_iconst (v := 0) hx hb dX2_feeFor_21 (by decide) ?_
  refine kV_Mi (As := [.int 162, .int 0]) (rest := []) ⟨hx, hb, hml, hown, hts⟩ (ok_X2_get l D cI cJ a _ _ _ _ _ hw) (cwV 2 hts gX2_feeFor_X2_get rfl rfl rfl (by decide +kernel) ⟨Nat.le_of_ble_eq_true rfl, Nat.le_of_ble_eq_true rfl⟩) hK hW hA 1 rfl rfl rfl hl.1 rfl (Nat.le_of_ble_eq_true rfl) dX2_feeFor_22 ⟨Nat.le_of_ble_eq_true rfl, Nat.le_of_ble_eq_true rfl⟩ (fun r_4 _ H locs hw hW => ?_)
  refine lv_aload_n hx hb dX2_feeFor_25 rfl (lv_at hl 1 rfl) ?_
  refine lv_sipush (v := 162) hx hb dX2_feeFor_26 (by decide) ?_
  refine lv_iconst (v := 1) hx hb dX2_feeFor_29 (by decide) ?_
  refine kV_Mi (As := [.int 162, .int 1]) (rest := [.int r_4]) ⟨hx, hb, hml, hown, hts⟩ (ok_X2_get l D cI cJ a _ _ _ _ _ hw) (cwV 2 hts gX2_feeFor_X2_get rfl rfl rfl (by decide +kernel) ⟨Nat.le_of_ble_eq_true rfl, Nat.le_of_ble_eq_true rfl⟩) hK hW hA 1 rfl rfl rfl hl.1 rfl (Nat.le_of_ble_eq_true rfl) dX2_feeFor_30 ⟨Nat.le_of_ble_eq_true rfl, Nat.le_of_ble_eq_true rfl⟩ (fun r_5 _ H locs hw hW => ?_)
  refine lv_iload_n hx hb dX2_feeFor_33 rfl (lv_at hl 0 rfl) ?_
  refine lv_imul hx hb dX2_feeFor_34 ?_
  refine lv_iadd hx hb dX2_feeFor_35 ?_
  exact hret _ () _ _ _ _ hw hW dX2_feeFor_36
def wp_X2_whyNotWithdrawn (σ : CS) (p1 : Int32) (p2 : Int32) (post : Int32 → Prop) : Prop := wp_X2_isOpened σ (fun r_1 => ((r_1 = 0 → wp_X2_hasBid σ p1 p2 (fun r_2 => ((¬ r_2 = 0 → wp_X2_get σ 30 p1 (fun r_3 => wp_X2_feeFor σ p1 p2 (fun r_4 => ((r_4 ≤ r_3 → post 0) ∧ (¬ r_4 ≤ r_3 → post 3))))) ∧ (r_2 = 0 → post 2)))) ∧ (¬ r_1 = 0 → post 1)))
abbrev rm_X2_whyNotWithdrawn : Room := { frames := 3, cells := 0, slots := 0, locals := 69 }
set_option maxHeartbeats 4000000 in
set_option maxRecDepth 100000 in
theorem ok_X2_whyNotWithdrawn (l : Launch) (D : va_G) (cI cJ : ClassId) (a : Nat → Nat) (sz : Nat) (σ : CS) (p1 : Int32) (p2 : Int32) (post : Int32 → Prop) (hw : wp_X2_whyNotWithdrawn σ p1 p2 post) : Mi l yX2_whyNotWithdrawn wsX2_whyNotWithdrawn rm_X2_whyNotWithdrawn [.ref (a 1), .int p1, .int p2] D (tysIJ cI cJ) (cW cI cJ a σ) sz (fun r (_ : Unit) => post r) (fun _ => cW cI cJ a σ) := by
  refine s_Mi (by decide) rfl (Nat.le_of_ble_eq_true rfl) ?_
  intro p e s m args below meth c A Q hx hb hml hts hown hin hK hA hret H locs ls hW hl
  have hown : s.vm.findClass RX2 = some m.cls := hown
  have hl : lv_has ls 3 [(0, .ref (a 1)), (1, .int p1), (2, .int p2)] := hl
  refine lv_aload_n hx hb dX2_whyNotWithdrawn_0 rfl (lv_at hl 0 rfl) ?_
  refine kV_Mi (As := []) (rest := []) ⟨hx, hb, hml, hown, hts⟩ (ok_X2_isOpened l D cI cJ a _ _ _ hw) (cwV 0 hts gX2_whyNotWithdrawn_X2_isOpened rfl rfl rfl (by decide +kernel) ⟨Nat.le_of_ble_eq_true rfl, Nat.le_of_ble_eq_true rfl⟩) hK hW hA 1 rfl rfl rfl hl.1 rfl (Nat.le_of_ble_eq_true rfl) dX2_whyNotWithdrawn_1 ⟨Nat.le_of_ble_eq_true rfl, Nat.le_of_ble_eq_true rfl⟩ (fun r_1 _ H locs hw hW => ?_)
  refine lv_if_eq (tgt := 9) hx hb dX2_whyNotWithdrawn_4 (by decide) (fun hc => ?_) (fun hc => ?_)
  · have hw := hw.1 hc
    refine lv_aload_n hx hb dX2_whyNotWithdrawn_9 rfl (lv_at hl 0 rfl) ?_
    refine lv_iload_n hx hb dX2_whyNotWithdrawn_10 rfl (lv_at hl 1 rfl) ?_
    refine lv_iload_n hx hb dX2_whyNotWithdrawn_11 rfl (lv_at hl 2 rfl) ?_
    refine kV_Mi (As := [.int p1, .int p2]) (rest := []) ⟨hx, hb, hml, hown, hts⟩ (ok_X2_hasBid l D cI cJ a _ _ _ _ _ hw) (cwV 2 hts gX2_whyNotWithdrawn_X2_hasBid rfl rfl rfl (by decide +kernel) ⟨Nat.le_of_ble_eq_true rfl, Nat.le_of_ble_eq_true rfl⟩) hK hW hA 1 rfl rfl rfl hl.1 rfl (Nat.le_of_ble_eq_true rfl) dX2_whyNotWithdrawn_12 ⟨Nat.le_of_ble_eq_true rfl, Nat.le_of_ble_eq_true rfl⟩ (fun r_2 _ H locs hw hW => ?_)
    refine lv_if_ne (tgt := 20) hx hb dX2_whyNotWithdrawn_15 (by decide) (fun hc => ?_) (fun hc => ?_)
    · have hw := hw.1 hc
      refine lv_aload_n hx hb dX2_whyNotWithdrawn_20 rfl (lv_at hl 0 rfl) ?_
      refine lv_bipush (v := 30) hx hb dX2_whyNotWithdrawn_21 (by decide) ?_
      refine lv_iload_n hx hb dX2_whyNotWithdrawn_23 rfl (lv_at hl 1 rfl) ?_
      refine kV_Mi (As := [.int 30, .int p1]) (rest := []) ⟨hx, hb, hml, hown, hts⟩ (ok_X2_get l D cI cJ a _ _ _ _ _ hw) (cwV 2 hts gX2_whyNotWithdrawn_X2_get rfl rfl rfl (by decide +kernel) ⟨Nat.le_of_ble_eq_true rfl, Nat.le_of_ble_eq_true rfl⟩) hK hW hA 1 rfl rfl rfl hl.1 rfl (Nat.le_of_ble_eq_true rfl) dX2_whyNotWithdrawn_24 ⟨Nat.le_of_ble_eq_true rfl, Nat.le_of_ble_eq_true rfl⟩ (fun r_3 _ H locs hw hW => ?_)
      refine lv_aload_n hx hb dX2_whyNotWithdrawn_27 rfl (lv_at hl 0 rfl) ?_
      refine lv_iload_n hx hb dX2_whyNotWithdrawn_28 rfl (lv_at hl 1 rfl) ?_
      refine lv_iload_n hx hb dX2_whyNotWithdrawn_29 rfl (lv_at hl 2 rfl) ?_
      refine kV_Mi (As := [.int p1, .int p2]) (rest := [.int r_3]) ⟨hx, hb, hml, hown, hts⟩ (ok_X2_feeFor l D cI cJ a _ _ _ _ _ hw) (cwV 2 hts gX2_whyNotWithdrawn_X2_feeFor rfl rfl rfl (by decide +kernel) ⟨Nat.le_of_ble_eq_true rfl, Nat.le_of_ble_eq_true rfl⟩) hK hW hA 1 rfl rfl rfl hl.1 rfl (Nat.le_of_ble_eq_true rfl) dX2_whyNotWithdrawn_30 ⟨Nat.le_of_ble_eq_true rfl, Nat.le_of_ble_eq_true rfl⟩ (fun r_4 _ H locs hw hW => ?_)
      refine lv_icmp_ge (tgt := 40) hx hb dX2_whyNotWithdrawn_33 (by decide) (fun hc => ?_) (fun hc => ?_)
      · have hw := hw.1 hc
        refine lv_iconst (v := 0) hx hb dX2_whyNotWithdrawn_40 (by decide) ?_
        exact hret _ () _ _ _ _ hw hW dX2_whyNotWithdrawn_41
      · have hw := hw.2 hc
        refine lv_iconst (v := 3) hx hb dX2_whyNotWithdrawn_36 (by decide) ?_
        refine lv_goto (tgt := 41) hx hb dX2_whyNotWithdrawn_37 (by decide) ?_
        exact hret _ () _ _ _ _ hw hW dX2_whyNotWithdrawn_41
    · have hw := hw.2 hc
      refine lv_iconst (v := 2) hx hb dX2_whyNotWithdrawn_18 (by decide) ?_
      exact hret _ () _ _ _ _ hw hW dX2_whyNotWithdrawn_19
  · have hw := hw.2 hc
    refine lv_iconst (v := 1) hx hb dX2_whyNotWithdrawn_7 (by decide) ?_
    exact hret _ () _ _ _ _ hw hW dX2_whyNotWithdrawn_8
def wp_X2_putInChest (σ : CS) (p1 : Int32) (p2 : Int32) (post : CS → Prop) : Prop := wp_X2_add σ 30 p1 (-p2) (fun σ_1 => wp_X2_add σ_1 165 0 p2 (fun σ_2 => post σ_2))
abbrev rm_X2_putInChest : Room := { frames := 2, cells := 0, slots := 0, locals := 47 }
set_option maxHeartbeats 4000000 in
set_option maxRecDepth 100000 in
theorem ok_X2_putInChest (l : Launch) (D : va_G) (cI cJ : ClassId) (a : Nat → Nat) (sz : Nat) (σ : CS) (p1 : Int32) (p2 : Int32) (post : CS → Prop) (hw : wp_X2_putInChest σ p1 p2 post) : Mv l yX2_putInChest wsX2_putInChest rm_X2_putInChest [.ref (a 1), .int p1, .int p2] D (tysIJ cI cJ) (cW cI cJ a σ) sz post (cW cI cJ a) := by
  refine s_Mv (by decide) rfl (Nat.le_of_ble_eq_true rfl) ?_
  intro p e s m args below meth c A Q hx hb hml hts hown hin hK hA hret H locs ls hW hl
  have hown : s.vm.findClass RX2 = some m.cls := hown
  have hl : lv_has ls 3 [(0, .ref (a 1)), (1, .int p1), (2, .int p2)] := hl
  refine lv_aload_n hx hb dX2_putInChest_0 rfl (lv_at hl 0 rfl) ?_
  refine lv_bipush (v := 30) hx hb dX2_putInChest_1 (by decide) ?_
  refine lv_iload_n hx hb dX2_putInChest_3 rfl (lv_at hl 1 rfl) ?_
  refine lv_iload_n hx hb dX2_putInChest_4 rfl (lv_at hl 2 rfl) ?_
  refine lv_ineg hx hb dX2_putInChest_5 ?_
  refine kV_Mv (As := [.int 30, .int p1, .int (-p2)]) (rest := []) ⟨hx, hb, hml, hown, hts⟩ (ok_X2_add l D cI cJ a _ _ _ _ _ _ hw) (cwV 3 hts gX2_putInChest_X2_add rfl rfl rfl (by decide +kernel) ⟨Nat.le_of_ble_eq_true rfl, Nat.le_of_ble_eq_true rfl⟩) hK hW hA 1 rfl rfl rfl hl.1 rfl (Nat.le_of_ble_eq_true rfl) dX2_putInChest_6 ⟨Nat.le_of_ble_eq_true rfl, Nat.le_of_ble_eq_true rfl⟩ (fun σ_1 H locs hw hW => ?_)
  refine lv_aload_n hx hb dX2_putInChest_9 rfl (lv_at hl 0 rfl) ?_
  refine lv_sipush (v := 165) hx hb dX2_putInChest_10 (by decide) ?_
  refine lv_iconst (v := 0) hx hb dX2_putInChest_13 (by decide) ?_
  refine lv_iload_n hx hb dX2_putInChest_14 rfl (lv_at hl 2 rfl) ?_
  refine kV_Mv (As := [.int 165, .int 0, .int p2]) (rest := []) ⟨hx, hb, hml, hown, hts⟩ (ok_X2_add l D cI cJ a _ _ _ _ _ _ hw) (cwV 3 hts gX2_putInChest_X2_add rfl rfl rfl (by decide +kernel) ⟨Nat.le_of_ble_eq_true rfl, Nat.le_of_ble_eq_true rfl⟩) hK hW hA 1 rfl rfl rfl hl.1 rfl (Nat.le_of_ble_eq_true rfl) dX2_putInChest_15 ⟨Nat.le_of_ble_eq_true rfl, Nat.le_of_ble_eq_true rfl⟩ (fun σ_2 H locs hw hW => ?_)
  exact hret σ_2 _ _ _ _ hw hW dX2_putInChest_18
def wp_X2_takeBack (σ : CS) (p1 : Int32) (p2 : Int32) (post : Int32 → CS → Prop) : Prop := wp_X2_feeFor σ p1 p2 (fun r_1 => wp_X2_placeOfBid p1 p2 (fun r_2 => wp_X2_put σ 54 r_2 0 (fun σ_3 => wp_X2_putInChest σ_3 p1 r_1 (fun σ_4 => wp_X2_add σ_4 48 p1 r_1 (fun σ_5 => wp_X2_add σ_5 172 0 1 (fun σ_6 => post r_1 σ_6))))))
abbrev rm_X2_takeBack : Room := { frames := 3, cells := 0, slots := 0, locals := 69 }
set_option maxHeartbeats 4000000 in
set_option maxRecDepth 100000 in
theorem ok_X2_takeBack (l : Launch) (D : va_G) (cI cJ : ClassId) (a : Nat → Nat) (sz : Nat) (σ : CS) (p1 : Int32) (p2 : Int32) (post : Int32 → CS → Prop) (hw : wp_X2_takeBack σ p1 p2 post) : Mi l yX2_takeBack wsX2_takeBack rm_X2_takeBack [.ref (a 1), .int p1, .int p2] D (tysIJ cI cJ) (cW cI cJ a σ) sz post (cW cI cJ a) := by
  refine s_Mi (by decide) rfl (Nat.le_of_ble_eq_true rfl) ?_
  intro p e s m args below meth c A Q hx hb hml hts hown hin hK hA hret H locs ls hW hl
  have hown : s.vm.findClass RX2 = some m.cls := hown
  have hl : lv_has ls 4 [(0, .ref (a 1)), (1, .int p1), (2, .int p2)] := hl
  refine lv_aload_n hx hb dX2_takeBack_0 rfl (lv_at hl 0 rfl) ?_
  refine lv_iload_n hx hb dX2_takeBack_1 rfl (lv_at hl 1 rfl) ?_
  refine lv_iload_n hx hb dX2_takeBack_2 rfl (lv_at hl 2 rfl) ?_
  refine kV_Mi (As := [.int p1, .int p2]) (rest := []) ⟨hx, hb, hml, hown, hts⟩ (ok_X2_feeFor l D cI cJ a _ _ _ _ _ hw) (cwV 2 hts gX2_takeBack_X2_feeFor rfl rfl rfl (by decide +kernel) ⟨Nat.le_of_ble_eq_true rfl, Nat.le_of_ble_eq_true rfl⟩) hK hW hA 1 rfl rfl rfl hl.1 rfl (Nat.le_of_ble_eq_true rfl) dX2_takeBack_3 ⟨Nat.le_of_ble_eq_true rfl, Nat.le_of_ble_eq_true rfl⟩ (fun r_1 _ H locs hw hW => ?_)
  refine lv_istore_n (lv' := [(3, .int r_1), (0, .ref (a 1)), (1, .int p1), (2, .int p2)]) hx hb dX2_takeBack_6 rfl hl (by decide) rfl (fun ls hl => ?_)
  refine lv_aload_n hx hb dX2_takeBack_7 rfl (lv_at hl 1 rfl) ?_
  refine lv_bipush (v := 54) hx hb dX2_takeBack_8 (by decide) ?_
  refine lv_iload_n hx hb dX2_takeBack_10 rfl (lv_at hl 2 rfl) ?_
  refine lv_iload_n hx hb dX2_takeBack_11 rfl (lv_at hl 3 rfl) ?_
  refine kS_Pi (As := [.int p1, .int p2]) (rest := [.int 54, .ref (a 1)]) ⟨hx, hb, hml, hown, hts⟩ (ok_X2_placeOfBid l _ _ _ hw) (va_cwS 2 hts gX2_takeBack_X2_placeOfBid rfl rfl rfl (by decide +kernel) ⟨Nat.le_of_ble_eq_true rfl, Nat.le_of_ble_eq_true rfl⟩) hW.2.2 rfl hl.1 rfl (Nat.le_of_ble_eq_true rfl) dX2_takeBack_12 ⟨Nat.le_of_ble_eq_true rfl, Nat.le_of_ble_eq_true rfl⟩ (fun r_2 H locs hw hk hS => ?_)
  have hW := hW.kept hk hS
  refine lv_iconst (v := 0) hx hb dX2_takeBack_15 (by decide) ?_
  refine kV_Mv (As := [.int 54, .int r_2, .int 0]) (rest := []) ⟨hx, hb, hml, hown, hts⟩ (ok_X2_put l D cI cJ a _ _ _ _ _ _ hw) (cwV 3 hts gX2_takeBack_X2_put rfl rfl rfl (by decide +kernel) ⟨Nat.le_of_ble_eq_true rfl, Nat.le_of_ble_eq_true rfl⟩) hK hW hA 1 rfl rfl rfl hl.1 rfl (Nat.le_of_ble_eq_true rfl) dX2_takeBack_16 ⟨Nat.le_of_ble_eq_true rfl, Nat.le_of_ble_eq_true rfl⟩ (fun σ_3 H locs hw hW => ?_)
  refine lv_aload_n hx hb dX2_takeBack_19 rfl (lv_at hl 1 rfl) ?_
  refine lv_iload_n hx hb dX2_takeBack_20 rfl (lv_at hl 2 rfl) ?_
  refine lv_iload_n hx hb dX2_takeBack_21 rfl (lv_at hl 0 rfl) ?_
  refine kV_Mv (As := [.int p1, .int r_1]) (rest := []) ⟨hx, hb, hml, hown, hts⟩ (ok_X2_putInChest l D cI cJ a _ _ _ _ _ hw) (cwV 2 hts gX2_takeBack_X2_putInChest rfl rfl rfl (by decide +kernel) ⟨Nat.le_of_ble_eq_true rfl, Nat.le_of_ble_eq_true rfl⟩) hK hW hA 1 rfl rfl rfl hl.1 rfl (Nat.le_of_ble_eq_true rfl) dX2_takeBack_22 ⟨Nat.le_of_ble_eq_true rfl, Nat.le_of_ble_eq_true rfl⟩ (fun σ_4 H locs hw hW => ?_)
  refine lv_aload_n hx hb dX2_takeBack_25 rfl (lv_at hl 1 rfl) ?_
  refine lv_bipush (v := 48) hx hb dX2_takeBack_26 (by decide) ?_
  refine lv_iload_n hx hb dX2_takeBack_28 rfl (lv_at hl 2 rfl) ?_
  refine lv_iload_n hx hb dX2_takeBack_29 rfl (lv_at hl 0 rfl) ?_
  refine kV_Mv (As := [.int 48, .int p1, .int r_1]) (rest := []) ⟨hx, hb, hml, hown, hts⟩ (ok_X2_add l D cI cJ a _ _ _ _ _ _ hw) (cwV 3 hts gX2_takeBack_X2_add rfl rfl rfl (by decide +kernel) ⟨Nat.le_of_ble_eq_true rfl, Nat.le_of_ble_eq_true rfl⟩) hK hW hA 1 rfl rfl rfl hl.1 rfl (Nat.le_of_ble_eq_true rfl) dX2_takeBack_30 ⟨Nat.le_of_ble_eq_true rfl, Nat.le_of_ble_eq_true rfl⟩ (fun σ_5 H locs hw hW => ?_)
  refine lv_aload_n hx hb dX2_takeBack_33 rfl (lv_at hl 1 rfl) ?_
  refine lv_sipush (v := 172) hx hb dX2_takeBack_34 (by decide) ?_
  refine lv_iconst (v := 0) hx hb dX2_takeBack_37 (by decide) ?_
  refine lv_iconst (v := 1) hx hb dX2_takeBack_38 (by decide) ?_
  refine kV_Mv (As := [.int 172, .int 0, .int 1]) (rest := []) ⟨hx, hb, hml, hown, hts⟩ (ok_X2_add l D cI cJ a _ _ _ _ _ _ hw) (cwV 3 hts gX2_takeBack_X2_add rfl rfl rfl (by decide +kernel) ⟨Nat.le_of_ble_eq_true rfl, Nat.le_of_ble_eq_true rfl⟩) hK hW hA 1 rfl rfl rfl hl.1 rfl (Nat.le_of_ble_eq_true rfl) dX2_takeBack_39 ⟨Nat.le_of_ble_eq_true rfl, Nat.le_of_ble_eq_true rfl⟩ (fun σ_6 H locs hw hW => ?_)
  refine lv_iload_n hx hb dX2_takeBack_42 rfl (lv_at hl 0 rfl) ?_
  exact hret _ σ_6 _ _ _ _ hw hW dX2_takeBack_43
def wp_X2_openBids (σ : CS) (post : CS → Prop) : Prop := wp_X2_put σ 169 0 1 (fun σ_1 => post σ_1)
abbrev rm_X2_openBids : Room := { frames := 1, cells := 0, slots := 0, locals := 24 }
set_option maxHeartbeats 4000000 in
set_option maxRecDepth 100000 in
theorem ok_X2_openBids (l : Launch) (D : va_G) (cI cJ : ClassId) (a : Nat → Nat) (sz : Nat) (σ : CS) (post : CS → Prop) (hw : wp_X2_openBids σ post) : Mv l yX2_openBids wsX2_openBids rm_X2_openBids [.ref (a 1)] D (tysIJ cI cJ) (cW cI cJ a σ) sz post (cW cI cJ a) := by
  refine s_Mv (by decide) rfl (Nat.le_of_ble_eq_true rfl) ?_
  intro p e s m args below meth c A Q hx hb hml hts hown hin hK hA hret H locs ls hW hl
  have hown : s.vm.findClass RX2 = some m.cls := hown
  have hl : lv_has ls 1 [(0, .ref (a 1))] := hl
  refine lv_aload_n hx hb dX2_openBids_0 rfl (lv_at hl 0 rfl) ?_
  refine lv_sipush (v := 169) hx hb dX2_openBids_1 (by decide) ?_
  refine lv_iconst (v := 0) hx hb dX2_openBids_4 (by decide) ?_
  refine lv_iconst (v := 1) hx hb dX2_openBids_5 (by decide) ?_
  refine kV_Mv (As := [.int 169, .int 0, .int 1]) (rest := []) ⟨hx, hb, hml, hown, hts⟩ (ok_X2_put l D cI cJ a _ _ _ _ _ _ hw) (cwV 3 hts gX2_openBids_X2_put rfl rfl rfl (by decide +kernel) ⟨Nat.le_of_ble_eq_true rfl, Nat.le_of_ble_eq_true rfl⟩) hK hW hA 1 rfl rfl rfl hl.1 rfl (Nat.le_of_ble_eq_true rfl) dX2_openBids_6 ⟨Nat.le_of_ble_eq_true rfl, Nat.le_of_ble_eq_true rfl⟩ (fun σ_1 H locs hw hW => ?_)
  exact hret σ_1 _ _ _ _ hw hW dX2_openBids_9
def wp_X2_passHours (σ : CS) (p1 : Int32) (post : Int32 → CS → Prop) : Prop := wp_X2_get_ σ 168 (fun r_1 => wp_X2_put σ 168 0 (if (r_1 + p1) < 23 then (r_1 + p1) else 23) (fun σ_2 => wp_X2_get_ σ_2 168 (fun r_3 => post r_3 σ_2)))
abbrev rm_X2_passHours : Room := { frames := 2, cells := 0, slots := 0, locals := 44 }
set_option maxHeartbeats 4000000 in
set_option maxRecDepth 100000 in
theorem ok_X2_passHours (l : Launch) (D : va_G) (cI cJ : ClassId) (a : Nat → Nat) (sz : Nat) (σ : CS) (p1 : Int32) (post : Int32 → CS → Prop) (hw : wp_X2_passHours σ p1 post) : Mi l yX2_passHours wsX2_passHours rm_X2_passHours [.ref (a 1), .int p1] D (tysIJ cI cJ) (cW cI cJ a σ) sz post (cW cI cJ a) := by
  refine s_Mi (by decide) rfl (Nat.le_of_ble_eq_true rfl) ?_
  intro p e s m args below meth c A Q hx hb hml hts hown hin hK hA hret H locs ls hW hl
  have hown : s.vm.findClass RX2 = some m.cls := hown
  have hl : lv_has ls 2 [(0, .ref (a 1)), (1, .int p1)] := hl
  refine lv_aload_n hx hb dX2_passHours_0 rfl (lv_at hl 0 rfl) ?_
  refine lv_sipush (v := 168) hx hb dX2_passHours_1 (by decide) ?_
  refine lv_iconst (v := 0) hx hb dX2_passHours_4 (by decide) ?_
  refine lv_bipush (v := 23) hx hb dX2_passHours_5 (by decide) ?_
  refine lv_aload_n hx hb dX2_passHours_7 rfl (lv_at hl 0 rfl) ?_
  refine lv_sipush (v := 168) hx hb dX2_passHours_8 (by decide) ?_
  refine kV_Mi (As := [.int 168]) (rest := [.int 23, .int 0, .int 168, .ref (a 1)]) ⟨hx, hb, hml, hown, hts⟩ (ok_X2_get_ l D cI cJ a _ _ _ _ hw) (cwV 1 hts gX2_passHours_X2_get_ rfl rfl rfl (by decide +kernel) ⟨Nat.le_of_ble_eq_true rfl, Nat.le_of_ble_eq_true rfl⟩) hK hW hA 1 rfl rfl rfl hl.1 rfl (Nat.le_of_ble_eq_true rfl) dX2_passHours_11 ⟨Nat.le_of_ble_eq_true rfl, Nat.le_of_ble_eq_true rfl⟩ (fun r_1 _ H locs hw hW => ?_)
  refine lv_iload_n hx hb dX2_passHours_14 rfl (lv_at hl 1 rfl) ?_
  refine lv_iadd hx hb dX2_passHours_15 ?_
  refine va_mmin hx hb (hml.trans hl.1.symm) hown (hts _ (List.mem_of_getElem? (i := 1) rfl)) (hts _ (List.mem_of_getElem? (i := 2) rfl)) (hts _ (List.mem_of_getElem? (i := 3) rfl)) (hts _ (List.mem_of_getElem? (i := 4) rfl)) (Nat.le_of_ble_eq_true rfl) (Nat.le_of_ble_eq_true rfl) (Nat.zero_le _) (Nat.zero_le _) dX2_passHours_16 ?_
  refine kV_Mv (As := [.int 168, .int 0, .int (if (r_1 + p1) < 23 then (r_1 + p1) else 23)]) (rest := []) ⟨hx, hb, hml, hown, hts⟩ (ok_X2_put l D cI cJ a _ _ _ _ _ _ hw) (cwV 3 hts gX2_passHours_X2_put rfl rfl rfl (by decide +kernel) ⟨Nat.le_of_ble_eq_true rfl, Nat.le_of_ble_eq_true rfl⟩) hK hW hA 1 rfl rfl rfl hl.1 rfl (Nat.le_of_ble_eq_true rfl) dX2_passHours_19 ⟨Nat.le_of_ble_eq_true rfl, Nat.le_of_ble_eq_true rfl⟩ (fun σ_2 H locs hw hW => ?_)
  refine lv_aload_n hx hb dX2_passHours_22 rfl (lv_at hl 0 rfl) ?_
  refine lv_sipush (v := 168) hx hb dX2_passHours_23 (by decide) ?_
  refine kV_Mi (As := [.int 168]) (rest := []) ⟨hx, hb, hml, hown, hts⟩ (ok_X2_get_ l D cI cJ a _ _ _ _ hw) (cwV 1 hts gX2_passHours_X2_get_ rfl rfl rfl (by decide +kernel) ⟨Nat.le_of_ble_eq_true rfl, Nat.le_of_ble_eq_true rfl⟩) hK hW hA 1 rfl rfl rfl hl.1 rfl (Nat.le_of_ble_eq_true rfl) dX2_passHours_26 ⟨Nat.le_of_ble_eq_true rfl, Nat.le_of_ble_eq_true rfl⟩ (fun r_3 _ H locs hw hW => ?_)
  exact hret _ σ_2 _ _ _ _ hw hW dX2_passHours_29
def wp_X2_giveSpot (σ : CS) (p1 : Int32) (p2 : Int32) (p3 : Int32) (post : CS → Prop) : Prop := wp_X2_put σ 12 p1 p2 (fun σ_1 => wp_X2_put σ_1 18 p1 p3 (fun σ_2 => wp_X2_putInChest σ_2 p2 p3 (fun σ_3 => wp_X2_add σ_3 42 p2 p3 (fun σ_4 => wp_X2_add σ_4 173 0 1 (fun σ_5 => post σ_5)))))
abbrev rm_X2_giveSpot : Room := { frames := 3, cells := 0, slots := 0, locals := 69 }
set_option maxHeartbeats 4000000 in
set_option maxRecDepth 100000 in
theorem ok_X2_giveSpot (l : Launch) (D : va_G) (cI cJ : ClassId) (a : Nat → Nat) (sz : Nat) (σ : CS) (p1 : Int32) (p2 : Int32) (p3 : Int32) (post : CS → Prop) (hw : wp_X2_giveSpot σ p1 p2 p3 post) : Mv l yX2_giveSpot wsX2_giveSpot rm_X2_giveSpot [.ref (a 1), .int p1, .int p2, .int p3] D (tysIJ cI cJ) (cW cI cJ a σ) sz post (cW cI cJ a) := by
  refine s_Mv (by decide) rfl (Nat.le_of_ble_eq_true rfl) ?_
  intro p e s m args below meth c A Q hx hb hml hts hown hin hK hA hret H locs ls hW hl
  have hown : s.vm.findClass RX2 = some m.cls := hown
  have hl : lv_has ls 4 [(0, .ref (a 1)), (1, .int p1), (2, .int p2), (3, .int p3)] := hl
  refine lv_aload_n hx hb dX2_giveSpot_0 rfl (lv_at hl 0 rfl) ?_
  refine lv_bipush (v := 12) hx hb dX2_giveSpot_1 (by decide) ?_
  refine lv_iload_n hx hb dX2_giveSpot_3 rfl (lv_at hl 1 rfl) ?_
  refine lv_iload_n hx hb dX2_giveSpot_4 rfl (lv_at hl 2 rfl) ?_
  refine kV_Mv (As := [.int 12, .int p1, .int p2]) (rest := []) ⟨hx, hb, hml, hown, hts⟩ (ok_X2_put l D cI cJ a _ _ _ _ _ _ hw) (cwV 3 hts gX2_giveSpot_X2_put rfl rfl rfl (by decide +kernel) ⟨Nat.le_of_ble_eq_true rfl, Nat.le_of_ble_eq_true rfl⟩) hK hW hA 1 rfl rfl rfl hl.1 rfl (Nat.le_of_ble_eq_true rfl) dX2_giveSpot_5 ⟨Nat.le_of_ble_eq_true rfl, Nat.le_of_ble_eq_true rfl⟩ (fun σ_1 H locs hw hW => ?_)
  refine lv_aload_n hx hb dX2_giveSpot_8 rfl (lv_at hl 0 rfl) ?_
  refine lv_bipush (v := 18) hx hb dX2_giveSpot_9 (by decide) ?_
  refine lv_iload_n hx hb dX2_giveSpot_11 rfl (lv_at hl 1 rfl) ?_
  refine lv_iload_n hx hb dX2_giveSpot_12 rfl (lv_at hl 3 rfl) ?_
  refine kV_Mv (As := [.int 18, .int p1, .int p3]) (rest := []) ⟨hx, hb, hml, hown, hts⟩ (ok_X2_put l D cI cJ a _ _ _ _ _ _ hw) (cwV 3 hts gX2_giveSpot_X2_put rfl rfl rfl (by decide +kernel) ⟨Nat.le_of_ble_eq_true rfl, Nat.le_of_ble_eq_true rfl⟩) hK hW hA 1 rfl rfl rfl hl.1 rfl (Nat.le_of_ble_eq_true rfl) dX2_giveSpot_13 ⟨Nat.le_of_ble_eq_true rfl, Nat.le_of_ble_eq_true rfl⟩ (fun σ_2 H locs hw hW => ?_)
  refine lv_aload_n hx hb dX2_giveSpot_16 rfl (lv_at hl 0 rfl) ?_
  refine lv_iload_n hx hb dX2_giveSpot_17 rfl (lv_at hl 2 rfl) ?_
  refine lv_iload_n hx hb dX2_giveSpot_18 rfl (lv_at hl 3 rfl) ?_
  refine kV_Mv (As := [.int p2, .int p3]) (rest := []) ⟨hx, hb, hml, hown, hts⟩ (ok_X2_putInChest l D cI cJ a _ _ _ _ _ hw) (cwV 2 hts gX2_giveSpot_X2_putInChest rfl rfl rfl (by decide +kernel) ⟨Nat.le_of_ble_eq_true rfl, Nat.le_of_ble_eq_true rfl⟩) hK hW hA 1 rfl rfl rfl hl.1 rfl (Nat.le_of_ble_eq_true rfl) dX2_giveSpot_19 ⟨Nat.le_of_ble_eq_true rfl, Nat.le_of_ble_eq_true rfl⟩ (fun σ_3 H locs hw hW => ?_)
  refine lv_aload_n hx hb dX2_giveSpot_22 rfl (lv_at hl 0 rfl) ?_
  refine lv_bipush (v := 42) hx hb dX2_giveSpot_23 (by decide) ?_
  refine lv_iload_n hx hb dX2_giveSpot_25 rfl (lv_at hl 2 rfl) ?_
  refine lv_iload_n hx hb dX2_giveSpot_26 rfl (lv_at hl 3 rfl) ?_
  refine kV_Mv (As := [.int 42, .int p2, .int p3]) (rest := []) ⟨hx, hb, hml, hown, hts⟩ (ok_X2_add l D cI cJ a _ _ _ _ _ _ hw) (cwV 3 hts gX2_giveSpot_X2_add rfl rfl rfl (by decide +kernel) ⟨Nat.le_of_ble_eq_true rfl, Nat.le_of_ble_eq_true rfl⟩) hK hW hA 1 rfl rfl rfl hl.1 rfl (Nat.le_of_ble_eq_true rfl) dX2_giveSpot_27 ⟨Nat.le_of_ble_eq_true rfl, Nat.le_of_ble_eq_true rfl⟩ (fun σ_4 H locs hw hW => ?_)
  refine lv_aload_n hx hb dX2_giveSpot_30 rfl (lv_at hl 0 rfl) ?_
  refine lv_sipush (v := 173) hx hb dX2_giveSpot_31 (by decide) ?_
  refine lv_iconst (v := 0) hx hb dX2_giveSpot_34 (by decide) ?_
  refine lv_iconst (v := 1) hx hb dX2_giveSpot_35 (by decide) ?_
  refine kV_Mv (As := [.int 173, .int 0, .int 1]) (rest := []) ⟨hx, hb, hml, hown, hts⟩ (ok_X2_add l D cI cJ a _ _ _ _ _ _ hw) (cwV 3 hts gX2_giveSpot_X2_add rfl rfl rfl (by decide +kernel) ⟨Nat.le_of_ble_eq_true rfl, Nat.le_of_ble_eq_true rfl⟩) hK hW hA 1 rfl rfl rfl hl.1 rfl (Nat.le_of_ble_eq_true rfl) dX2_giveSpot_36 ⟨Nat.le_of_ble_eq_true rfl, Nat.le_of_ble_eq_true rfl⟩ (fun σ_5 H locs hw hW => ?_)
  exact hret σ_5 _ _ _ _ hw hW dX2_giveSpot_39
def wp_X2_spotOfOwner (σ : CS) (p1 : Int32) (post : Int32 → Prop) : Prop := ∃ I1 : Nat → Int32 → Prop, (∃ n : Nat, I1 n 0) ∧ ∀ (n1 : Nat) (v2_1 : Int32), I1 n1 v2_1 → ((6 ≤ v2_1 → post (-1)) ∧ (¬ 6 ≤ v2_1 → wp_X2_get σ 12 v2_1 (fun r_2 => ((¬ r_2 = p1 → ∀ v2_3 : Int32, v2_3 = v2_1 + 1 → ∃ n' : Nat, n' < n1 ∧ I1 n' v2_3) ∧ (r_2 = p1 → post v2_1)))))
abbrev rm_X2_spotOfOwner : Room := { frames := 1, cells := 0, slots := 0, locals := 23 }
set_option maxHeartbeats 4000000 in
set_option maxRecDepth 100000 in
theorem ok_X2_spotOfOwner (l : Launch) (D : va_G) (cI cJ : ClassId) (a : Nat → Nat) (sz : Nat) (σ : CS) (p1 : Int32) (post : Int32 → Prop) (hw : wp_X2_spotOfOwner σ p1 post) : Mi l yX2_spotOfOwner wsX2_spotOfOwner rm_X2_spotOfOwner [.ref (a 1), .int p1] D (tysIJ cI cJ) (cW cI cJ a σ) sz (fun r (_ : Unit) => post r) (fun _ => cW cI cJ a σ) := by
  refine s_Mi (by decide) rfl (Nat.le_of_ble_eq_true rfl) ?_
  intro p e s m args below meth c A Q hx hb hml hts hown hin hK hA hret H locs ls hW hl
  have hown : s.vm.findClass RX2 = some m.cls := hown
  have hl : lv_has ls 3 [(0, .ref (a 1)), (1, .int p1)] := hl
  refine lv_iconst (v := 0) hx hb dX2_spotOfOwner_0 (by decide) ?_
  refine lv_istore_n (lv' := [(2, .int 0), (0, .ref (a 1)), (1, .int p1)]) hx hb dX2_spotOfOwner_1 rfl hl (by decide) rfl (fun ls hl => ?_)
  obtain ⟨I1, ⟨n1, hI1⟩, hJ1⟩ := hw
  have hl : lv_has ls 3 [(0, .ref (a 1)), (1, .int p1), (2, .int 0)] := lv_sub hl [1, 2, 0] rfl
  suffices LP1 : ∀ (n : Nat) (v2_1 : Int32) (H : Heap) (locs : List Loc) (ls : Array Slot), I1 n v2_1 → Wd D A s.heap (cW cI cJ a σ) H locs → lv_has ls 3 [(0, .ref (a 1)), (1, .int p1), (2, .int v2_1)] → W p l e rm_X2_spotOfOwner s m args below meth c H locs 0 0 Q (F0 m 2 ls []) from LP1 n1 0 H locs ls hI1 hW hl
  intro n1
  induction n1 using Nat.strongRecOn with
  | ind n1 ih1 =>
    intro v2_1 H locs ls hIn hW hl
    have hw := hJ1 n1 v2_1 hIn
    refine lv_iload_n hx hb dX2_spotOfOwner_2 rfl (lv_at hl 2 rfl) ?_
    refine lv_bipush (v := 6) hx hb dX2_spotOfOwner_3 (by decide) ?_
    refine lv_icmp_ge (tgt := 27) hx hb dX2_spotOfOwner_5 (by decide) (fun hc => ?_) (fun hc => ?_)
    · have hw := hw.1 hc
      refine lv_iconst (v := (-1)) hx hb dX2_spotOfOwner_27 (by decide) ?_
      exact hret _ () _ _ _ _ hw hW dX2_spotOfOwner_28
    · have hw := hw.2 hc
      refine lv_aload_n hx hb dX2_spotOfOwner_8 rfl (lv_at hl 0 rfl) ?_
      refine lv_bipush (v := 12) hx hb dX2_spotOfOwner_9 (by decide) ?_
      refine lv_iload_n hx hb dX2_spotOfOwner_11 rfl (lv_at hl 2 rfl) ?_
      refine kV_Mi (As := [.int 12, .int v2_1]) (rest := []) ⟨hx, hb, hml, hown, hts⟩ (ok_X2_get l D cI cJ a _ _ _ _ _ hw) (cwV 2 hts gX2_spotOfOwner_X2_get rfl rfl rfl (by decide +kernel) ⟨Nat.le_of_ble_eq_true rfl, Nat.le_of_ble_eq_true rfl⟩) hK hW hA 1 rfl rfl rfl hl.1 rfl (Nat.le_of_ble_eq_true rfl) dX2_spotOfOwner_12 ⟨Nat.le_of_ble_eq_true rfl, Nat.le_of_ble_eq_true rfl⟩ (fun r_2 _ H locs hw hW => ?_)
      refine lv_iload_n hx hb dX2_spotOfOwner_15 rfl (lv_at hl 1 rfl) ?_
      refine lv_icmp_ne (tgt := 21) hx hb dX2_spotOfOwner_16 (by decide) (fun hc => ?_) (fun hc => ?_)
      · have hw := hw.1 hc
        obtain ⟨v2_3, ev2_3⟩ : ∃ y : Int32, y = v2_1 + 1 := ⟨_, rfl⟩
        have hw := hw v2_3 ev2_3
        refine lv_iinc (v := v2_3) (lv' := [(2, .int v2_3), (0, .ref (a 1)), (1, .int p1)]) hx hb dX2_spotOfOwner_21 hl (k := 2) rfl (by rw [ev2_3]; rfl) (by decide) rfl (fun ls hl => ?_)
        refine lv_goto (tgt := 2) hx hb dX2_spotOfOwner_24 (by decide) ?_
        obtain ⟨n9, hlt9, hI9⟩ := hw
        exact ih1 n9 hlt9 _ _ _ _ hI9 hW (lv_sub hl [1, 2, 0] rfl)
      · have hw := hw.2 hc
        refine lv_iload_n hx hb dX2_spotOfOwner_19 rfl (lv_at hl 2 rfl) ?_
        exact hret _ () _ _ _ _ hw hW dX2_spotOfOwner_20
def wp_X2_canFish (σ : CS) (p1 : Int32) (post : Int32 → Prop) : Prop := wp_X2_isOpened σ (fun r_1 => ((r_1 = 0 → post 0) ∧ (¬ r_1 = 0 → wp_X2_get σ 12 p1 (fun r_2 => ((r_2 = (-1) → post 0) ∧ (¬ r_2 = (-1) → post 1))))))
abbrev rm_X2_canFish : Room := { frames := 3, cells := 0, slots := 0, locals := 64 }
set_option maxHeartbeats 4000000 in
set_option maxRecDepth 100000 in
theorem ok_X2_canFish (l : Launch) (D : va_G) (cI cJ : ClassId) (a : Nat → Nat) (sz : Nat) (σ : CS) (p1 : Int32) (post : Int32 → Prop) (hw : wp_X2_canFish σ p1 post) : Mi l yX2_canFish wsX2_canFish rm_X2_canFish [.ref (a 1), .int p1] D (tysIJ cI cJ) (cW cI cJ a σ) sz (fun r (_ : Unit) => post r) (fun _ => cW cI cJ a σ) := by
  refine s_Mz (by decide) rfl (Nat.le_of_ble_eq_true rfl) ?_
  intro p e s m args below meth c A Q hx hb hml hts hown hin hK hA hret H locs ls hW hl
  have hown : s.vm.findClass RX2 = some m.cls := hown
  have hl : lv_has ls 2 [(0, .ref (a 1)), (1, .int p1)] := hl
  refine lv_aload_n hx hb dX2_canFish_0 rfl (lv_at hl 0 rfl) ?_
  refine kV_Mi (As := []) (rest := []) ⟨hx, hb, hml, hown, hts⟩ (ok_X2_isOpened l D cI cJ a _ _ _ hw) (cwV 0 hts gX2_canFish_X2_isOpened rfl rfl rfl (by decide +kernel) ⟨Nat.le_of_ble_eq_true rfl, Nat.le_of_ble_eq_true rfl⟩) hK hW hA 1 rfl rfl rfl hl.1 rfl (Nat.le_of_ble_eq_true rfl) dX2_canFish_1 ⟨Nat.le_of_ble_eq_true rfl, Nat.le_of_ble_eq_true rfl⟩ (fun r_1 _ H locs hw hW => ?_)
  refine lv_if_eq (tgt := 22) hx hb dX2_canFish_4 (by decide) (fun hc => ?_) (fun hc => ?_)
  · have hw := hw.1 hc
    refine lv_iconst (v := 0) hx hb dX2_canFish_22 (by decide) ?_
    exact hret _ () _ _ _ _ (by decide) hw hW dX2_canFish_23
  · have hw := hw.2 hc
    refine lv_aload_n hx hb dX2_canFish_7 rfl (lv_at hl 0 rfl) ?_
    refine lv_bipush (v := 12) hx hb dX2_canFish_8 (by decide) ?_
    refine lv_iload_n hx hb dX2_canFish_10 rfl (lv_at hl 1 rfl) ?_
    refine kV_Mi (As := [.int 12, .int p1]) (rest := []) ⟨hx, hb, hml, hown, hts⟩ (ok_X2_get l D cI cJ a _ _ _ _ _ hw) (cwV 2 hts gX2_canFish_X2_get rfl rfl rfl (by decide +kernel) ⟨Nat.le_of_ble_eq_true rfl, Nat.le_of_ble_eq_true rfl⟩) hK hW hA 1 rfl rfl rfl hl.1 rfl (Nat.le_of_ble_eq_true rfl) dX2_canFish_11 ⟨Nat.le_of_ble_eq_true rfl, Nat.le_of_ble_eq_true rfl⟩ (fun r_2 _ H locs hw hW => ?_)
    refine lv_iconst (v := (-1)) hx hb dX2_canFish_14 (by decide) ?_
    refine lv_icmp_eq (tgt := 22) hx hb dX2_canFish_15 (by decide) (fun hc => ?_) (fun hc => ?_)
    · have hw := hw.1 hc
      refine lv_iconst (v := 0) hx hb dX2_canFish_22 (by decide) ?_
      exact hret _ () _ _ _ _ (by decide) hw hW dX2_canFish_23
    · have hw := hw.2 hc
      refine lv_iconst (v := 1) hx hb dX2_canFish_18 (by decide) ?_
      refine lv_goto (tgt := 23) hx hb dX2_canFish_19 (by decide) ?_
      exact hret _ () _ _ _ _ (by decide) hw hW dX2_canFish_23
def wp_X2_swim (σ : CS) (p1 : Int32) (p2 : Int32) (post : CS → Prop) : Prop := ((p2 < 0 → post σ) ∧ (¬ p2 < 0 → ((6 ≤ p2 → post σ) ∧ (¬ 6 ≤ p2 → wp_X2_get σ 12 p2 (fun r_1 => ((¬ r_1 = (-1) → post σ) ∧ (r_1 = (-1) → wp_X2_get σ 6 p2 (fun r_2 => wp_X2_get σ 6 p1 (fun r_3 => ((r_3 ≤ r_2 → post σ) ∧ (¬ r_3 ≤ r_2 → wp_X2_get σ 6 p1 (fun r_4 => wp_X2_get σ 6 p2 (fun r_5 => ∀ v4_6 : Int32, v4_6 = (if (200 - r_5) < (r_4 / 10) then (200 - r_5) else (r_4 / 10)) → wp_X2_add σ 6 p1 (-v4_6) (fun σ_7 => wp_X2_add σ_7 6 p2 v4_6 (fun σ_8 => post σ_8)))))))))))))))
abbrev rm_X2_swim : Room := { frames := 2, cells := 0, slots := 0, locals := 47 }
set_option maxHeartbeats 4000000 in
set_option maxRecDepth 100000 in
theorem ok_X2_swim (l : Launch) (D : va_G) (cI cJ : ClassId) (a : Nat → Nat) (sz : Nat) (σ : CS) (p1 : Int32) (p2 : Int32) (post : CS → Prop) (hw : wp_X2_swim σ p1 p2 post) : Mv l yX2_swim wsX2_swim rm_X2_swim [.ref (a 1), .int p1, .int p2] D (tysIJ cI cJ) (cW cI cJ a σ) sz post (cW cI cJ a) := by
  refine s_Mv (by decide) rfl (Nat.le_of_ble_eq_true rfl) ?_
  intro p e s m args below meth c A Q hx hb hml hts hown hin hK hA hret H locs ls hW hl
  have hown : s.vm.findClass RX2 = some m.cls := hown
  have hl : lv_has ls 5 [(0, .ref (a 1)), (1, .int p1), (2, .int p2)] := hl
  refine lv_iload_n hx hb dX2_swim_0 rfl (lv_at hl 2 rfl) ?_
  refine lv_if_lt (tgt := 25) hx hb dX2_swim_1 (by decide) (fun hc => ?_) (fun hc => ?_)
  · have hw := hw.1 hc
    refine lv_iconst (v := 0) hx hb dX2_swim_25 (by decide) ?_
    refine lv_istore_n (lv' := [(3, .int 0), (0, .ref (a 1)), (1, .int p1), (2, .int p2)]) hx hb dX2_swim_26 rfl hl (by decide) rfl (fun ls hl => ?_)
    refine lv_iload_n hx hb dX2_swim_27 rfl (lv_at hl 0 rfl) ?_
    refine lv_if_eq (tgt := 93) hx hb dX2_swim_28 (by decide) (fun _ => ?_) (fun hc => absurd (by decide) hc)
    exact hret σ _ _ _ _ hw hW dX2_swim_93
  · have hw := hw.2 hc
    refine lv_iload_n hx hb dX2_swim_4 rfl (lv_at hl 2 rfl) ?_
    refine lv_bipush (v := 6) hx hb dX2_swim_5 (by decide) ?_
    refine lv_icmp_ge (tgt := 25) hx hb dX2_swim_7 (by decide) (fun hc => ?_) (fun hc => ?_)
    · have hw := hw.1 hc
      refine lv_iconst (v := 0) hx hb dX2_swim_25 (by decide) ?_
      refine lv_istore_n (lv' := [(3, .int 0), (0, .ref (a 1)), (1, .int p1), (2, .int p2)]) hx hb dX2_swim_26 rfl hl (by decide) rfl (fun ls hl => ?_)
      refine lv_iload_n hx hb dX2_swim_27 rfl (lv_at hl 0 rfl) ?_
      refine lv_if_eq (tgt := 93) hx hb dX2_swim_28 (by decide) (fun _ => ?_) (fun hc => absurd (by decide) hc)
      exact hret σ _ _ _ _ hw hW dX2_swim_93
    · have hw := hw.2 hc
      refine lv_aload_n hx hb dX2_swim_10 rfl (lv_at hl 0 rfl) ?_
      refine lv_bipush (v := 12) hx hb dX2_swim_11 (by decide) ?_
      refine lv_iload_n hx hb dX2_swim_13 rfl (lv_at hl 2 rfl) ?_
      refine kV_Mi (As := [.int 12, .int p2]) (rest := []) ⟨hx, hb, hml, hown, hts⟩ (ok_X2_get l D cI cJ a _ _ _ _ _ hw) (cwV 2 hts gX2_swim_X2_get rfl rfl rfl (by decide +kernel) ⟨Nat.le_of_ble_eq_true rfl, Nat.le_of_ble_eq_true rfl⟩) hK hW hA 1 rfl rfl rfl hl.1 rfl (Nat.le_of_ble_eq_true rfl) dX2_swim_14 ⟨Nat.le_of_ble_eq_true rfl, Nat.le_of_ble_eq_true rfl⟩ (fun r_1 _ H locs hw hW => ?_)
      refine lv_iconst (v := (-1)) hx hb dX2_swim_17 (by decide) ?_
      refine lv_icmp_ne (tgt := 25) hx hb dX2_swim_18 (by decide) (fun hc => ?_) (fun hc => ?_)
      · have hw := hw.1 hc
        refine lv_iconst (v := 0) hx hb dX2_swim_25 (by decide) ?_
        refine lv_istore_n (lv' := [(3, .int 0), (0, .ref (a 1)), (1, .int p1), (2, .int p2)]) hx hb dX2_swim_26 rfl hl (by decide) rfl (fun ls hl => ?_)
        refine lv_iload_n hx hb dX2_swim_27 rfl (lv_at hl 0 rfl) ?_
        refine lv_if_eq (tgt := 93) hx hb dX2_swim_28 (by decide) (fun _ => ?_) (fun hc => absurd (by decide) hc)
        exact hret σ _ _ _ _ hw hW dX2_swim_93
      · have hw := hw.2 hc
        refine lv_iconst (v := 1) hx hb dX2_swim_21 (by decide) ?_
        refine lv_goto (tgt := 26) hx hb dX2_swim_22 (by decide) ?_
        refine lv_istore_n (lv' := [(3, .int 1), (0, .ref (a 1)), (1, .int p1), (2, .int p2)]) hx hb dX2_swim_26 rfl hl (by decide) rfl (fun ls hl => ?_)
        refine lv_iload_n hx hb dX2_swim_27 rfl (lv_at hl 0 rfl) ?_
        refine lv_if_eq (tgt := 93) hx hb dX2_swim_28 (by decide) (fun hc => absurd hc (by decide)) (fun _ => ?_)
        refine lv_aload_n hx hb dX2_swim_31 rfl (lv_at hl 1 rfl) ?_
        refine lv_bipush (v := 6) hx hb dX2_swim_32 (by decide) ?_
        refine lv_iload_n hx hb dX2_swim_34 rfl (lv_at hl 3 rfl) ?_
        refine kV_Mi (As := [.int 6, .int p2]) (rest := []) ⟨hx, hb, hml, hown, hts⟩ (ok_X2_get l D cI cJ a _ _ _ _ _ hw) (cwV 2 hts gX2_swim_X2_get rfl rfl rfl (by decide +kernel) ⟨Nat.le_of_ble_eq_true rfl, Nat.le_of_ble_eq_true rfl⟩) hK hW hA 1 rfl rfl rfl hl.1 rfl (Nat.le_of_ble_eq_true rfl) dX2_swim_35 ⟨Nat.le_of_ble_eq_true rfl, Nat.le_of_ble_eq_true rfl⟩ (fun r_2 _ H locs hw hW => ?_)
        refine lv_aload_n hx hb dX2_swim_38 rfl (lv_at hl 1 rfl) ?_
        refine lv_bipush (v := 6) hx hb dX2_swim_39 (by decide) ?_
        refine lv_iload_n hx hb dX2_swim_41 rfl (lv_at hl 2 rfl) ?_
        refine kV_Mi (As := [.int 6, .int p1]) (rest := [.int r_2]) ⟨hx, hb, hml, hown, hts⟩ (ok_X2_get l D cI cJ a _ _ _ _ _ hw) (cwV 2 hts gX2_swim_X2_get rfl rfl rfl (by decide +kernel) ⟨Nat.le_of_ble_eq_true rfl, Nat.le_of_ble_eq_true rfl⟩) hK hW hA 1 rfl rfl rfl hl.1 rfl (Nat.le_of_ble_eq_true rfl) dX2_swim_42 ⟨Nat.le_of_ble_eq_true rfl, Nat.le_of_ble_eq_true rfl⟩ (fun r_3 _ H locs hw hW => ?_)
        refine lv_icmp_ge (tgt := 93) hx hb dX2_swim_45 (by decide) (fun hc => ?_) (fun hc => ?_)
        · have hw := hw.1 hc
          exact hret σ _ _ _ _ hw hW dX2_swim_93
        · have hw := hw.2 hc
          refine lv_aload_n hx hb dX2_swim_48 rfl (lv_at hl 1 rfl) ?_
          refine lv_bipush (v := 6) hx hb dX2_swim_49 (by decide) ?_
          refine lv_iload_n hx hb dX2_swim_51 rfl (lv_at hl 2 rfl) ?_
          refine kV_Mi (As := [.int 6, .int p1]) (rest := []) ⟨hx, hb, hml, hown, hts⟩ (ok_X2_get l D cI cJ a _ _ _ _ _ hw) (cwV 2 hts gX2_swim_X2_get rfl rfl rfl (by decide +kernel) ⟨Nat.le_of_ble_eq_true rfl, Nat.le_of_ble_eq_true rfl⟩) hK hW hA 1 rfl rfl rfl hl.1 rfl (Nat.le_of_ble_eq_true rfl) dX2_swim_52 ⟨Nat.le_of_ble_eq_true rfl, Nat.le_of_ble_eq_true rfl⟩ (fun r_4 _ H locs hw hW => ?_)
          refine lv_bipush (v := 10) hx hb dX2_swim_55 (by decide) ?_
          refine lv_idiv hx hb dX2_swim_57 (by decide) ?_
          refine lv_sipush (v := 200) hx hb dX2_swim_58 (by decide) ?_
          refine lv_aload_n hx hb dX2_swim_61 rfl (lv_at hl 1 rfl) ?_
          refine lv_bipush (v := 6) hx hb dX2_swim_62 (by decide) ?_
          refine lv_iload_n hx hb dX2_swim_64 rfl (lv_at hl 3 rfl) ?_
          refine kV_Mi (As := [.int 6, .int p2]) (rest := [.int 200, .int (r_4 / 10)]) ⟨hx, hb, hml, hown, hts⟩ (ok_X2_get l D cI cJ a _ _ _ _ _ hw) (cwV 2 hts gX2_swim_X2_get rfl rfl rfl (by decide +kernel) ⟨Nat.le_of_ble_eq_true rfl, Nat.le_of_ble_eq_true rfl⟩) hK hW hA 1 rfl rfl rfl hl.1 rfl (Nat.le_of_ble_eq_true rfl) dX2_swim_65 ⟨Nat.le_of_ble_eq_true rfl, Nat.le_of_ble_eq_true rfl⟩ (fun r_5 _ H locs hw hW => ?_)
          refine lv_isub hx hb dX2_swim_68 ?_
          refine va_mmin hx hb (hml.trans hl.1.symm) hown (hts _ (List.mem_of_getElem? (i := 1) rfl)) (hts _ (List.mem_of_getElem? (i := 2) rfl)) (hts _ (List.mem_of_getElem? (i := 3) rfl)) (hts _ (List.mem_of_getElem? (i := 4) rfl)) (Nat.le_of_ble_eq_true rfl) (Nat.le_of_ble_eq_true rfl) (Nat.zero_le _) (Nat.zero_le _) dX2_swim_69 ?_
          refine lv_topi (fun v4_6 ev4_6 => ?_)
          have hw := hw v4_6 ev4_6
          refine lv_istore (lv' := [(4, .int v4_6), (3, .int 1), (0, .ref (a 1)), (1, .int p1), (2, .int p2)]) hx hb dX2_swim_72 hl (by decide) rfl (fun ls hl => ?_)
          refine lv_aload_n hx hb dX2_swim_74 rfl (lv_at hl 2 rfl) ?_
          refine lv_bipush (v := 6) hx hb dX2_swim_75 (by decide) ?_
          refine lv_iload_n hx hb dX2_swim_77 rfl (lv_at hl 3 rfl) ?_
          refine lv_iload hx hb dX2_swim_78 (lv_at hl 0 rfl) ?_
          refine lv_ineg hx hb dX2_swim_80 ?_
          refine kV_Mv (As := [.int 6, .int p1, .int (-v4_6)]) (rest := []) ⟨hx, hb, hml, hown, hts⟩ (ok_X2_add l D cI cJ a _ _ _ _ _ _ hw) (cwV 3 hts gX2_swim_X2_add rfl rfl rfl (by decide +kernel) ⟨Nat.le_of_ble_eq_true rfl, Nat.le_of_ble_eq_true rfl⟩) hK hW hA 1 rfl rfl rfl hl.1 rfl (Nat.le_of_ble_eq_true rfl) dX2_swim_81 ⟨Nat.le_of_ble_eq_true rfl, Nat.le_of_ble_eq_true rfl⟩ (fun σ_7 H locs hw hW => ?_)
          refine lv_aload_n hx hb dX2_swim_84 rfl (lv_at hl 2 rfl) ?_
          refine lv_bipush (v := 6) hx hb dX2_swim_85 (by decide) ?_
          refine lv_iload_n hx hb dX2_swim_87 rfl (lv_at hl 4 rfl) ?_
          refine lv_iload hx hb dX2_swim_88 (lv_at hl 0 rfl) ?_
          refine kV_Mv (As := [.int 6, .int p2, .int v4_6]) (rest := []) ⟨hx, hb, hml, hown, hts⟩ (ok_X2_add l D cI cJ a _ _ _ _ _ _ hw) (cwV 3 hts gX2_swim_X2_add rfl rfl rfl (by decide +kernel) ⟨Nat.le_of_ble_eq_true rfl, Nat.le_of_ble_eq_true rfl⟩) hK hW hA 1 rfl rfl rfl hl.1 rfl (Nat.le_of_ble_eq_true rfl) dX2_swim_90 ⟨Nat.le_of_ble_eq_true rfl, Nat.le_of_ble_eq_true rfl⟩ (fun σ_8 H locs hw hW => ?_)
          exact hret σ_8 _ _ _ _ hw hW dX2_swim_93
def wp_X2_catchFish (σ : CS) (p1 : Int32) (post : Int32 → CS → Prop) : Prop := wp_X2_get σ 6 p1 (fun r_1 => ∀ v3_2 : Int32, v3_2 = (if ((r_1 / 4) + 1) < r_1 then ((r_1 / 4) + 1) else r_1) → wp_X2_add σ 6 p1 (-v3_2) (fun σ_3 => wp_X2_get σ_3 12 p1 (fun r_4 => wp_X2_add σ_3 36 r_4 v3_2 (fun σ_5 => wp_X2_add σ_5 24 p1 v3_2 (fun σ_6 => wp_X2_swim σ_6 p1 (p1 - 1) (fun σ_7 => wp_X2_swim σ_7 p1 (p1 + 1) (fun σ_8 => post v3_2 σ_8)))))))
abbrev rm_X2_catchFish : Room := { frames := 3, cells := 0, slots := 0, locals := 71 }
set_option maxHeartbeats 4000000 in
set_option maxRecDepth 100000 in
theorem ok_X2_catchFish (l : Launch) (D : va_G) (cI cJ : ClassId) (a : Nat → Nat) (sz : Nat) (σ : CS) (p1 : Int32) (post : Int32 → CS → Prop) (hw : wp_X2_catchFish σ p1 post) : Mi l yX2_catchFish wsX2_catchFish rm_X2_catchFish [.ref (a 1), .int p1] D (tysIJ cI cJ) (cW cI cJ a σ) sz post (cW cI cJ a) := by
  refine s_Mi (by decide) rfl (Nat.le_of_ble_eq_true rfl) ?_
  intro p e s m args below meth c A Q hx hb hml hts hown hin hK hA hret H locs ls hW hl
  have hown : s.vm.findClass RX2 = some m.cls := hown
  have hl : lv_has ls 4 [(0, .ref (a 1)), (1, .int p1)] := hl
  refine lv_aload_n hx hb dX2_catchFish_0 rfl (lv_at hl 0 rfl) ?_
  refine lv_bipush (v := 6) hx hb dX2_catchFish_1 (by decide) ?_
  refine lv_iload_n hx hb dX2_catchFish_3 rfl (lv_at hl 1 rfl) ?_
  refine kV_Mi (As := [.int 6, .int p1]) (rest := []) ⟨hx, hb, hml, hown, hts⟩ (ok_X2_get l D cI cJ a _ _ _ _ _ hw) (cwV 2 hts gX2_catchFish_X2_get rfl rfl rfl (by decide +kernel) ⟨Nat.le_of_ble_eq_true rfl, Nat.le_of_ble_eq_true rfl⟩) hK hW hA 1 rfl rfl rfl hl.1 rfl (Nat.le_of_ble_eq_true rfl) dX2_catchFish_4 ⟨Nat.le_of_ble_eq_true rfl, Nat.le_of_ble_eq_true rfl⟩ (fun r_1 _ H locs hw hW => ?_)
  refine lv_istore_n (lv' := [(2, .int r_1), (0, .ref (a 1)), (1, .int p1)]) hx hb dX2_catchFish_7 rfl hl (by decide) rfl (fun ls hl => ?_)
  refine lv_iload_n hx hb dX2_catchFish_8 rfl (lv_at hl 0 rfl) ?_
  refine lv_iload_n hx hb dX2_catchFish_9 rfl (lv_at hl 0 rfl) ?_
  refine lv_iconst (v := 4) hx hb dX2_catchFish_10 (by decide) ?_
  refine lv_idiv hx hb dX2_catchFish_11 (by decide) ?_
  refine lv_iconst (v := 1) hx hb dX2_catchFish_12 (by decide) ?_
  refine lv_iadd hx hb dX2_catchFish_13 ?_
  refine va_mmin hx hb (hml.trans hl.1.symm) hown (hts _ (List.mem_of_getElem? (i := 1) rfl)) (hts _ (List.mem_of_getElem? (i := 2) rfl)) (hts _ (List.mem_of_getElem? (i := 3) rfl)) (hts _ (List.mem_of_getElem? (i := 4) rfl)) (Nat.le_of_ble_eq_true rfl) (Nat.le_of_ble_eq_true rfl) (Nat.zero_le _) (Nat.zero_le _) dX2_catchFish_14 ?_
  refine lv_topi (fun v3_2 ev3_2 => ?_)
  have hw := hw v3_2 ev3_2
  refine lv_istore_n (lv' := [(3, .int v3_2), (2, .int r_1), (0, .ref (a 1)), (1, .int p1)]) hx hb dX2_catchFish_17 rfl hl (by decide) rfl (fun ls hl => ?_)
  refine lv_aload_n hx hb dX2_catchFish_18 rfl (lv_at hl 2 rfl) ?_
  refine lv_bipush (v := 6) hx hb dX2_catchFish_19 (by decide) ?_
  refine lv_iload_n hx hb dX2_catchFish_21 rfl (lv_at hl 3 rfl) ?_
  refine lv_iload_n hx hb dX2_catchFish_22 rfl (lv_at hl 0 rfl) ?_
  refine lv_ineg hx hb dX2_catchFish_23 ?_
  refine kV_Mv (As := [.int 6, .int p1, .int (-v3_2)]) (rest := []) ⟨hx, hb, hml, hown, hts⟩ (ok_X2_add l D cI cJ a _ _ _ _ _ _ hw) (cwV 3 hts gX2_catchFish_X2_add rfl rfl rfl (by decide +kernel) ⟨Nat.le_of_ble_eq_true rfl, Nat.le_of_ble_eq_true rfl⟩) hK hW hA 1 rfl rfl rfl hl.1 rfl (Nat.le_of_ble_eq_true rfl) dX2_catchFish_24 ⟨Nat.le_of_ble_eq_true rfl, Nat.le_of_ble_eq_true rfl⟩ (fun σ_3 H locs hw hW => ?_)
  refine lv_aload_n hx hb dX2_catchFish_27 rfl (lv_at hl 2 rfl) ?_
  refine lv_bipush (v := 36) hx hb dX2_catchFish_28 (by decide) ?_
  refine lv_aload_n hx hb dX2_catchFish_30 rfl (lv_at hl 2 rfl) ?_
  refine lv_bipush (v := 12) hx hb dX2_catchFish_31 (by decide) ?_
  refine lv_iload_n hx hb dX2_catchFish_33 rfl (lv_at hl 3 rfl) ?_
  refine kV_Mi (As := [.int 12, .int p1]) (rest := [.int 36, .ref (a 1)]) ⟨hx, hb, hml, hown, hts⟩ (ok_X2_get l D cI cJ a _ _ _ _ _ hw) (cwV 2 hts gX2_catchFish_X2_get rfl rfl rfl (by decide +kernel) ⟨Nat.le_of_ble_eq_true rfl, Nat.le_of_ble_eq_true rfl⟩) hK hW hA 1 rfl rfl rfl hl.1 rfl (Nat.le_of_ble_eq_true rfl) dX2_catchFish_34 ⟨Nat.le_of_ble_eq_true rfl, Nat.le_of_ble_eq_true rfl⟩ (fun r_4 _ H locs hw hW => ?_)
  refine lv_iload_n hx hb dX2_catchFish_37 rfl (lv_at hl 0 rfl) ?_
  refine kV_Mv (As := [.int 36, .int r_4, .int v3_2]) (rest := []) ⟨hx, hb, hml, hown, hts⟩ (ok_X2_add l D cI cJ a _ _ _ _ _ _ hw) (cwV 3 hts gX2_catchFish_X2_add rfl rfl rfl (by decide +kernel) ⟨Nat.le_of_ble_eq_true rfl, Nat.le_of_ble_eq_true rfl⟩) hK hW hA 1 rfl rfl rfl hl.1 rfl (Nat.le_of_ble_eq_true rfl) dX2_catchFish_38 ⟨Nat.le_of_ble_eq_true rfl, Nat.le_of_ble_eq_true rfl⟩ (fun σ_5 H locs hw hW => ?_)
  refine lv_aload_n hx hb dX2_catchFish_41 rfl (lv_at hl 2 rfl) ?_
  refine lv_bipush (v := 24) hx hb dX2_catchFish_42 (by decide) ?_
  refine lv_iload_n hx hb dX2_catchFish_44 rfl (lv_at hl 3 rfl) ?_
  refine lv_iload_n hx hb dX2_catchFish_45 rfl (lv_at hl 0 rfl) ?_
  refine kV_Mv (As := [.int 24, .int p1, .int v3_2]) (rest := []) ⟨hx, hb, hml, hown, hts⟩ (ok_X2_add l D cI cJ a _ _ _ _ _ _ hw) (cwV 3 hts gX2_catchFish_X2_add rfl rfl rfl (by decide +kernel) ⟨Nat.le_of_ble_eq_true rfl, Nat.le_of_ble_eq_true rfl⟩) hK hW hA 1 rfl rfl rfl hl.1 rfl (Nat.le_of_ble_eq_true rfl) dX2_catchFish_46 ⟨Nat.le_of_ble_eq_true rfl, Nat.le_of_ble_eq_true rfl⟩ (fun σ_6 H locs hw hW => ?_)
  refine lv_aload_n hx hb dX2_catchFish_49 rfl (lv_at hl 2 rfl) ?_
  refine lv_iload_n hx hb dX2_catchFish_50 rfl (lv_at hl 3 rfl) ?_
  refine lv_iload_n hx hb dX2_catchFish_51 rfl (lv_at hl 3 rfl) ?_
  refine lv_iconst (v := 1) hx hb dX2_catchFish_52 (by decide) ?_
  refine lv_isub hx hb dX2_catchFish_53 ?_
  refine kV_Mv (As := [.int p1, .int (p1 - 1)]) (rest := []) ⟨hx, hb, hml, hown, hts⟩ (ok_X2_swim l D cI cJ a _ _ _ _ _ hw) (cwV 2 hts gX2_catchFish_X2_swim rfl rfl rfl (by decide +kernel) ⟨Nat.le_of_ble_eq_true rfl, Nat.le_of_ble_eq_true rfl⟩) hK hW hA 1 rfl rfl rfl hl.1 rfl (Nat.le_of_ble_eq_true rfl) dX2_catchFish_54 ⟨Nat.le_of_ble_eq_true rfl, Nat.le_of_ble_eq_true rfl⟩ (fun σ_7 H locs hw hW => ?_)
  refine lv_aload_n hx hb dX2_catchFish_57 rfl (lv_at hl 2 rfl) ?_
  refine lv_iload_n hx hb dX2_catchFish_58 rfl (lv_at hl 3 rfl) ?_
  refine lv_iload_n hx hb dX2_catchFish_59 rfl (lv_at hl 3 rfl) ?_
  refine lv_iconst (v := 1) hx hb dX2_catchFish_60 (by decide) ?_
  refine lv_iadd hx hb dX2_catchFish_61 ?_
  refine kV_Mv (As := [.int p1, .int (p1 + 1)]) (rest := []) ⟨hx, hb, hml, hown, hts⟩ (ok_X2_swim l D cI cJ a _ _ _ _ _ hw) (cwV 2 hts gX2_catchFish_X2_swim rfl rfl rfl (by decide +kernel) ⟨Nat.le_of_ble_eq_true rfl, Nat.le_of_ble_eq_true rfl⟩) hK hW hA 1 rfl rfl rfl hl.1 rfl (Nat.le_of_ble_eq_true rfl) dX2_catchFish_62 ⟨Nat.le_of_ble_eq_true rfl, Nat.le_of_ble_eq_true rfl⟩ (fun σ_8 H locs hw hW => ?_)
  refine lv_iload_n hx hb dX2_catchFish_65 rfl (lv_at hl 0 rfl) ?_
  exact hret _ σ_8 _ _ _ _ hw hW dX2_catchFish_66
def wp_X2_beginDay (σ : CS) (post : Int32 → CS → Prop) : Prop := ∃ I1 : Nat → Int32 → Int32 → CS → Prop, (∃ n : Nat, I1 n 0 0 (σ)) ∧ ∀ (n1 : Nat) (v1_1 : Int32) (v2_1 : Int32) (σ_1 : CS), I1 n1 v1_1 v2_1 σ_1 → ((6 ≤ v2_1 → wp_X2_fill σ_1 54 36 0 (fun σ_2 => wp_X2_fill σ_2 12 6 (-1) (fun σ_3 => wp_X2_fill σ_3 18 6 (-1) (fun σ_4 => wp_X2_put σ_4 168 0 0 (fun σ_5 => wp_X2_put σ_5 169 0 0 (fun σ_6 => wp_X2_put σ_6 170 0 0 (fun σ_7 => wp_X2_add σ_7 167 0 1 (fun σ_8 => post v1_1 σ_8)))))))) ∧ (¬ 6 ≤ v2_1 → wp_X2_get σ_1 162 2 (fun r_9 => wp_X2_get σ_1 6 v2_1 (fun r_10 => ∀ v3_11 : Int32, v3_11 = (if (200 - r_10) < r_9 then (200 - r_10) else r_9) → wp_X2_add σ_1 6 v2_1 v3_11 (fun σ_12 => ∀ v1_13 : Int32, v1_13 = (v1_1 + v3_11) → ∀ v2_14 : Int32, v2_14 = v2_1 + 1 → ∃ n' : Nat, n' < n1 ∧ I1 n' v1_13 v2_14 (σ_12))))))
abbrev rm_X2_beginDay : Room := { frames := 2, cells := 0, slots := 0, locals := 48 }
set_option maxHeartbeats 4000000 in
set_option maxRecDepth 100000 in
theorem ok_X2_beginDay (l : Launch) (D : va_G) (cI cJ : ClassId) (a : Nat → Nat) (sz : Nat) (σ : CS) (post : Int32 → CS → Prop) (hw : wp_X2_beginDay σ post) : Mi l yX2_beginDay wsX2_beginDay rm_X2_beginDay [.ref (a 1)] D (tysIJ cI cJ) (cW cI cJ a σ) sz post (cW cI cJ a) := by
  refine s_Mi (by decide) rfl (Nat.le_of_ble_eq_true rfl) ?_
  intro p e s m args below meth c A Q hx hb hml hts hown hin hK hA hret H locs ls hW hl
  have hown : s.vm.findClass RX2 = some m.cls := hown
  have hl : lv_has ls 4 [(0, .ref (a 1))] := hl
  refine lv_iconst (v := 0) hx hb dX2_beginDay_0 (by decide) ?_
  refine lv_istore_n (lv' := [(1, .int 0), (0, .ref (a 1))]) hx hb dX2_beginDay_1 rfl hl (by decide) rfl (fun ls hl => ?_)
  refine lv_iconst (v := 0) hx hb dX2_beginDay_2 (by decide) ?_
  refine lv_istore_n (lv' := [(2, .int 0), (1, .int 0), (0, .ref (a 1))]) hx hb dX2_beginDay_3 rfl hl (by decide) rfl (fun ls hl => ?_)
  obtain ⟨I1, ⟨n1, hI1⟩, hJ1⟩ := hw
  have hl : lv_has ls 4 [(0, .ref (a 1)), (1, .int 0), (2, .int 0)] := lv_sub hl [2, 1, 0] rfl
  suffices LP1 : ∀ (n : Nat) (v1_1 : Int32) (v2_1 : Int32) (σ_1 : CS) (H : Heap) (locs : List Loc) (ls : Array Slot), I1 n v1_1 v2_1 σ_1 → Wd D A s.heap (cW cI cJ a σ_1) H locs → lv_has ls 4 [(0, .ref (a 1)), (1, .int v1_1), (2, .int v2_1)] → W p l e rm_X2_beginDay s m args below meth c H locs 0 0 Q (F0 m 4 ls []) from LP1 n1 0 0 _ H locs ls hI1 hW hl
  intro n1
  induction n1 using Nat.strongRecOn with
  | ind n1 ih1 =>
    intro v1_1 v2_1 σ_1 H locs ls hIn hW hl
    have hw := hJ1 n1 v1_1 v2_1 σ_1 hIn
    refine lv_iload_n hx hb dX2_beginDay_4 rfl (lv_at hl 2 rfl) ?_
    refine lv_bipush (v := 6) hx hb dX2_beginDay_5 (by decide) ?_
    refine lv_icmp_ge (tgt := 51) hx hb dX2_beginDay_7 (by decide) (fun hc => ?_) (fun hc => ?_)
    · have hw := hw.1 hc
      refine lv_aload_n hx hb dX2_beginDay_51 rfl (lv_at hl 0 rfl) ?_
      refine lv_bipush (v := 54) hx hb dX2_beginDay_52 (by decide) ?_
      refine lv_bipush (v := 36) hx hb dX2_beginDay_54 (by decide) ?_
      refine lv_iconst (v := 0) hx hb dX2_beginDay_56 (by decide) ?_
      refine kV_Mv (As := [.int 54, .int 36, .int 0]) (rest := []) ⟨hx, hb, hml, hown, hts⟩ (ok_X2_fill l D cI cJ a _ _ _ _ _ _ hw) (cwV 3 hts gX2_beginDay_X2_fill rfl rfl rfl (by decide +kernel) ⟨Nat.le_of_ble_eq_true rfl, Nat.le_of_ble_eq_true rfl⟩) hK hW hA 1 rfl rfl rfl hl.1 rfl (Nat.le_of_ble_eq_true rfl) dX2_beginDay_57 ⟨Nat.le_of_ble_eq_true rfl, Nat.le_of_ble_eq_true rfl⟩ (fun σ_2 H locs hw hW => ?_)
      refine lv_aload_n hx hb dX2_beginDay_60 rfl (lv_at hl 0 rfl) ?_
      refine lv_bipush (v := 12) hx hb dX2_beginDay_61 (by decide) ?_
      refine lv_bipush (v := 6) hx hb dX2_beginDay_63 (by decide) ?_
      refine lv_iconst (v := (-1)) hx hb dX2_beginDay_65 (by decide) ?_
      refine kV_Mv (As := [.int 12, .int 6, .int (-1)]) (rest := []) ⟨hx, hb, hml, hown, hts⟩ (ok_X2_fill l D cI cJ a _ _ _ _ _ _ hw) (cwV 3 hts gX2_beginDay_X2_fill rfl rfl rfl (by decide +kernel) ⟨Nat.le_of_ble_eq_true rfl, Nat.le_of_ble_eq_true rfl⟩) hK hW hA 1 rfl rfl rfl hl.1 rfl (Nat.le_of_ble_eq_true rfl) dX2_beginDay_66 ⟨Nat.le_of_ble_eq_true rfl, Nat.le_of_ble_eq_true rfl⟩ (fun σ_3 H locs hw hW => ?_)
      refine lv_aload_n hx hb dX2_beginDay_69 rfl (lv_at hl 0 rfl) ?_
      refine lv_bipush (v := 18) hx hb dX2_beginDay_70 (by decide) ?_
      refine lv_bipush (v := 6) hx hb dX2_beginDay_72 (by decide) ?_
      refine lv_iconst (v := (-1)) hx hb dX2_beginDay_74 (by decide) ?_
      refine kV_Mv (As := [.int 18, .int 6, .int (-1)]) (rest := []) ⟨hx, hb, hml, hown, hts⟩ (ok_X2_fill l D cI cJ a _ _ _ _ _ _ hw) (cwV 3 hts gX2_beginDay_X2_fill rfl rfl rfl (by decide +kernel) ⟨Nat.le_of_ble_eq_true rfl, Nat.le_of_ble_eq_true rfl⟩) hK hW hA 1 rfl rfl rfl hl.1 rfl (Nat.le_of_ble_eq_true rfl) dX2_beginDay_75 ⟨Nat.le_of_ble_eq_true rfl, Nat.le_of_ble_eq_true rfl⟩ (fun σ_4 H locs hw hW => ?_)
      refine lv_aload_n hx hb dX2_beginDay_78 rfl (lv_at hl 0 rfl) ?_
      refine lv_sipush (v := 168) hx hb dX2_beginDay_79 (by decide) ?_
      refine lv_iconst (v := 0) hx hb dX2_beginDay_82 (by decide) ?_
      refine lv_iconst (v := 0) hx hb dX2_beginDay_83 (by decide) ?_
      refine kV_Mv (As := [.int 168, .int 0, .int 0]) (rest := []) ⟨hx, hb, hml, hown, hts⟩ (ok_X2_put l D cI cJ a _ _ _ _ _ _ hw) (cwV 3 hts gX2_beginDay_X2_put rfl rfl rfl (by decide +kernel) ⟨Nat.le_of_ble_eq_true rfl, Nat.le_of_ble_eq_true rfl⟩) hK hW hA 1 rfl rfl rfl hl.1 rfl (Nat.le_of_ble_eq_true rfl) dX2_beginDay_84 ⟨Nat.le_of_ble_eq_true rfl, Nat.le_of_ble_eq_true rfl⟩ (fun σ_5 H locs hw hW => ?_)
      refine lv_aload_n hx hb dX2_beginDay_87 rfl (lv_at hl 0 rfl) ?_
      refine lv_sipush (v := 169) hx hb dX2_beginDay_88 (by decide) ?_
      refine lv_iconst (v := 0) hx hb dX2_beginDay_91 (by decide) ?_
      refine lv_iconst (v := 0) hx hb dX2_beginDay_92 (by decide) ?_
      refine kV_Mv (As := [.int 169, .int 0, .int 0]) (rest := []) ⟨hx, hb, hml, hown, hts⟩ (ok_X2_put l D cI cJ a _ _ _ _ _ _ hw) (cwV 3 hts gX2_beginDay_X2_put rfl rfl rfl (by decide +kernel) ⟨Nat.le_of_ble_eq_true rfl, Nat.le_of_ble_eq_true rfl⟩) hK hW hA 1 rfl rfl rfl hl.1 rfl (Nat.le_of_ble_eq_true rfl) dX2_beginDay_93 ⟨Nat.le_of_ble_eq_true rfl, Nat.le_of_ble_eq_true rfl⟩ (fun σ_6 H locs hw hW => ?_)
      refine lv_aload_n hx hb dX2_beginDay_96 rfl (lv_at hl 0 rfl) ?_
      refine lv_sipush (v := 170) hx hb dX2_beginDay_97 (by decide) ?_
      refine lv_iconst (v := 0) hx hb dX2_beginDay_100 (by decide) ?_
      refine lv_iconst (v := 0) hx hb dX2_beginDay_101 (by decide) ?_
      refine kV_Mv (As := [.int 170, .int 0, .int 0]) (rest := []) ⟨hx, hb, hml, hown, hts⟩ (ok_X2_put l D cI cJ a _ _ _ _ _ _ hw) (cwV 3 hts gX2_beginDay_X2_put rfl rfl rfl (by decide +kernel) ⟨Nat.le_of_ble_eq_true rfl, Nat.le_of_ble_eq_true rfl⟩) hK hW hA 1 rfl rfl rfl hl.1 rfl (Nat.le_of_ble_eq_true rfl) dX2_beginDay_102 ⟨Nat.le_of_ble_eq_true rfl, Nat.le_of_ble_eq_true rfl⟩ (fun σ_7 H locs hw hW => ?_)
      refine lv_aload_n hx hb dX2_beginDay_105 rfl (lv_at hl 0 rfl) ?_
      refine lv_sipush (v := 167) hx hb dX2_beginDay_106 (by decide) ?_
      refine lv_iconst (v := 0) hx hb dX2_beginDay_109 (by decide) ?_
      refine lv_iconst (v := 1) hx hb dX2_beginDay_110 (by decide) ?_
      refine kV_Mv (As := [.int 167, .int 0, .int 1]) (rest := []) ⟨hx, hb, hml, hown, hts⟩ (ok_X2_add l D cI cJ a _ _ _ _ _ _ hw) (cwV 3 hts gX2_beginDay_X2_add rfl rfl rfl (by decide +kernel) ⟨Nat.le_of_ble_eq_true rfl, Nat.le_of_ble_eq_true rfl⟩) hK hW hA 1 rfl rfl rfl hl.1 rfl (Nat.le_of_ble_eq_true rfl) dX2_beginDay_111 ⟨Nat.le_of_ble_eq_true rfl, Nat.le_of_ble_eq_true rfl⟩ (fun σ_8 H locs hw hW => ?_)
      refine lv_iload_n hx hb dX2_beginDay_114 rfl (lv_at hl 1 rfl) ?_
      exact hret _ σ_8 _ _ _ _ hw hW dX2_beginDay_115
    · have hw := hw.2 hc
      refine lv_aload_n hx hb dX2_beginDay_10 rfl (lv_at hl 0 rfl) ?_
      refine lv_sipush (v := 162) hx hb dX2_beginDay_11 (by decide) ?_
      refine lv_iconst (v := 2) hx hb dX2_beginDay_14 (by decide) ?_
      refine kV_Mi (As := [.int 162, .int 2]) (rest := []) ⟨hx, hb, hml, hown, hts⟩ (ok_X2_get l D cI cJ a _ _ _ _ _ hw) (cwV 2 hts gX2_beginDay_X2_get rfl rfl rfl (by decide +kernel) ⟨Nat.le_of_ble_eq_true rfl, Nat.le_of_ble_eq_true rfl⟩) hK hW hA 1 rfl rfl rfl hl.1 rfl (Nat.le_of_ble_eq_true rfl) dX2_beginDay_15 ⟨Nat.le_of_ble_eq_true rfl, Nat.le_of_ble_eq_true rfl⟩ (fun r_9 _ H locs hw hW => ?_)
      refine lv_sipush (v := 200) hx hb dX2_beginDay_18 (by decide) ?_
      refine lv_aload_n hx hb dX2_beginDay_21 rfl (lv_at hl 0 rfl) ?_
      refine lv_bipush (v := 6) hx hb dX2_beginDay_22 (by decide) ?_
      refine lv_iload_n hx hb dX2_beginDay_24 rfl (lv_at hl 2 rfl) ?_
      refine kV_Mi (As := [.int 6, .int v2_1]) (rest := [.int 200, .int r_9]) ⟨hx, hb, hml, hown, hts⟩ (ok_X2_get l D cI cJ a _ _ _ _ _ hw) (cwV 2 hts gX2_beginDay_X2_get rfl rfl rfl (by decide +kernel) ⟨Nat.le_of_ble_eq_true rfl, Nat.le_of_ble_eq_true rfl⟩) hK hW hA 1 rfl rfl rfl hl.1 rfl (Nat.le_of_ble_eq_true rfl) dX2_beginDay_25 ⟨Nat.le_of_ble_eq_true rfl, Nat.le_of_ble_eq_true rfl⟩ (fun r_10 _ H locs hw hW => ?_)
      refine lv_isub hx hb dX2_beginDay_28 ?_
      refine va_mmin hx hb (hml.trans hl.1.symm) hown (hts _ (List.mem_of_getElem? (i := 1) rfl)) (hts _ (List.mem_of_getElem? (i := 2) rfl)) (hts _ (List.mem_of_getElem? (i := 3) rfl)) (hts _ (List.mem_of_getElem? (i := 4) rfl)) (Nat.le_of_ble_eq_true rfl) (Nat.le_of_ble_eq_true rfl) (Nat.zero_le _) (Nat.zero_le _) dX2_beginDay_29 ?_
      refine lv_topi (fun v3_11 ev3_11 => ?_)
      have hw := hw v3_11 ev3_11
      refine lv_istore_n (lv' := [(3, .int v3_11), (0, .ref (a 1)), (1, .int v1_1), (2, .int v2_1)]) hx hb dX2_beginDay_32 rfl hl (by decide) rfl (fun ls hl => ?_)
      refine lv_aload_n hx hb dX2_beginDay_33 rfl (lv_at hl 1 rfl) ?_
      refine lv_bipush (v := 6) hx hb dX2_beginDay_34 (by decide) ?_
      refine lv_iload_n hx hb dX2_beginDay_36 rfl (lv_at hl 3 rfl) ?_
      refine lv_iload_n hx hb dX2_beginDay_37 rfl (lv_at hl 0 rfl) ?_
      refine kV_Mv (As := [.int 6, .int v2_1, .int v3_11]) (rest := []) ⟨hx, hb, hml, hown, hts⟩ (ok_X2_add l D cI cJ a _ _ _ _ _ _ hw) (cwV 3 hts gX2_beginDay_X2_add rfl rfl rfl (by decide +kernel) ⟨Nat.le_of_ble_eq_true rfl, Nat.le_of_ble_eq_true rfl⟩) hK hW hA 1 rfl rfl rfl hl.1 rfl (Nat.le_of_ble_eq_true rfl) dX2_beginDay_38 ⟨Nat.le_of_ble_eq_true rfl, Nat.le_of_ble_eq_true rfl⟩ (fun σ_12 H locs hw hW => ?_)
      refine lv_iload_n hx hb dX2_beginDay_41 rfl (lv_at hl 2 rfl) ?_
      refine lv_iload_n hx hb dX2_beginDay_42 rfl (lv_at hl 0 rfl) ?_
      refine lv_iadd hx hb dX2_beginDay_43 ?_
      refine lv_topi (fun v1_13 ev1_13 => ?_)
      have hw := hw v1_13 ev1_13
      refine lv_istore_n (lv' := [(1, .int v1_13), (3, .int v3_11), (0, .ref (a 1)), (2, .int v2_1)]) hx hb dX2_beginDay_44 rfl hl (by decide) rfl (fun ls hl => ?_)
      obtain ⟨v2_14, ev2_14⟩ : ∃ y : Int32, y = v2_1 + 1 := ⟨_, rfl⟩
      have hw := hw v2_14 ev2_14
      refine lv_iinc (v := v2_14) (lv' := [(2, .int v2_14), (1, .int v1_13), (3, .int v3_11), (0, .ref (a 1))]) hx hb dX2_beginDay_45 hl (k := 3) rfl (by rw [ev2_14]; rfl) (by decide) rfl (fun ls hl => ?_)
      refine lv_goto (tgt := 4) hx hb dX2_beginDay_48 (by decide) ?_
      obtain ⟨n9, hlt9, hI9⟩ := hw
      exact ih1 n9 hlt9 _ _ _ _ _ _ hI9 hW (lv_sub hl [3, 1, 0] rfl)
def wp_X2_copyTo_r (σ : CS) (p2 : Int32) (post : CS → Prop) : Prop := ∃ I1 : Nat → Int32 → CS → Prop, (∃ n : Nat, I1 n 0 (σ)) ∧ ∀ (n1 : Nat) (v3_1 : Int32) (σ_1 : CS), I1 n1 v3_1 σ_1 → ((174 ≤ v3_1 → post σ_1) ∧ (¬ 174 ≤ v3_1 → ∀ v4_2 : Int32, v4_2 = (p2 + v3_1) → ((v4_2 < 0 → ∀ v3_3 : Int32, v3_3 = v3_1 + 1 → ∃ n' : Nat, n' < n1 ∧ I1 n' v3_3 (σ_1)) ∧ (¬ v4_2 < 0 → ((1044 ≤ v4_2 → ∀ v3_4 : Int32, v3_4 = v3_1 + 1 → ∃ n' : Nat, n' < n1 ∧ I1 n' v3_4 (σ_1)) ∧ (¬ 1044 ≤ v4_2 → wp_X2_get_ σ_1 v3_1 (fun r_5 => vp_in v4_2 1044 ∧ ∀ σ_6 : CS, σ_6 = cs_rows σ_1 (upd (c_rows σ_1) (v4_2).toNatClampNeg r_5) → ∀ v3_7 : Int32, v3_7 = v3_1 + 1 → ∃ n' : Nat, n' < n1 ∧ I1 n' v3_7 (σ_6))))))))
abbrev rm_X2_copyTo_r : Room := { frames := 2, cells := 0, slots := 0, locals := 44 }
set_option maxHeartbeats 4000000 in
set_option maxRecDepth 100000 in
theorem ok_X2_copyTo_r (l : Launch) (D : va_G) (cI cJ : ClassId) (a : Nat → Nat) (sz : Nat) (σ : CS) (p2 : Int32) (post : CS → Prop) (hw : wp_X2_copyTo_r σ p2 post) : Mv l yX2_copyTo wsX2_copyTo rm_X2_copyTo_r [.ref (a 1), .ref (a 7), .int p2] D (tysIJ cI cJ) (cW cI cJ a σ) sz post (cW cI cJ a) := by
  refine s_Mv (by decide) rfl (Nat.le_of_ble_eq_true rfl) ?_
  intro p e s m args below meth c A Q hx hb hml hts hown hin hK hA hret H locs ls hW hl
  have hown : s.vm.findClass RX2 = some m.cls := hown
  have hl : lv_has ls 5 [(0, .ref (a 1)), (1, .ref (a 7)), (2, .int p2)] := hl
  refine lv_iconst (v := 0) hx hb dX2_copyTo_0 (by decide) ?_
  refine lv_istore_n (lv' := [(3, .int 0), (0, .ref (a 1)), (1, .ref (a 7)), (2, .int p2)]) hx hb dX2_copyTo_1 rfl hl (by decide) rfl (fun ls hl => ?_)
  obtain ⟨I1, ⟨n1, hI1⟩, hJ1⟩ := hw
  have hl : lv_has ls 5 [(0, .ref (a 1)), (1, .ref (a 7)), (2, .int p2), (3, .int 0)] := lv_sub hl [1, 2, 3, 0] rfl
  suffices LP1 : ∀ (n : Nat) (v3_1 : Int32) (σ_1 : CS) (H : Heap) (locs : List Loc) (ls : Array Slot), I1 n v3_1 σ_1 → Wd D A s.heap (cW cI cJ a σ_1) H locs → lv_has ls 5 [(0, .ref (a 1)), (1, .ref (a 7)), (2, .int p2), (3, .int v3_1)] → W p l e rm_X2_copyTo_r s m args below meth c H locs 0 0 Q (F0 m 2 ls []) from LP1 n1 0 _ H locs ls hI1 hW hl
  intro n1
  induction n1 using Nat.strongRecOn with
  | ind n1 ih1 =>
    intro v3_1 σ_1 H locs ls hIn hW hl
    have hw := hJ1 n1 v3_1 σ_1 hIn
    refine lv_iload_n hx hb dX2_copyTo_2 rfl (lv_at hl 3 rfl) ?_
    refine lv_sipush (v := 174) hx hb dX2_copyTo_3 (by decide) ?_
    refine lv_icmp_ge (tgt := 41) hx hb dX2_copyTo_6 (by decide) (fun hc => ?_) (fun hc => ?_)
    · have hw := hw.1 hc
      exact hret σ_1 _ _ _ _ hw hW dX2_copyTo_41
    · have hw := hw.2 hc
      refine lv_iload_n hx hb dX2_copyTo_9 rfl (lv_at hl 2 rfl) ?_
      refine lv_iload_n hx hb dX2_copyTo_10 rfl (lv_at hl 3 rfl) ?_
      refine lv_iadd hx hb dX2_copyTo_11 ?_
      refine lv_topi (fun v4_2 ev4_2 => ?_)
      have hw := hw v4_2 ev4_2
      refine lv_istore (lv' := [(4, .int v4_2), (0, .ref (a 1)), (1, .ref (a 7)), (2, .int p2), (3, .int v3_1)]) hx hb dX2_copyTo_12 hl (by decide) rfl (fun ls hl => ?_)
      refine lv_iload hx hb dX2_copyTo_14 (lv_at hl 0 rfl) ?_
      refine lv_if_lt (tgt := 35) hx hb dX2_copyTo_16 (by decide) (fun hc => ?_) (fun hc => ?_)
      · have hw := hw.1 hc
        obtain ⟨v3_3, ev3_3⟩ : ∃ y : Int32, y = v3_1 + 1 := ⟨_, rfl⟩
        have hw := hw v3_3 ev3_3
        refine lv_iinc (v := v3_3) (lv' := [(3, .int v3_3), (4, .int v4_2), (0, .ref (a 1)), (1, .ref (a 7)), (2, .int p2)]) hx hb dX2_copyTo_35 hl (k := 4) rfl (by rw [ev3_3]; rfl) (by decide) rfl (fun ls hl => ?_)
        refine lv_goto (tgt := 2) hx hb dX2_copyTo_38 (by decide) ?_
        obtain ⟨n9, hlt9, hI9⟩ := hw
        exact ih1 n9 hlt9 _ _ _ _ _ hI9 hW (lv_sub hl [2, 3, 4, 0] rfl)
      · have hw := hw.2 hc
        refine lv_iload hx hb dX2_copyTo_19 (lv_at hl 0 rfl) ?_
        refine lv_aload_n hx hb dX2_copyTo_21 rfl (lv_at hl 2 rfl) ?_
        refine va_alen (v := 1044) hx hb hK hW.1 7 0 rfl rfl rfl dX2_copyTo_22 ?_
        refine lv_icmp_ge (tgt := 35) hx hb dX2_copyTo_23 (by decide) (fun hc => ?_) (fun hc => ?_)
        · have hw := hw.1 hc
          obtain ⟨v3_4, ev3_4⟩ : ∃ y : Int32, y = v3_1 + 1 := ⟨_, rfl⟩
          have hw := hw v3_4 ev3_4
          refine lv_iinc (v := v3_4) (lv' := [(3, .int v3_4), (4, .int v4_2), (0, .ref (a 1)), (1, .ref (a 7)), (2, .int p2)]) hx hb dX2_copyTo_35 hl (k := 4) rfl (by rw [ev3_4]; rfl) (by decide) rfl (fun ls hl => ?_)
          refine lv_goto (tgt := 2) hx hb dX2_copyTo_38 (by decide) ?_
          obtain ⟨n9, hlt9, hI9⟩ := hw
          exact ih1 n9 hlt9 _ _ _ _ _ hI9 hW (lv_sub hl [2, 3, 4, 0] rfl)
        · have hw := hw.2 hc
          refine lv_aload_n hx hb dX2_copyTo_26 rfl (lv_at hl 2 rfl) ?_
          refine lv_iload hx hb dX2_copyTo_27 (lv_at hl 0 rfl) ?_
          refine lv_aload_n hx hb dX2_copyTo_29 rfl (lv_at hl 1 rfl) ?_
          refine lv_iload_n hx hb dX2_copyTo_30 rfl (lv_at hl 4 rfl) ?_
          refine kV_Mi (As := [.int v3_1]) (rest := [.int v4_2, .ref (a 7)]) ⟨hx, hb, hml, hown, hts⟩ (ok_X2_get_ l D cI cJ a _ _ _ _ hw) (cwV 1 hts gX2_copyTo_X2_get_ rfl rfl rfl (by decide +kernel) ⟨Nat.le_of_ble_eq_true rfl, Nat.le_of_ble_eq_true rfl⟩) hK hW hA 1 rfl rfl rfl hl.1 rfl (Nat.le_of_ble_eq_true rfl) dX2_copyTo_31 ⟨Nat.le_of_ble_eq_true rfl, Nat.le_of_ble_eq_true rfl⟩ (fun r_5 _ H locs hw hW => ?_)
          refine st_c_rows hx hb hK hW hw.1 dX2_copyTo_34 (fun σ_6 eσ_6 H locs hW => ?_)
          have hw := hw.2
          have hw := hw σ_6 eσ_6
          obtain ⟨v3_7, ev3_7⟩ : ∃ y : Int32, y = v3_1 + 1 := ⟨_, rfl⟩
          have hw := hw v3_7 ev3_7
          refine lv_iinc (v := v3_7) (lv' := [(3, .int v3_7), (4, .int v4_2), (0, .ref (a 1)), (1, .ref (a 7)), (2, .int p2)]) hx hb dX2_copyTo_35 hl (k := 4) rfl (by rw [ev3_7]; rfl) (by decide) rfl (fun ls hl => ?_)
          refine lv_goto (tgt := 2) hx hb dX2_copyTo_38 (by decide) ?_
          obtain ⟨n9, hlt9, hI9⟩ := hw
          exact ih1 n9 hlt9 _ _ _ _ _ hI9 hW (lv_sub hl [2, 3, 4, 0] rfl)
def wp_X2_copyTo_s (σ : CS) (p2 : Int32) (post : CS → Prop) : Prop := ∃ I1 : Nat → Int32 → CS → Prop, (∃ n : Nat, I1 n 0 (σ)) ∧ ∀ (n1 : Nat) (v3_1 : Int32) (σ_1 : CS), I1 n1 v3_1 σ_1 → ((174 ≤ v3_1 → post σ_1) ∧ (¬ 174 ≤ v3_1 → ∀ v4_2 : Int32, v4_2 = (p2 + v3_1) → ((v4_2 < 0 → ∀ v3_3 : Int32, v3_3 = v3_1 + 1 → ∃ n' : Nat, n' < n1 ∧ I1 n' v3_3 (σ_1)) ∧ (¬ v4_2 < 0 → ((174 ≤ v4_2 → ∀ v3_4 : Int32, v3_4 = v3_1 + 1 → ∃ n' : Nat, n' < n1 ∧ I1 n' v3_4 (σ_1)) ∧ (¬ 174 ≤ v4_2 → wp_X2_get_ σ_1 v3_1 (fun r_5 => vp_in v4_2 174 ∧ ∀ σ_6 : CS, σ_6 = cs_snap σ_1 (upd (c_snap σ_1) (v4_2).toNatClampNeg r_5) → ∀ v3_7 : Int32, v3_7 = v3_1 + 1 → ∃ n' : Nat, n' < n1 ∧ I1 n' v3_7 (σ_6))))))))
abbrev rm_X2_copyTo_s : Room := { frames := 2, cells := 0, slots := 0, locals := 44 }
set_option maxHeartbeats 4000000 in
set_option maxRecDepth 100000 in
theorem ok_X2_copyTo_s (l : Launch) (D : va_G) (cI cJ : ClassId) (a : Nat → Nat) (sz : Nat) (σ : CS) (p2 : Int32) (post : CS → Prop) (hw : wp_X2_copyTo_s σ p2 post) : Mv l yX2_copyTo wsX2_copyTo rm_X2_copyTo_s [.ref (a 1), .ref (a 8), .int p2] D (tysIJ cI cJ) (cW cI cJ a σ) sz post (cW cI cJ a) := by
  refine s_Mv (by decide) rfl (Nat.le_of_ble_eq_true rfl) ?_
  intro p e s m args below meth c A Q hx hb hml hts hown hin hK hA hret H locs ls hW hl
  have hown : s.vm.findClass RX2 = some m.cls := hown
  have hl : lv_has ls 5 [(0, .ref (a 1)), (1, .ref (a 8)), (2, .int p2)] := hl
  refine lv_iconst (v := 0) hx hb dX2_copyTo_0 (by decide) ?_
  refine lv_istore_n (lv' := [(3, .int 0), (0, .ref (a 1)), (1, .ref (a 8)), (2, .int p2)]) hx hb dX2_copyTo_1 rfl hl (by decide) rfl (fun ls hl => ?_)
  obtain ⟨I1, ⟨n1, hI1⟩, hJ1⟩ := hw
  have hl : lv_has ls 5 [(0, .ref (a 1)), (1, .ref (a 8)), (2, .int p2), (3, .int 0)] := lv_sub hl [1, 2, 3, 0] rfl
  suffices LP1 : ∀ (n : Nat) (v3_1 : Int32) (σ_1 : CS) (H : Heap) (locs : List Loc) (ls : Array Slot), I1 n v3_1 σ_1 → Wd D A s.heap (cW cI cJ a σ_1) H locs → lv_has ls 5 [(0, .ref (a 1)), (1, .ref (a 8)), (2, .int p2), (3, .int v3_1)] → W p l e rm_X2_copyTo_s s m args below meth c H locs 0 0 Q (F0 m 2 ls []) from LP1 n1 0 _ H locs ls hI1 hW hl
  intro n1
  induction n1 using Nat.strongRecOn with
  | ind n1 ih1 =>
    intro v3_1 σ_1 H locs ls hIn hW hl
    have hw := hJ1 n1 v3_1 σ_1 hIn
    refine lv_iload_n hx hb dX2_copyTo_2 rfl (lv_at hl 3 rfl) ?_
    refine lv_sipush (v := 174) hx hb dX2_copyTo_3 (by decide) ?_
    refine lv_icmp_ge (tgt := 41) hx hb dX2_copyTo_6 (by decide) (fun hc => ?_) (fun hc => ?_)
    · have hw := hw.1 hc
      exact hret σ_1 _ _ _ _ hw hW dX2_copyTo_41
    · have hw := hw.2 hc
      refine lv_iload_n hx hb dX2_copyTo_9 rfl (lv_at hl 2 rfl) ?_
      refine lv_iload_n hx hb dX2_copyTo_10 rfl (lv_at hl 3 rfl) ?_
      refine lv_iadd hx hb dX2_copyTo_11 ?_
      refine lv_topi (fun v4_2 ev4_2 => ?_)
      have hw := hw v4_2 ev4_2
      refine lv_istore (lv' := [(4, .int v4_2), (0, .ref (a 1)), (1, .ref (a 8)), (2, .int p2), (3, .int v3_1)]) hx hb dX2_copyTo_12 hl (by decide) rfl (fun ls hl => ?_)
      refine lv_iload hx hb dX2_copyTo_14 (lv_at hl 0 rfl) ?_
      refine lv_if_lt (tgt := 35) hx hb dX2_copyTo_16 (by decide) (fun hc => ?_) (fun hc => ?_)
      · have hw := hw.1 hc
        obtain ⟨v3_3, ev3_3⟩ : ∃ y : Int32, y = v3_1 + 1 := ⟨_, rfl⟩
        have hw := hw v3_3 ev3_3
        refine lv_iinc (v := v3_3) (lv' := [(3, .int v3_3), (4, .int v4_2), (0, .ref (a 1)), (1, .ref (a 8)), (2, .int p2)]) hx hb dX2_copyTo_35 hl (k := 4) rfl (by rw [ev3_3]; rfl) (by decide) rfl (fun ls hl => ?_)
        refine lv_goto (tgt := 2) hx hb dX2_copyTo_38 (by decide) ?_
        obtain ⟨n9, hlt9, hI9⟩ := hw
        exact ih1 n9 hlt9 _ _ _ _ _ hI9 hW (lv_sub hl [2, 3, 4, 0] rfl)
      · have hw := hw.2 hc
        refine lv_iload hx hb dX2_copyTo_19 (lv_at hl 0 rfl) ?_
        refine lv_aload_n hx hb dX2_copyTo_21 rfl (lv_at hl 2 rfl) ?_
        refine va_alen (v := 174) hx hb hK hW.1 8 0 rfl rfl rfl dX2_copyTo_22 ?_
        refine lv_icmp_ge (tgt := 35) hx hb dX2_copyTo_23 (by decide) (fun hc => ?_) (fun hc => ?_)
        · have hw := hw.1 hc
          obtain ⟨v3_4, ev3_4⟩ : ∃ y : Int32, y = v3_1 + 1 := ⟨_, rfl⟩
          have hw := hw v3_4 ev3_4
          refine lv_iinc (v := v3_4) (lv' := [(3, .int v3_4), (4, .int v4_2), (0, .ref (a 1)), (1, .ref (a 8)), (2, .int p2)]) hx hb dX2_copyTo_35 hl (k := 4) rfl (by rw [ev3_4]; rfl) (by decide) rfl (fun ls hl => ?_)
          refine lv_goto (tgt := 2) hx hb dX2_copyTo_38 (by decide) ?_
          obtain ⟨n9, hlt9, hI9⟩ := hw
          exact ih1 n9 hlt9 _ _ _ _ _ hI9 hW (lv_sub hl [2, 3, 4, 0] rfl)
        · have hw := hw.2 hc
          refine lv_aload_n hx hb dX2_copyTo_26 rfl (lv_at hl 2 rfl) ?_
          refine lv_iload hx hb dX2_copyTo_27 (lv_at hl 0 rfl) ?_
          refine lv_aload_n hx hb dX2_copyTo_29 rfl (lv_at hl 1 rfl) ?_
          refine lv_iload_n hx hb dX2_copyTo_30 rfl (lv_at hl 4 rfl) ?_
          refine kV_Mi (As := [.int v3_1]) (rest := [.int v4_2, .ref (a 8)]) ⟨hx, hb, hml, hown, hts⟩ (ok_X2_get_ l D cI cJ a _ _ _ _ hw) (cwV 1 hts gX2_copyTo_X2_get_ rfl rfl rfl (by decide +kernel) ⟨Nat.le_of_ble_eq_true rfl, Nat.le_of_ble_eq_true rfl⟩) hK hW hA 1 rfl rfl rfl hl.1 rfl (Nat.le_of_ble_eq_true rfl) dX2_copyTo_31 ⟨Nat.le_of_ble_eq_true rfl, Nat.le_of_ble_eq_true rfl⟩ (fun r_5 _ H locs hw hW => ?_)
          refine st_c_snap hx hb hK hW hw.1 dX2_copyTo_34 (fun σ_6 eσ_6 H locs hW => ?_)
          have hw := hw.2
          have hw := hw σ_6 eσ_6
          obtain ⟨v3_7, ev3_7⟩ : ∃ y : Int32, y = v3_1 + 1 := ⟨_, rfl⟩
          have hw := hw v3_7 ev3_7
          refine lv_iinc (v := v3_7) (lv' := [(3, .int v3_7), (4, .int v4_2), (0, .ref (a 1)), (1, .ref (a 8)), (2, .int p2)]) hx hb dX2_copyTo_35 hl (k := 4) rfl (by rw [ev3_7]; rfl) (by decide) rfl (fun ls hl => ?_)
          refine lv_goto (tgt := 2) hx hb dX2_copyTo_38 (by decide) ?_
          obtain ⟨n9, hlt9, hI9⟩ := hw
          exact ih1 n9 hlt9 _ _ _ _ _ hI9 hW (lv_sub hl [2, 3, 4, 0] rfl)
def wp_X2_copyFrom_r (σ : CS) (p2 : Int32) (post : CS → Prop) : Prop := ∃ I1 : Nat → Int32 → CS → Prop, (∃ n : Nat, I1 n 0 (σ)) ∧ ∀ (n1 : Nat) (v3_1 : Int32) (σ_1 : CS), I1 n1 v3_1 σ_1 → ((174 ≤ v3_1 → post σ_1) ∧ (¬ 174 ≤ v3_1 → ∀ v4_2 : Int32, v4_2 = (p2 + v3_1) → ((v4_2 < 0 → ∀ v3_3 : Int32, v3_3 = v3_1 + 1 → ∃ n' : Nat, n' < n1 ∧ I1 n' v3_3 (σ_1)) ∧ (¬ v4_2 < 0 → ((1044 ≤ v4_2 → ∀ v3_4 : Int32, v3_4 = v3_1 + 1 → ∃ n' : Nat, n' < n1 ∧ I1 n' v3_4 (σ_1)) ∧ (¬ 1044 ≤ v4_2 → vp_in v4_2 1044 ∧ wp_X2_put σ_1 v3_1 0 ((c_rows σ_1) (v4_2).toNatClampNeg) (fun σ_5 => ∀ v3_6 : Int32, v3_6 = v3_1 + 1 → ∃ n' : Nat, n' < n1 ∧ I1 n' v3_6 (σ_5))))))))
abbrev rm_X2_copyFrom_r : Room := { frames := 1, cells := 0, slots := 0, locals := 24 }
set_option maxHeartbeats 4000000 in
set_option maxRecDepth 100000 in
theorem ok_X2_copyFrom_r (l : Launch) (D : va_G) (cI cJ : ClassId) (a : Nat → Nat) (sz : Nat) (σ : CS) (p2 : Int32) (post : CS → Prop) (hw : wp_X2_copyFrom_r σ p2 post) : Mv l yX2_copyFrom wsX2_copyFrom rm_X2_copyFrom_r [.ref (a 1), .ref (a 7), .int p2] D (tysIJ cI cJ) (cW cI cJ a σ) sz post (cW cI cJ a) := by
  refine s_Mv (by decide) rfl (Nat.le_of_ble_eq_true rfl) ?_
  intro p e s m args below meth c A Q hx hb hml hts hown hin hK hA hret H locs ls hW hl
  have hown : s.vm.findClass RX2 = some m.cls := hown
  have hl : lv_has ls 5 [(0, .ref (a 1)), (1, .ref (a 7)), (2, .int p2)] := hl
  refine lv_iconst (v := 0) hx hb dX2_copyFrom_0 (by decide) ?_
  refine lv_istore_n (lv' := [(3, .int 0), (0, .ref (a 1)), (1, .ref (a 7)), (2, .int p2)]) hx hb dX2_copyFrom_1 rfl hl (by decide) rfl (fun ls hl => ?_)
  obtain ⟨I1, ⟨n1, hI1⟩, hJ1⟩ := hw
  have hl : lv_has ls 5 [(0, .ref (a 1)), (1, .ref (a 7)), (2, .int p2), (3, .int 0)] := lv_sub hl [1, 2, 3, 0] rfl
  suffices LP1 : ∀ (n : Nat) (v3_1 : Int32) (σ_1 : CS) (H : Heap) (locs : List Loc) (ls : Array Slot), I1 n v3_1 σ_1 → Wd D A s.heap (cW cI cJ a σ_1) H locs → lv_has ls 5 [(0, .ref (a 1)), (1, .ref (a 7)), (2, .int p2), (3, .int v3_1)] → W p l e rm_X2_copyFrom_r s m args below meth c H locs 0 0 Q (F0 m 2 ls []) from LP1 n1 0 _ H locs ls hI1 hW hl
  intro n1
  induction n1 using Nat.strongRecOn with
  | ind n1 ih1 =>
    intro v3_1 σ_1 H locs ls hIn hW hl
    have hw := hJ1 n1 v3_1 σ_1 hIn
    refine lv_iload_n hx hb dX2_copyFrom_2 rfl (lv_at hl 3 rfl) ?_
    refine lv_sipush (v := 174) hx hb dX2_copyFrom_3 (by decide) ?_
    refine lv_icmp_ge (tgt := 42) hx hb dX2_copyFrom_6 (by decide) (fun hc => ?_) (fun hc => ?_)
    · have hw := hw.1 hc
      exact hret σ_1 _ _ _ _ hw hW dX2_copyFrom_42
    · have hw := hw.2 hc
      refine lv_iload_n hx hb dX2_copyFrom_9 rfl (lv_at hl 2 rfl) ?_
      refine lv_iload_n hx hb dX2_copyFrom_10 rfl (lv_at hl 3 rfl) ?_
      refine lv_iadd hx hb dX2_copyFrom_11 ?_
      refine lv_topi (fun v4_2 ev4_2 => ?_)
      have hw := hw v4_2 ev4_2
      refine lv_istore (lv' := [(4, .int v4_2), (0, .ref (a 1)), (1, .ref (a 7)), (2, .int p2), (3, .int v3_1)]) hx hb dX2_copyFrom_12 hl (by decide) rfl (fun ls hl => ?_)
      refine lv_iload hx hb dX2_copyFrom_14 (lv_at hl 0 rfl) ?_
      refine lv_if_lt (tgt := 36) hx hb dX2_copyFrom_16 (by decide) (fun hc => ?_) (fun hc => ?_)
      · have hw := hw.1 hc
        obtain ⟨v3_3, ev3_3⟩ : ∃ y : Int32, y = v3_1 + 1 := ⟨_, rfl⟩
        have hw := hw v3_3 ev3_3
        refine lv_iinc (v := v3_3) (lv' := [(3, .int v3_3), (4, .int v4_2), (0, .ref (a 1)), (1, .ref (a 7)), (2, .int p2)]) hx hb dX2_copyFrom_36 hl (k := 4) rfl (by rw [ev3_3]; rfl) (by decide) rfl (fun ls hl => ?_)
        refine lv_goto (tgt := 2) hx hb dX2_copyFrom_39 (by decide) ?_
        obtain ⟨n9, hlt9, hI9⟩ := hw
        exact ih1 n9 hlt9 _ _ _ _ _ hI9 hW (lv_sub hl [2, 3, 4, 0] rfl)
      · have hw := hw.2 hc
        refine lv_iload hx hb dX2_copyFrom_19 (lv_at hl 0 rfl) ?_
        refine lv_aload_n hx hb dX2_copyFrom_21 rfl (lv_at hl 2 rfl) ?_
        refine va_alen (v := 1044) hx hb hK hW.1 7 0 rfl rfl rfl dX2_copyFrom_22 ?_
        refine lv_icmp_ge (tgt := 36) hx hb dX2_copyFrom_23 (by decide) (fun hc => ?_) (fun hc => ?_)
        · have hw := hw.1 hc
          obtain ⟨v3_4, ev3_4⟩ : ∃ y : Int32, y = v3_1 + 1 := ⟨_, rfl⟩
          have hw := hw v3_4 ev3_4
          refine lv_iinc (v := v3_4) (lv' := [(3, .int v3_4), (4, .int v4_2), (0, .ref (a 1)), (1, .ref (a 7)), (2, .int p2)]) hx hb dX2_copyFrom_36 hl (k := 4) rfl (by rw [ev3_4]; rfl) (by decide) rfl (fun ls hl => ?_)
          refine lv_goto (tgt := 2) hx hb dX2_copyFrom_39 (by decide) ?_
          obtain ⟨n9, hlt9, hI9⟩ := hw
          exact ih1 n9 hlt9 _ _ _ _ _ hI9 hW (lv_sub hl [2, 3, 4, 0] rfl)
        · have hw := hw.2 hc
          refine lv_aload_n hx hb dX2_copyFrom_26 rfl (lv_at hl 1 rfl) ?_
          refine lv_iload_n hx hb dX2_copyFrom_27 rfl (lv_at hl 4 rfl) ?_
          refine lv_iconst (v := 0) hx hb dX2_copyFrom_28 (by decide) ?_
          refine lv_aload_n hx hb dX2_copyFrom_29 rfl (lv_at hl 2 rfl) ?_
          refine lv_iload hx hb dX2_copyFrom_30 (lv_at hl 0 rfl) ?_
          refine va_iald hx hb hK hW.1 7 0 rfl rfl hw.1 dX2_copyFrom_32 ?_
          have hw := hw.2
          refine kV_Mv (As := [.int v3_1, .int 0, .int ((c_rows σ_1) (v4_2).toNatClampNeg)]) (rest := []) ⟨hx, hb, hml, hown, hts⟩ (ok_X2_put l D cI cJ a _ _ _ _ _ _ hw) (cwV 3 hts gX2_copyFrom_X2_put rfl rfl rfl (by decide +kernel) ⟨Nat.le_of_ble_eq_true rfl, Nat.le_of_ble_eq_true rfl⟩) hK hW hA 1 rfl rfl rfl hl.1 rfl (Nat.le_of_ble_eq_true rfl) dX2_copyFrom_33 ⟨Nat.le_of_ble_eq_true rfl, Nat.le_of_ble_eq_true rfl⟩ (fun σ_5 H locs hw hW => ?_)
          obtain ⟨v3_6, ev3_6⟩ : ∃ y : Int32, y = v3_1 + 1 := ⟨_, rfl⟩
          have hw := hw v3_6 ev3_6
          refine lv_iinc (v := v3_6) (lv' := [(3, .int v3_6), (4, .int v4_2), (0, .ref (a 1)), (1, .ref (a 7)), (2, .int p2)]) hx hb dX2_copyFrom_36 hl (k := 4) rfl (by rw [ev3_6]; rfl) (by decide) rfl (fun ls hl => ?_)
          refine lv_goto (tgt := 2) hx hb dX2_copyFrom_39 (by decide) ?_
          obtain ⟨n9, hlt9, hI9⟩ := hw
          exact ih1 n9 hlt9 _ _ _ _ _ hI9 hW (lv_sub hl [2, 3, 4, 0] rfl)
def wp_X2_copyFrom_s (σ : CS) (p2 : Int32) (post : CS → Prop) : Prop := ∃ I1 : Nat → Int32 → CS → Prop, (∃ n : Nat, I1 n 0 (σ)) ∧ ∀ (n1 : Nat) (v3_1 : Int32) (σ_1 : CS), I1 n1 v3_1 σ_1 → ((174 ≤ v3_1 → post σ_1) ∧ (¬ 174 ≤ v3_1 → ∀ v4_2 : Int32, v4_2 = (p2 + v3_1) → ((v4_2 < 0 → ∀ v3_3 : Int32, v3_3 = v3_1 + 1 → ∃ n' : Nat, n' < n1 ∧ I1 n' v3_3 (σ_1)) ∧ (¬ v4_2 < 0 → ((174 ≤ v4_2 → ∀ v3_4 : Int32, v3_4 = v3_1 + 1 → ∃ n' : Nat, n' < n1 ∧ I1 n' v3_4 (σ_1)) ∧ (¬ 174 ≤ v4_2 → vp_in v4_2 174 ∧ wp_X2_put σ_1 v3_1 0 ((c_snap σ_1) (v4_2).toNatClampNeg) (fun σ_5 => ∀ v3_6 : Int32, v3_6 = v3_1 + 1 → ∃ n' : Nat, n' < n1 ∧ I1 n' v3_6 (σ_5))))))))
abbrev rm_X2_copyFrom_s : Room := { frames := 1, cells := 0, slots := 0, locals := 24 }
set_option maxHeartbeats 4000000 in
set_option maxRecDepth 100000 in
theorem ok_X2_copyFrom_s (l : Launch) (D : va_G) (cI cJ : ClassId) (a : Nat → Nat) (sz : Nat) (σ : CS) (p2 : Int32) (post : CS → Prop) (hw : wp_X2_copyFrom_s σ p2 post) : Mv l yX2_copyFrom wsX2_copyFrom rm_X2_copyFrom_s [.ref (a 1), .ref (a 8), .int p2] D (tysIJ cI cJ) (cW cI cJ a σ) sz post (cW cI cJ a) := by
  refine s_Mv (by decide) rfl (Nat.le_of_ble_eq_true rfl) ?_
  intro p e s m args below meth c A Q hx hb hml hts hown hin hK hA hret H locs ls hW hl
  have hown : s.vm.findClass RX2 = some m.cls := hown
  have hl : lv_has ls 5 [(0, .ref (a 1)), (1, .ref (a 8)), (2, .int p2)] := hl
  refine lv_iconst (v := 0) hx hb dX2_copyFrom_0 (by decide) ?_
  refine lv_istore_n (lv' := [(3, .int 0), (0, .ref (a 1)), (1, .ref (a 8)), (2, .int p2)]) hx hb dX2_copyFrom_1 rfl hl (by decide) rfl (fun ls hl => ?_)
  obtain ⟨I1, ⟨n1, hI1⟩, hJ1⟩ := hw
  have hl : lv_has ls 5 [(0, .ref (a 1)), (1, .ref (a 8)), (2, .int p2), (3, .int 0)] := lv_sub hl [1, 2, 3, 0] rfl
  suffices LP1 : ∀ (n : Nat) (v3_1 : Int32) (σ_1 : CS) (H : Heap) (locs : List Loc) (ls : Array Slot), I1 n v3_1 σ_1 → Wd D A s.heap (cW cI cJ a σ_1) H locs → lv_has ls 5 [(0, .ref (a 1)), (1, .ref (a 8)), (2, .int p2), (3, .int v3_1)] → W p l e rm_X2_copyFrom_s s m args below meth c H locs 0 0 Q (F0 m 2 ls []) from LP1 n1 0 _ H locs ls hI1 hW hl
  intro n1
  induction n1 using Nat.strongRecOn with
  | ind n1 ih1 =>
    intro v3_1 σ_1 H locs ls hIn hW hl
    have hw := hJ1 n1 v3_1 σ_1 hIn
    refine lv_iload_n hx hb dX2_copyFrom_2 rfl (lv_at hl 3 rfl) ?_
    refine lv_sipush (v := 174) hx hb dX2_copyFrom_3 (by decide) ?_
    refine lv_icmp_ge (tgt := 42) hx hb dX2_copyFrom_6 (by decide) (fun hc => ?_) (fun hc => ?_)
    · have hw := hw.1 hc
      exact hret σ_1 _ _ _ _ hw hW dX2_copyFrom_42
    · have hw := hw.2 hc
      refine lv_iload_n hx hb dX2_copyFrom_9 rfl (lv_at hl 2 rfl) ?_
      refine lv_iload_n hx hb dX2_copyFrom_10 rfl (lv_at hl 3 rfl) ?_
      refine lv_iadd hx hb dX2_copyFrom_11 ?_
      refine lv_topi (fun v4_2 ev4_2 => ?_)
      have hw := hw v4_2 ev4_2
      refine lv_istore (lv' := [(4, .int v4_2), (0, .ref (a 1)), (1, .ref (a 8)), (2, .int p2), (3, .int v3_1)]) hx hb dX2_copyFrom_12 hl (by decide) rfl (fun ls hl => ?_)
      refine lv_iload hx hb dX2_copyFrom_14 (lv_at hl 0 rfl) ?_
      refine lv_if_lt (tgt := 36) hx hb dX2_copyFrom_16 (by decide) (fun hc => ?_) (fun hc => ?_)
      · have hw := hw.1 hc
        obtain ⟨v3_3, ev3_3⟩ : ∃ y : Int32, y = v3_1 + 1 := ⟨_, rfl⟩
        have hw := hw v3_3 ev3_3
        refine lv_iinc (v := v3_3) (lv' := [(3, .int v3_3), (4, .int v4_2), (0, .ref (a 1)), (1, .ref (a 8)), (2, .int p2)]) hx hb dX2_copyFrom_36 hl (k := 4) rfl (by rw [ev3_3]; rfl) (by decide) rfl (fun ls hl => ?_)
        refine lv_goto (tgt := 2) hx hb dX2_copyFrom_39 (by decide) ?_
        obtain ⟨n9, hlt9, hI9⟩ := hw
        exact ih1 n9 hlt9 _ _ _ _ _ hI9 hW (lv_sub hl [2, 3, 4, 0] rfl)
      · have hw := hw.2 hc
        refine lv_iload hx hb dX2_copyFrom_19 (lv_at hl 0 rfl) ?_
        refine lv_aload_n hx hb dX2_copyFrom_21 rfl (lv_at hl 2 rfl) ?_
        refine va_alen (v := 174) hx hb hK hW.1 8 0 rfl rfl rfl dX2_copyFrom_22 ?_
        refine lv_icmp_ge (tgt := 36) hx hb dX2_copyFrom_23 (by decide) (fun hc => ?_) (fun hc => ?_)
        · have hw := hw.1 hc
          obtain ⟨v3_4, ev3_4⟩ : ∃ y : Int32, y = v3_1 + 1 := ⟨_, rfl⟩
          have hw := hw v3_4 ev3_4
          refine lv_iinc (v := v3_4) (lv' := [(3, .int v3_4), (4, .int v4_2), (0, .ref (a 1)), (1, .ref (a 8)), (2, .int p2)]) hx hb dX2_copyFrom_36 hl (k := 4) rfl (by rw [ev3_4]; rfl) (by decide) rfl (fun ls hl => ?_)
          refine lv_goto (tgt := 2) hx hb dX2_copyFrom_39 (by decide) ?_
          obtain ⟨n9, hlt9, hI9⟩ := hw
          exact ih1 n9 hlt9 _ _ _ _ _ hI9 hW (lv_sub hl [2, 3, 4, 0] rfl)
        · have hw := hw.2 hc
          refine lv_aload_n hx hb dX2_copyFrom_26 rfl (lv_at hl 1 rfl) ?_
          refine lv_iload_n hx hb dX2_copyFrom_27 rfl (lv_at hl 4 rfl) ?_
          refine lv_iconst (v := 0) hx hb dX2_copyFrom_28 (by decide) ?_
          refine lv_aload_n hx hb dX2_copyFrom_29 rfl (lv_at hl 2 rfl) ?_
          refine lv_iload hx hb dX2_copyFrom_30 (lv_at hl 0 rfl) ?_
          refine va_iald hx hb hK hW.1 8 0 rfl rfl hw.1 dX2_copyFrom_32 ?_
          have hw := hw.2
          refine kV_Mv (As := [.int v3_1, .int 0, .int ((c_snap σ_1) (v4_2).toNatClampNeg)]) (rest := []) ⟨hx, hb, hml, hown, hts⟩ (ok_X2_put l D cI cJ a _ _ _ _ _ _ hw) (cwV 3 hts gX2_copyFrom_X2_put rfl rfl rfl (by decide +kernel) ⟨Nat.le_of_ble_eq_true rfl, Nat.le_of_ble_eq_true rfl⟩) hK hW hA 1 rfl rfl rfl hl.1 rfl (Nat.le_of_ble_eq_true rfl) dX2_copyFrom_33 ⟨Nat.le_of_ble_eq_true rfl, Nat.le_of_ble_eq_true rfl⟩ (fun σ_5 H locs hw hW => ?_)
          obtain ⟨v3_6, ev3_6⟩ : ∃ y : Int32, y = v3_1 + 1 := ⟨_, rfl⟩
          have hw := hw v3_6 ev3_6
          refine lv_iinc (v := v3_6) (lv' := [(3, .int v3_6), (4, .int v4_2), (0, .ref (a 1)), (1, .ref (a 8)), (2, .int p2)]) hx hb dX2_copyFrom_36 hl (k := 4) rfl (by rw [ev3_6]; rfl) (by decide) rfl (fun ls hl => ?_)
          refine lv_goto (tgt := 2) hx hb dX2_copyFrom_39 (by decide) ?_
          obtain ⟨n9, hlt9, hI9⟩ := hw
          exact ih1 n9 hlt9 _ _ _ _ _ hI9 hW (lv_sub hl [2, 3, 4, 0] rfl)
