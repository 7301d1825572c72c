def wp_X4_needPlace (σ : CS) (p1 : Int32) (p2 : Int32) (post : Prop) (px : String → Prop) : Prop := ((p1 < 0 → px "java/lang/IndexOutOfBoundsException") ∧ (¬ p1 < 0 → ((p1 < p2 → post) ∧ (¬ p1 < p2 → px "java/lang/IndexOutOfBoundsException"))))
abbrev rm_X4_needPlace_n : Room := { frames := 8, cells := 0, slots := 0, locals := 140 }
set_option maxHeartbeats 4000000 in
set_option maxRecDepth 100000 in
theorem ok_X4_needPlace_n (l : Launch) (D : va_G) (cI cJ : ClassId) (a : Nat → Nat) (sz : Nat) (σ : CS) (p1 : Int32) (p2 : Int32) (post : Prop) (hw : wp_X4_needPlace σ p1 p2 post (fun _ => False)) : Mv l yX4_needPlace wsX4_needPlace rm_X4_needPlace_n [.int p1, .int p2] D (tysIJ cI cJ) (cW cI cJ a σ) sz (fun (_ : Unit) => post) (fun _ => cW cI cJ a σ) := by
  refine s_Mv (by decide) rfl (Nat.le_of_ble_eq_true rfl) ?_
  intro p e s m args below meth c A Q hx hb hml hts hown hin hK hA hret H locs ls hW hl
  have hown : s.vm.findClass RX4 = some m.cls := hown
  have hl : lv_has ls 2 [(0, .int p1), (1, .int p2)] := hl
  refine lv_iload_n hx hb dX4_needPlace_0 rfl (lv_at hl 0 rfl) ?_
  refine lv_if_lt (tgt := 9) hx hb dX4_needPlace_1 (by decide) (fun hc => ?_) (fun hc => ?_)
  · have hw := hw.1 hc
    exact hw.elim
  · have hw := hw.2 hc
    refine lv_iload_n hx hb dX4_needPlace_4 rfl (lv_at hl 0 rfl) ?_
    refine lv_iload_n hx hb dX4_needPlace_5 rfl (lv_at hl 1 rfl) ?_
    refine lv_icmp_lt (tgt := 20) hx hb dX4_needPlace_6 (by decide) (fun hc => ?_) (fun hc => ?_)
    · have hw := hw.1 hc
      exact hret () _ _ _ _ hw hW dX4_needPlace_20
    · have hw := hw.2 hc
      exact hw.elim
def wp_X4_needRange (σ : CS) (p1 : Int32) (p2 : Int32) (p3 : Int32) (post : Prop) (px : String → Prop) : Prop := ((p1 < p2 → px "java/lang/IllegalArgumentException") ∧ (¬ p1 < p2 → ((p1 ≤ p3 → post) ∧ (¬ p1 ≤ p3 → px "java/lang/IllegalArgumentException"))))
abbrev rm_X4_needRange_n : Room := { frames := 8, cells := 0, slots := 0, locals := 140 }
set_option maxHeartbeats 4000000 in
set_option maxRecDepth 100000 in
theorem ok_X4_needRange_n (l : Launch) (D : va_G) (cI cJ : ClassId) (a : Nat → Nat) (sz : Nat) (σ : CS) (p1 : Int32) (p2 : Int32) (p3 : Int32) (post : Prop) (hw : wp_X4_needRange σ p1 p2 p3 post (fun _ => False)) : Mv l yX4_needRange wsX4_needRange rm_X4_needRange_n [.int p1, .int p2, .int p3] D (tysIJ cI cJ) (cW cI cJ a σ) sz (fun (_ : Unit) => post) (fun _ => cW cI cJ a σ) := by
  refine s_Mv (by decide) rfl (Nat.le_of_ble_eq_true rfl) ?_
  intro p e s m args below meth c A Q hx hb hml hts hown hin hK hA hret H locs ls hW hl
  have hown : s.vm.findClass RX4 = some m.cls := hown
  have hl : lv_has ls 3 [(0, .int p1), (1, .int p2), (2, .int p3)] := hl
  refine lv_iload_n hx hb dX4_needRange_0 rfl (lv_at hl 0 rfl) ?_
  refine lv_iload_n hx hb dX4_needRange_1 rfl (lv_at hl 1 rfl) ?_
  refine lv_icmp_lt (tgt := 10) hx hb dX4_needRange_2 (by decide) (fun hc => ?_) (fun hc => ?_)
  · have hw := hw.1 hc
    exact hw.elim
  · have hw := hw.2 hc
    refine lv_iload_n hx hb dX4_needRange_5 rfl (lv_at hl 0 rfl) ?_
    refine lv_iload_n hx hb dX4_needRange_6 rfl (lv_at hl 2 rfl) ?_
    refine lv_icmp_le (tgt := 21) hx hb dX4_needRange_7 (by decide) (fun hc => ?_) (fun hc => ?_)
    · have hw := hw.1 hc
      exact hret () _ _ _ _ hw hW dX4_needRange_21
    · have hw := hw.2 hc
      exact hw.elim
def wp_X4_price (σ : CS) (p1 : Int32) (p2 : Int32) (post : Int32 → CS → Prop) (px : String → Prop) : Prop := wp_X4_needPlace σ p1 6 (wp_X4_needRange σ p2 0 99 (wp_X0_save σ (fun σ_1 => wp_X2_get σ_1 0 p1 (fun r_2 => wp_X2_put σ_1 0 p1 p2 (fun σ_3 => post r_2 σ_3)))) px) px
abbrev rm_X4_price_n : Room := { frames := 9, cells := 0, slots := 0, locals := 162 }
theorem in_X4_price_n_X4 : ∀ w ∈ wsX40, w ∈ wsX4_price := fun w h => List.mem_cons_of_mem _ (List.mem_append_left _ (List.mem_append_left _ (List.mem_append_left _ (List.mem_append_left _ (List.mem_append_right _ (h))))))
set_option maxHeartbeats 4000000 in
set_option maxRecDepth 100000 in
theorem ok_X4_price_n (l : Launch) (D : va_G) (cI cJ : ClassId) (a : Nat → Nat) (sz : Nat) (σ : CS) (p1 : Int32) (p2 : Int32) (post : Int32 → CS → Prop) (hw : wp_X4_price σ p1 p2 post (fun _ => False)) : Mi l yX4_price wsX4_price rm_X4_price_n [.ref (a 0), .int p1, .int p2] D (tysIJ cI cJ) (cW cI cJ a σ) sz post (cW cI cJ a) := by
  refine s_Mi (by decide) rfl (Nat.le_of_ble_eq_true rfl) ?_
  intro p e s m args below meth c A Q hx hb hml hts hown hin hK hA hret H locs ls hW hl
  have hown : s.vm.findClass RX4 = some m.cls := hown
  have hl : lv_has ls 4 [(0, .ref (a 0)), (1, .int p1), (2, .int p2)] := hl
  have hinX4 := in_X4_price_n_X4
  refine lv_iload_n hx hb dX4_price_0 rfl (lv_at hl 1 rfl) ?_
  refine lv_bipush (v := 6) hx hb dX4_price_1 (by decide) ?_
  refine kS_Mv (As := [.int p1, .int 6]) (rest := []) ⟨hx, hb, hml, hown, hts⟩ (ok_X4_needPlace_n l D cI cJ a _ _ _ _ _ hw) (va_cwS 2 hts gX4_price_X4_needPlace rfl rfl rfl (by decide +kernel) ⟨Nat.le_of_ble_eq_true rfl, Nat.le_of_ble_eq_true rfl⟩) hK hW hA rfl hl.1 rfl (Nat.le_of_ble_eq_true rfl) dX4_price_3 ⟨Nat.le_of_ble_eq_true rfl, Nat.le_of_ble_eq_true rfl⟩ (fun _ H locs hw hW => ?_)
  refine lv_iload_n hx hb dX4_price_6 rfl (lv_at hl 2 rfl) ?_
  refine lv_iconst (v := 0) hx hb dX4_price_7 (by decide) ?_
  refine lv_bipush (v := 99) hx hb dX4_price_8 (by decide) ?_
  refine kS_Mv (As := [.int p2, .int 0, .int 99]) (rest := []) ⟨hx, hb, hml, hown, hts⟩ (ok_X4_needRange_n l D cI cJ a _ _ _ _ _ _ hw) (va_cwS 3 hts gX4_price_X4_needRange rfl rfl rfl (by decide +kernel) ⟨Nat.le_of_ble_eq_true rfl, Nat.le_of_ble_eq_true rfl⟩) hK hW hA rfl hl.1 rfl (Nat.le_of_ble_eq_true rfl) dX4_price_10 ⟨Nat.le_of_ble_eq_true rfl, Nat.le_of_ble_eq_true rfl⟩ (fun _ H locs hw hW => ?_)
  refine lv_aload_n hx hb dX4_price_13 rfl (lv_at hl 0 rfl) ?_
  refine va_get (D := D) (ci := 4) (v := .ref (a 6)) (C := RX4) (T := TX4) (N := 4) hx hb hts hinX4 hown hK hW.1 0 rfl rfl 2 (by decide) (hts _ (List.mem_of_getElem? (i := 1) rfl)) (fun _ h9 => h9) rfl dX4_price_14 ?_
  refine lv_aload_n hx hb dX4_price_17 rfl (lv_at hl 0 rfl) ?_
  refine va_get (D := D) (ci := 4) (v := .ref (a 1)) (C := RX4) (T := TX4) (N := 4) hx hb hts hinX4 hown hK hW.1 0 rfl rfl 0 (by decide) (hts _ (List.mem_of_getElem? (i := 2) rfl)) (fun _ h9 => h9) rfl dX4_price_18 ?_
  refine kV_Mv (As := [.ref (a 1)]) (rest := []) ⟨hx, hb, hml, hown, hts⟩ (ok_X0_save l D cI cJ a _ _ _ hw) (cwV 1 hts gX4_price_X0_save rfl rfl rfl (by decide +kernel) ⟨Nat.le_of_ble_eq_true rfl, Nat.le_of_ble_eq_true rfl⟩) hK hW hA 6 rfl rfl rfl hl.1 rfl (Nat.le_of_ble_eq_true rfl) dX4_price_21 ⟨Nat.le_of_ble_eq_true rfl, Nat.le_of_ble_eq_true rfl⟩ (fun σ_1 H locs hw hW => ?_)
  refine lv_aload_n hx hb dX4_price_24 rfl (lv_at hl 0 rfl) ?_
  refine va_get (D := D) (ci := 4) (v := .ref (a 1)) (C := RX4) (T := TX4) (N := 4) hx hb hts hinX4 hown hK hW.1 0 rfl rfl 0 (by decide) (hts _ (List.mem_of_getElem? (i := 2) rfl)) (fun _ h9 => h9) rfl dX4_price_25 ?_
  refine lv_iconst (v := 0) hx hb dX4_price_28 (by decide) ?_
  refine lv_iload_n hx hb dX4_price_29 rfl (lv_at hl 1 rfl) ?_
  refine kV_Mi (As := [.int 0, .int p1]) (rest := []) ⟨hx, hb, hml, hown, hts⟩ (ok_X2_get l D cI cJ a _ _ _ _ _ hw) (cwV 2 hts gX4_price_X2_get rfl rfl rfl (by decide +kernel) ⟨Nat.le_of_ble_eq_true rfl, Nat.le_of_ble_eq_true rfl⟩) hK hW hA 1 rfl rfl rfl hl.1 rfl (Nat.le_of_ble_eq_true rfl) dX4_price_30 ⟨Nat.le_of_ble_eq_true rfl, Nat.le_of_ble_eq_true rfl⟩ (fun r_2 _ H locs hw hW => ?_)
  refine lv_istore_n (lv' := [(3, .int r_2), (0, .ref (a 0)), (1, .int p1), (2, .int p2)]) hx hb dX4_price_33 rfl hl (by decide) rfl (fun ls hl => ?_)
  refine lv_aload_n hx hb dX4_price_34 rfl (lv_at hl 1 rfl) ?_
  refine va_get (D := D) (ci := 4) (v := .ref (a 1)) (C := RX4) (T := TX4) (N := 4) hx hb hts hinX4 hown hK hW.1 0 rfl rfl 0 (by decide) (hts _ (List.mem_of_getElem? (i := 2) rfl)) (fun _ h9 => h9) rfl dX4_price_35 ?_
  refine lv_iconst (v := 0) hx hb dX4_price_38 (by decide) ?_
  refine lv_iload_n hx hb dX4_price_39 rfl (lv_at hl 2 rfl) ?_
  refine lv_iload_n hx hb dX4_price_40 rfl (lv_at hl 3 rfl) ?_
  refine kV_Mv (As := [.int 0, .int p1, .int p2]) (rest := []) ⟨hx, hb, hml, hown, hts⟩ (ok_X2_put l D cI cJ a _ _ _ _ _ _ hw) (cwV 3 hts gX4_price_X2_put rfl rfl rfl (by decide +kernel) ⟨Nat.le_of_ble_eq_true rfl, Nat.le_of_ble_eq_true rfl⟩) hK hW hA 1 rfl rfl rfl hl.1 rfl (Nat.le_of_ble_eq_true rfl) dX4_price_41 ⟨Nat.le_of_ble_eq_true rfl, Nat.le_of_ble_eq_true rfl⟩ (fun σ_3 H locs hw hW => ?_)
  refine lv_iload_n hx hb dX4_price_44 rfl (lv_at hl 0 rfl) ?_
  exact hret _ σ_3 _ _ _ _ hw hW dX4_price_45
def wp_X4_needState (σ : CS) (p1 : Int32) (post : Prop) (px : String → Prop) : Prop := ((¬ p1 = 0 → post) ∧ (p1 = 0 → px "java/lang/IllegalStateException"))
abbrev rm_X4_needState_n : Room := { frames := 8, cells := 0, slots := 0, locals := 140 }
set_option maxHeartbeats 4000000 in
set_option maxRecDepth 100000 in
theorem ok_X4_needState_n (l : Launch) (D : va_G) (cI cJ : ClassId) (a : Nat → Nat) (sz : Nat) (σ : CS) (p1 : Int32) (post : Prop) (hw : wp_X4_needState σ p1 post (fun _ => False)) : Mv l yX4_needState wsX4_needState rm_X4_needState_n [.int p1] D (tysIJ cI cJ) (cW cI cJ a σ) sz (fun (_ : Unit) => post) (fun _ => cW cI cJ a σ) := by
  refine s_Mv (by decide) rfl (Nat.le_of_ble_eq_true rfl) ?_
  intro p e s m args below meth c A Q hx hb hml hts hown hin hK hA hret H locs ls hW hl
  have hown : s.vm.findClass RX4 = some m.cls := hown
  have hl : lv_has ls 1 [(0, .int p1)] := hl
  refine lv_iload_n hx hb dX4_needState_0 rfl (lv_at hl 0 rfl) ?_
  refine lv_if_ne (tgt := 15) hx hb dX4_needState_1 (by decide) (fun hc => ?_) (fun hc => ?_)
  · have hw := hw.1 hc
    exact hret () _ _ _ _ hw hW dX4_needState_15
  · have hw := hw.2 hc
    exact hw.elim
def wp_X4_pay (σ : CS) (p1 : Int32) (p2 : Int32) (post : Int32 → CS → Prop) (px : String → Prop) : Prop := wp_X4_needPlace σ p1 6 (wp_X4_needRange σ p2 1 99 (wp_X2_get_ σ 166 (fun r_1 => ((9999 < (r_1 + p2) → wp_X4_needState σ 0 (wp_X0_save σ (fun σ_2 => wp_X2_add σ_2 166 0 p2 (fun σ_3 => wp_X2_add σ_3 30 p1 p2 (fun σ_4 => wp_X2_get σ_4 30 p1 (fun r_5 => post r_5 σ_4))))) px) ∧ (¬ 9999 < (r_1 + p2) → wp_X4_needState σ 1 (wp_X0_save σ (fun σ_6 => wp_X2_add σ_6 166 0 p2 (fun σ_7 => wp_X2_add σ_7 30 p1 p2 (fun σ_8 => wp_X2_get σ_8 30 p1 (fun r_9 => post r_9 σ_8))))) px)))) px) px
abbrev rm_X4_pay_n : Room := { frames := 9, cells := 0, slots := 0, locals := 162 }
theorem in_X4_pay_n_X4 : ∀ w ∈ wsX40, w ∈ wsX4_pay := fun w h => List.mem_cons_of_mem _ (List.mem_append_left _ (List.mem_append_left _ (List.mem_append_left _ (List.mem_append_left _ (List.mem_append_left _ (List.mem_append_right _ (h)))))))
set_option maxHeartbeats 4000000 in
set_option maxRecDepth 100000 in
theorem ok_X4_pay_n (l : Launch) (D : va_G) (cI cJ : ClassId) (a : Nat → Nat) (sz : Nat) (σ : CS) (p1 : Int32) (p2 : Int32) (post : Int32 → CS → Prop) (hw : wp_X4_pay σ p1 p2 post (fun _ => False)) : Mi l yX4_pay wsX4_pay rm_X4_pay_n [.ref (a 0), .int p1, .int p2] D (tysIJ cI cJ) (cW cI cJ a σ) sz post (cW cI cJ a) := by
  refine s_Mi (by decide) rfl (Nat.le_of_ble_eq_true rfl) ?_
  intro p e s m args below meth c A Q hx hb hml hts hown hin hK hA hret H locs ls hW hl
  have hown : s.vm.findClass RX4 = some m.cls := hown
  have hl : lv_has ls 3 [(0, .ref (a 0)), (1, .int p1), (2, .int p2)] := hl
  have hinX4 := in_X4_pay_n_X4
  refine lv_iload_n hx hb dX4_pay_0 rfl (lv_at hl 1 rfl) ?_
  refine lv_bipush (v := 6) hx hb dX4_pay_1 (by decide) ?_
  refine kS_Mv (As := [.int p1, .int 6]) (rest := []) ⟨hx, hb, hml, hown, hts⟩ (ok_X4_needPlace_n l D cI cJ a _ _ _ _ _ hw) (va_cwS 2 hts gX4_pay_X4_needPlace rfl rfl rfl (by decide +kernel) ⟨Nat.le_of_ble_eq_true rfl, Nat.le_of_ble_eq_true rfl⟩) hK hW hA rfl hl.1 rfl (Nat.le_of_ble_eq_true rfl) dX4_pay_3 ⟨Nat.le_of_ble_eq_true rfl, Nat.le_of_ble_eq_true rfl⟩ (fun _ H locs hw hW => ?_)
  refine lv_iload_n hx hb dX4_pay_6 rfl (lv_at hl 2 rfl) ?_
  refine lv_iconst (v := 1) hx hb dX4_pay_7 (by decide) ?_
  refine lv_bipush (v := 99) hx hb dX4_pay_8 (by decide) ?_
  refine kS_Mv (As := [.int p2, .int 1, .int 99]) (rest := []) ⟨hx, hb, hml, hown, hts⟩ (ok_X4_needRange_n l D cI cJ a _ _ _ _ _ _ hw) (va_cwS 3 hts gX4_pay_X4_needRange rfl rfl rfl (by decide +kernel) ⟨Nat.le_of_ble_eq_true rfl, Nat.le_of_ble_eq_true rfl⟩) hK hW hA rfl hl.1 rfl (Nat.le_of_ble_eq_true rfl) dX4_pay_10 ⟨Nat.le_of_ble_eq_true rfl, Nat.le_of_ble_eq_true rfl⟩ (fun _ H locs hw hW => ?_)
  refine lv_aload_n hx hb dX4_pay_13 rfl (lv_at hl 0 rfl) ?_
  refine va_get (D := D) (ci := 4) (v := .ref (a 1)) (C := RX4) (T := TX4) (N := 4) hx hb hts hinX4 hown hK hW.1 0 rfl rfl 0 (by decide) (hts _ (List.mem_of_getElem? (i := 1) rfl)) (fun _ h9 => h9) rfl dX4_pay_14 ?_
  refine lv_sipush (v := 166) hx hb dX4_pay_17 (by decide) ?_
  refine kV_Mi (As := [.int 166]) (rest := []) ⟨hx, hb, hml, hown, hts⟩ (ok_X2_get_ l D cI cJ a _ _ _ _ hw) (cwV 1 hts gX4_pay_X2_get_ rfl rfl rfl (by decide +kernel) ⟨Nat.le_of_ble_eq_true rfl, Nat.le_of_ble_eq_true rfl⟩) hK hW hA 1 rfl rfl rfl hl.1 rfl (Nat.le_of_ble_eq_true rfl) dX4_pay_20 ⟨Nat.le_of_ble_eq_true rfl, Nat.le_of_ble_eq_true rfl⟩ (fun r_1 _ H locs hw hW => ?_)
  refine lv_iload_n hx hb dX4_pay_23 rfl (lv_at hl 2 rfl) ?_
  refine lv_iadd hx hb dX4_pay_24 ?_
  refine lv_sipush (v := 9999) hx hb dX4_pay_25 (by decide) ?_
  refine lv_icmp_gt (tgt := 35) hx hb dX4_pay_28 (by decide) (fun hc => ?_) (fun hc => ?_)
  · have hw := hw.1 hc
    refine lv_iconst (v := 0) hx hb dX4_pay_35 (by decide) ?_
    refine kS_Mv (As := [.int 0]) (rest := []) ⟨hx, hb, hml, hown, hts⟩ (ok_X4_needState_n l D cI cJ a _ _ _ _ hw) (va_cwS 1 hts gX4_pay_X4_needState rfl rfl rfl (by decide +kernel) ⟨Nat.le_of_ble_eq_true rfl, Nat.le_of_ble_eq_true rfl⟩) hK hW hA rfl hl.1 rfl (Nat.le_of_ble_eq_true rfl) dX4_pay_36 ⟨Nat.le_of_ble_eq_true rfl, Nat.le_of_ble_eq_true rfl⟩ (fun _ H locs hw hW => ?_)
    refine lv_aload_n hx hb dX4_pay_39 rfl (lv_at hl 0 rfl) ?_
    refine va_get (D := D) (ci := 4) (v := .ref (a 6)) (C := RX4) (T := TX4) (N := 4) hx hb hts hinX4 hown hK hW.1 0 rfl rfl 2 (by decide) (hts _ (List.mem_of_getElem? (i := 2) rfl)) (fun _ h9 => h9) rfl dX4_pay_40 ?_
    refine lv_aload_n hx hb dX4_pay_43 rfl (lv_at hl 0 rfl) ?_
    refine va_get (D := D) (ci := 4) (v := .ref (a 1)) (C := RX4) (T := TX4) (N := 4) hx hb hts hinX4 hown hK hW.1 0 rfl rfl 0 (by decide) (hts _ (List.mem_of_getElem? (i := 1) rfl)) (fun _ h9 => h9) rfl dX4_pay_44 ?_
    refine kV_Mv (As := [.ref (a 1)]) (rest := []) ⟨hx, hb, hml, hown, hts⟩ (ok_X0_save l D cI cJ a _ _ _ hw) (cwV 1 hts gX4_pay_X0_save rfl rfl rfl (by decide +kernel) ⟨Nat.le_of_ble_eq_true rfl, Nat.le_of_ble_eq_true rfl⟩) hK hW hA 6 rfl rfl rfl hl.1 rfl (Nat.le_of_ble_eq_true rfl) dX4_pay_47 ⟨Nat.le_of_ble_eq_true rfl, Nat.le_of_ble_eq_true rfl⟩ (fun σ_2 H locs hw hW => ?_)
    refine lv_aload_n hx hb dX4_pay_50 rfl (lv_at hl 0 rfl) ?_
    refine va_get (D := D) (ci := 4) (v := .ref (a 1)) (C := RX4) (T := TX4) (N := 4) hx hb hts hinX4 hown hK hW.1 0 rfl rfl 0 (by decide) (hts _ (List.mem_of_getElem? (i := 1) rfl)) (fun _ h9 => h9) rfl dX4_pay_51 ?_
    refine lv_sipush (v := 166) hx hb dX4_pay_54 (by decide) ?_
    refine lv_iconst (v := 0) hx hb dX4_pay_57 (by decide) ?_
    refine lv_iload_n hx hb dX4_pay_58 rfl (lv_at hl 2 rfl) ?_
    refine kV_Mv (As := [.int 166, .int 0, .int p2]) (rest := []) ⟨hx, hb, hml, hown, hts⟩ (ok_X2_add l D cI cJ a _ _ _ _ _ _ hw) (cwV 3 hts gX4_pay_X2_add rfl rfl rfl (by decide +kernel) ⟨Nat.le_of_ble_eq_true rfl, Nat.le_of_ble_eq_true rfl⟩) hK hW hA 1 rfl rfl rfl hl.1 rfl (Nat.le_of_ble_eq_true rfl) dX4_pay_59 ⟨Nat.le_of_ble_eq_true rfl, Nat.le_of_ble_eq_true rfl⟩ (fun σ_3 H locs hw hW => ?_)
    refine lv_aload_n hx hb dX4_pay_62 rfl (lv_at hl 0 rfl) ?_
    refine va_get (D := D) (ci := 4) (v := .ref (a 1)) (C := RX4) (T := TX4) (N := 4) hx hb hts hinX4 hown hK hW.1 0 rfl rfl 0 (by decide) (hts _ (List.mem_of_getElem? (i := 1) rfl)) (fun _ h9 => h9) rfl dX4_pay_63 ?_
    refine lv_bipush (v := 30) hx hb dX4_pay_66 (by decide) ?_
    refine lv_iload_n hx hb dX4_pay_68 rfl (lv_at hl 1 rfl) ?_
    refine lv_iload_n hx hb dX4_pay_69 rfl (lv_at hl 2 rfl) ?_
    refine kV_Mv (As := [.int 30, .int p1, .int p2]) (rest := []) ⟨hx, hb, hml, hown, hts⟩ (ok_X2_add l D cI cJ a _ _ _ _ _ _ hw) (cwV 3 hts gX4_pay_X2_add rfl rfl rfl (by decide +kernel) ⟨Nat.le_of_ble_eq_true rfl, Nat.le_of_ble_eq_true rfl⟩) hK hW hA 1 rfl rfl rfl hl.1 rfl (Nat.le_of_ble_eq_true rfl) dX4_pay_70 ⟨Nat.le_of_ble_eq_true rfl, Nat.le_of_ble_eq_true rfl⟩ (fun σ_4 H locs hw hW => ?_)
    refine lv_aload_n hx hb dX4_pay_73 rfl (lv_at hl 0 rfl) ?_
    refine va_get (D := D) (ci := 4) (v := .ref (a 1)) (C := RX4) (T := TX4) (N := 4) hx hb hts hinX4 hown hK hW.1 0 rfl rfl 0 (by decide) (hts _ (List.mem_of_getElem? (i := 1) rfl)) (fun _ h9 => h9) rfl dX4_pay_74 ?_
    refine lv_bipush (v := 30) hx hb dX4_pay_77 (by decide) ?_
    refine lv_iload_n hx hb dX4_pay_79 rfl (lv_at hl 1 rfl) ?_
    refine kV_Mi (As := [.int 30, .int p1]) (rest := []) ⟨hx, hb, hml, hown, hts⟩ (ok_X2_get l D cI cJ a _ _ _ _ _ hw) (cwV 2 hts gX4_pay_X2_get rfl rfl rfl (by decide +kernel) ⟨Nat.le_of_ble_eq_true rfl, Nat.le_of_ble_eq_true rfl⟩) hK hW hA 1 rfl rfl rfl hl.1 rfl (Nat.le_of_ble_eq_true rfl) dX4_pay_80 ⟨Nat.le_of_ble_eq_true rfl, Nat.le_of_ble_eq_true rfl⟩ (fun r_5 _ H locs hw hW => ?_)
    exact hret _ σ_4 _ _ _ _ hw hW dX4_pay_83
  · have hw := hw.2 hc
    refine lv_iconst (v := 1) hx hb dX4_pay_31 (by decide) ?_
    refine lv_goto (tgt := 36) hx hb dX4_pay_32 (by decide) ?_
    refine kS_Mv (As := [.int 1]) (rest := []) ⟨hx, hb, hml, hown, hts⟩ (ok_X4_needState_n l D cI cJ a _ _ _ _ hw) (va_cwS 1 hts gX4_pay_X4_needState rfl rfl rfl (by decide +kernel) ⟨Nat.le_of_ble_eq_true rfl, Nat.le_of_ble_eq_true rfl⟩) hK hW hA rfl hl.1 rfl (Nat.le_of_ble_eq_true rfl) dX4_pay_36 ⟨Nat.le_of_ble_eq_true rfl, Nat.le_of_ble_eq_true rfl⟩ (fun _ H locs hw hW => ?_)
    refine lv_aload_n hx hb dX4_pay_39 rfl (lv_at hl 0 rfl) ?_
    refine va_get (D := D) (ci := 4) (v := .ref (a 6)) (C := RX4) (T := TX4) (N := 4) hx hb hts hinX4 hown hK hW.1 0 rfl rfl 2 (by decide) (hts _ (List.mem_of_getElem? (i := 2) rfl)) (fun _ h9 => h9) rfl dX4_pay_40 ?_
    refine lv_aload_n hx hb dX4_pay_43 rfl (lv_at hl 0 rfl) ?_
    refine va_get (D := D) (ci := 4) (v := .ref (a 1)) (C := RX4) (T := TX4) (N := 4) hx hb hts hinX4 hown hK hW.1 0 rfl rfl 0 (by decide) (hts _ (List.mem_of_getElem? (i := 1) rfl)) (fun _ h9 => h9) rfl dX4_pay_44 ?_
    refine kV_Mv (As := [.ref (a 1)]) (rest := []) ⟨hx, hb, hml, hown, hts⟩ (ok_X0_save l D cI cJ a _ _ _ hw) (cwV 1 hts gX4_pay_X0_save rfl rfl rfl (by decide +kernel) ⟨Nat.le_of_ble_eq_true rfl, Nat.le_of_ble_eq_true rfl⟩) hK hW hA 6 rfl rfl rfl hl.1 rfl (Nat.le_of_ble_eq_true rfl) dX4_pay_47 ⟨Nat.le_of_ble_eq_true rfl, Nat.le_of_ble_eq_true rfl⟩ (fun σ_6 H locs hw hW => ?_)
    refine lv_aload_n hx hb dX4_pay_50 rfl (lv_at hl 0 rfl) ?_
    refine va_get (D := D) (ci := 4) (v := .ref (a 1)) (C := RX4) (T := TX4) (N := 4) hx hb hts hinX4 hown hK hW.1 0 rfl rfl 0 (by decide) (hts _ (List.mem_of_getElem? (i := 1) rfl)) (fun _ h9 => h9) rfl dX4_pay_51 ?_
    refine lv_sipush (v := 166) hx hb dX4_pay_54 (by decide) ?_
    refine lv_iconst (v := 0) hx hb dX4_pay_57 (by decide) ?_
    refine lv_iload_n hx hb dX4_pay_58 rfl (lv_at hl 2 rfl) ?_
    refine kV_Mv (As := [.int 166, .int 0, .int p2]) (rest := []) ⟨hx, hb, hml, hown, hts⟩ (ok_X2_add l D cI cJ a _ _ _ _ _ _ hw) (cwV 3 hts gX4_pay_X2_add rfl rfl rfl (by decide +kernel) ⟨Nat.le_of_ble_eq_true rfl, Nat.le_of_ble_eq_true rfl⟩) hK hW hA 1 rfl rfl rfl hl.1 rfl (Nat.le_of_ble_eq_true rfl) dX4_pay_59 ⟨Nat.le_of_ble_eq_true rfl, Nat.le_of_ble_eq_true rfl⟩ (fun σ_7 H locs hw hW => ?_)
    refine lv_aload_n hx hb dX4_pay_62 rfl (lv_at hl 0 rfl) ?_
    refine va_get (D := D) (ci := 4) (v := .ref (a 1)) (C := RX4) (T := TX4) (N := 4) hx hb hts hinX4 hown hK hW.1 0 rfl rfl 0 (by decide) (hts _ (List.mem_of_getElem? (i := 1) rfl)) (fun _ h9 => h9) rfl dX4_pay_63 ?_
    refine lv_bipush (v := 30) hx hb dX4_pay_66 (by decide) ?_
    refine lv_iload_n hx hb dX4_pay_68 rfl (lv_at hl 1 rfl) ?_
    refine lv_iload_n hx hb dX4_pay_69 rfl (lv_at hl 2 rfl) ?_
    refine kV_Mv (As := [.int 30, .int p1, .int p2]) (rest := []) ⟨hx, hb, hml, hown, hts⟩ (ok_X2_add l D cI cJ a _ _ _ _ _ _ hw) (cwV 3 hts gX4_pay_X2_add rfl rfl rfl (by decide +kernel) ⟨Nat.le_of_ble_eq_true rfl, Nat.le_of_ble_eq_true rfl⟩) hK hW hA 1 rfl rfl rfl hl.1 rfl (Nat.le_of_ble_eq_true rfl) dX4_pay_70 ⟨Nat.le_of_ble_eq_true rfl, Nat.le_of_ble_eq_true rfl⟩ (fun σ_8 H locs hw hW => ?_)
    refine lv_aload_n hx hb dX4_pay_73 rfl (lv_at hl 0 rfl) ?_
    refine va_get (D := D) (ci := 4) (v := .ref (a 1)) (C := RX4) (T := TX4) (N := 4) hx hb hts hinX4 hown hK hW.1 0 rfl rfl 0 (by decide) (hts _ (List.mem_of_getElem? (i := 1) rfl)) (fun _ h9 => h9) rfl dX4_pay_74 ?_
    refine lv_bipush (v := 30) hx hb dX4_pay_77 (by decide) ?_
    refine lv_iload_n hx hb dX4_pay_79 rfl (lv_at hl 1 rfl) ?_
    refine kV_Mi (As := [.int 30, .int p1]) (rest := []) ⟨hx, hb, hml, hown, hts⟩ (ok_X2_get l D cI cJ a _ _ _ _ _ hw) (cwV 2 hts gX4_pay_X2_get rfl rfl rfl (by decide +kernel) ⟨Nat.le_of_ble_eq_true rfl, Nat.le_of_ble_eq_true rfl⟩) hK hW hA 1 rfl rfl rfl hl.1 rfl (Nat.le_of_ble_eq_true rfl) dX4_pay_80 ⟨Nat.le_of_ble_eq_true rfl, Nat.le_of_ble_eq_true rfl⟩ (fun r_9 _ H locs hw hW => ?_)
    exact hret _ σ_8 _ _ _ _ hw hW dX4_pay_83
def wp_X4_set (σ : CS) (p1 : Int32) (p2 : Int32) (post : Int32 → CS → Prop) (px : String → Prop) : Prop := wp_X4_needPlace σ p1 3 (wp_X2_mostOfSetting p1 (fun r_1 => wp_X4_needRange σ p2 0 r_1 (wp_X0_save σ (fun σ_2 => wp_X2_get σ_2 162 p1 (fun r_3 => wp_X2_put σ_2 162 p1 p2 (fun σ_4 => post r_3 σ_4)))) px)) px
abbrev rm_X4_set_n : Room := { frames := 9, cells := 0, slots := 0, locals := 162 }
theorem in_X4_set_n_X4 : ∀ w ∈ wsX40, w ∈ wsX4_set := fun w h => List.mem_cons_of_mem _ (List.mem_append_left _ (List.mem_append_left _ (List.mem_append_left _ (List.mem_append_left _ (List.mem_append_right _ (h))))))
set_option maxHeartbeats 4000000 in
set_option maxRecDepth 100000 in
theorem ok_X4_set_n (l : Launch) (D : va_G) (cI cJ : ClassId) (a : Nat → Nat) (sz : Nat) (σ : CS) (p1 : Int32) (p2 : Int32) (post : Int32 → CS → Prop) (hw : wp_X4_set σ p1 p2 post (fun _ => False)) : Mi l yX4_set wsX4_set rm_X4_set_n [.ref (a 0), .int p1, .int p2] D (tysIJ cI cJ) (cW cI cJ a σ) sz post (cW cI cJ a) := by
  refine s_Mi (by decide) rfl (Nat.le_of_ble_eq_true rfl) ?_
  intro p e s m args below meth c A Q hx hb hml hts hown hin hK hA hret H locs ls hW hl
  have hown : s.vm.findClass RX4 = some m.cls := hown
  have hl : lv_has ls 4 [(0, .ref (a 0)), (1, .int p1), (2, .int p2)] := hl
  have hinX4 := in_X4_set_n_X4
  refine lv_iload_n hx hb dX4_set_0 rfl (lv_at hl 1 rfl) ?_
  refine lv_iconst (v := 3) hx hb dX4_set_1 (by decide) ?_
  refine kS_Mv (As := [.int p1, .int 3]) (rest := []) ⟨hx, hb, hml, hown, hts⟩ (ok_X4_needPlace_n l D cI cJ a _ _ _ _ _ hw) (va_cwS 2 hts gX4_set_X4_needPlace rfl rfl rfl (by decide +kernel) ⟨Nat.le_of_ble_eq_true rfl, Nat.le_of_ble_eq_true rfl⟩) hK hW hA rfl hl.1 rfl (Nat.le_of_ble_eq_true rfl) dX4_set_2 ⟨Nat.le_of_ble_eq_true rfl, Nat.le_of_ble_eq_true rfl⟩ (fun _ H locs hw hW => ?_)
  refine lv_iload_n hx hb dX4_set_5 rfl (lv_at hl 2 rfl) ?_
  refine lv_iconst (v := 0) hx hb dX4_set_6 (by decide) ?_
  refine lv_iload_n hx hb dX4_set_7 rfl (lv_at hl 1 rfl) ?_
  refine kS_Pi (As := [.int p1]) (rest := [.int 0, .int p2]) ⟨hx, hb, hml, hown, hts⟩ (ok_X2_mostOfSetting l _ _ hw) (va_cwS 1 hts gX4_set_X2_mostOfSetting rfl rfl rfl (by decide +kernel) ⟨Nat.le_of_ble_eq_true rfl, Nat.le_of_ble_eq_true rfl⟩) hW.2.2 rfl hl.1 rfl (Nat.le_of_ble_eq_true rfl) dX4_set_8 ⟨Nat.le_of_ble_eq_true rfl, Nat.le_of_ble_eq_true rfl⟩ (fun r_1 H locs hw hk hS => ?_)
  have hW := hW.kept hk hS
  refine kS_Mv (As := [.int p2, .int 0, .int r_1]) (rest := []) ⟨hx, hb, hml, hown, hts⟩ (ok_X4_needRange_n l D cI cJ a _ _ _ _ _ _ hw) (va_cwS 3 hts gX4_set_X4_needRange rfl rfl rfl (by decide +kernel) ⟨Nat.le_of_ble_eq_true rfl, Nat.le_of_ble_eq_true rfl⟩) hK hW hA rfl hl.1 rfl (Nat.le_of_ble_eq_true rfl) dX4_set_11 ⟨Nat.le_of_ble_eq_true rfl, Nat.le_of_ble_eq_true rfl⟩ (fun _ H locs hw hW => ?_)
  refine lv_aload_n hx hb dX4_set_14 rfl (lv_at hl 0 rfl) ?_
  refine va_get (D := D) (ci := 4) (v := .ref (a 6)) (C := RX4) (T := TX4) (N := 4) hx hb hts hinX4 hown hK hW.1 0 rfl rfl 2 (by decide) (hts _ (List.mem_of_getElem? (i := 1) rfl)) (fun _ h9 => h9) rfl dX4_set_15 ?_
  refine lv_aload_n hx hb dX4_set_18 rfl (lv_at hl 0 rfl) ?_
  refine va_get (D := D) (ci := 4) (v := .ref (a 1)) (C := RX4) (T := TX4) (N := 4) hx hb hts hinX4 hown hK hW.1 0 rfl rfl 0 (by decide) (hts _ (List.mem_of_getElem? (i := 2) rfl)) (fun _ h9 => h9) rfl dX4_set_19 ?_
  refine kV_Mv (As := [.ref (a 1)]) (rest := []) ⟨hx, hb, hml, hown, hts⟩ (ok_X0_save l D cI cJ a _ _ _ hw) (cwV 1 hts gX4_set_X0_save rfl rfl rfl (by decide +kernel) ⟨Nat.le_of_ble_eq_true rfl, Nat.le_of_ble_eq_true rfl⟩) hK hW hA 6 rfl rfl rfl hl.1 rfl (Nat.le_of_ble_eq_true rfl) dX4_set_22 ⟨Nat.le_of_ble_eq_true rfl, Nat.le_of_ble_eq_true rfl⟩ (fun σ_2 H locs hw hW => ?_)
  refine lv_aload_n hx hb dX4_set_25 rfl (lv_at hl 0 rfl) ?_
  refine va_get (D := D) (ci := 4) (v := .ref (a 1)) (C := RX4) (T := TX4) (N := 4) hx hb hts hinX4 hown hK hW.1 0 rfl rfl 0 (by decide) (hts _ (List.mem_of_getElem? (i := 2) rfl)) (fun _ h9 => h9) rfl dX4_set_26 ?_
  refine lv_sipush (v := 162) hx hb dX4_set_29 (by decide) ?_
  refine lv_iload_n hx hb dX4_set_32 rfl (lv_at hl 1 rfl) ?_
  refine kV_Mi (As := [.int 162, .int p1]) (rest := []) ⟨hx, hb, hml, hown, hts⟩ (ok_X2_get l D cI cJ a _ _ _ _ _ hw) (cwV 2 hts gX4_set_X2_get rfl rfl rfl (by decide +kernel) ⟨Nat.le_of_ble_eq_true rfl, Nat.le_of_ble_eq_true rfl⟩) hK hW hA 1 rfl rfl rfl hl.1 rfl (Nat.le_of_ble_eq_true rfl) dX4_set_33 ⟨Nat.le_of_ble_eq_true rfl, Nat.le_of_ble_eq_true rfl⟩ (fun r_3 _ H locs hw hW => ?_)
  refine lv_istore_n (lv' := [(3, .int r_3), (0, .ref (a 0)), (1, .int p1), (2, .int p2)]) hx hb dX4_set_36 rfl hl (by decide) rfl (fun ls hl => ?_)
  refine lv_aload_n hx hb dX4_set_37 rfl (lv_at hl 1 rfl) ?_
  refine va_get (D := D) (ci := 4) (v := .ref (a 1)) (C := RX4) (T := TX4) (N := 4) hx hb hts hinX4 hown hK hW.1 0 rfl rfl 0 (by decide) (hts _ (List.mem_of_getElem? (i := 2) rfl)) (fun _ h9 => h9) rfl dX4_set_38 ?_
  refine lv_sipush (v := 162) hx hb dX4_set_41 (by decide) ?_
  refine lv_iload_n hx hb dX4_set_44 rfl (lv_at hl 2 rfl) ?_
  refine lv_iload_n hx hb dX4_set_45 rfl (lv_at hl 3 rfl) ?_
  refine kV_Mv (As := [.int 162, .int p1, .int p2]) (rest := []) ⟨hx, hb, hml, hown, hts⟩ (ok_X2_put l D cI cJ a _ _ _ _ _ _ hw) (cwV 3 hts gX4_set_X2_put rfl rfl rfl (by decide +kernel) ⟨Nat.le_of_ble_eq_true rfl, Nat.le_of_ble_eq_true rfl⟩) hK hW hA 1 rfl rfl rfl hl.1 rfl (Nat.le_of_ble_eq_true rfl) dX4_set_46 ⟨Nat.le_of_ble_eq_true rfl, Nat.le_of_ble_eq_true rfl⟩ (fun σ_4 H locs hw hW => ?_)
  refine lv_iload_n hx hb dX4_set_49 rfl (lv_at hl 0 rfl) ?_
  exact hret _ σ_4 _ _ _ _ hw hW dX4_set_50
def wp_X4_bid (σ : CS) (p1 : Int32) (p2 : Int32) (p3 : Int32) (post : Int32 → CS → Prop) (px : String → Prop) : Prop := wp_X4_needPlace σ p1 6 (wp_X4_needPlace σ p2 6 (wp_X4_needRange σ p3 1 99 (wp_X2_whyNotSealed σ p1 p2 p3 (fun r_1 => ((¬ r_1 = 0 → wp_X4_needState σ 0 (wp_X0_save σ (fun σ_2 => wp_X2_sealBid σ_2 p1 p2 p3 (fun r_3 σ_4 => post r_3 σ_4))) px) ∧ (r_1 = 0 → wp_X4_needState σ 1 (wp_X0_save σ (fun σ_5 => wp_X2_sealBid σ_5 p1 p2 p3 (fun r_6 σ_7 => post r_6 σ_7))) px)))) px) px) px
abbrev rm_X4_bid_n : Room := { frames := 9, cells := 0, slots := 0, locals := 162 }
theorem in_X4_bid_n_X4 : ∀ w ∈ wsX40, w ∈ wsX4_bid := fun w h => List.mem_cons_of_mem _ (List.mem_append_left _ (List.mem_append_left _ (List.mem_append_left _ (List.mem_append_left _ (List.mem_append_left _ (List.mem_append_right _ (h)))))))
set_option maxHeartbeats 4000000 in
set_option maxRecDepth 100000 in
theorem ok_X4_bid_n (l : Launch) (D : va_G) (cI cJ : ClassId) (a : Nat → Nat) (sz : Nat) (σ : CS) (p1 : Int32) (p2 : Int32) (p3 : Int32) (post : Int32 → CS → Prop) (hw : wp_X4_bid σ p1 p2 p3 post (fun _ => False)) : Mi l yX4_bid wsX4_bid rm_X4_bid_n [.ref (a 0), .int p1, .int p2, .int p3] D (tysIJ cI cJ) (cW cI cJ a σ) sz post (cW cI cJ a) := by
  refine s_Mi (by decide) rfl (Nat.le_of_ble_eq_true rfl) ?_
  intro p e s m args below meth c A Q hx hb hml hts hown hin hK hA hret H locs ls hW hl
  have hown : s.vm.findClass RX4 = some m.cls := hown
  have hl : lv_has ls 4 [(0, .ref (a 0)), (1, .int p1), (2, .int p2), (3, .int p3)] := hl
  have hinX4 := in_X4_bid_n_X4
  refine lv_iload_n hx hb dX4_bid_0 rfl (lv_at hl 1 rfl) ?_
  refine lv_bipush (v := 6) hx hb dX4_bid_1 (by decide) ?_
  refine kS_Mv (As := [.int p1, .int 6]) (rest := []) ⟨hx, hb, hml, hown, hts⟩ (ok_X4_needPlace_n l D cI cJ a _ _ _ _ _ hw) (va_cwS 2 hts gX4_bid_X4_needPlace rfl rfl rfl (by decide +kernel) ⟨Nat.le_of_ble_eq_true rfl, Nat.le_of_ble_eq_true rfl⟩) hK hW hA rfl hl.1 rfl (Nat.le_of_ble_eq_true rfl) dX4_bid_3 ⟨Nat.le_of_ble_eq_true rfl, Nat.le_of_ble_eq_true rfl⟩ (fun _ H locs hw hW => ?_)
  refine lv_iload_n hx hb dX4_bid_6 rfl (lv_at hl 2 rfl) ?_
  refine lv_bipush (v := 6) hx hb dX4_bid_7 (by decide) ?_
  refine kS_Mv (As := [.int p2, .int 6]) (rest := []) ⟨hx, hb, hml, hown, hts⟩ (ok_X4_needPlace_n l D cI cJ a _ _ _ _ _ hw) (va_cwS 2 hts gX4_bid_X4_needPlace rfl rfl rfl (by decide +kernel) ⟨Nat.le_of_ble_eq_true rfl, Nat.le_of_ble_eq_true rfl⟩) hK hW hA rfl hl.1 rfl (Nat.le_of_ble_eq_true rfl) dX4_bid_9 ⟨Nat.le_of_ble_eq_true rfl, Nat.le_of_ble_eq_true rfl⟩ (fun _ H locs hw hW => ?_)
  refine lv_iload_n hx hb dX4_bid_12 rfl (lv_at hl 3 rfl) ?_
  refine lv_iconst (v := 1) hx hb dX4_bid_13 (by decide) ?_
  refine lv_bipush (v := 99) hx hb dX4_bid_14 (by decide) ?_
  refine kS_Mv (As := [.int p3, .int 1, .int 99]) (rest := []) ⟨hx, hb, hml, hown, hts⟩ (ok_X4_needRange_n l D cI cJ a _ _ _ _ _ _ hw) (va_cwS 3 hts gX4_bid_X4_needRange rfl rfl rfl (by decide +kernel) ⟨Nat.le_of_ble_eq_true rfl, Nat.le_of_ble_eq_true rfl⟩) hK hW hA rfl hl.1 rfl (Nat.le_of_ble_eq_true rfl) dX4_bid_16 ⟨Nat.le_of_ble_eq_true rfl, Nat.le_of_ble_eq_true rfl⟩ (fun _ H locs hw hW => ?_)
  refine lv_aload_n hx hb dX4_bid_19 rfl (lv_at hl 0 rfl) ?_
  refine va_get (D := D) (ci := 4) (v := .ref (a 1)) (C := RX4) (T := TX4) (N := 4) hx hb hts hinX4 hown hK hW.1 0 rfl rfl 0 (by decide) (hts _ (List.mem_of_getElem? (i := 1) rfl)) (fun _ h9 => h9) rfl dX4_bid_20 ?_
  refine lv_iload_n hx hb dX4_bid_23 rfl (lv_at hl 1 rfl) ?_
  refine lv_iload_n hx hb dX4_bid_24 rfl (lv_at hl 2 rfl) ?_
  refine lv_iload_n hx hb dX4_bid_25 rfl (lv_at hl 3 rfl) ?_
  refine kV_Mi (As := [.int p1, .int p2, .int p3]) (rest := []) ⟨hx, hb, hml, hown, hts⟩ (ok_X2_whyNotSealed l D cI cJ a _ _ _ _ _ _ hw) (cwV 3 hts gX4_bid_X2_whyNotSealed rfl rfl rfl (by decide +kernel) ⟨Nat.le_of_ble_eq_true rfl, Nat.le_of_ble_eq_true rfl⟩) hK hW hA 1 rfl rfl rfl hl.1 rfl (Nat.le_of_ble_eq_true rfl) dX4_bid_26 ⟨Nat.le_of_ble_eq_true rfl, Nat.le_of_ble_eq_true rfl⟩ (fun r_1 _ H locs hw hW => ?_)
  refine lv_if_ne (tgt := 36) hx hb dX4_bid_29 (by decide) (fun hc => ?_) (fun hc => ?_)
  · have hw := hw.1 hc
    refine lv_iconst (v := 0) hx hb dX4_bid_36 (by decide) ?_
    refine kS_Mv (As := [.int 0]) (rest := []) ⟨hx, hb, hml, hown, hts⟩ (ok_X4_needState_n l D cI cJ a _ _ _ _ hw) (va_cwS 1 hts gX4_bid_X4_needState rfl rfl rfl (by decide +kernel) ⟨Nat.le_of_ble_eq_true rfl, Nat.le_of_ble_eq_true rfl⟩) hK hW hA rfl hl.1 rfl (Nat.le_of_ble_eq_true rfl) dX4_bid_37 ⟨Nat.le_of_ble_eq_true rfl, Nat.le_of_ble_eq_true rfl⟩ (fun _ H locs hw hW => ?_)
    refine lv_aload_n hx hb dX4_bid_40 rfl (lv_at hl 0 rfl) ?_
    refine va_get (D := D) (ci := 4) (v := .ref (a 6)) (C := RX4) (T := TX4) (N := 4) hx hb hts hinX4 hown hK hW.1 0 rfl rfl 2 (by decide) (hts _ (List.mem_of_getElem? (i := 2) rfl)) (fun _ h9 => h9) rfl dX4_bid_41 ?_
    refine lv_aload_n hx hb dX4_bid_44 rfl (lv_at hl 0 rfl) ?_
    refine va_get (D := D) (ci := 4) (v := .ref (a 1)) (C := RX4) (T := TX4) (N := 4) hx hb hts hinX4 hown hK hW.1 0 rfl rfl 0 (by decide) (hts _ (List.mem_of_getElem? (i := 1) rfl)) (fun _ h9 => h9) rfl dX4_bid_45 ?_
    refine kV_Mv (As := [.ref (a 1)]) (rest := []) ⟨hx, hb, hml, hown, hts⟩ (ok_X0_save l D cI cJ a _ _ _ hw) (cwV 1 hts gX4_bid_X0_save rfl rfl rfl (by decide +kernel) ⟨Nat.le_of_ble_eq_true rfl, Nat.le_of_ble_eq_true rfl⟩) hK hW hA 6 rfl rfl rfl hl.1 rfl (Nat.le_of_ble_eq_true rfl) dX4_bid_48 ⟨Nat.le_of_ble_eq_true rfl, Nat.le_of_ble_eq_true rfl⟩ (fun σ_2 H locs hw hW => ?_)
    refine lv_aload_n hx hb dX4_bid_51 rfl (lv_at hl 0 rfl) ?_
    refine va_get (D := D) (ci := 4) (v := .ref (a 1)) (C := RX4) (T := TX4) (N := 4) hx hb hts hinX4 hown hK hW.1 0 rfl rfl 0 (by decide) (hts _ (List.mem_of_getElem? (i := 1) rfl)) (fun _ h9 => h9) rfl dX4_bid_52 ?_
    refine lv_iload_n hx hb dX4_bid_55 rfl (lv_at hl 1 rfl) ?_
    refine lv_iload_n hx hb dX4_bid_56 rfl (lv_at hl 2 rfl) ?_
    refine lv_iload_n hx hb dX4_bid_57 rfl (lv_at hl 3 rfl) ?_
    refine kV_Mi (As := [.int p1, .int p2, .int p3]) (rest := []) ⟨hx, hb, hml, hown, hts⟩ (ok_X2_sealBid l D cI cJ a _ _ _ _ _ _ hw) (cwV 3 hts gX4_bid_X2_sealBid rfl rfl rfl (by decide +kernel) ⟨Nat.le_of_ble_eq_true rfl, Nat.le_of_ble_eq_true rfl⟩) hK hW hA 1 rfl rfl rfl hl.1 rfl (Nat.le_of_ble_eq_true rfl) dX4_bid_58 ⟨Nat.le_of_ble_eq_true rfl, Nat.le_of_ble_eq_true rfl⟩ (fun r_3 σ_4 H locs hw hW => ?_)
    exact hret _ σ_4 _ _ _ _ hw hW dX4_bid_61
  · have hw := hw.2 hc
    refine lv_iconst (v := 1) hx hb dX4_bid_32 (by decide) ?_
    refine lv_goto (tgt := 37) hx hb dX4_bid_33 (by decide) ?_
    refine kS_Mv (As := [.int 1]) (rest := []) ⟨hx, hb, hml, hown, hts⟩ (ok_X4_needState_n l D cI cJ a _ _ _ _ hw) (va_cwS 1 hts gX4_bid_X4_needState rfl rfl rfl (by decide +kernel) ⟨Nat.le_of_ble_eq_true rfl, Nat.le_of_ble_eq_true rfl⟩) hK hW hA rfl hl.1 rfl (Nat.le_of_ble_eq_true rfl) dX4_bid_37 ⟨Nat.le_of_ble_eq_true rfl, Nat.le_of_ble_eq_true rfl⟩ (fun _ H locs hw hW => ?_)
    refine lv_aload_n hx hb dX4_bid_40 rfl (lv_at hl 0 rfl) ?_
    refine va_get (D := D) (ci := 4) (v := .ref (a 6)) (C := RX4) (T := TX4) (N := 4) hx hb hts hinX4 hown hK hW.1 0 rfl rfl 2 (by decide) (hts _ (List.mem_of_getElem? (i := 2) rfl)) (fun _ h9 => h9) rfl dX4_bid_41 ?_
    refine lv_aload_n hx hb dX4_bid_44 rfl (lv_at hl 0 rfl) ?_
    refine va_get (D := D) (ci := 4) (v := .ref (a 1)) (C := RX4) (T := TX4) (N := 4) hx hb hts hinX4 hown hK hW.1 0 rfl rfl 0 (by decide) (hts _ (List.mem_of_getElem? (i := 1) rfl)) (fun _ h9 => h9) rfl dX4_bid_45 ?_
    refine kV_Mv (As := [.ref (a 1)]) (rest := []) ⟨hx, hb, hml, hown, hts⟩ (ok_X0_save l D cI cJ a _ _ _ hw) (cwV 1 hts gX4_bid_X0_save rfl rfl rfl (by decide +kernel) ⟨Nat.le_of_ble_eq_true rfl, Nat.le_of_ble_eq_true rfl⟩) hK hW hA 6 rfl rfl rfl hl.1 rfl (Nat.le_of_ble_eq_true rfl) dX4_bid_48 ⟨Nat.le_of_ble_eq_true rfl, Nat.le_of_ble_eq_true rfl⟩ (fun σ_5 H locs hw hW => ?_)
    refine lv_aload_n hx hb dX4_bid_51 rfl (lv_at hl 0 rfl) ?_
    refine va_get (D := D) (ci := 4) (v := .ref (a 1)) (C := RX4) (T := TX4) (N := 4) hx hb hts hinX4 hown hK hW.1 0 rfl rfl 0 (by decide) (hts _ (List.mem_of_getElem? (i := 1) rfl)) (fun _ h9 => h9) rfl dX4_bid_52 ?_
    refine lv_iload_n hx hb dX4_bid_55 rfl (lv_at hl 1 rfl) ?_
    refine lv_iload_n hx hb dX4_bid_56 rfl (lv_at hl 2 rfl) ?_
    refine lv_iload_n hx hb dX4_bid_57 rfl (lv_at hl 3 rfl) ?_
    refine kV_Mi (As := [.int p1, .int p2, .int p3]) (rest := []) ⟨hx, hb, hml, hown, hts⟩ (ok_X2_sealBid l D cI cJ a _ _ _ _ _ _ hw) (cwV 3 hts gX4_bid_X2_sealBid rfl rfl rfl (by decide +kernel) ⟨Nat.le_of_ble_eq_true rfl, Nat.le_of_ble_eq_true rfl⟩) hK hW hA 1 rfl rfl rfl hl.1 rfl (Nat.le_of_ble_eq_true rfl) dX4_bid_58 ⟨Nat.le_of_ble_eq_true rfl, Nat.le_of_ble_eq_true rfl⟩ (fun r_6 σ_7 H locs hw hW => ?_)
    exact hret _ σ_7 _ _ _ _ hw hW dX4_bid_61
def wp_X4_withdraw (σ : CS) (p1 : Int32) (p2 : Int32) (post : Int32 → CS → Prop) (px : String → Prop) : Prop := wp_X4_needPlace σ p1 6 (wp_X4_needPlace σ p2 6 (wp_X2_whyNotWithdrawn σ p1 p2 (fun r_1 => ((¬ r_1 = 0 → wp_X4_needState σ 0 (wp_X0_save σ (fun σ_2 => wp_X2_takeBack σ_2 p1 p2 (fun r_3 σ_4 => post r_3 σ_4))) px) ∧ (r_1 = 0 → wp_X4_needState σ 1 (wp_X0_save σ (fun σ_5 => wp_X2_takeBack σ_5 p1 p2 (fun r_6 σ_7 => post r_6 σ_7))) px)))) px) px
abbrev rm_X4_withdraw_n : Room := { frames := 9, cells := 0, slots := 0, locals := 161 }
theorem in_X4_withdraw_n_X4 : ∀ w ∈ wsX40, w ∈ wsX4_withdraw := fun w h => List.mem_cons_of_mem _ (List.mem_append_left _ (List.mem_append_left _ (List.mem_append_left _ (List.mem_append_left _ (List.mem_append_right _ (h))))))
set_option maxHeartbeats 4000000 in
set_option maxRecDepth 100000 in
theorem ok_X4_withdraw_n (l : Launch) (D : va_G) (cI cJ : ClassId) (a : Nat → Nat) (sz : Nat) (σ : CS) (p1 : Int32) (p2 : Int32) (post : Int32 → CS → Prop) (hw : wp_X4_withdraw σ p1 p2 post (fun _ => False)) : Mi l yX4_withdraw wsX4_withdraw rm_X4_withdraw_n [.ref (a 0), .int p1, .int p2] D (tysIJ cI cJ) (cW cI cJ a σ) sz post (cW cI cJ a) := by
  refine s_Mi (by decide) rfl (Nat.le_of_ble_eq_true rfl) ?_
  intro p e s m args below meth c A Q hx hb hml hts hown hin hK hA hret H locs ls hW hl
  have hown : s.vm.findClass RX4 = some m.cls := hown
  have hl : lv_has ls 3 [(0, .ref (a 0)), (1, .int p1), (2, .int p2)] := hl
  have hinX4 := in_X4_withdraw_n_X4
  refine lv_iload_n hx hb dX4_withdraw_0 rfl (lv_at hl 1 rfl) ?_
  refine lv_bipush (v := 6) hx hb dX4_withdraw_1 (by decide) ?_
  refine kS_Mv (As := [.int p1, .int 6]) (rest := []) ⟨hx, hb, hml, hown, hts⟩ (ok_X4_needPlace_n l D cI cJ a _ _ _ _ _ hw) (va_cwS 2 hts gX4_withdraw_X4_needPlace rfl rfl rfl (by decide +kernel) ⟨Nat.le_of_ble_eq_true rfl, Nat.le_of_ble_eq_true rfl⟩) hK hW hA rfl hl.1 rfl (Nat.le_of_ble_eq_true rfl) dX4_withdraw_3 ⟨Nat.le_of_ble_eq_true rfl, Nat.le_of_ble_eq_true rfl⟩ (fun _ H locs hw hW => ?_)
  refine lv_iload_n hx hb dX4_withdraw_6 rfl (lv_at hl 2 rfl) ?_
  refine lv_bipush (v := 6) hx hb dX4_withdraw_7 (by decide) ?_
  refine kS_Mv (As := [.int p2, .int 6]) (rest := []) ⟨hx, hb, hml, hown, hts⟩ (ok_X4_needPlace_n l D cI cJ a _ _ _ _ _ hw) (va_cwS 2 hts gX4_withdraw_X4_needPlace rfl rfl rfl (by decide +kernel) ⟨Nat.le_of_ble_eq_true rfl, Nat.le_of_ble_eq_true rfl⟩) hK hW hA rfl hl.1 rfl (Nat.le_of_ble_eq_true rfl) dX4_withdraw_9 ⟨Nat.le_of_ble_eq_true rfl, Nat.le_of_ble_eq_true rfl⟩ (fun _ H locs hw hW => ?_)
  refine lv_aload_n hx hb dX4_withdraw_12 rfl (lv_at hl 0 rfl) ?_
  refine va_get (D := D) (ci := 4) (v := .ref (a 1)) (C := RX4) (T := TX4) (N := 4) hx hb hts hinX4 hown hK hW.1 0 rfl rfl 0 (by decide) (hts _ (List.mem_of_getElem? (i := 1) rfl)) (fun _ h9 => h9) rfl dX4_withdraw_13 ?_
  refine lv_iload_n hx hb dX4_withdraw_16 rfl (lv_at hl 1 rfl) ?_
  refine lv_iload_n hx hb dX4_withdraw_17 rfl (lv_at hl 2 rfl) ?_
  refine kV_Mi (As := [.int p1, .int p2]) (rest := []) ⟨hx, hb, hml, hown, hts⟩ (ok_X2_whyNotWithdrawn l D cI cJ a _ _ _ _ _ hw) (cwV 2 hts gX4_withdraw_X2_whyNotWithdrawn rfl rfl rfl (by decide +kernel) ⟨Nat.le_of_ble_eq_true rfl, Nat.le_of_ble_eq_true rfl⟩) hK hW hA 1 rfl rfl rfl hl.1 rfl (Nat.le_of_ble_eq_true rfl) dX4_withdraw_18 ⟨Nat.le_of_ble_eq_true rfl, Nat.le_of_ble_eq_true rfl⟩ (fun r_1 _ H locs hw hW => ?_)
  refine lv_if_ne (tgt := 28) hx hb dX4_withdraw_21 (by decide) (fun hc => ?_) (fun hc => ?_)
  · have hw := hw.1 hc
    refine lv_iconst (v := 0) hx hb dX4_withdraw_28 (by decide) ?_
    refine kS_Mv (As := [.int 0]) (rest := []) ⟨hx, hb, hml, hown, hts⟩ (ok_X4_needState_n l D cI cJ a _ _ _ _ hw) (va_cwS 1 hts gX4_withdraw_X4_needState rfl rfl rfl (by decide +kernel) ⟨Nat.le_of_ble_eq_true rfl, Nat.le_of_ble_eq_true rfl⟩) hK hW hA rfl hl.1 rfl (Nat.le_of_ble_eq_true rfl) dX4_withdraw_29 ⟨Nat.le_of_ble_eq_true rfl, Nat.le_of_ble_eq_true rfl⟩ (fun _ H locs hw hW => ?_)
    refine lv_aload_n hx hb dX4_withdraw_32 rfl (lv_at hl 0 rfl) ?_
    refine va_get (D := D) (ci := 4) (v := .ref (a 6)) (C := RX4) (T := TX4) (N := 4) hx hb hts hinX4 hown hK hW.1 0 rfl rfl 2 (by decide) (hts _ (List.mem_of_getElem? (i := 2) rfl)) (fun _ h9 => h9) rfl dX4_withdraw_33 ?_
    refine lv_aload_n hx hb dX4_withdraw_36 rfl (lv_at hl 0 rfl) ?_
    refine va_get (D := D) (ci := 4) (v := .ref (a 1)) (C := RX4) (T := TX4) (N := 4) hx hb hts hinX4 hown hK hW.1 0 rfl rfl 0 (by decide) (hts _ (List.mem_of_getElem? (i := 1) rfl)) (fun _ h9 => h9) rfl dX4_withdraw_37 ?_
    refine kV_Mv (As := [.ref (a 1)]) (rest := []) ⟨hx, hb, hml, hown, hts⟩ (ok_X0_save l D cI cJ a _ _ _ hw) (cwV 1 hts gX4_withdraw_X0_save rfl rfl rfl (by decide +kernel) ⟨Nat.le_of_ble_eq_true rfl, Nat.le_of_ble_eq_true rfl⟩) hK hW hA 6 rfl rfl rfl hl.1 rfl (Nat.le_of_ble_eq_true rfl) dX4_withdraw_40 ⟨Nat.le_of_ble_eq_true rfl, Nat.le_of_ble_eq_true rfl⟩ (fun σ_2 H locs hw hW => ?_)
    refine lv_aload_n hx hb dX4_withdraw_43 rfl (lv_at hl 0 rfl) ?_
    refine va_get (D := D) (ci := 4) (v := .ref (a 1)) (C := RX4) (T := TX4) (N := 4) hx hb hts hinX4 hown hK hW.1 0 rfl rfl 0 (by decide) (hts _ (List.mem_of_getElem? (i := 1) rfl)) (fun _ h9 => h9) rfl dX4_withdraw_44 ?_
    refine lv_iload_n hx hb dX4_withdraw_47 rfl (lv_at hl 1 rfl) ?_
    refine lv_iload_n hx hb dX4_withdraw_48 rfl (lv_at hl 2 rfl) ?_
    refine kV_Mi (As := [.int p1, .int p2]) (rest := []) ⟨hx, hb, hml, hown, hts⟩ (ok_X2_takeBack l D cI cJ a _ _ _ _ _ hw) (cwV 2 hts gX4_withdraw_X2_takeBack rfl rfl rfl (by decide +kernel) ⟨Nat.le_of_ble_eq_true rfl, Nat.le_of_ble_eq_true rfl⟩) hK hW hA 1 rfl rfl rfl hl.1 rfl (Nat.le_of_ble_eq_true rfl) dX4_withdraw_49 ⟨Nat.le_of_ble_eq_true rfl, Nat.le_of_ble_eq_true rfl⟩ (fun r_3 σ_4 H locs hw hW => ?_)
    exact hret _ σ_4 _ _ _ _ hw hW dX4_withdraw_52
  · have hw := hw.2 hc
    refine lv_iconst (v := 1) hx hb dX4_withdraw_24 (by decide) ?_
    refine lv_goto (tgt := 29) hx hb dX4_withdraw_25 (by decide) ?_
    refine kS_Mv (As := [.int 1]) (rest := []) ⟨hx, hb, hml, hown, hts⟩ (ok_X4_needState_n l D cI cJ a _ _ _ _ hw) (va_cwS 1 hts gX4_withdraw_X4_needState rfl rfl rfl (by decide +kernel) ⟨Nat.le_of_ble_eq_true rfl, Nat.le_of_ble_eq_true rfl⟩) hK hW hA rfl hl.1 rfl (Nat.le_of_ble_eq_true rfl) dX4_withdraw_29 ⟨Nat.le_of_ble_eq_true rfl, Nat.le_of_ble_eq_true rfl⟩ (fun _ H locs hw hW => ?_)
    refine lv_aload_n hx hb dX4_withdraw_32 rfl (lv_at hl 0 rfl) ?_
    refine va_get (D := D) (ci := 4) (v := .ref (a 6)) (C := RX4) (T := TX4) (N := 4) hx hb hts hinX4 hown hK hW.1 0 rfl rfl 2 (by decide) (hts _ (List.mem_of_getElem? (i := 2) rfl)) (fun _ h9 => h9) rfl dX4_withdraw_33 ?_
    refine lv_aload_n hx hb dX4_withdraw_36 rfl (lv_at hl 0 rfl) ?_
    refine va_get (D := D) (ci := 4) (v := .ref (a 1)) (C := RX4) (T := TX4) (N := 4) hx hb hts hinX4 hown hK hW.1 0 rfl rfl 0 (by decide) (hts _ (List.mem_of_getElem? (i := 1) rfl)) (fun _ h9 => h9) rfl dX4_withdraw_37 ?_
    refine kV_Mv (As := [.ref (a 1)]) (rest := []) ⟨hx, hb, hml, hown, hts⟩ (ok_X0_save l D cI cJ a _ _ _ hw) (cwV 1 hts gX4_withdraw_X0_save rfl rfl rfl (by decide +kernel) ⟨Nat.le_of_ble_eq_true rfl, Nat.le_of_ble_eq_true rfl⟩) hK hW hA 6 rfl rfl rfl hl.1 rfl (Nat.le_of_ble_eq_true rfl) dX4_withdraw_40 ⟨Nat.le_of_ble_eq_true rfl, Nat.le_of_ble_eq_true rfl⟩ (fun σ_5 H locs hw hW => ?_)
    refine lv_aload_n hx hb dX4_withdraw_43 rfl (lv_at hl 0 rfl) ?_
    refine va_get (D := D) (ci := 4) (v := .ref (a 1)) (C := RX4) (T := TX4) (N := 4) hx hb hts hinX4 hown hK hW.1 0 rfl rfl 0 (by decide) (hts _ (List.mem_of_getElem? (i := 1) rfl)) (fun _ h9 => h9) rfl dX4_withdraw_44 ?_
    refine lv_iload_n hx hb dX4_withdraw_47 rfl (lv_at hl 1 rfl) ?_
    refine lv_iload_n hx hb dX4_withdraw_48 rfl (lv_at hl 2 rfl) ?_
    refine kV_Mi (As := [.int p1, .int p2]) (rest := []) ⟨hx, hb, hml, hown, hts⟩ (ok_X2_takeBack l D cI cJ a _ _ _ _ _ hw) (cwV 2 hts gX4_withdraw_X2_takeBack rfl rfl rfl (by decide +kernel) ⟨Nat.le_of_ble_eq_true rfl, Nat.le_of_ble_eq_true rfl⟩) hK hW hA 1 rfl rfl rfl hl.1 rfl (Nat.le_of_ble_eq_true rfl) dX4_withdraw_49 ⟨Nat.le_of_ble_eq_true rfl, Nat.le_of_ble_eq_true rfl⟩ (fun r_6 σ_7 H locs hw hW => ?_)
    exact hret _ σ_7 _ _ _ _ hw hW dX4_withdraw_52
def wp_X4_pause (σ : CS) (p1 : Int32) (post : Int32 → CS → Prop) (px : String → Prop) : Prop := wp_X4_needRange σ p1 1 23 (wp_X0_save σ (fun σ_1 => wp_X2_passHours σ_1 p1 (fun r_2 σ_3 => post r_2 σ_3))) px
abbrev rm_X4_pause_n : Room := { frames := 9, cells := 0, slots := 0, locals := 162 }
theorem in_X4_pause_n_X4 : ∀ w ∈ wsX40, w ∈ wsX4_pause := fun w h => List.mem_cons_of_mem _ (List.mem_append_left _ (List.mem_append_left _ (List.mem_append_left _ (List.mem_append_right _ (h)))))
set_option maxHeartbeats 4000000 in
set_option maxRecDepth 100000 in
theorem ok_X4_pause_n (l : Launch) (D : va_G) (cI cJ : ClassId) (a : Nat → Nat) (sz : Nat) (σ : CS) (p1 : Int32) (post : Int32 → CS → Prop) (hw : wp_X4_pause σ p1 post (fun _ => False)) : Mi l yX4_pause wsX4_pause rm_X4_pause_n [.ref (a 0), .int p1] D (tysIJ cI cJ) (cW cI cJ a σ) sz post (cW cI cJ a) := by
  refine s_Mi (by decide) rfl (Nat.le_of_ble_eq_true rfl) ?_
  intro p e s m args below meth c A Q hx hb hml hts hown hin hK hA hret H locs ls hW hl
  have hown : s.vm.findClass RX4 = some m.cls := hown
  have hl : lv_has ls 2 [(0, .ref (a 0)), (1, .int p1)] := hl
  have hinX4 := in_X4_pause_n_X4
  refine lv_iload_n hx hb dX4_pause_0 rfl (lv_at hl 1 rfl) ?_
  refine lv_iconst (v := 1) hx hb dX4_pause_1 (by decide) ?_
  refine lv_bipush (v := 23) hx hb dX4_pause_2 (by decide) ?_
  refine kS_Mv (As := [.int p1, .int 1, .int 23]) (rest := []) ⟨hx, hb, hml, hown, hts⟩ (ok_X4_needRange_n l D cI cJ a _ _ _ _ _ _ hw) (va_cwS 3 hts gX4_pause_X4_needRange rfl rfl rfl (by decide +kernel) ⟨Nat.le_of_ble_eq_true rfl, Nat.le_of_ble_eq_true rfl⟩) hK hW hA rfl hl.1 rfl (Nat.le_of_ble_eq_true rfl) dX4_pause_4 ⟨Nat.le_of_ble_eq_true rfl, Nat.le_of_ble_eq_true rfl⟩ (fun _ H locs hw hW => ?_)
  refine lv_aload_n hx hb dX4_pause_7 rfl (lv_at hl 0 rfl) ?_
  refine va_get (D := D) (ci := 4) (v := .ref (a 6)) (C := RX4) (T := TX4) (N := 4) hx hb hts hinX4 hown hK hW.1 0 rfl rfl 2 (by decide) (hts _ (List.mem_of_getElem? (i := 1) rfl)) (fun _ h9 => h9) rfl dX4_pause_8 ?_
  refine lv_aload_n hx hb dX4_pause_11 rfl (lv_at hl 0 rfl) ?_
  refine va_get (D := D) (ci := 4) (v := .ref (a 1)) (C := RX4) (T := TX4) (N := 4) hx hb hts hinX4 hown hK hW.1 0 rfl rfl 0 (by decide) (hts _ (List.mem_of_getElem? (i := 2) rfl)) (fun _ h9 => h9) rfl dX4_pause_12 ?_
  refine kV_Mv (As := [.ref (a 1)]) (rest := []) ⟨hx, hb, hml, hown, hts⟩ (ok_X0_save l D cI cJ a _ _ _ hw) (cwV 1 hts gX4_pause_X0_save rfl rfl rfl (by decide +kernel) ⟨Nat.le_of_ble_eq_true rfl, Nat.le_of_ble_eq_true rfl⟩) hK hW hA 6 rfl rfl rfl hl.1 rfl (Nat.le_of_ble_eq_true rfl) dX4_pause_15 ⟨Nat.le_of_ble_eq_true rfl, Nat.le_of_ble_eq_true rfl⟩ (fun σ_1 H locs hw hW => ?_)
  refine lv_aload_n hx hb dX4_pause_18 rfl (lv_at hl 0 rfl) ?_
  refine va_get (D := D) (ci := 4) (v := .ref (a 1)) (C := RX4) (T := TX4) (N := 4) hx hb hts hinX4 hown hK hW.1 0 rfl rfl 0 (by decide) (hts _ (List.mem_of_getElem? (i := 2) rfl)) (fun _ h9 => h9) rfl dX4_pause_19 ?_
  refine lv_iload_n hx hb dX4_pause_22 rfl (lv_at hl 1 rfl) ?_
  refine kV_Mi (As := [.int p1]) (rest := []) ⟨hx, hb, hml, hown, hts⟩ (ok_X2_passHours l D cI cJ a _ _ _ _ hw) (cwV 1 hts gX4_pause_X2_passHours rfl rfl rfl (by decide +kernel) ⟨Nat.le_of_ble_eq_true rfl, Nat.le_of_ble_eq_true rfl⟩) hK hW hA 1 rfl rfl rfl hl.1 rfl (Nat.le_of_ble_eq_true rfl) dX4_pause_23 ⟨Nat.le_of_ble_eq_true rfl, Nat.le_of_ble_eq_true rfl⟩ (fun r_2 σ_3 H locs hw hW => ?_)
  exact hret _ σ_3 _ _ _ _ hw hW dX4_pause_26
def wp_X4_findSharing (σ : CS) (post : CS → Prop) : Prop := wp_X1_readBids σ (fun σ_1 => wp_X1_find σ_1 (-1) (fun σ_2 => post σ_2))
abbrev rm_X4_findSharing : Room := { frames := 3, cells := 0, slots := 0, locals := 89 }
theorem in_X4_findSharing_X4 : ∀ w ∈ wsX40, w ∈ wsX4_findSharing := fun w h => List.mem_cons_of_mem _ (List.mem_append_left _ (List.mem_append_left _ (List.mem_append_right _ (h))))
set_option maxHeartbeats 4000000 in
set_option maxRecDepth 100000 in
theorem ok_X4_findSharing (l : Launch) (D : va_G) (cI cJ : ClassId) (a : Nat → Nat) (sz : Nat) (σ : CS) (post : CS → Prop) (hw : wp_X4_findSharing σ post) : Mv l yX4_findSharing wsX4_findSharing rm_X4_findSharing [.ref (a 0)] D (tysIJ cI cJ) (cW cI cJ a σ) sz post (cW cI cJ a) := by
  refine s_Mv (by decide) rfl (Nat.le_of_ble_eq_true rfl) ?_
  intro p e s m args below meth c A Q hx hb hml hts hown hin hK hA hret H locs ls hW hl
  have hown : s.vm.findClass RX4 = some m.cls := hown
  have hl : lv_has ls 1 [(0, .ref (a 0))] := hl
  have hinX4 := in_X4_findSharing_X4
  refine lv_aload_n hx hb dX4_findSharing_0 rfl (lv_at hl 0 rfl) ?_
  refine va_get (D := D) (ci := 4) (v := .ref (a 3)) (C := RX4) (T := TX4) (N := 4) hx hb hts hinX4 hown hK hW.1 0 rfl rfl 1 (by decide) (hts _ (List.mem_of_getElem? (i := 1) rfl)) (fun _ h9 => h9) rfl dX4_findSharing_1 ?_
  refine lv_aload_n hx hb dX4_findSharing_4 rfl (lv_at hl 0 rfl) ?_
  refine va_get (D := D) (ci := 4) (v := .ref (a 1)) (C := RX4) (T := TX4) (N := 4) hx hb hts hinX4 hown hK hW.1 0 rfl rfl 0 (by decide) (hts _ (List.mem_of_getElem? (i := 2) rfl)) (fun _ h9 => h9) rfl dX4_findSharing_5 ?_
  refine kV_Mv (As := [.ref (a 1)]) (rest := []) ⟨hx, hb, hml, hown, hts⟩ (ok_X1_readBids l D cI cJ a _ _ _ hw) (cwV 1 hts gX4_findSharing_X1_readBids rfl rfl rfl (by decide +kernel) ⟨Nat.le_of_ble_eq_true rfl, Nat.le_of_ble_eq_true rfl⟩) hK hW hA 3 rfl rfl rfl hl.1 rfl (Nat.le_of_ble_eq_true rfl) dX4_findSharing_8 ⟨Nat.le_of_ble_eq_true rfl, Nat.le_of_ble_eq_true rfl⟩ (fun σ_1 H locs hw hW => ?_)
  refine lv_aload_n hx hb dX4_findSharing_11 rfl (lv_at hl 0 rfl) ?_
  refine va_get (D := D) (ci := 4) (v := .ref (a 3)) (C := RX4) (T := TX4) (N := 4) hx hb hts hinX4 hown hK hW.1 0 rfl rfl 1 (by decide) (hts _ (List.mem_of_getElem? (i := 1) rfl)) (fun _ h9 => h9) rfl dX4_findSharing_12 ?_
  refine lv_iconst (v := (-1)) hx hb dX4_findSharing_15 (by decide) ?_
  refine kV_Mv (As := [.int (-1)]) (rest := []) ⟨hx, hb, hml, hown, hts⟩ (ok_X1_find l D cI cJ a _ _ _ _ hw) (cwV 1 hts gX4_findSharing_X1_find rfl rfl rfl (by decide +kernel) ⟨Nat.le_of_ble_eq_true rfl, Nat.le_of_ble_eq_true rfl⟩) hK hW hA 3 rfl rfl rfl hl.1 rfl (Nat.le_of_ble_eq_true rfl) dX4_findSharing_16 ⟨Nat.le_of_ble_eq_true rfl, Nat.le_of_ble_eq_true rfl⟩ (fun σ_2 H locs hw hW => ?_)
  exact hret σ_2 _ _ _ _ hw hW dX4_findSharing_19
def wp_X4_shareOut (σ : CS) (post : Int32 → CS → Prop) : Prop := wp_X4_findSharing σ (fun σ_1 => wp_X2_openBids σ_1 (fun σ_2 => ∃ I3 : Nat → Int32 → Int32 → CS → Prop, (∃ n : Nat, I3 n 0 0 (σ_2)) ∧ ∀ (n3 : Nat) (v1_3 : Int32) (v2_3 : Int32) (σ_3 : CS), I3 n3 v1_3 v2_3 σ_3 → ((6 ≤ v2_3 → post v1_3 σ_3) ∧ (¬ 6 ≤ v2_3 → wp_X1_ownerOf σ_3 v2_3 (fun r_4 => ((r_4 = (-1) → ∀ v2_5 : Int32, v2_5 = v2_3 + 1 → ∃ n' : Nat, n' < n3 ∧ I3 n' v1_3 v2_5 (σ_3)) ∧ (¬ r_4 = (-1) → wp_X1_priceOf σ_3 v2_3 (fun r_6 => wp_X2_giveSpot σ_3 v2_3 r_4 r_6 (fun σ_7 => ∀ v1_8 : Int32, v1_8 = v1_3 + 1 → ∀ v2_9 : Int32, v2_9 = v2_3 + 1 → ∃ n' : Nat, n' < n3 ∧ I3 n' v1_8 v2_9 (σ_7))))))))))
abbrev rm_X4_shareOut : Room := { frames := 4, cells := 0, slots := 0, locals := 109 }
theorem in_X4_shareOut_X4 : ∀ w ∈ wsX40, w ∈ wsX4_shareOut := fun w h => List.mem_cons_of_mem _ (List.mem_append_left _ (List.mem_append_left _ (List.mem_append_right _ (h))))
set_option maxHeartbeats 4000000 in
set_option maxRecDepth 100000 in
theorem ok_X4_shareOut (l : Launch) (D : va_G) (cI cJ : ClassId) (a : Nat → Nat) (sz : Nat) (σ : CS) (post : Int32 → CS → Prop) (hw : wp_X4_shareOut σ post) : Mi l yX4_shareOut wsX4_shareOut rm_X4_shareOut [.ref (a 0)] D (tysIJ cI cJ) (cW cI cJ a σ) sz post (cW cI cJ a) := by
  refine s_Mi (by decide) rfl (Nat.le_of_ble_eq_true rfl) ?_
  intro p e s m args below meth c A Q hx hb hml hts hown hin hK hA hret H locs ls hW hl
  have hown : s.vm.findClass RX4 = some m.cls := hown
  have hl : lv_has ls 4 [(0, .ref (a 0))] := hl
  have hinX4 := in_X4_shareOut_X4
  refine lv_aload_n hx hb dX4_shareOut_0 rfl (lv_at hl 0 rfl) ?_
  refine kV_Mv (As := []) (rest := []) ⟨hx, hb, hml, hown, hts⟩ (ok_X4_findSharing l D cI cJ a _ _ _ hw) (cwV 0 hts gX4_shareOut_X4_findSharing rfl rfl rfl (by decide +kernel) ⟨Nat.le_of_ble_eq_true rfl, Nat.le_of_ble_eq_true rfl⟩) hK hW hA 0 rfl rfl rfl hl.1 rfl (Nat.le_of_ble_eq_true rfl) dX4_shareOut_1 ⟨Nat.le_of_ble_eq_true rfl, Nat.le_of_ble_eq_true rfl⟩ (fun σ_1 H locs hw hW => ?_)
  refine lv_aload_n hx hb dX4_shareOut_4 rfl (lv_at hl 0 rfl) ?_
  refine va_get (D := D) (ci := 4) (v := .ref (a 1)) (C := RX4) (T := TX4) (N := 4) hx hb hts hinX4 hown hK hW.1 0 rfl rfl 0 (by decide) (hts _ (List.mem_of_getElem? (i := 1) rfl)) (fun _ h9 => h9) rfl dX4_shareOut_5 ?_
  refine kV_Mv (As := []) (rest := []) ⟨hx, hb, hml, hown, hts⟩ (ok_X2_openBids l D cI cJ a _ _ _ hw) (cwV 0 hts gX4_shareOut_X2_openBids rfl rfl rfl (by decide +kernel) ⟨Nat.le_of_ble_eq_true rfl, Nat.le_of_ble_eq_true rfl⟩) hK hW hA 1 rfl rfl rfl hl.1 rfl (Nat.le_of_ble_eq_true rfl) dX4_shareOut_8 ⟨Nat.le_of_ble_eq_true rfl, Nat.le_of_ble_eq_true rfl⟩ (fun σ_2 H locs hw hW => ?_)
  refine lv_iconst (v := 0) hx hb dX4_shareOut_11 (by decide) ?_
  refine lv_istore_n (lv' := [(1, .int 0), (0, .ref (a 0))]) hx hb dX4_shareOut_12 rfl hl (by decide) rfl (fun ls hl => ?_)
  refine lv_iconst (v := 0) hx hb dX4_shareOut_13 (by decide) ?_
  refine lv_istore_n (lv' := [(2, .int 0), (1, .int 0), (0, .ref (a 0))]) hx hb dX4_shareOut_14 rfl hl (by decide) rfl (fun ls hl => ?_)
  obtain ⟨I3, ⟨n3, hI3⟩, hJ3⟩ := hw
  have hl : lv_has ls 4 [(0, .ref (a 0)), (1, .int 0), (2, .int 0)] := lv_sub hl [2, 1, 0] rfl
  suffices LP3 : ∀ (n : Nat) (v1_3 : Int32) (v2_3 : Int32) (σ_3 : CS) (H : Heap) (locs : List Loc) (ls : Array Slot), I3 n v1_3 v2_3 σ_3 → Wd D A s.heap (cW cI cJ a σ_3) H locs → lv_has ls 4 [(0, .ref (a 0)), (1, .int v1_3), (2, .int v2_3)] → W p l e rm_X4_shareOut s m args below meth c H locs 0 0 Q (F0 m 15 ls []) from LP3 n3 0 0 _ H locs ls hI3 hW hl
  intro n3
  induction n3 using Nat.strongRecOn with
  | ind n3 ih3 =>
    intro v1_3 v2_3 σ_3 H locs ls hIn hW hl
    have hw := hJ3 n3 v1_3 v2_3 σ_3 hIn
    refine lv_iload_n hx hb dX4_shareOut_15 rfl (lv_at hl 2 rfl) ?_
    refine lv_bipush (v := 6) hx hb dX4_shareOut_16 (by decide) ?_
    refine lv_icmp_ge (tgt := 65) hx hb dX4_shareOut_18 (by decide) (fun hc => ?_) (fun hc => ?_)
    · have hw := hw.1 hc
      refine lv_iload_n hx hb dX4_shareOut_65 rfl (lv_at hl 1 rfl) ?_
      exact hret _ σ_3 _ _ _ _ hw hW dX4_shareOut_66
    · have hw := hw.2 hc
      refine lv_aload_n hx hb dX4_shareOut_21 rfl (lv_at hl 0 rfl) ?_
      refine va_get (D := D) (ci := 4) (v := .ref (a 3)) (C := RX4) (T := TX4) (N := 4) hx hb hts hinX4 hown hK hW.1 0 rfl rfl 1 (by decide) (hts _ (List.mem_of_getElem? (i := 2) rfl)) (fun _ h9 => h9) rfl dX4_shareOut_22 ?_
      refine lv_iload_n hx hb dX4_shareOut_25 rfl (lv_at hl 2 rfl) ?_
      refine kV_Mi (As := [.int v2_3]) (rest := []) ⟨hx, hb, hml, hown, hts⟩ (ok_X1_ownerOf l D cI cJ a _ _ _ _ hw) (cwV 1 hts gX4_shareOut_X1_ownerOf rfl rfl rfl (by decide +kernel) ⟨Nat.le_of_ble_eq_true rfl, Nat.le_of_ble_eq_true rfl⟩) hK hW hA 3 rfl rfl rfl hl.1 rfl (Nat.le_of_ble_eq_true rfl) dX4_shareOut_26 ⟨Nat.le_of_ble_eq_true rfl, Nat.le_of_ble_eq_true rfl⟩ (fun r_4 _ H locs hw hW => ?_)
      refine lv_istore_n (lv' := [(3, .int r_4), (0, .ref (a 0)), (1, .int v1_3), (2, .int v2_3)]) hx hb dX4_shareOut_29 rfl hl (by decide) rfl (fun ls hl => ?_)
      refine lv_iload_n hx hb dX4_shareOut_30 rfl (lv_at hl 0 rfl) ?_
      refine lv_iconst (v := (-1)) hx hb dX4_shareOut_31 (by decide) ?_
      refine lv_icmp_eq (tgt := 59) hx hb dX4_shareOut_32 (by decide) (fun hc => ?_) (fun hc => ?_)
      · have hw := hw.1 hc
        obtain ⟨v2_5, ev2_5⟩ : ∃ y : Int32, y = v2_3 + 1 := ⟨_, rfl⟩
        have hw := hw v2_5 ev2_5
        refine lv_iinc (v := v2_5) (lv' := [(2, .int v2_5), (3, .int r_4), (0, .ref (a 0)), (1, .int v1_3)]) hx hb dX4_shareOut_59 hl (k := 3) rfl (by rw [ev2_5]; rfl) (by decide) rfl (fun ls hl => ?_)
        refine lv_goto (tgt := 15) hx hb dX4_shareOut_62 (by decide) ?_
        obtain ⟨n9, hlt9, hI9⟩ := hw
        exact ih3 n9 hlt9 _ _ _ _ _ _ hI9 hW (lv_sub hl [2, 3, 0] rfl)
      · have hw := hw.2 hc
        refine lv_aload_n hx hb dX4_shareOut_35 rfl (lv_at hl 1 rfl) ?_
        refine va_get (D := D) (ci := 4) (v := .ref (a 1)) (C := RX4) (T := TX4) (N := 4) hx hb hts hinX4 hown hK hW.1 0 rfl rfl 0 (by decide) (hts _ (List.mem_of_getElem? (i := 1) rfl)) (fun _ h9 => h9) rfl dX4_shareOut_36 ?_
        refine lv_iload_n hx hb dX4_shareOut_39 rfl (lv_at hl 3 rfl) ?_
        refine lv_iload_n hx hb dX4_shareOut_40 rfl (lv_at hl 0 rfl) ?_
        refine lv_aload_n hx hb dX4_shareOut_41 rfl (lv_at hl 1 rfl) ?_
        refine va_get (D := D) (ci := 4) (v := .ref (a 3)) (C := RX4) (T := TX4) (N := 4) hx hb hts hinX4 hown hK hW.1 0 rfl rfl 1 (by decide) (hts _ (List.mem_of_getElem? (i := 2) rfl)) (fun _ h9 => h9) rfl dX4_shareOut_42 ?_
        refine lv_iload_n hx hb dX4_shareOut_45 rfl (lv_at hl 3 rfl) ?_
        refine lv_aload_n hx hb dX4_shareOut_46 rfl (lv_at hl 1 rfl) ?_
        refine va_get (D := D) (ci := 4) (v := .ref (a 1)) (C := RX4) (T := TX4) (N := 4) hx hb hts hinX4 hown hK hW.1 0 rfl rfl 0 (by decide) (hts _ (List.mem_of_getElem? (i := 1) rfl)) (fun _ h9 => h9) rfl dX4_shareOut_47 ?_
        refine kV_Mi (As := [.int v2_3, .ref (a 1)]) (rest := [.int r_4, .int v2_3, .ref (a 1)]) ⟨hx, hb, hml, hown, hts⟩ (ok_X1_priceOf l D cI cJ a _ _ _ _ hw) (cwV 2 hts gX4_shareOut_X1_priceOf rfl rfl rfl (by decide +kernel) ⟨Nat.le_of_ble_eq_true rfl, Nat.le_of_ble_eq_true rfl⟩) hK hW hA 3 rfl rfl rfl hl.1 rfl (Nat.le_of_ble_eq_true rfl) dX4_shareOut_50 ⟨Nat.le_of_ble_eq_true rfl, Nat.le_of_ble_eq_true rfl⟩ (fun r_6 _ H locs hw hW => ?_)
        refine kV_Mv (As := [.int v2_3, .int r_4, .int r_6]) (rest := []) ⟨hx, hb, hml, hown, hts⟩ (ok_X2_giveSpot l D cI cJ a _ _ _ _ _ _ hw) (cwV 3 hts gX4_shareOut_X2_giveSpot rfl rfl rfl (by decide +kernel) ⟨Nat.le_of_ble_eq_true rfl, Nat.le_of_ble_eq_true rfl⟩) hK hW hA 1 rfl rfl rfl hl.1 rfl (Nat.le_of_ble_eq_true rfl) dX4_shareOut_53 ⟨Nat.le_of_ble_eq_true rfl, Nat.le_of_ble_eq_true rfl⟩ (fun σ_7 H locs hw hW => ?_)
        obtain ⟨v1_8, ev1_8⟩ : ∃ y : Int32, y = v1_3 + 1 := ⟨_, rfl⟩
        have hw := hw v1_8 ev1_8
        refine lv_iinc (v := v1_8) (lv' := [(1, .int v1_8), (3, .int r_4), (0, .ref (a 0)), (2, .int v2_3)]) hx hb dX4_shareOut_56 hl (k := 2) rfl (by rw [ev1_8]; rfl) (by decide) rfl (fun ls hl => ?_)
        obtain ⟨v2_9, ev2_9⟩ : ∃ y : Int32, y = v2_3 + 1 := ⟨_, rfl⟩
        have hw := hw v2_9 ev2_9
        refine lv_iinc (v := v2_9) (lv' := [(2, .int v2_9), (1, .int v1_8), (3, .int r_4), (0, .ref (a 0))]) hx hb dX4_shareOut_59 hl (k := 3) rfl (by rw [ev2_9]; rfl) (by decide) rfl (fun ls hl => ?_)
        refine lv_goto (tgt := 15) hx hb dX4_shareOut_62 (by decide) ?_
        obtain ⟨n9, hlt9, hI9⟩ := hw
        exact ih3 n9 hlt9 _ _ _ _ _ _ hI9 hW (lv_sub hl [3, 1, 0] rfl)
def wp_X4_open (σ : CS) (post : Int32 → CS → Prop) (px : String → Prop) : Prop := wp_X2_isOpened σ (fun r_1 => ((¬ r_1 = 0 → wp_X4_needState σ 0 (wp_X0_save σ (fun σ_2 => wp_X4_shareOut σ_2 (fun r_3 σ_4 => post r_3 σ_4))) px) ∧ (r_1 = 0 → wp_X4_needState σ 1 (wp_X0_save σ (fun σ_5 => wp_X4_shareOut σ_5 (fun r_6 σ_7 => post r_6 σ_7))) px)))
abbrev rm_X4_open_n : Room := { frames := 9, cells := 0, slots := 0, locals := 160 }
theorem in_X4_open_n_X4 : ∀ w ∈ wsX40, w ∈ wsX4_open := fun w h => List.mem_cons_of_mem _ (List.mem_append_left _ (List.mem_append_left _ (List.mem_append_left _ (List.mem_append_left _ (List.mem_append_right _ (h))))))
set_option maxHeartbeats 4000000 in
set_option maxRecDepth 100000 in
theorem ok_X4_open_n (l : Launch) (D : va_G) (cI cJ : ClassId) (a : Nat → Nat) (sz : Nat) (σ : CS) (post : Int32 → CS → Prop) (hw : wp_X4_open σ post (fun _ => False)) : Mi l yX4_open wsX4_open rm_X4_open_n [.ref (a 0)] D (tysIJ cI cJ) (cW cI cJ a σ) sz post (cW cI cJ a) := by
  refine s_Mi (by decide) rfl (Nat.le_of_ble_eq_true rfl) ?_
  intro p e s m args below meth c A Q hx hb hml hts hown hin hK hA hret H locs ls hW hl
  have hown : s.vm.findClass RX4 = some m.cls := hown
  have hl : lv_has ls 1 [(0, .ref (a 0))] := hl
  have hinX4 := in_X4_open_n_X4
  refine lv_aload_n hx hb dX4_open_0 rfl (lv_at hl 0 rfl) ?_
  refine va_get (D := D) (ci := 4) (v := .ref (a 1)) (C := RX4) (T := TX4) (N := 4) hx hb hts hinX4 hown hK hW.1 0 rfl rfl 0 (by decide) (hts _ (List.mem_of_getElem? (i := 1) rfl)) (fun _ h9 => h9) rfl dX4_open_1 ?_
  refine kV_Mi (As := []) (rest := []) ⟨hx, hb, hml, hown, hts⟩ (ok_X2_isOpened l D cI cJ a _ _ _ hw) (cwV 0 hts gX4_open_X2_isOpened rfl rfl rfl (by decide +kernel) ⟨Nat.le_of_ble_eq_true rfl, Nat.le_of_ble_eq_true rfl⟩) hK hW hA 1 rfl rfl rfl hl.1 rfl (Nat.le_of_ble_eq_true rfl) dX4_open_4 ⟨Nat.le_of_ble_eq_true rfl, Nat.le_of_ble_eq_true rfl⟩ (fun r_1 _ H locs hw hW => ?_)
  refine lv_if_ne (tgt := 14) hx hb dX4_open_7 (by decide) (fun hc => ?_) (fun hc => ?_)
  · have hw := hw.1 hc
    refine lv_iconst (v := 0) hx hb dX4_open_14 (by decide) ?_
    refine kS_Mv (As := [.int 0]) (rest := []) ⟨hx, hb, hml, hown, hts⟩ (ok_X4_needState_n l D cI cJ a _ _ _ _ hw) (va_cwS 1 hts gX4_open_X4_needState rfl rfl rfl (by decide +kernel) ⟨Nat.le_of_ble_eq_true rfl, Nat.le_of_ble_eq_true rfl⟩) hK hW hA rfl hl.1 rfl (Nat.le_of_ble_eq_true rfl) dX4_open_15 ⟨Nat.le_of_ble_eq_true rfl, Nat.le_of_ble_eq_true rfl⟩ (fun _ H locs hw hW => ?_)
    refine lv_aload_n hx hb dX4_open_18 rfl (lv_at hl 0 rfl) ?_
    refine va_get (D := D) (ci := 4) (v := .ref (a 6)) (C := RX4) (T := TX4) (N := 4) hx hb hts hinX4 hown hK hW.1 0 rfl rfl 2 (by decide) (hts _ (List.mem_of_getElem? (i := 2) rfl)) (fun _ h9 => h9) rfl dX4_open_19 ?_
    refine lv_aload_n hx hb dX4_open_22 rfl (lv_at hl 0 rfl) ?_
    refine va_get (D := D) (ci := 4) (v := .ref (a 1)) (C := RX4) (T := TX4) (N := 4) hx hb hts hinX4 hown hK hW.1 0 rfl rfl 0 (by decide) (hts _ (List.mem_of_getElem? (i := 1) rfl)) (fun _ h9 => h9) rfl dX4_open_23 ?_
    refine kV_Mv (As := [.ref (a 1)]) (rest := []) ⟨hx, hb, hml, hown, hts⟩ (ok_X0_save l D cI cJ a _ _ _ hw) (cwV 1 hts gX4_open_X0_save rfl rfl rfl (by decide +kernel) ⟨Nat.le_of_ble_eq_true rfl, Nat.le_of_ble_eq_true rfl⟩) hK hW hA 6 rfl rfl rfl hl.1 rfl (Nat.le_of_ble_eq_true rfl) dX4_open_26 ⟨Nat.le_of_ble_eq_true rfl, Nat.le_of_ble_eq_true rfl⟩ (fun σ_2 H locs hw hW => ?_)
    refine lv_aload_n hx hb dX4_open_29 rfl (lv_at hl 0 rfl) ?_
    refine kV_Mi (As := []) (rest := []) ⟨hx, hb, hml, hown, hts⟩ (ok_X4_shareOut l D cI cJ a _ _ _ hw) (cwV 0 hts gX4_open_X4_shareOut rfl rfl rfl (by decide +kernel) ⟨Nat.le_of_ble_eq_true rfl, Nat.le_of_ble_eq_true rfl⟩) hK hW hA 0 rfl rfl rfl hl.1 rfl (Nat.le_of_ble_eq_true rfl) dX4_open_30 ⟨Nat.le_of_ble_eq_true rfl, Nat.le_of_ble_eq_true rfl⟩ (fun r_3 σ_4 H locs hw hW => ?_)
    exact hret _ σ_4 _ _ _ _ hw hW dX4_open_33
  · have hw := hw.2 hc
    refine lv_iconst (v := 1) hx hb dX4_open_10 (by decide) ?_
    refine lv_goto (tgt := 15) hx hb dX4_open_11 (by decide) ?_
    refine kS_Mv (As := [.int 1]) (rest := []) ⟨hx, hb, hml, hown, hts⟩ (ok_X4_needState_n l D cI cJ a _ _ _ _ hw) (va_cwS 1 hts gX4_open_X4_needState rfl rfl rfl (by decide +kernel) ⟨Nat.le_of_ble_eq_true rfl, Nat.le_of_ble_eq_true rfl⟩) hK hW hA rfl hl.1 rfl (Nat.le_of_ble_eq_true rfl) dX4_open_15 ⟨Nat.le_of_ble_eq_true rfl, Nat.le_of_ble_eq_true rfl⟩ (fun _ H locs hw hW => ?_)
    refine lv_aload_n hx hb dX4_open_18 rfl (lv_at hl 0 rfl) ?_
    refine va_get (D := D) (ci := 4) (v := .ref (a 6)) (C := RX4) (T := TX4) (N := 4) hx hb hts hinX4 hown hK hW.1 0 rfl rfl 2 (by decide) (hts _ (List.mem_of_getElem? (i := 2) rfl)) (fun _ h9 => h9) rfl dX4_open_19 ?_
    refine lv_aload_n hx hb dX4_open_22 rfl (lv_at hl 0 rfl) ?_
    refine va_get (D := D) (ci := 4) (v := .ref (a 1)) (C := RX4) (T := TX4) (N := 4) hx hb hts hinX4 hown hK hW.1 0 rfl rfl 0 (by decide) (hts _ (List.mem_of_getElem? (i := 1) rfl)) (fun _ h9 => h9) rfl dX4_open_23 ?_
    refine kV_Mv (As := [.ref (a 1)]) (rest := []) ⟨hx, hb, hml, hown, hts⟩ (ok_X0_save l D cI cJ a _ _ _ hw) (cwV 1 hts gX4_open_X0_save rfl rfl rfl (by decide +kernel) ⟨Nat.le_of_ble_eq_true rfl, Nat.le_of_ble_eq_true rfl⟩) hK hW hA 6 rfl rfl rfl hl.1 rfl (Nat.le_of_ble_eq_true rfl) dX4_open_26 ⟨Nat.le_of_ble_eq_true rfl, Nat.le_of_ble_eq_true rfl⟩ (fun σ_5 H locs hw hW => ?_)
    refine lv_aload_n hx hb dX4_open_29 rfl (lv_at hl 0 rfl) ?_
    refine kV_Mi (As := []) (rest := []) ⟨hx, hb, hml, hown, hts⟩ (ok_X4_shareOut l D cI cJ a _ _ _ hw) (cwV 0 hts gX4_open_X4_shareOut rfl rfl rfl (by decide +kernel) ⟨Nat.le_of_ble_eq_true rfl, Nat.le_of_ble_eq_true rfl⟩) hK hW hA 0 rfl rfl rfl hl.1 rfl (Nat.le_of_ble_eq_true rfl) dX4_open_30 ⟨Nat.le_of_ble_eq_true rfl, Nat.le_of_ble_eq_true rfl⟩ (fun r_6 σ_7 H locs hw hW => ?_)
    exact hret _ σ_7 _ _ _ _ hw hW dX4_open_33
def wp_X4_fish (σ : CS) (p1 : Int32) (post : Int32 → CS → Prop) (px : String → Prop) : Prop := wp_X4_needPlace σ p1 6 (wp_X2_canFish σ p1 (fun r_1 => wp_X4_needState σ r_1 (wp_X0_save σ (fun σ_2 => wp_X2_catchFish σ_2 p1 (fun r_3 σ_4 => post r_3 σ_4))) px)) px
abbrev rm_X4_fish_n : Room := { frames := 9, cells := 0, slots := 0, locals := 161 }
theorem in_X4_fish_n_X4 : ∀ w ∈ wsX40, w ∈ wsX4_fish := fun w h => List.mem_cons_of_mem _ (List.mem_append_left _ (List.mem_append_left _ (List.mem_append_left _ (List.mem_append_left _ (List.mem_append_right _ (h))))))
set_option maxHeartbeats 4000000 in
set_option maxRecDepth 100000 in
theorem ok_X4_fish_n (l : Launch) (D : va_G) (cI cJ : ClassId) (a : Nat → Nat) (sz : Nat) (σ : CS) (p1 : Int32) (post : Int32 → CS → Prop) (hw : wp_X4_fish σ p1 post (fun _ => False)) : Mi l yX4_fish wsX4_fish rm_X4_fish_n [.ref (a 0), .int p1] D (tysIJ cI cJ) (cW cI cJ a σ) sz post (cW cI cJ a) := by
  refine s_Mi (by decide) rfl (Nat.le_of_ble_eq_true rfl) ?_
  intro p e s m args below meth c A Q hx hb hml hts hown hin hK hA hret H locs ls hW hl
  have hown : s.vm.findClass RX4 = some m.cls := hown
  have hl : lv_has ls 2 [(0, .ref (a 0)), (1, .int p1)] := hl
  have hinX4 := in_X4_fish_n_X4
  refine lv_iload_n hx hb dX4_fish_0 rfl (lv_at hl 1 rfl) ?_
  refine lv_bipush (v := 6) hx hb dX4_fish_1 (by decide) ?_
  refine kS_Mv (As := [.int p1, .int 6]) (rest := []) ⟨hx, hb, hml, hown, hts⟩ (ok_X4_needPlace_n l D cI cJ a _ _ _ _ _ hw) (va_cwS 2 hts gX4_fish_X4_needPlace rfl rfl rfl (by decide +kernel) ⟨Nat.le_of_ble_eq_true rfl, Nat.le_of_ble_eq_true rfl⟩) hK hW hA rfl hl.1 rfl (Nat.le_of_ble_eq_true rfl) dX4_fish_3 ⟨Nat.le_of_ble_eq_true rfl, Nat.le_of_ble_eq_true rfl⟩ (fun _ H locs hw hW => ?_)
  refine lv_aload_n hx hb dX4_fish_6 rfl (lv_at hl 0 rfl) ?_
  refine va_get (D := D) (ci := 4) (v := .ref (a 1)) (C := RX4) (T := TX4) (N := 4) hx hb hts hinX4 hown hK hW.1 0 rfl rfl 0 (by decide) (hts _ (List.mem_of_getElem? (i := 1) rfl)) (fun _ h9 => h9) rfl dX4_fish_7 ?_
  refine lv_iload_n hx hb dX4_fish_10 rfl (lv_at hl 1 rfl) ?_
  refine kV_Mi (As := [.int p1]) (rest := []) ⟨hx, hb, hml, hown, hts⟩ (ok_X2_canFish l D cI cJ a _ _ _ _ hw) (cwV 1 hts gX4_fish_X2_canFish rfl rfl rfl (by decide +kernel) ⟨Nat.le_of_ble_eq_true rfl, Nat.le_of_ble_eq_true rfl⟩) hK hW hA 1 rfl rfl rfl hl.1 rfl (Nat.le_of_ble_eq_true rfl) dX4_fish_11 ⟨Nat.le_of_ble_eq_true rfl, Nat.le_of_ble_eq_true rfl⟩ (fun r_1 _ H locs hw hW => ?_)
  refine kS_Mv (As := [.int r_1]) (rest := []) ⟨hx, hb, hml, hown, hts⟩ (ok_X4_needState_n l D cI cJ a _ _ _ _ hw) (va_cwS 1 hts gX4_fish_X4_needState rfl rfl rfl (by decide +kernel) ⟨Nat.le_of_ble_eq_true rfl, Nat.le_of_ble_eq_true rfl⟩) hK hW hA rfl hl.1 rfl (Nat.le_of_ble_eq_true rfl) dX4_fish_14 ⟨Nat.le_of_ble_eq_true rfl, Nat.le_of_ble_eq_true rfl⟩ (fun _ H locs hw hW => ?_)
  refine lv_aload_n hx hb dX4_fish_17 rfl (lv_at hl 0 rfl) ?_
  refine va_get (D := D) (ci := 4) (v := .ref (a 6)) (C := RX4) (T := TX4) (N := 4) hx hb hts hinX4 hown hK hW.1 0 rfl rfl 2 (by decide) (hts _ (List.mem_of_getElem? (i := 2) rfl)) (fun _ h9 => h9) rfl dX4_fish_18 ?_
  refine lv_aload_n hx hb dX4_fish_21 rfl (lv_at hl 0 rfl) ?_
  refine va_get (D := D) (ci := 4) (v := .ref (a 1)) (C := RX4) (T := TX4) (N := 4) hx hb hts hinX4 hown hK hW.1 0 rfl rfl 0 (by decide) (hts _ (List.mem_of_getElem? (i := 1) rfl)) (fun _ h9 => h9) rfl dX4_fish_22 ?_
  refine kV_Mv (As := [.ref (a 1)]) (rest := []) ⟨hx, hb, hml, hown, hts⟩ (ok_X0_save l D cI cJ a _ _ _ hw) (cwV 1 hts gX4_fish_X0_save rfl rfl rfl (by decide +kernel) ⟨Nat.le_of_ble_eq_true rfl, Nat.le_of_ble_eq_true rfl⟩) hK hW hA 6 rfl rfl rfl hl.1 rfl (Nat.le_of_ble_eq_true rfl) dX4_fish_25 ⟨Nat.le_of_ble_eq_true rfl, Nat.le_of_ble_eq_true rfl⟩ (fun σ_2 H locs hw hW => ?_)
  refine lv_aload_n hx hb dX4_fish_28 rfl (lv_at hl 0 rfl) ?_
  refine va_get (D := D) (ci := 4) (v := .ref (a 1)) (C := RX4) (T := TX4) (N := 4) hx hb hts hinX4 hown hK hW.1 0 rfl rfl 0 (by decide) (hts _ (List.mem_of_getElem? (i := 1) rfl)) (fun _ h9 => h9) rfl dX4_fish_29 ?_
  refine lv_iload_n hx hb dX4_fish_32 rfl (lv_at hl 1 rfl) ?_
  refine kV_Mi (As := [.int p1]) (rest := []) ⟨hx, hb, hml, hown, hts⟩ (ok_X2_catchFish l D cI cJ a _ _ _ _ hw) (cwV 1 hts gX4_fish_X2_catchFish rfl rfl rfl (by decide +kernel) ⟨Nat.le_of_ble_eq_true rfl, Nat.le_of_ble_eq_true rfl⟩) hK hW hA 1 rfl rfl rfl hl.1 rfl (Nat.le_of_ble_eq_true rfl) dX4_fish_33 ⟨Nat.le_of_ble_eq_true rfl, Nat.le_of_ble_eq_true rfl⟩ (fun r_3 σ_4 H locs hw hW => ?_)
  exact hret _ σ_4 _ _ _ _ hw hW dX4_fish_36
def wp_X4_nextDay (σ : CS) (post : Int32 → CS → Prop) : Prop := wp_X0_save σ (fun σ_1 => wp_X2_beginDay σ_1 (fun r_2 σ_3 => post r_2 σ_3))
abbrev rm_X4_nextDay : Room := { frames := 4, cells := 0, slots := 0, locals := 89 }
theorem in_X4_nextDay_X4 : ∀ w ∈ wsX40, w ∈ wsX4_nextDay := fun w h => List.mem_cons_of_mem _ (List.mem_append_left _ (List.mem_append_left _ (List.mem_append_right _ (h))))
set_option maxHeartbeats 4000000 in
set_option maxRecDepth 100000 in
theorem ok_X4_nextDay (l : Launch) (D : va_G) (cI cJ : ClassId) (a : Nat → Nat) (sz : Nat) (σ : CS) (post : Int32 → CS → Prop) (hw : wp_X4_nextDay σ post) : Mi l yX4_nextDay wsX4_nextDay rm_X4_nextDay [.ref (a 0)] D (tysIJ cI cJ) (cW cI cJ a σ) sz post (cW cI cJ a) := by
  refine s_Mi (by decide) rfl (Nat.le_of_ble_eq_true rfl) ?_
  intro p e s m args below meth c A Q hx hb hml hts hown hin hK hA hret H locs ls hW hl
  have hown : s.vm.findClass RX4 = some m.cls := hown
  have hl : lv_has ls 1 [(0, .ref (a 0))] := hl
  have hinX4 := in_X4_nextDay_X4
  refine lv_aload_n hx hb dX4_nextDay_0 rfl (lv_at hl 0 rfl) ?_
  refine va_get (D := D) (ci := 4) (v := .ref (a 6)) (C := RX4) (T := TX4) (N := 4) hx hb hts hinX4 hown hK hW.1 0 rfl rfl 2 (by decide) (hts _ (List.mem_of_getElem? (i := 1) rfl)) (fun _ h9 => h9) rfl dX4_nextDay_1 ?_
  refine lv_aload_n hx hb dX4_nextDay_4 rfl (lv_at hl 0 rfl) ?_
  refine va_get (D := D) (ci := 4) (v := .ref (a 1)) (C := RX4) (T := TX4) (N := 4) hx hb hts hinX4 hown hK hW.1 0 rfl rfl 0 (by decide) (hts _ (List.mem_of_getElem? (i := 2) rfl)) (fun _ h9 => h9) rfl dX4_nextDay_5 ?_
  refine kV_Mv (As := [.ref (a 1)]) (rest := []) ⟨hx, hb, hml, hown, hts⟩ (ok_X0_save l D cI cJ a _ _ _ hw) (cwV 1 hts gX4_nextDay_X0_save rfl rfl rfl (by decide +kernel) ⟨Nat.le_of_ble_eq_true rfl, Nat.le_of_ble_eq_true rfl⟩) hK hW hA 6 rfl rfl rfl hl.1 rfl (Nat.le_of_ble_eq_true rfl) dX4_nextDay_8 ⟨Nat.le_of_ble_eq_true rfl, Nat.le_of_ble_eq_true rfl⟩ (fun σ_1 H locs hw hW => ?_)
  refine lv_aload_n hx hb dX4_nextDay_11 rfl (lv_at hl 0 rfl) ?_
  refine va_get (D := D) (ci := 4) (v := .ref (a 1)) (C := RX4) (T := TX4) (N := 4) hx hb hts hinX4 hown hK hW.1 0 rfl rfl 0 (by decide) (hts _ (List.mem_of_getElem? (i := 2) rfl)) (fun _ h9 => h9) rfl dX4_nextDay_12 ?_
  refine kV_Mi (As := []) (rest := []) ⟨hx, hb, hml, hown, hts⟩ (ok_X2_beginDay l D cI cJ a _ _ _ hw) (cwV 0 hts gX4_nextDay_X2_beginDay rfl rfl rfl (by decide +kernel) ⟨Nat.le_of_ble_eq_true rfl, Nat.le_of_ble_eq_true rfl⟩) hK hW hA 1 rfl rfl rfl hl.1 rfl (Nat.le_of_ble_eq_true rfl) dX4_nextDay_15 ⟨Nat.le_of_ble_eq_true rfl, Nat.le_of_ble_eq_true rfl⟩ (fun r_2 σ_3 H locs hw hW => ?_)
  exact hret _ σ_3 _ _ _ _ hw hW dX4_nextDay_18
def wp_X4_keep (σ : CS) (post : Int32 → CS → Prop) : Prop := wp_X0_takeSnapshot σ (fun σ_1 => wp_X2_get_ σ_1 165 (fun r_2 => post r_2 σ_1))
abbrev rm_X4_keep : Room := { frames := 4, cells := 0, slots := 0, locals := 89 }
theorem in_X4_keep_X4 : ∀ w ∈ wsX40, w ∈ wsX4_keep := fun w h => List.mem_cons_of_mem _ (List.mem_append_left _ (List.mem_append_left _ (List.mem_append_right _ (h))))
set_option maxHeartbeats 4000000 in
set_option maxRecDepth 100000 in
theorem ok_X4_keep (l : Launch) (D : va_G) (cI cJ : ClassId) (a : Nat → Nat) (sz : Nat) (σ : CS) (post : Int32 → CS → Prop) (hw : wp_X4_keep σ post) : Mi l yX4_keep wsX4_keep rm_X4_keep [.ref (a 0)] D (tysIJ cI cJ) (cW cI cJ a σ) sz post (cW cI cJ a) := by
  refine s_Mi (by decide) rfl (Nat.le_of_ble_eq_true rfl) ?_
  intro p e s m args below meth c A Q hx hb hml hts hown hin hK hA hret H locs ls hW hl
  have hown : s.vm.findClass RX4 = some m.cls := hown
  have hl : lv_has ls 1 [(0, .ref (a 0))] := hl
  have hinX4 := in_X4_keep_X4
  refine lv_aload_n hx hb dX4_keep_0 rfl (lv_at hl 0 rfl) ?_
  refine va_get (D := D) (ci := 4) (v := .ref (a 6)) (C := RX4) (T := TX4) (N := 4) hx hb hts hinX4 hown hK hW.1 0 rfl rfl 2 (by decide) (hts _ (List.mem_of_getElem? (i := 1) rfl)) (fun _ h9 => h9) rfl dX4_keep_1 ?_
  refine lv_aload_n hx hb dX4_keep_4 rfl (lv_at hl 0 rfl) ?_
  refine va_get (D := D) (ci := 4) (v := .ref (a 1)) (C := RX4) (T := TX4) (N := 4) hx hb hts hinX4 hown hK hW.1 0 rfl rfl 0 (by decide) (hts _ (List.mem_of_getElem? (i := 2) rfl)) (fun _ h9 => h9) rfl dX4_keep_5 ?_
  refine kV_Mv (As := [.ref (a 1)]) (rest := []) ⟨hx, hb, hml, hown, hts⟩ (ok_X0_takeSnapshot l D cI cJ a _ _ _ hw) (cwV 1 hts gX4_keep_X0_takeSnapshot rfl rfl rfl (by decide +kernel) ⟨Nat.le_of_ble_eq_true rfl, Nat.le_of_ble_eq_true rfl⟩) hK hW hA 6 rfl rfl rfl hl.1 rfl (Nat.le_of_ble_eq_true rfl) dX4_keep_8 ⟨Nat.le_of_ble_eq_true rfl, Nat.le_of_ble_eq_true rfl⟩ (fun σ_1 H locs hw hW => ?_)
  refine lv_aload_n hx hb dX4_keep_11 rfl (lv_at hl 0 rfl) ?_
  refine va_get (D := D) (ci := 4) (v := .ref (a 1)) (C := RX4) (T := TX4) (N := 4) hx hb hts hinX4 hown hK hW.1 0 rfl rfl 0 (by decide) (hts _ (List.mem_of_getElem? (i := 2) rfl)) (fun _ h9 => h9) rfl dX4_keep_12 ?_
  refine lv_sipush (v := 165) hx hb dX4_keep_15 (by decide) ?_
  refine kV_Mi (As := [.int 165]) (rest := []) ⟨hx, hb, hml, hown, hts⟩ (ok_X2_get_ l D cI cJ a _ _ _ _ hw) (cwV 1 hts gX4_keep_X2_get_ rfl rfl rfl (by decide +kernel) ⟨Nat.le_of_ble_eq_true rfl, Nat.le_of_ble_eq_true rfl⟩) hK hW hA 1 rfl rfl rfl hl.1 rfl (Nat.le_of_ble_eq_true rfl) dX4_keep_18 ⟨Nat.le_of_ble_eq_true rfl, Nat.le_of_ble_eq_true rfl⟩ (fun r_2 _ H locs hw hW => ?_)
  exact hret _ σ_1 _ _ _ _ hw hW dX4_keep_21
def wp_X4_goBack (σ : CS) (post : Int32 → CS → Prop) (px : String → Prop) : Prop := wp_X0_hasSnapshot σ (fun r_1 => wp_X4_needState σ r_1 (wp_X0_save σ (fun σ_2 => wp_X0_restoreSnapshot σ_2 (fun σ_3 => wp_X2_get_ σ_3 165 (fun r_4 => post r_4 σ_3)))) px)
abbrev rm_X4_goBack_n : Room := { frames := 9, cells := 0, slots := 0, locals := 160 }
theorem in_X4_goBack_n_X4 : ∀ w ∈ wsX40, w ∈ wsX4_goBack := fun w h => List.mem_cons_of_mem _ (List.mem_append_left _ (List.mem_append_left _ (List.mem_append_left _ (List.mem_append_right _ (h)))))
set_option maxHeartbeats 4000000 in
set_option maxRecDepth 100000 in
theorem ok_X4_goBack_n (l : Launch) (D : va_G) (cI cJ : ClassId) (a : Nat → Nat) (sz : Nat) (σ : CS) (post : Int32 → CS → Prop) (hw : wp_X4_goBack σ post (fun _ => False)) : Mi l yX4_goBack wsX4_goBack rm_X4_goBack_n [.ref (a 0)] D (tysIJ cI cJ) (cW cI cJ a σ) sz post (cW cI cJ a) := by
  refine s_Mi (by decide) rfl (Nat.le_of_ble_eq_true rfl) ?_
  intro p e s m args below meth c A Q hx hb hml hts hown hin hK hA hret H locs ls hW hl
  have hown : s.vm.findClass RX4 = some m.cls := hown
  have hl : lv_has ls 1 [(0, .ref (a 0))] := hl
  have hinX4 := in_X4_goBack_n_X4
  refine lv_aload_n hx hb dX4_goBack_0 rfl (lv_at hl 0 rfl) ?_
  refine va_get (D := D) (ci := 4) (v := .ref (a 6)) (C := RX4) (T := TX4) (N := 4) hx hb hts hinX4 hown hK hW.1 0 rfl rfl 2 (by decide) (hts _ (List.mem_of_getElem? (i := 1) rfl)) (fun _ h9 => h9) rfl dX4_goBack_1 ?_
  refine kV_Mi (As := []) (rest := []) ⟨hx, hb, hml, hown, hts⟩ (ok_X0_hasSnapshot l D cI cJ a _ _ _ hw) (cwV 0 hts gX4_goBack_X0_hasSnapshot rfl rfl rfl (by decide +kernel) ⟨Nat.le_of_ble_eq_true rfl, Nat.le_of_ble_eq_true rfl⟩) hK hW hA 6 rfl rfl rfl hl.1 rfl (Nat.le_of_ble_eq_true rfl) dX4_goBack_4 ⟨Nat.le_of_ble_eq_true rfl, Nat.le_of_ble_eq_true rfl⟩ (fun r_1 _ H locs hw hW => ?_)
  refine kS_Mv (As := [.int r_1]) (rest := []) ⟨hx, hb, hml, hown, hts⟩ (ok_X4_needState_n l D cI cJ a _ _ _ _ hw) (va_cwS 1 hts gX4_goBack_X4_needState rfl rfl rfl (by decide +kernel) ⟨Nat.le_of_ble_eq_true rfl, Nat.le_of_ble_eq_true rfl⟩) hK hW hA rfl hl.1 rfl (Nat.le_of_ble_eq_true rfl) dX4_goBack_7 ⟨Nat.le_of_ble_eq_true rfl, Nat.le_of_ble_eq_true rfl⟩ (fun _ H locs hw hW => ?_)
  refine lv_aload_n hx hb dX4_goBack_10 rfl (lv_at hl 0 rfl) ?_
  refine va_get (D := D) (ci := 4) (v := .ref (a 6)) (C := RX4) (T := TX4) (N := 4) hx hb hts hinX4 hown hK hW.1 0 rfl rfl 2 (by decide) (hts _ (List.mem_of_getElem? (i := 1) rfl)) (fun _ h9 => h9) rfl dX4_goBack_11 ?_
  refine lv_aload_n hx hb dX4_goBack_14 rfl (lv_at hl 0 rfl) ?_
  refine va_get (D := D) (ci := 4) (v := .ref (a 1)) (C := RX4) (T := TX4) (N := 4) hx hb hts hinX4 hown hK hW.1 0 rfl rfl 0 (by decide) (hts _ (List.mem_of_getElem? (i := 2) rfl)) (fun _ h9 => h9) rfl dX4_goBack_15 ?_
  refine kV_Mv (As := [.ref (a 1)]) (rest := []) ⟨hx, hb, hml, hown, hts⟩ (ok_X0_save l D cI cJ a _ _ _ hw) (cwV 1 hts gX4_goBack_X0_save rfl rfl rfl (by decide +kernel) ⟨Nat.le_of_ble_eq_true rfl, Nat.le_of_ble_eq_true rfl⟩) hK hW hA 6 rfl rfl rfl hl.1 rfl (Nat.le_of_ble_eq_true rfl) dX4_goBack_18 ⟨Nat.le_of_ble_eq_true rfl, Nat.le_of_ble_eq_true rfl⟩ (fun σ_2 H locs hw hW => ?_)
  refine lv_aload_n hx hb dX4_goBack_21 rfl (lv_at hl 0 rfl) ?_
  refine va_get (D := D) (ci := 4) (v := .ref (a 6)) (C := RX4) (T := TX4) (N := 4) hx hb hts hinX4 hown hK hW.1 0 rfl rfl 2 (by decide) (hts _ (List.mem_of_getElem? (i := 1) rfl)) (fun _ h9 => h9) rfl dX4_goBack_22 ?_
  refine lv_aload_n hx hb dX4_goBack_25 rfl (lv_at hl 0 rfl) ?_
  refine va_get (D := D) (ci := 4) (v := .ref (a 1)) (C := RX4) (T := TX4) (N := 4) hx hb hts hinX4 hown hK hW.1 0 rfl rfl 0 (by decide) (hts _ (List.mem_of_getElem? (i := 2) rfl)) (fun _ h9 => h9) rfl dX4_goBack_26 ?_
  refine kV_Mv (As := [.ref (a 1)]) (rest := []) ⟨hx, hb, hml, hown, hts⟩ (ok_X0_restoreSnapshot l D cI cJ a _ _ _ hw) (cwV 1 hts gX4_goBack_X0_restoreSnapshot rfl rfl rfl (by decide +kernel) ⟨Nat.le_of_ble_eq_true rfl, Nat.le_of_ble_eq_true rfl⟩) hK hW hA 6 rfl rfl rfl hl.1 rfl (Nat.le_of_ble_eq_true rfl) dX4_goBack_29 ⟨Nat.le_of_ble_eq_true rfl, Nat.le_of_ble_eq_true rfl⟩ (fun σ_3 H locs hw hW => ?_)
  refine lv_aload_n hx hb dX4_goBack_32 rfl (lv_at hl 0 rfl) ?_
  refine va_get (D := D) (ci := 4) (v := .ref (a 1)) (C := RX4) (T := TX4) (N := 4) hx hb hts hinX4 hown hK hW.1 0 rfl rfl 0 (by decide) (hts _ (List.mem_of_getElem? (i := 2) rfl)) (fun _ h9 => h9) rfl dX4_goBack_33 ?_
  refine lv_sipush (v := 165) hx hb dX4_goBack_36 (by decide) ?_
  refine kV_Mi (As := [.int 165]) (rest := []) ⟨hx, hb, hml, hown, hts⟩ (ok_X2_get_ l D cI cJ a _ _ _ _ hw) (cwV 1 hts gX4_goBack_X2_get_ rfl rfl rfl (by decide +kernel) ⟨Nat.le_of_ble_eq_true rfl, Nat.le_of_ble_eq_true rfl⟩) hK hW hA 1 rfl rfl rfl hl.1 rfl (Nat.le_of_ble_eq_true rfl) dX4_goBack_39 ⟨Nat.le_of_ble_eq_true rfl, Nat.le_of_ble_eq_true rfl⟩ (fun r_4 _ H locs hw hW => ?_)
  exact hret _ σ_3 _ _ _ _ hw hW dX4_goBack_42
def wp_X4_undo (σ : CS) (post : Int32 → CS → Prop) (px : String → Prop) : Prop := wp_X0_savedStates σ (fun r_1 => ((r_1 ≤ 0 → wp_X4_needState σ 0 (wp_X0_restoreLatest σ (fun σ_2 => wp_X0_savedStates σ_2 (fun r_3 => post r_3 σ_2))) px) ∧ (¬ r_1 ≤ 0 → wp_X4_needState σ 1 (wp_X0_restoreLatest σ (fun σ_4 => wp_X0_savedStates σ_4 (fun r_5 => post r_5 σ_4))) px)))
abbrev rm_X4_undo_n : Room := { frames := 9, cells := 0, slots := 0, locals := 160 }
theorem in_X4_undo_n_X4 : ∀ w ∈ wsX40, w ∈ wsX4_undo := fun w h => List.mem_cons_of_mem _ (List.mem_append_left _ (List.mem_append_left _ (List.mem_append_left _ (List.mem_append_right _ (h)))))
set_option maxHeartbeats 4000000 in
set_option maxRecDepth 100000 in
theorem ok_X4_undo_n (l : Launch) (D : va_G) (cI cJ : ClassId) (a : Nat → Nat) (sz : Nat) (σ : CS) (post : Int32 → CS → Prop) (hw : wp_X4_undo σ post (fun _ => False)) : Mi l yX4_undo wsX4_undo rm_X4_undo_n [.ref (a 0)] D (tysIJ cI cJ) (cW cI cJ a σ) sz post (cW cI cJ a) := by
  refine s_Mi (by decide) rfl (Nat.le_of_ble_eq_true rfl) ?_
  intro p e s m args below meth c A Q hx hb hml hts hown hin hK hA hret H locs ls hW hl
  have hown : s.vm.findClass RX4 = some m.cls := hown
  have hl : lv_has ls 1 [(0, .ref (a 0))] := hl
  have hinX4 := in_X4_undo_n_X4
  refine lv_aload_n hx hb dX4_undo_0 rfl (lv_at hl 0 rfl) ?_
  refine va_get (D := D) (ci := 4) (v := .ref (a 6)) (C := RX4) (T := TX4) (N := 4) hx hb hts hinX4 hown hK hW.1 0 rfl rfl 2 (by decide) (hts _ (List.mem_of_getElem? (i := 1) rfl)) (fun _ h9 => h9) rfl dX4_undo_1 ?_
  refine kV_Mi (As := []) (rest := []) ⟨hx, hb, hml, hown, hts⟩ (ok_X0_savedStates l D cI cJ a _ _ _ hw) (cwV 0 hts gX4_undo_X0_savedStates rfl rfl rfl (by decide +kernel) ⟨Nat.le_of_ble_eq_true rfl, Nat.le_of_ble_eq_true rfl⟩) hK hW hA 6 rfl rfl rfl hl.1 rfl (Nat.le_of_ble_eq_true rfl) dX4_undo_4 ⟨Nat.le_of_ble_eq_true rfl, Nat.le_of_ble_eq_true rfl⟩ (fun r_1 _ H locs hw hW => ?_)
  refine lv_if_le (tgt := 14) hx hb dX4_undo_7 (by decide) (fun hc => ?_) (fun hc => ?_)
  · have hw := hw.1 hc
    refine lv_iconst (v := 0) hx hb dX4_undo_14 (by decide) ?_
    refine kS_Mv (As := [.int 0]) (rest := []) ⟨hx, hb, hml, hown, hts⟩ (ok_X4_needState_n l D cI cJ a _ _ _ _ hw) (va_cwS 1 hts gX4_undo_X4_needState rfl rfl rfl (by decide +kernel) ⟨Nat.le_of_ble_eq_true rfl, Nat.le_of_ble_eq_true rfl⟩) hK hW hA rfl hl.1 rfl (Nat.le_of_ble_eq_true rfl) dX4_undo_15 ⟨Nat.le_of_ble_eq_true rfl, Nat.le_of_ble_eq_true rfl⟩ (fun _ H locs hw hW => ?_)
    refine lv_aload_n hx hb dX4_undo_18 rfl (lv_at hl 0 rfl) ?_
    refine va_get (D := D) (ci := 4) (v := .ref (a 6)) (C := RX4) (T := TX4) (N := 4) hx hb hts hinX4 hown hK hW.1 0 rfl rfl 2 (by decide) (hts _ (List.mem_of_getElem? (i := 1) rfl)) (fun _ h9 => h9) rfl dX4_undo_19 ?_
    refine lv_aload_n hx hb dX4_undo_22 rfl (lv_at hl 0 rfl) ?_
    refine va_get (D := D) (ci := 4) (v := .ref (a 1)) (C := RX4) (T := TX4) (N := 4) hx hb hts hinX4 hown hK hW.1 0 rfl rfl 0 (by decide) (hts _ (List.mem_of_getElem? (i := 2) rfl)) (fun _ h9 => h9) rfl dX4_undo_23 ?_
    refine kV_Mv (As := [.ref (a 1)]) (rest := []) ⟨hx, hb, hml, hown, hts⟩ (ok_X0_restoreLatest l D cI cJ a _ _ _ hw) (cwV 1 hts gX4_undo_X0_restoreLatest rfl rfl rfl (by decide +kernel) ⟨Nat.le_of_ble_eq_true rfl, Nat.le_of_ble_eq_true rfl⟩) hK hW hA 6 rfl rfl rfl hl.1 rfl (Nat.le_of_ble_eq_true rfl) dX4_undo_26 ⟨Nat.le_of_ble_eq_true rfl, Nat.le_of_ble_eq_true rfl⟩ (fun σ_2 H locs hw hW => ?_)
    refine lv_aload_n hx hb dX4_undo_29 rfl (lv_at hl 0 rfl) ?_
    refine va_get (D := D) (ci := 4) (v := .ref (a 6)) (C := RX4) (T := TX4) (N := 4) hx hb hts hinX4 hown hK hW.1 0 rfl rfl 2 (by decide) (hts _ (List.mem_of_getElem? (i := 1) rfl)) (fun _ h9 => h9) rfl dX4_undo_30 ?_
    refine kV_Mi (As := []) (rest := []) ⟨hx, hb, hml, hown, hts⟩ (ok_X0_savedStates l D cI cJ a _ _ _ hw) (cwV 0 hts gX4_undo_X0_savedStates rfl rfl rfl (by decide +kernel) ⟨Nat.le_of_ble_eq_true rfl, Nat.le_of_ble_eq_true rfl⟩) hK hW hA 6 rfl rfl rfl hl.1 rfl (Nat.le_of_ble_eq_true rfl) dX4_undo_33 ⟨Nat.le_of_ble_eq_true rfl, Nat.le_of_ble_eq_true rfl⟩ (fun r_3 _ H locs hw hW => ?_)
    exact hret _ σ_2 _ _ _ _ hw hW dX4_undo_36
  · have hw := hw.2 hc
    refine lv_iconst (v := 1) hx hb dX4_undo_10 (by decide) ?_
    refine lv_goto (tgt := 15) hx hb dX4_undo_11 (by decide) ?_
    refine kS_Mv (As := [.int 1]) (rest := []) ⟨hx, hb, hml, hown, hts⟩ (ok_X4_needState_n l D cI cJ a _ _ _ _ hw) (va_cwS 1 hts gX4_undo_X4_needState rfl rfl rfl (by decide +kernel) ⟨Nat.le_of_ble_eq_true rfl, Nat.le_of_ble_eq_true rfl⟩) hK hW hA rfl hl.1 rfl (Nat.le_of_ble_eq_true rfl) dX4_undo_15 ⟨Nat.le_of_ble_eq_true rfl, Nat.le_of_ble_eq_true rfl⟩ (fun _ H locs hw hW => ?_)
    refine lv_aload_n hx hb dX4_undo_18 rfl (lv_at hl 0 rfl) ?_
    refine va_get (D := D) (ci := 4) (v := .ref (a 6)) (C := RX4) (T := TX4) (N := 4) hx hb hts hinX4 hown hK hW.1 0 rfl rfl 2 (by decide) (hts _ (List.mem_of_getElem? (i := 1) rfl)) (fun _ h9 => h9) rfl dX4_undo_19 ?_
    refine lv_aload_n hx hb dX4_undo_22 rfl (lv_at hl 0 rfl) ?_
    refine va_get (D := D) (ci := 4) (v := .ref (a 1)) (C := RX4) (T := TX4) (N := 4) hx hb hts hinX4 hown hK hW.1 0 rfl rfl 0 (by decide) (hts _ (List.mem_of_getElem? (i := 2) rfl)) (fun _ h9 => h9) rfl dX4_undo_23 ?_
    refine kV_Mv (As := [.ref (a 1)]) (rest := []) ⟨hx, hb, hml, hown, hts⟩ (ok_X0_restoreLatest l D cI cJ a _ _ _ hw) (cwV 1 hts gX4_undo_X0_restoreLatest rfl rfl rfl (by decide +kernel) ⟨Nat.le_of_ble_eq_true rfl, Nat.le_of_ble_eq_true rfl⟩) hK hW hA 6 rfl rfl rfl hl.1 rfl (Nat.le_of_ble_eq_true rfl) dX4_undo_26 ⟨Nat.le_of_ble_eq_true rfl, Nat.le_of_ble_eq_true rfl⟩ (fun σ_4 H locs hw hW => ?_)
    refine lv_aload_n hx hb dX4_undo_29 rfl (lv_at hl 0 rfl) ?_
    refine va_get (D := D) (ci := 4) (v := .ref (a 6)) (C := RX4) (T := TX4) (N := 4) hx hb hts hinX4 hown hK hW.1 0 rfl rfl 2 (by decide) (hts _ (List.mem_of_getElem? (i := 1) rfl)) (fun _ h9 => h9) rfl dX4_undo_30 ?_
    refine kV_Mi (As := []) (rest := []) ⟨hx, hb, hml, hown, hts⟩ (ok_X0_savedStates l D cI cJ a _ _ _ hw) (cwV 0 hts gX4_undo_X0_savedStates rfl rfl rfl (by decide +kernel) ⟨Nat.le_of_ble_eq_true rfl, Nat.le_of_ble_eq_true rfl⟩) hK hW hA 6 rfl rfl rfl hl.1 rfl (Nat.le_of_ble_eq_true rfl) dX4_undo_33 ⟨Nat.le_of_ble_eq_true rfl, Nat.le_of_ble_eq_true rfl⟩ (fun r_5 _ H locs hw hW => ?_)
    exact hret _ σ_4 _ _ _ _ hw hW dX4_undo_36
def wp_X4_spot (σ : CS) (p1 : Int32) (p2 : Int32) (post : Int32 → Prop) (px : String → Prop) : Prop := wp_X4_needPlace σ p1 6 (∀ w_1 : Int32, w_1 = p2 → ((w_1 = 0 → wp_X2_get σ 0 p1 (fun r_2 => post r_2)) ∧ (¬ w_1 = 0 → ((w_1 = 1 → wp_X2_get σ 6 p1 (fun r_3 => post r_3)) ∧ (¬ w_1 = 1 → ((w_1 = 2 → wp_X2_get σ 12 p1 (fun r_4 => post r_4)) ∧ (¬ w_1 = 2 → ((w_1 = 3 → wp_X2_get σ 18 p1 (fun r_5 => post r_5)) ∧ (¬ w_1 = 3 → ((w_1 = 4 → wp_X2_bidsForSpot σ p1 (fun r_6 => post r_6)) ∧ (¬ w_1 = 4 → ((w_1 = 5 → wp_X2_get σ 24 p1 (fun r_7 => post r_7)) ∧ (¬ w_1 = 5 → px "java/lang/IllegalArgumentException"))))))))))))) px
abbrev rm_X4_spot_n : Room := { frames := 9, cells := 0, slots := 0, locals := 161 }
theorem in_X4_spot_n_X4 : ∀ w ∈ wsX40, w ∈ wsX4_spot := fun w h => List.mem_cons_of_mem _ (List.mem_append_left _ (List.mem_append_left _ (List.mem_append_left _ (List.mem_append_right _ (h)))))
set_option maxHeartbeats 4000000 in
set_option maxRecDepth 100000 in
theorem ok_X4_spot_n (l : Launch) (D : va_G) (cI cJ : ClassId) (a : Nat → Nat) (sz : Nat) (σ : CS) (p1 : Int32) (p2 : Int32) (post : Int32 → Prop) (hw : wp_X4_spot σ p1 p2 post (fun _ => False)) : Mi l yX4_spot wsX4_spot rm_X4_spot_n [.ref (a 0), .int p1, .int p2] D (tysIJ cI cJ) (cW cI cJ a σ) sz (fun r (_ : Unit) => post r) (fun _ => cW cI cJ a σ) := by
  refine s_Mi (by decide) rfl (Nat.le_of_ble_eq_true rfl) ?_
  intro p e s m args below meth c A Q hx hb hml hts hown hin hK hA hret H locs ls hW hl
  have hown : s.vm.findClass RX4 = some m.cls := hown
  have hl : lv_has ls 3 [(0, .ref (a 0)), (1, .int p1), (2, .int p2)] := hl
  have hinX4 := in_X4_spot_n_X4
  refine lv_iload_n hx hb dX4_spot_0 rfl (lv_at hl 1 rfl) ?_
  refine lv_bipush (v := 6) hx hb dX4_spot_1 (by decide) ?_
  refine kS_Mv (As := [.int p1, .int 6]) (rest := []) ⟨hx, hb, hml, hown, hts⟩ (ok_X4_needPlace_n l D cI cJ a _ _ _ _ _ hw) (va_cwS 2 hts gX4_spot_X4_needPlace rfl rfl rfl (by decide +kernel) ⟨Nat.le_of_ble_eq_true rfl, Nat.le_of_ble_eq_true rfl⟩) hK hW hA rfl hl.1 rfl (Nat.le_of_ble_eq_true rfl) dX4_spot_3 ⟨Nat.le_of_ble_eq_true rfl, Nat.le_of_ble_eq_true rfl⟩ (fun _ H locs hw hW => ?_)
  refine lv_iload_n hx hb dX4_spot_6 rfl (lv_at hl 2 rfl) ?_
  refine lv_topi (fun w_1 ew_1 => ?_)
  have hw := hw w_1 ew_1
  by_cases hs0 : w_1 = 0
  · have hw := hw.1 hs0
    refine lv_tableIn (tgt := 44) hx hb dX4_spot_7 (by rw [hs0]; decide) (by rw [hs0]; decide) (by rw [hs0]; rfl) (by decide) ?_
    refine lv_aload_n hx hb dX4_spot_44 rfl (lv_at hl 0 rfl) ?_
    refine va_get (D := D) (ci := 4) (v := .ref (a 1)) (C := RX4) (T := TX4) (N := 4) hx hb hts hinX4 hown hK hW.1 0 rfl rfl 0 (by decide) (hts _ (List.mem_of_getElem? (i := 3) rfl)) (fun _ h9 => h9) rfl dX4_spot_45 ?_
    refine lv_iconst (v := 0) hx hb dX4_spot_48 (by decide) ?_
    refine lv_iload_n hx hb dX4_spot_49 rfl (lv_at hl 1 rfl) ?_
    refine kV_Mi (As := [.int 0, .int p1]) (rest := []) ⟨hx, hb, hml, hown, hts⟩ (ok_X2_get l D cI cJ a _ _ _ _ _ hw) (cwV 2 hts gX4_spot_X2_get rfl rfl rfl (by decide +kernel) ⟨Nat.le_of_ble_eq_true rfl, Nat.le_of_ble_eq_true rfl⟩) hK hW hA 1 rfl rfl rfl hl.1 rfl (Nat.le_of_ble_eq_true rfl) dX4_spot_50 ⟨Nat.le_of_ble_eq_true rfl, Nat.le_of_ble_eq_true rfl⟩ (fun r_2 _ H locs hw hW => ?_)
    exact hret _ () _ _ _ _ hw hW dX4_spot_53
  have hw := hw.2 hs0
  by_cases hs1 : w_1 = 1
  · have hw := hw.1 hs1
    refine lv_tableIn (tgt := 54) hx hb dX4_spot_7 (by rw [hs1]; decide) (by rw [hs1]; decide) (by rw [hs1]; rfl) (by decide) ?_
    refine lv_aload_n hx hb dX4_spot_54 rfl (lv_at hl 0 rfl) ?_
    refine va_get (D := D) (ci := 4) (v := .ref (a 1)) (C := RX4) (T := TX4) (N := 4) hx hb hts hinX4 hown hK hW.1 0 rfl rfl 0 (by decide) (hts _ (List.mem_of_getElem? (i := 3) rfl)) (fun _ h9 => h9) rfl dX4_spot_55 ?_
    refine lv_bipush (v := 6) hx hb dX4_spot_58 (by decide) ?_
    refine lv_iload_n hx hb dX4_spot_60 rfl (lv_at hl 1 rfl) ?_
    refine kV_Mi (As := [.int 6, .int p1]) (rest := []) ⟨hx, hb, hml, hown, hts⟩ (ok_X2_get l D cI cJ a _ _ _ _ _ hw) (cwV 2 hts gX4_spot_X2_get rfl rfl rfl (by decide +kernel) ⟨Nat.le_of_ble_eq_true rfl, Nat.le_of_ble_eq_true rfl⟩) hK hW hA 1 rfl rfl rfl hl.1 rfl (Nat.le_of_ble_eq_true rfl) dX4_spot_61 ⟨Nat.le_of_ble_eq_true rfl, Nat.le_of_ble_eq_true rfl⟩ (fun r_3 _ H locs hw hW => ?_)
    exact hret _ () _ _ _ _ hw hW dX4_spot_64
  have hw := hw.2 hs1
  by_cases hs2 : w_1 = 2
  · have hw := hw.1 hs2
    refine lv_tableIn (tgt := 65) hx hb dX4_spot_7 (by rw [hs2]; decide) (by rw [hs2]; decide) (by rw [hs2]; rfl) (by decide) ?_
    refine lv_aload_n hx hb dX4_spot_65 rfl (lv_at hl 0 rfl) ?_
    refine va_get (D := D) (ci := 4) (v := .ref (a 1)) (C := RX4) (T := TX4) (N := 4) hx hb hts hinX4 hown hK hW.1 0 rfl rfl 0 (by decide) (hts _ (List.mem_of_getElem? (i := 3) rfl)) (fun _ h9 => h9) rfl dX4_spot_66 ?_
    refine lv_bipush (v := 12) hx hb dX4_spot_69 (by decide) ?_
    refine lv_iload_n hx hb dX4_spot_71 rfl (lv_at hl 1 rfl) ?_
    refine kV_Mi (As := [.int 12, .int p1]) (rest := []) ⟨hx, hb, hml, hown, hts⟩ (ok_X2_get l D cI cJ a _ _ _ _ _ hw) (cwV 2 hts gX4_spot_X2_get rfl rfl rfl (by decide +kernel) ⟨Nat.le_of_ble_eq_true rfl, Nat.le_of_ble_eq_true rfl⟩) hK hW hA 1 rfl rfl rfl hl.1 rfl (Nat.le_of_ble_eq_true rfl) dX4_spot_72 ⟨Nat.le_of_ble_eq_true rfl, Nat.le_of_ble_eq_true rfl⟩ (fun r_4 _ H locs hw hW => ?_)
    exact hret _ () _ _ _ _ hw hW dX4_spot_75
  have hw := hw.2 hs2
  by_cases hs3 : w_1 = 3
  · have hw := hw.1 hs3
    refine lv_tableIn (tgt := 76) hx hb dX4_spot_7 (by rw [hs3]; decide) (by rw [hs3]; decide) (by rw [hs3]; rfl) (by decide) ?_
    refine lv_aload_n hx hb dX4_spot_76 rfl (lv_at hl 0 rfl) ?_
    refine va_get (D := D) (ci := 4) (v := .ref (a 1)) (C := RX4) (T := TX4) (N := 4) hx hb hts hinX4 hown hK hW.1 0 rfl rfl 0 (by decide) (hts _ (List.mem_of_getElem? (i := 3) rfl)) (fun _ h9 => h9) rfl dX4_spot_77 ?_
    refine lv_bipush (v := 18) hx hb dX4_spot_80 (by decide) ?_
    refine lv_iload_n hx hb dX4_spot_82 rfl (lv_at hl 1 rfl) ?_
    refine kV_Mi (As := [.int 18, .int p1]) (rest := []) ⟨hx, hb, hml, hown, hts⟩ (ok_X2_get l D cI cJ a _ _ _ _ _ hw) (cwV 2 hts gX4_spot_X2_get rfl rfl rfl (by decide +kernel) ⟨Nat.le_of_ble_eq_true rfl, Nat.le_of_ble_eq_true rfl⟩) hK hW hA 1 rfl rfl rfl hl.1 rfl (Nat.le_of_ble_eq_true rfl) dX4_spot_83 ⟨Nat.le_of_ble_eq_true rfl, Nat.le_of_ble_eq_true rfl⟩ (fun r_5 _ H locs hw hW => ?_)
    exact hret _ () _ _ _ _ hw hW dX4_spot_86
  have hw := hw.2 hs3
  by_cases hs4 : w_1 = 4
  · have hw := hw.1 hs4
    refine lv_tableIn (tgt := 87) hx hb dX4_spot_7 (by rw [hs4]; decide) (by rw [hs4]; decide) (by rw [hs4]; rfl) (by decide) ?_
    refine lv_aload_n hx hb dX4_spot_87 rfl (lv_at hl 0 rfl) ?_
    refine va_get (D := D) (ci := 4) (v := .ref (a 1)) (C := RX4) (T := TX4) (N := 4) hx hb hts hinX4 hown hK hW.1 0 rfl rfl 0 (by decide) (hts _ (List.mem_of_getElem? (i := 3) rfl)) (fun _ h9 => h9) rfl dX4_spot_88 ?_
    refine lv_iload_n hx hb dX4_spot_91 rfl (lv_at hl 1 rfl) ?_
    refine kV_Mi (As := [.int p1]) (rest := []) ⟨hx, hb, hml, hown, hts⟩ (ok_X2_bidsForSpot l D cI cJ a _ _ _ _ hw) (cwV 1 hts gX4_spot_X2_bidsForSpot rfl rfl rfl (by decide +kernel) ⟨Nat.le_of_ble_eq_true rfl, Nat.le_of_ble_eq_true rfl⟩) hK hW hA 1 rfl rfl rfl hl.1 rfl (Nat.le_of_ble_eq_true rfl) dX4_spot_92 ⟨Nat.le_of_ble_eq_true rfl, Nat.le_of_ble_eq_true rfl⟩ (fun r_6 _ H locs hw hW => ?_)
    exact hret _ () _ _ _ _ hw hW dX4_spot_95
  have hw := hw.2 hs4
  by_cases hs5 : w_1 = 5
  · have hw := hw.1 hs5
    refine lv_tableIn (tgt := 96) hx hb dX4_spot_7 (by rw [hs5]; decide) (by rw [hs5]; decide) (by rw [hs5]; rfl) (by decide) ?_
    refine lv_aload_n hx hb dX4_spot_96 rfl (lv_at hl 0 rfl) ?_
    refine va_get (D := D) (ci := 4) (v := .ref (a 1)) (C := RX4) (T := TX4) (N := 4) hx hb hts hinX4 hown hK hW.1 0 rfl rfl 0 (by decide) (hts _ (List.mem_of_getElem? (i := 3) rfl)) (fun _ h9 => h9) rfl dX4_spot_97 ?_
    refine lv_bipush (v := 24) hx hb dX4_spot_100 (by decide) ?_
    refine lv_iload_n hx hb dX4_spot_102 rfl (lv_at hl 1 rfl) ?_
    refine kV_Mi (As := [.int 24, .int p1]) (rest := []) ⟨hx, hb, hml, hown, hts⟩ (ok_X2_get l D cI cJ a _ _ _ _ _ hw) (cwV 2 hts gX4_spot_X2_get rfl rfl rfl (by decide +kernel) ⟨Nat.le_of_ble_eq_true rfl, Nat.le_of_ble_eq_true rfl⟩) hK hW hA 1 rfl rfl rfl hl.1 rfl (Nat.le_of_ble_eq_true rfl) dX4_spot_103 ⟨Nat.le_of_ble_eq_true rfl, Nat.le_of_ble_eq_true rfl⟩ (fun r_7 _ H locs hw hW => ?_)
    exact hret _ () _ _ _ _ hw hW dX4_spot_106
  have hw := hw.2 hs5
  refine lv_tableOut (tgt := 107) hx hb dX4_spot_7 (by have q0 := lv_neT hs0 (a := 0) (by decide); have q1 := lv_neT hs1 (a := 1) (by decide); have q2 := lv_neT hs2 (a := 2) (by decide); have q3 := lv_neT hs3 (a := 3) (by decide); have q4 := lv_neT hs4 (a := 4) (by decide); have q5 := lv_neT hs5 (a := 5) (by decide); omega) (by decide) ?_
  exact hw.elim
def wp_X4_bidder (σ : CS) (p1 : Int32) (p2 : Int32) (post : Int32 → Prop) (px : String → Prop) : Prop := wp_X4_needPlace σ p1 6 (∀ w_1 : Int32, w_1 = p2 → ((w_1 = 0 → wp_X2_get σ 30 p1 (fun r_2 => post r_2)) ∧ (¬ w_1 = 0 → ((w_1 = 1 → wp_X2_get σ 36 p1 (fun r_3 => post r_3)) ∧ (¬ w_1 = 1 → ((w_1 = 2 → wp_X2_bidsOfBidder σ p1 (fun r_4 => post r_4)) ∧ (¬ w_1 = 2 → ((w_1 = 3 → wp_X2_spotOfOwner σ p1 (fun r_5 => post r_5)) ∧ (¬ w_1 = 3 → ((w_1 = 4 → wp_X2_get σ 42 p1 (fun r_6 => post r_6)) ∧ (¬ w_1 = 4 → ((w_1 = 5 → wp_X2_get σ 48 p1 (fun r_7 => post r_7)) ∧ (¬ w_1 = 5 → px "java/lang/IllegalArgumentException"))))))))))))) px
abbrev rm_X4_bidder_n : Room := { frames := 9, cells := 0, slots := 0, locals := 161 }
theorem in_X4_bidder_n_X4 : ∀ w ∈ wsX40, w ∈ wsX4_bidder := fun w h => List.mem_cons_of_mem _ (List.mem_append_left _ (List.mem_append_left _ (List.mem_append_left _ (List.mem_append_right _ (h)))))
set_option maxHeartbeats 4000000 in
set_option maxRecDepth 100000 in
theorem ok_X4_bidder_n (l : Launch) (D : va_G) (cI cJ : ClassId) (a : Nat → Nat) (sz : Nat) (σ : CS) (p1 : Int32) (p2 : Int32) (post : Int32 → Prop) (hw : wp_X4_bidder σ p1 p2 post (fun _ => False)) : Mi l yX4_bidder wsX4_bidder rm_X4_bidder_n [.ref (a 0), .int p1, .int p2] D (tysIJ cI cJ) (cW cI cJ a σ) sz (fun r (_ : Unit) => post r) (fun _ => cW cI cJ a σ) := by
  refine s_Mi (by decide) rfl (Nat.le_of_ble_eq_true rfl) ?_
  intro p e s m args below meth c A Q hx hb hml hts hown hin hK hA hret H locs ls hW hl
  have hown : s.vm.findClass RX4 = some m.cls := hown
  have hl : lv_has ls 3 [(0, .ref (a 0)), (1, .int p1), (2, .int p2)] := hl
  have hinX4 := in_X4_bidder_n_X4
  refine lv_iload_n hx hb dX4_bidder_0 rfl (lv_at hl 1 rfl) ?_
  refine lv_bipush (v := 6) hx hb dX4_bidder_1 (by decide) ?_
  refine kS_Mv (As := [.int p1, .int 6]) (rest := []) ⟨hx, hb, hml, hown, hts⟩ (ok_X4_needPlace_n l D cI cJ a _ _ _ _ _ hw) (va_cwS 2 hts gX4_bidder_X4_needPlace rfl rfl rfl (by decide +kernel) ⟨Nat.le_of_ble_eq_true rfl, Nat.le_of_ble_eq_true rfl⟩) hK hW hA rfl hl.1 rfl (Nat.le_of_ble_eq_true rfl) dX4_bidder_3 ⟨Nat.le_of_ble_eq_true rfl, Nat.le_of_ble_eq_true rfl⟩ (fun _ H locs hw hW => ?_)
  refine lv_iload_n hx hb dX4_bidder_6 rfl (lv_at hl 2 rfl) ?_
  refine lv_topi (fun w_1 ew_1 => ?_)
  have hw := hw w_1 ew_1
  by_cases hs0 : w_1 = 0
  · have hw := hw.1 hs0
    refine lv_tableIn (tgt := 44) hx hb dX4_bidder_7 (by rw [hs0]; decide) (by rw [hs0]; decide) (by rw [hs0]; rfl) (by decide) ?_
    refine lv_aload_n hx hb dX4_bidder_44 rfl (lv_at hl 0 rfl) ?_
    refine va_get (D := D) (ci := 4) (v := .ref (a 1)) (C := RX4) (T := TX4) (N := 4) hx hb hts hinX4 hown hK hW.1 0 rfl rfl 0 (by decide) (hts _ (List.mem_of_getElem? (i := 3) rfl)) (fun _ h9 => h9) rfl dX4_bidder_45 ?_
    refine lv_bipush (v := 30) hx hb dX4_bidder_48 (by decide) ?_
    refine lv_iload_n hx hb dX4_bidder_50 rfl (lv_at hl 1 rfl) ?_
    refine kV_Mi (As := [.int 30, .int p1]) (rest := []) ⟨hx, hb, hml, hown, hts⟩ (ok_X2_get l D cI cJ a _ _ _ _ _ hw) (cwV 2 hts gX4_bidder_X2_get rfl rfl rfl (by decide +kernel) ⟨Nat.le_of_ble_eq_true rfl, Nat.le_of_ble_eq_true rfl⟩) hK hW hA 1 rfl rfl rfl hl.1 rfl (Nat.le_of_ble_eq_true rfl) dX4_bidder_51 ⟨Nat.le_of_ble_eq_true rfl, Nat.le_of_ble_eq_true rfl⟩ (fun r_2 _ H locs hw hW => ?_)
    exact hret _ () _ _ _ _ hw hW dX4_bidder_54
  have hw := hw.2 hs0
  by_cases hs1 : w_1 = 1
  · have hw := hw.1 hs1
    refine lv_tableIn (tgt := 55) hx hb dX4_bidder_7 (by rw [hs1]; decide) (by rw [hs1]; decide) (by rw [hs1]; rfl) (by decide) ?_
    refine lv_aload_n hx hb dX4_bidder_55 rfl (lv_at hl 0 rfl) ?_
    refine va_get (D := D) (ci := 4) (v := .ref (a 1)) (C := RX4) (T := TX4) (N := 4) hx hb hts hinX4 hown hK hW.1 0 rfl rfl 0 (by decide) (hts _ (List.mem_of_getElem? (i := 3) rfl)) (fun _ h9 => h9) rfl dX4_bidder_56 ?_
    refine lv_bipush (v := 36) hx hb dX4_bidder_59 (by decide) ?_
    refine lv_iload_n hx hb dX4_bidder_61 rfl (lv_at hl 1 rfl) ?_
    refine kV_Mi (As := [.int 36, .int p1]) (rest := []) ⟨hx, hb, hml, hown, hts⟩ (ok_X2_get l D cI cJ a _ _ _ _ _ hw) (cwV 2 hts gX4_bidder_X2_get rfl rfl rfl (by decide +kernel) ⟨Nat.le_of_ble_eq_true rfl, Nat.le_of_ble_eq_true rfl⟩) hK hW hA 1 rfl rfl rfl hl.1 rfl (Nat.le_of_ble_eq_true rfl) dX4_bidder_62 ⟨Nat.le_of_ble_eq_true rfl, Nat.le_of_ble_eq_true rfl⟩ (fun r_3 _ H locs hw hW => ?_)
    exact hret _ () _ _ _ _ hw hW dX4_bidder_65
  have hw := hw.2 hs1
  by_cases hs2 : w_1 = 2
  · have hw := hw.1 hs2
    refine lv_tableIn (tgt := 66) hx hb dX4_bidder_7 (by rw [hs2]; decide) (by rw [hs2]; decide) (by rw [hs2]; rfl) (by decide) ?_
    refine lv_aload_n hx hb dX4_bidder_66 rfl (lv_at hl 0 rfl) ?_
    refine va_get (D := D) (ci := 4) (v := .ref (a 1)) (C := RX4) (T := TX4) (N := 4) hx hb hts hinX4 hown hK hW.1 0 rfl rfl 0 (by decide) (hts _ (List.mem_of_getElem? (i := 3) rfl)) (fun _ h9 => h9) rfl dX4_bidder_67 ?_
    refine lv_iload_n hx hb dX4_bidder_70 rfl (lv_at hl 1 rfl) ?_
    refine kV_Mi (As := [.int p1]) (rest := []) ⟨hx, hb, hml, hown, hts⟩ (ok_X2_bidsOfBidder l D cI cJ a _ _ _ _ hw) (cwV 1 hts gX4_bidder_X2_bidsOfBidder rfl rfl rfl (by decide +kernel) ⟨Nat.le_of_ble_eq_true rfl, Nat.le_of_ble_eq_true rfl⟩) hK hW hA 1 rfl rfl rfl hl.1 rfl (Nat.le_of_ble_eq_true rfl) dX4_bidder_71 ⟨Nat.le_of_ble_eq_true rfl, Nat.le_of_ble_eq_true rfl⟩ (fun r_4 _ H locs hw hW => ?_)
    exact hret _ () _ _ _ _ hw hW dX4_bidder_74
  have hw := hw.2 hs2
  by_cases hs3 : w_1 = 3
  · have hw := hw.1 hs3
    refine lv_tableIn (tgt := 75) hx hb dX4_bidder_7 (by rw [hs3]; decide) (by rw [hs3]; decide) (by rw [hs3]; rfl) (by decide) ?_
    refine lv_aload_n hx hb dX4_bidder_75 rfl (lv_at hl 0 rfl) ?_
    refine va_get (D := D) (ci := 4) (v := .ref (a 1)) (C := RX4) (T := TX4) (N := 4) hx hb hts hinX4 hown hK hW.1 0 rfl rfl 0 (by decide) (hts _ (List.mem_of_getElem? (i := 3) rfl)) (fun _ h9 => h9) rfl dX4_bidder_76 ?_
    refine lv_iload_n hx hb dX4_bidder_79 rfl (lv_at hl 1 rfl) ?_
    refine kV_Mi (As := [.int p1]) (rest := []) ⟨hx, hb, hml, hown, hts⟩ (ok_X2_spotOfOwner l D cI cJ a _ _ _ _ hw) (cwV 1 hts gX4_bidder_X2_spotOfOwner rfl rfl rfl (by decide +kernel) ⟨Nat.le_of_ble_eq_true rfl, Nat.le_of_ble_eq_true rfl⟩) hK hW hA 1 rfl rfl rfl hl.1 rfl (Nat.le_of_ble_eq_true rfl) dX4_bidder_80 ⟨Nat.le_of_ble_eq_true rfl, Nat.le_of_ble_eq_true rfl⟩ (fun r_5 _ H locs hw hW => ?_)
    exact hret _ () _ _ _ _ hw hW dX4_bidder_83
  have hw := hw.2 hs3
  by_cases hs4 : w_1 = 4
  · have hw := hw.1 hs4
    refine lv_tableIn (tgt := 84) hx hb dX4_bidder_7 (by rw [hs4]; decide) (by rw [hs4]; decide) (by rw [hs4]; rfl) (by decide) ?_
    refine lv_aload_n hx hb dX4_bidder_84 rfl (lv_at hl 0 rfl) ?_
    refine va_get (D := D) (ci := 4) (v := .ref (a 1)) (C := RX4) (T := TX4) (N := 4) hx hb hts hinX4 hown hK hW.1 0 rfl rfl 0 (by decide) (hts _ (List.mem_of_getElem? (i := 3) rfl)) (fun _ h9 => h9) rfl dX4_bidder_85 ?_
    refine lv_bipush (v := 42) hx hb dX4_bidder_88 (by decide) ?_
    refine lv_iload_n hx hb dX4_bidder_90 rfl (lv_at hl 1 rfl) ?_
    refine kV_Mi (As := [.int 42, .int p1]) (rest := []) ⟨hx, hb, hml, hown, hts⟩ (ok_X2_get l D cI cJ a _ _ _ _ _ hw) (cwV 2 hts gX4_bidder_X2_get rfl rfl rfl (by decide +kernel) ⟨Nat.le_of_ble_eq_true rfl, Nat.le_of_ble_eq_true rfl⟩) hK hW hA 1 rfl rfl rfl hl.1 rfl (Nat.le_of_ble_eq_true rfl) dX4_bidder_91 ⟨Nat.le_of_ble_eq_true rfl, Nat.le_of_ble_eq_true rfl⟩ (fun r_6 _ H locs hw hW => ?_)
    exact hret _ () _ _ _ _ hw hW dX4_bidder_94
  have hw := hw.2 hs4
  by_cases hs5 : w_1 = 5
  · have hw := hw.1 hs5
    refine lv_tableIn (tgt := 95) hx hb dX4_bidder_7 (by rw [hs5]; decide) (by rw [hs5]; decide) (by rw [hs5]; rfl) (by decide) ?_
    refine lv_aload_n hx hb dX4_bidder_95 rfl (lv_at hl 0 rfl) ?_
    refine va_get (D := D) (ci := 4) (v := .ref (a 1)) (C := RX4) (T := TX4) (N := 4) hx hb hts hinX4 hown hK hW.1 0 rfl rfl 0 (by decide) (hts _ (List.mem_of_getElem? (i := 3) rfl)) (fun _ h9 => h9) rfl dX4_bidder_96 ?_
    refine lv_bipush (v := 48) hx hb dX4_bidder_99 (by decide) ?_
    refine lv_iload_n hx hb dX4_bidder_101 rfl (lv_at hl 1 rfl) ?_
    refine kV_Mi (As := [.int 48, .int p1]) (rest := []) ⟨hx, hb, hml, hown, hts⟩ (ok_X2_get l D cI cJ a _ _ _ _ _ hw) (cwV 2 hts gX4_bidder_X2_get rfl rfl rfl (by decide +kernel) ⟨Nat.le_of_ble_eq_true rfl, Nat.le_of_ble_eq_true rfl⟩) hK hW hA 1 rfl rfl rfl hl.1 rfl (Nat.le_of_ble_eq_true rfl) dX4_bidder_102 ⟨Nat.le_of_ble_eq_true rfl, Nat.le_of_ble_eq_true rfl⟩ (fun r_7 _ H locs hw hW => ?_)
    exact hret _ () _ _ _ _ hw hW dX4_bidder_105
  have hw := hw.2 hs5
  refine lv_tableOut (tgt := 106) hx hb dX4_bidder_7 (by have q0 := lv_neT hs0 (a := 0) (by decide); have q1 := lv_neT hs1 (a := 1) (by decide); have q2 := lv_neT hs2 (a := 2) (by decide); have q3 := lv_neT hs3 (a := 3) (by decide); have q4 := lv_neT hs4 (a := 4) (by decide); have q5 := lv_neT hs5 (a := 5) (by decide); omega) (by decide) ?_
  exact hw.elim
def wp_X4_numberOfBid (σ : CS) (p1 : Int32) (p2 : Int32) (p3 : Int32) (post : Int32 → Prop) : Prop := ∀ w_1 : Int32, w_1 = p3 → ((w_1 = 0 → wp_X2_ofBid σ 90 p1 p2 (fun r_2 => post r_2)) ∧ (¬ w_1 = 0 → ((w_1 = 1 → wp_X2_ofBid σ 126 p1 p2 (fun r_3 => post r_3)) ∧ (¬ w_1 = 1 → ((w_1 = 2 → wp_X2_isOpened σ (fun r_4 => ((r_4 = 0 → post (-1)) ∧ (¬ r_4 = 0 → wp_X2_ofBid σ 54 p1 p2 (fun r_5 => post r_5))))) ∧ (¬ w_1 = 2 → wp_X2_feeFor σ p1 p2 (fun r_6 => post r_6)))))))
abbrev rm_X4_numberOfBid : Room := { frames := 3, cells := 0, slots := 0, locals := 69 }
theorem in_X4_numberOfBid_X4 : ∀ w ∈ wsX40, w ∈ wsX4_numberOfBid := fun w h => List.mem_cons_of_mem _ (List.mem_append_left _ (List.mem_append_right _ (h)))
set_option maxHeartbeats 4000000 in
set_option maxRecDepth 100000 in
theorem ok_X4_numberOfBid (l : Launch) (D : va_G) (cI cJ : ClassId) (a : Nat → Nat) (sz : Nat) (σ : CS) (p1 : Int32) (p2 : Int32) (p3 : Int32) (post : Int32 → Prop) (hw : wp_X4_numberOfBid σ p1 p2 p3 post) : Mi l yX4_numberOfBid wsX4_numberOfBid rm_X4_numberOfBid [.ref (a 0), .int p1, .int p2, .int p3] D (tysIJ cI cJ) (cW cI cJ a σ) sz (fun r (_ : Unit) => post r) (fun _ => cW cI cJ a σ) := by
  refine s_Mi (by decide) rfl (Nat.le_of_ble_eq_true rfl) ?_
  intro p e s m args below meth c A Q hx hb hml hts hown hin hK hA hret H locs ls hW hl
  have hown : s.vm.findClass RX4 = some m.cls := hown
  have hl : lv_has ls 4 [(0, .ref (a 0)), (1, .int p1), (2, .int p2), (3, .int p3)] := hl
  have hinX4 := in_X4_numberOfBid_X4
  refine lv_iload_n hx hb dX4_numberOfBid_0 rfl (lv_at hl 3 rfl) ?_
  refine lv_topi (fun w_1 ew_1 => ?_)
  have hw := hw w_1 ew_1
  by_cases hs0 : w_1 = 0
  · have hw := hw.1 hs0
    refine lv_tableIn (tgt := 28) hx hb dX4_numberOfBid_1 (by rw [hs0]; decide) (by rw [hs0]; decide) (by rw [hs0]; rfl) (by decide) ?_
    refine lv_aload_n hx hb dX4_numberOfBid_28 rfl (lv_at hl 0 rfl) ?_
    refine va_get (D := D) (ci := 4) (v := .ref (a 1)) (C := RX4) (T := TX4) (N := 4) hx hb hts hinX4 hown hK hW.1 0 rfl rfl 0 (by decide) (hts _ (List.mem_of_getElem? (i := 1) rfl)) (fun _ h9 => h9) rfl dX4_numberOfBid_29 ?_
    refine lv_bipush (v := 90) hx hb dX4_numberOfBid_32 (by decide) ?_
    refine lv_iload_n hx hb dX4_numberOfBid_34 rfl (lv_at hl 1 rfl) ?_
    refine lv_iload_n hx hb dX4_numberOfBid_35 rfl (lv_at hl 2 rfl) ?_
    refine kV_Mi (As := [.int 90, .int p1, .int p2]) (rest := []) ⟨hx, hb, hml, hown, hts⟩ (ok_X2_ofBid l D cI cJ a _ _ _ _ _ _ hw) (cwV 3 hts gX4_numberOfBid_X2_ofBid rfl rfl rfl (by decide +kernel) ⟨Nat.le_of_ble_eq_true rfl, Nat.le_of_ble_eq_true rfl⟩) hK hW hA 1 rfl rfl rfl hl.1 rfl (Nat.le_of_ble_eq_true rfl) dX4_numberOfBid_36 ⟨Nat.le_of_ble_eq_true rfl, Nat.le_of_ble_eq_true rfl⟩ (fun r_2 _ H locs hw hW => ?_)
    exact hret _ () _ _ _ _ hw hW dX4_numberOfBid_39
  have hw := hw.2 hs0
  by_cases hs1 : w_1 = 1
  · have hw := hw.1 hs1
    refine lv_tableIn (tgt := 40) hx hb dX4_numberOfBid_1 (by rw [hs1]; decide) (by rw [hs1]; decide) (by rw [hs1]; rfl) (by decide) ?_
    refine lv_aload_n hx hb dX4_numberOfBid_40 rfl (lv_at hl 0 rfl) ?_
    refine va_get (D := D) (ci := 4) (v := .ref (a 1)) (C := RX4) (T := TX4) (N := 4) hx hb hts hinX4 hown hK hW.1 0 rfl rfl 0 (by decide) (hts _ (List.mem_of_getElem? (i := 1) rfl)) (fun _ h9 => h9) rfl dX4_numberOfBid_41 ?_
    refine lv_bipush (v := 126) hx hb dX4_numberOfBid_44 (by decide) ?_
    refine lv_iload_n hx hb dX4_numberOfBid_46 rfl (lv_at hl 1 rfl) ?_
    refine lv_iload_n hx hb dX4_numberOfBid_47 rfl (lv_at hl 2 rfl) ?_
    refine kV_Mi (As := [.int 126, .int p1, .int p2]) (rest := []) ⟨hx, hb, hml, hown, hts⟩ (ok_X2_ofBid l D cI cJ a _ _ _ _ _ _ hw) (cwV 3 hts gX4_numberOfBid_X2_ofBid rfl rfl rfl (by decide +kernel) ⟨Nat.le_of_ble_eq_true rfl, Nat.le_of_ble_eq_true rfl⟩) hK hW hA 1 rfl rfl rfl hl.1 rfl (Nat.le_of_ble_eq_true rfl) dX4_numberOfBid_48 ⟨Nat.le_of_ble_eq_true rfl, Nat.le_of_ble_eq_true rfl⟩ (fun r_3 _ H locs hw hW => ?_)
    exact hret _ () _ _ _ _ hw hW dX4_numberOfBid_51
  have hw := hw.2 hs1
  by_cases hs2 : w_1 = 2
  · have hw := hw.1 hs2
    refine lv_tableIn (tgt := 52) hx hb dX4_numberOfBid_1 (by rw [hs2]; decide) (by rw [hs2]; decide) (by rw [hs2]; rfl) (by decide) ?_
    refine lv_aload_n hx hb dX4_numberOfBid_52 rfl (lv_at hl 0 rfl) ?_
    refine va_get (D := D) (ci := 4) (v := .ref (a 1)) (C := RX4) (T := TX4) (N := 4) hx hb hts hinX4 hown hK hW.1 0 rfl rfl 0 (by decide) (hts _ (List.mem_of_getElem? (i := 1) rfl)) (fun _ h9 => h9) rfl dX4_numberOfBid_53 ?_
    refine kV_Mi (As := []) (rest := []) ⟨hx, hb, hml, hown, hts⟩ (ok_X2_isOpened l D cI cJ a _ _ _ hw) (cwV 0 hts gX4_numberOfBid_X2_isOpened rfl rfl rfl (by decide +kernel) ⟨Nat.le_of_ble_eq_true rfl, Nat.le_of_ble_eq_true rfl⟩) hK hW hA 1 rfl rfl rfl hl.1 rfl (Nat.le_of_ble_eq_true rfl) dX4_numberOfBid_56 ⟨Nat.le_of_ble_eq_true rfl, Nat.le_of_ble_eq_true rfl⟩ (fun r_4 _ H locs hw hW => ?_)
    refine lv_if_eq (tgt := 76) hx hb dX4_numberOfBid_59 (by decide) (fun hc => ?_) (fun hc => ?_)
    · have hw := hw.1 hc
      refine lv_iconst (v := (-1)) hx hb dX4_numberOfBid_76 (by decide) ?_
      exact hret _ () _ _ _ _ hw hW dX4_numberOfBid_77
    · have hw := hw.2 hc
      refine lv_aload_n hx hb dX4_numberOfBid_62 rfl (lv_at hl 0 rfl) ?_
      refine va_get (D := D) (ci := 4) (v := .ref (a 1)) (C := RX4) (T := TX4) (N := 4) hx hb hts hinX4 hown hK hW.1 0 rfl rfl 0 (by decide) (hts _ (List.mem_of_getElem? (i := 1) rfl)) (fun _ h9 => h9) rfl dX4_numberOfBid_63 ?_
      refine lv_bipush (v := 54) hx hb dX4_numberOfBid_66 (by decide) ?_
      refine lv_iload_n hx hb dX4_numberOfBid_68 rfl (lv_at hl 1 rfl) ?_
      refine lv_iload_n hx hb dX4_numberOfBid_69 rfl (lv_at hl 2 rfl) ?_
      refine kV_Mi (As := [.int 54, .int p1, .int p2]) (rest := []) ⟨hx, hb, hml, hown, hts⟩ (ok_X2_ofBid l D cI cJ a _ _ _ _ _ _ hw) (cwV 3 hts gX4_numberOfBid_X2_ofBid rfl rfl rfl (by decide +kernel) ⟨Nat.le_of_ble_eq_true rfl, Nat.le_of_ble_eq_true rfl⟩) hK hW hA 1 rfl rfl rfl hl.1 rfl (Nat.le_of_ble_eq_true rfl) dX4_numberOfBid_70 ⟨Nat.le_of_ble_eq_true rfl, Nat.le_of_ble_eq_true rfl⟩ (fun r_5 _ H locs hw hW => ?_)
      refine lv_goto (tgt := 77) hx hb dX4_numberOfBid_73 (by decide) ?_
      exact hret _ () _ _ _ _ hw hW dX4_numberOfBid_77
  have hw := hw.2 hs2
  refine lv_tableOut (tgt := 78) hx hb dX4_numberOfBid_1 (by have q0 := lv_neT hs0 (a := 0) (by decide); have q1 := lv_neT hs1 (a := 1) (by decide); have q2 := lv_neT hs2 (a := 2) (by decide); omega) (by decide) ?_
  refine lv_aload_n hx hb dX4_numberOfBid_78 rfl (lv_at hl 0 rfl) ?_
  refine va_get (D := D) (ci := 4) (v := .ref (a 1)) (C := RX4) (T := TX4) (N := 4) hx hb hts hinX4 hown hK hW.1 0 rfl rfl 0 (by decide) (hts _ (List.mem_of_getElem? (i := 1) rfl)) (fun _ h9 => h9) rfl dX4_numberOfBid_79 ?_
  refine lv_iload_n hx hb dX4_numberOfBid_82 rfl (lv_at hl 1 rfl) ?_
  refine lv_iload_n hx hb dX4_numberOfBid_83 rfl (lv_at hl 2 rfl) ?_
  refine kV_Mi (As := [.int p1, .int p2]) (rest := []) ⟨hx, hb, hml, hown, hts⟩ (ok_X2_feeFor l D cI cJ a _ _ _ _ _ hw) (cwV 2 hts gX4_numberOfBid_X2_feeFor rfl rfl rfl (by decide +kernel) ⟨Nat.le_of_ble_eq_true rfl, Nat.le_of_ble_eq_true rfl⟩) hK hW hA 1 rfl rfl rfl hl.1 rfl (Nat.le_of_ble_eq_true rfl) dX4_numberOfBid_84 ⟨Nat.le_of_ble_eq_true rfl, Nat.le_of_ble_eq_true rfl⟩ (fun r_6 _ H locs hw hW => ?_)
  exact hret _ () _ _ _ _ hw hW dX4_numberOfBid_87
def wp_X4_sealed (σ : CS) (p1 : Int32) (p2 : Int32) (p3 : Int32) (post : Int32 → Prop) (px : String → Prop) : Prop := wp_X4_needPlace σ p1 6 (wp_X4_needPlace σ p2 6 (wp_X4_needRange σ p3 0 4 (((¬ p3 = 4 → wp_X2_hasBid σ p1 p2 (fun r_1 => ((r_1 = 0 → post (-1)) ∧ (¬ r_1 = 0 → wp_X4_numberOfBid σ p1 p2 p3 (fun r_2 => post r_2))))) ∧ (p3 = 4 → wp_X2_whyNotWithdrawn σ p1 p2 (fun r_3 => post r_3)))) px) px) px
abbrev rm_X4_sealed_n : Room := { frames := 9, cells := 0, slots := 0, locals := 162 }
theorem in_X4_sealed_n_X4 : ∀ w ∈ wsX40, w ∈ wsX4_sealed := fun w h => List.mem_cons_of_mem _ (List.mem_append_left _ (List.mem_append_left _ (List.mem_append_left _ (List.mem_append_right _ (h)))))
set_option maxHeartbeats 4000000 in
set_option maxRecDepth 100000 in
theorem ok_X4_sealed_n (l : Launch) (D : va_G) (cI cJ : ClassId) (a : Nat → Nat) (sz : Nat) (σ : CS) (p1 : Int32) (p2 : Int32) (p3 : Int32) (post : Int32 → Prop) (hw : wp_X4_sealed σ p1 p2 p3 post (fun _ => False)) : Mi l yX4_sealed wsX4_sealed rm_X4_sealed_n [.ref (a 0), .int p1, .int p2, .int p3] D (tysIJ cI cJ) (cW cI cJ a σ) sz (fun r (_ : Unit) => post r) (fun _ => cW cI cJ a σ) := by
  refine s_Mi (by decide) rfl (Nat.le_of_ble_eq_true rfl) ?_
  intro p e s m args below meth c A Q hx hb hml hts hown hin hK hA hret H locs ls hW hl
  have hown : s.vm.findClass RX4 = some m.cls := hown
  have hl : lv_has ls 4 [(0, .ref (a 0)), (1, .int p1), (2, .int p2), (3, .int p3)] := hl
  have hinX4 := in_X4_sealed_n_X4
  refine lv_iload_n hx hb dX4_sealed_0 rfl (lv_at hl 1 rfl) ?_
  refine lv_bipush (v := 6) hx hb dX4_sealed_1 (by decide) ?_
  refine kS_Mv (As := [.int p1, .int 6]) (rest := []) ⟨hx, hb, hml, hown, hts⟩ (ok_X4_needPlace_n l D cI cJ a _ _ _ _ _ hw) (va_cwS 2 hts gX4_sealed_X4_needPlace rfl rfl rfl (by decide +kernel) ⟨Nat.le_of_ble_eq_true rfl, Nat.le_of_ble_eq_true rfl⟩) hK hW hA rfl hl.1 rfl (Nat.le_of_ble_eq_true rfl) dX4_sealed_3 ⟨Nat.le_of_ble_eq_true rfl, Nat.le_of_ble_eq_true rfl⟩ (fun _ H locs hw hW => ?_)
  refine lv_iload_n hx hb dX4_sealed_6 rfl (lv_at hl 2 rfl) ?_
  refine lv_bipush (v := 6) hx hb dX4_sealed_7 (by decide) ?_
  refine kS_Mv (As := [.int p2, .int 6]) (rest := []) ⟨hx, hb, hml, hown, hts⟩ (ok_X4_needPlace_n l D cI cJ a _ _ _ _ _ hw) (va_cwS 2 hts gX4_sealed_X4_needPlace rfl rfl rfl (by decide +kernel) ⟨Nat.le_of_ble_eq_true rfl, Nat.le_of_ble_eq_true rfl⟩) hK hW hA rfl hl.1 rfl (Nat.le_of_ble_eq_true rfl) dX4_sealed_9 ⟨Nat.le_of_ble_eq_true rfl, Nat.le_of_ble_eq_true rfl⟩ (fun _ H locs hw hW => ?_)
  refine lv_iload_n hx hb dX4_sealed_12 rfl (lv_at hl 3 rfl) ?_
  refine lv_iconst (v := 0) hx hb dX4_sealed_13 (by decide) ?_
  refine lv_iconst (v := 4) hx hb dX4_sealed_14 (by decide) ?_
  refine kS_Mv (As := [.int p3, .int 0, .int 4]) (rest := []) ⟨hx, hb, hml, hown, hts⟩ (ok_X4_needRange_n l D cI cJ a _ _ _ _ _ _ hw) (va_cwS 3 hts gX4_sealed_X4_needRange rfl rfl rfl (by decide +kernel) ⟨Nat.le_of_ble_eq_true rfl, Nat.le_of_ble_eq_true rfl⟩) hK hW hA rfl hl.1 rfl (Nat.le_of_ble_eq_true rfl) dX4_sealed_15 ⟨Nat.le_of_ble_eq_true rfl, Nat.le_of_ble_eq_true rfl⟩ (fun _ H locs hw hW => ?_)
  refine lv_iload_n hx hb dX4_sealed_18 rfl (lv_at hl 3 rfl) ?_
  refine lv_iconst (v := 4) hx hb dX4_sealed_19 (by decide) ?_
  refine lv_icmp_ne (tgt := 33) hx hb dX4_sealed_20 (by decide) (fun hc => ?_) (fun hc => ?_)
  · have hw := hw.1 hc
    refine lv_aload_n hx hb dX4_sealed_33 rfl (lv_at hl 0 rfl) ?_
    refine va_get (D := D) (ci := 4) (v := .ref (a 1)) (C := RX4) (T := TX4) (N := 4) hx hb hts hinX4 hown hK hW.1 0 rfl rfl 0 (by decide) (hts _ (List.mem_of_getElem? (i := 1) rfl)) (fun _ h9 => h9) rfl dX4_sealed_34 ?_
    refine lv_iload_n hx hb dX4_sealed_37 rfl (lv_at hl 1 rfl) ?_
    refine lv_iload_n hx hb dX4_sealed_38 rfl (lv_at hl 2 rfl) ?_
    refine kV_Mi (As := [.int p1, .int p2]) (rest := []) ⟨hx, hb, hml, hown, hts⟩ (ok_X2_hasBid l D cI cJ a _ _ _ _ _ hw) (cwV 2 hts gX4_sealed_X2_hasBid rfl rfl rfl (by decide +kernel) ⟨Nat.le_of_ble_eq_true rfl, Nat.le_of_ble_eq_true rfl⟩) hK hW hA 1 rfl rfl rfl hl.1 rfl (Nat.le_of_ble_eq_true rfl) dX4_sealed_39 ⟨Nat.le_of_ble_eq_true rfl, Nat.le_of_ble_eq_true rfl⟩ (fun r_1 _ H locs hw hW => ?_)
    refine lv_if_eq (tgt := 55) hx hb dX4_sealed_42 (by decide) (fun hc => ?_) (fun hc => ?_)
    · have hw := hw.1 hc
      refine lv_iconst (v := (-1)) hx hb dX4_sealed_55 (by decide) ?_
      exact hret _ () _ _ _ _ hw hW dX4_sealed_56
    · have hw := hw.2 hc
      refine lv_aload_n hx hb dX4_sealed_45 rfl (lv_at hl 0 rfl) ?_
      refine lv_iload_n hx hb dX4_sealed_46 rfl (lv_at hl 1 rfl) ?_
      refine lv_iload_n hx hb dX4_sealed_47 rfl (lv_at hl 2 rfl) ?_
      refine lv_iload_n hx hb dX4_sealed_48 rfl (lv_at hl 3 rfl) ?_
      refine kV_Mi (As := [.int p1, .int p2, .int p3]) (rest := []) ⟨hx, hb, hml, hown, hts⟩ (ok_X4_numberOfBid l D cI cJ a _ _ _ _ _ _ hw) (cwV 3 hts gX4_sealed_X4_numberOfBid rfl rfl rfl (by decide +kernel) ⟨Nat.le_of_ble_eq_true rfl, Nat.le_of_ble_eq_true rfl⟩) hK hW hA 0 rfl rfl rfl hl.1 rfl (Nat.le_of_ble_eq_true rfl) dX4_sealed_49 ⟨Nat.le_of_ble_eq_true rfl, Nat.le_of_ble_eq_true rfl⟩ (fun r_2 _ H locs hw hW => ?_)
      refine lv_goto (tgt := 56) hx hb dX4_sealed_52 (by decide) ?_
      exact hret _ () _ _ _ _ hw hW dX4_sealed_56
  · have hw := hw.2 hc
    refine lv_aload_n hx hb dX4_sealed_23 rfl (lv_at hl 0 rfl) ?_
    refine va_get (D := D) (ci := 4) (v := .ref (a 1)) (C := RX4) (T := TX4) (N := 4) hx hb hts hinX4 hown hK hW.1 0 rfl rfl 0 (by decide) (hts _ (List.mem_of_getElem? (i := 1) rfl)) (fun _ h9 => h9) rfl dX4_sealed_24 ?_
    refine lv_iload_n hx hb dX4_sealed_27 rfl (lv_at hl 1 rfl) ?_
    refine lv_iload_n hx hb dX4_sealed_28 rfl (lv_at hl 2 rfl) ?_
    refine kV_Mi (As := [.int p1, .int p2]) (rest := []) ⟨hx, hb, hml, hown, hts⟩ (ok_X2_whyNotWithdrawn l D cI cJ a _ _ _ _ _ hw) (cwV 2 hts gX4_sealed_X2_whyNotWithdrawn rfl rfl rfl (by decide +kernel) ⟨Nat.le_of_ble_eq_true rfl, Nat.le_of_ble_eq_true rfl⟩) hK hW hA 1 rfl rfl rfl hl.1 rfl (Nat.le_of_ble_eq_true rfl) dX4_sealed_29 ⟨Nat.le_of_ble_eq_true rfl, Nat.le_of_ble_eq_true rfl⟩ (fun r_3 _ H locs hw hW => ?_)
    exact hret _ () _ _ _ _ hw hW dX4_sealed_32
def wp_X4_count (σ : CS) (p1 : Int32) (post : Int32 → Prop) (px : String → Prop) : Prop := ∀ w_1 : Int32, w_1 = p1 → ((w_1 = 0 → wp_X2_get_ σ 167 (fun r_2 => post r_2)) ∧ (¬ w_1 = 0 → ((w_1 = 1 → wp_X2_get_ σ 168 (fun r_3 => post r_3)) ∧ (¬ w_1 = 1 → ((w_1 = 2 → wp_X2_isOpened σ (fun r_4 => ((r_4 = 0 → post 0) ∧ (¬ r_4 = 0 → post 1)))) ∧ (¬ w_1 = 2 → ((w_1 = 3 → wp_X2_bidsInAll σ (fun r_5 => post r_5)) ∧ (¬ w_1 = 3 → ((w_1 = 4 → wp_X2_get_ σ 165 (fun r_6 => post r_6)) ∧ (¬ w_1 = 4 → ((w_1 = 5 → wp_X2_sum σ 30 6 (fun r_7 => post r_7)) ∧ (¬ w_1 = 5 → ((w_1 = 6 → wp_X2_get_ σ 166 (fun r_8 => post r_8)) ∧ (¬ w_1 = 6 → ((w_1 = 7 → wp_X2_sum σ 48 6 (fun r_9 => post r_9)) ∧ (¬ w_1 = 7 → ((w_1 = 8 → wp_X2_sum σ 42 6 (fun r_10 => post r_10)) ∧ (¬ w_1 = 8 → ((w_1 = 9 → wp_X2_get_ σ 173 (fun r_11 => post r_11)) ∧ (¬ w_1 = 9 → ((w_1 = 10 → wp_X2_sum σ 6 6 (fun r_12 => post r_12)) ∧ (¬ w_1 = 10 → ((w_1 = 11 → wp_X2_sum σ 36 6 (fun r_13 => post r_13)) ∧ (¬ w_1 = 11 → ((w_1 = 12 → wp_X2_get_ σ 171 (fun r_14 => post r_14)) ∧ (¬ w_1 = 12 → ((w_1 = 13 → wp_X2_get_ σ 172 (fun r_15 => post r_15)) ∧ (¬ w_1 = 13 → ((w_1 = 14 → wp_X0_savedStates σ (fun r_16 => post r_16)) ∧ (¬ w_1 = 14 → px "java/lang/IllegalArgumentException"))))))))))))))))))))))))))))))
abbrev rm_X4_count_n : Room := { frames := 8, cells := 0, slots := 0, locals := 140 }
theorem in_X4_count_n_X4 : ∀ w ∈ wsX40, w ∈ wsX4_count := fun w h => List.mem_cons_of_mem _ (List.mem_append_left _ (List.mem_append_left _ (List.mem_append_left _ (List.mem_append_right _ (h)))))
set_option maxHeartbeats 4000000 in
set_option maxRecDepth 100000 in
theorem ok_X4_count_n (l : Launch) (D : va_G) (cI cJ : ClassId) (a : Nat → Nat) (sz : Nat) (σ : CS) (p1 : Int32) (post : Int32 → Prop) (hw : wp_X4_count σ p1 post (fun _ => False)) : Mi l yX4_count wsX4_count rm_X4_count_n [.ref (a 0), .int p1] D (tysIJ cI cJ) (cW cI cJ a σ) sz (fun r (_ : Unit) => post r) (fun _ => cW cI cJ a σ) := by
  refine s_Mi (by decide) rfl (Nat.le_of_ble_eq_true rfl) ?_
  intro p e s m args below meth c A Q hx hb hml hts hown hin hK hA hret H locs ls hW hl
  have hown : s.vm.findClass RX4 = some m.cls := hown
  have hl : lv_has ls 2 [(0, .ref (a 0)), (1, .int p1)] := hl
  have hinX4 := in_X4_count_n_X4
  refine lv_iload_n hx hb dX4_count_0 rfl (lv_at hl 1 rfl) ?_
  refine lv_topi (fun w_1 ew_1 => ?_)
  have hw := hw w_1 ew_1
  by_cases hs0 : w_1 = 0
  · have hw := hw.1 hs0
    refine lv_tableIn (tgt := 76) hx hb dX4_count_1 (by rw [hs0]; decide) (by rw [hs0]; decide) (by rw [hs0]; rfl) (by decide) ?_
    refine lv_aload_n hx hb dX4_count_76 rfl (lv_at hl 0 rfl) ?_
    refine va_get (D := D) (ci := 4) (v := .ref (a 1)) (C := RX4) (T := TX4) (N := 4) hx hb hts hinX4 hown hK hW.1 0 rfl rfl 0 (by decide) (hts _ (List.mem_of_getElem? (i := 3) rfl)) (fun _ h9 => h9) rfl dX4_count_77 ?_
    refine lv_sipush (v := 167) hx hb dX4_count_80 (by decide) ?_
    refine kV_Mi (As := [.int 167]) (rest := []) ⟨hx, hb, hml, hown, hts⟩ (ok_X2_get_ l D cI cJ a _ _ _ _ hw) (cwV 1 hts gX4_count_X2_get_ rfl rfl rfl (by decide +kernel) ⟨Nat.le_of_ble_eq_true rfl, Nat.le_of_ble_eq_true rfl⟩) hK hW hA 1 rfl rfl rfl hl.1 rfl (Nat.le_of_ble_eq_true rfl) dX4_count_83 ⟨Nat.le_of_ble_eq_true rfl, Nat.le_of_ble_eq_true rfl⟩ (fun r_2 _ H locs hw hW => ?_)
    exact hret _ () _ _ _ _ hw hW dX4_count_86
  have hw := hw.2 hs0
  by_cases hs1 : w_1 = 1
  · have hw := hw.1 hs1
    refine lv_tableIn (tgt := 87) hx hb dX4_count_1 (by rw [hs1]; decide) (by rw [hs1]; decide) (by rw [hs1]; rfl) (by decide) ?_
    refine lv_aload_n hx hb dX4_count_87 rfl (lv_at hl 0 rfl) ?_
    refine va_get (D := D) (ci := 4) (v := .ref (a 1)) (C := RX4) (T := TX4) (N := 4) hx hb hts hinX4 hown hK hW.1 0 rfl rfl 0 (by decide) (hts _ (List.mem_of_getElem? (i := 3) rfl)) (fun _ h9 => h9) rfl dX4_count_88 ?_
    refine lv_sipush (v := 168) hx hb dX4_count_91 (by decide) ?_
    refine kV_Mi (As := [.int 168]) (rest := []) ⟨hx, hb, hml, hown, hts⟩ (ok_X2_get_ l D cI cJ a _ _ _ _ hw) (cwV 1 hts gX4_count_X2_get_ rfl rfl rfl (by decide +kernel) ⟨Nat.le_of_ble_eq_true rfl, Nat.le_of_ble_eq_true rfl⟩) hK hW hA 1 rfl rfl rfl hl.1 rfl (Nat.le_of_ble_eq_true rfl) dX4_count_94 ⟨Nat.le_of_ble_eq_true rfl, Nat.le_of_ble_eq_true rfl⟩ (fun r_3 _ H locs hw hW => ?_)
    exact hret _ () _ _ _ _ hw hW dX4_count_97
  have hw := hw.2 hs1
  by_cases hs2 : w_1 = 2
  · have hw := hw.1 hs2
    refine lv_tableIn (tgt := 98) hx hb dX4_count_1 (by rw [hs2]; decide) (by rw [hs2]; decide) (by rw [hs2]; rfl) (by decide) ?_
    refine lv_aload_n hx hb dX4_count_98 rfl (lv_at hl 0 rfl) ?_
    refine va_get (D := D) (ci := 4) (v := .ref (a 1)) (C := RX4) (T := TX4) (N := 4) hx hb hts hinX4 hown hK hW.1 0 rfl rfl 0 (by decide) (hts _ (List.mem_of_getElem? (i := 3) rfl)) (fun _ h9 => h9) rfl dX4_count_99 ?_
    refine kV_Mi (As := []) (rest := []) ⟨hx, hb, hml, hown, hts⟩ (ok_X2_isOpened l D cI cJ a _ _ _ hw) (cwV 0 hts gX4_count_X2_isOpened rfl rfl rfl (by decide +kernel) ⟨Nat.le_of_ble_eq_true rfl, Nat.le_of_ble_eq_true rfl⟩) hK hW hA 1 rfl rfl rfl hl.1 rfl (Nat.le_of_ble_eq_true rfl) dX4_count_102 ⟨Nat.le_of_ble_eq_true rfl, Nat.le_of_ble_eq_true rfl⟩ (fun r_4 _ H locs hw hW => ?_)
    refine lv_if_eq (tgt := 112) hx hb dX4_count_105 (by decide) (fun hc => ?_) (fun hc => ?_)
    · have hw := hw.1 hc
      refine lv_iconst (v := 0) hx hb dX4_count_112 (by decide) ?_
      exact hret _ () _ _ _ _ hw hW dX4_count_113
    · have hw := hw.2 hc
      refine lv_iconst (v := 1) hx hb dX4_count_108 (by decide) ?_
      refine lv_goto (tgt := 113) hx hb dX4_count_109 (by decide) ?_
      exact hret _ () _ _ _ _ hw hW dX4_count_113
  have hw := hw.2 hs2
  by_cases hs3 : w_1 = 3
  · have hw := hw.1 hs3
    refine lv_tableIn (tgt := 114) hx hb dX4_count_1 (by rw [hs3]; decide) (by rw [hs3]; decide) (by rw [hs3]; rfl) (by decide) ?_
    refine lv_aload_n hx hb dX4_count_114 rfl (lv_at hl 0 rfl) ?_
    refine va_get (D := D) (ci := 4) (v := .ref (a 1)) (C := RX4) (T := TX4) (N := 4) hx hb hts hinX4 hown hK hW.1 0 rfl rfl 0 (by decide) (hts _ (List.mem_of_getElem? (i := 3) rfl)) (fun _ h9 => h9) rfl dX4_count_115 ?_
    refine kV_Mi (As := []) (rest := []) ⟨hx, hb, hml, hown, hts⟩ (ok_X2_bidsInAll l D cI cJ a _ _ _ hw) (cwV 0 hts gX4_count_X2_bidsInAll rfl rfl rfl (by decide +kernel) ⟨Nat.le_of_ble_eq_true rfl, Nat.le_of_ble_eq_true rfl⟩) hK hW hA 1 rfl rfl rfl hl.1 rfl (Nat.le_of_ble_eq_true rfl) dX4_count_118 ⟨Nat.le_of_ble_eq_true rfl, Nat.le_of_ble_eq_true rfl⟩ (fun r_5 _ H locs hw hW => ?_)
    exact hret _ () _ _ _ _ hw hW dX4_count_121
  have hw := hw.2 hs3
  by_cases hs4 : w_1 = 4
  · have hw := hw.1 hs4
    refine lv_tableIn (tgt := 122) hx hb dX4_count_1 (by rw [hs4]; decide) (by rw [hs4]; decide) (by rw [hs4]; rfl) (by decide) ?_
    refine lv_aload_n hx hb dX4_count_122 rfl (lv_at hl 0 rfl) ?_
    refine va_get (D := D) (ci := 4) (v := .ref (a 1)) (C := RX4) (T := TX4) (N := 4) hx hb hts hinX4 hown hK hW.1 0 rfl rfl 0 (by decide) (hts _ (List.mem_of_getElem? (i := 3) rfl)) (fun _ h9 => h9) rfl dX4_count_123 ?_
    refine lv_sipush (v := 165) hx hb dX4_count_126 (by decide) ?_
    refine kV_Mi (As := [.int 165]) (rest := []) ⟨hx, hb, hml, hown, hts⟩ (ok_X2_get_ l D cI cJ a _ _ _ _ hw) (cwV 1 hts gX4_count_X2_get_ rfl rfl rfl (by decide +kernel) ⟨Nat.le_of_ble_eq_true rfl, Nat.le_of_ble_eq_true rfl⟩) hK hW hA 1 rfl rfl rfl hl.1 rfl (Nat.le_of_ble_eq_true rfl) dX4_count_129 ⟨Nat.le_of_ble_eq_true rfl, Nat.le_of_ble_eq_true rfl⟩ (fun r_6 _ H locs hw hW => ?_)
    exact hret _ () _ _ _ _ hw hW dX4_count_132
  have hw := hw.2 hs4
  by_cases hs5 : w_1 = 5
  · have hw := hw.1 hs5
    refine lv_tableIn (tgt := 133) hx hb dX4_count_1 (by rw [hs5]; decide) (by rw [hs5]; decide) (by rw [hs5]; rfl) (by decide) ?_
    refine lv_aload_n hx hb dX4_count_133 rfl (lv_at hl 0 rfl) ?_
    refine va_get (D := D) (ci := 4) (v := .ref (a 1)) (C := RX4) (T := TX4) (N := 4) hx hb hts hinX4 hown hK hW.1 0 rfl rfl 0 (by decide) (hts _ (List.mem_of_getElem? (i := 3) rfl)) (fun _ h9 => h9) rfl dX4_count_134 ?_
    refine lv_bipush (v := 30) hx hb dX4_count_137 (by decide) ?_
    refine lv_bipush (v := 6) hx hb dX4_count_139 (by decide) ?_
    refine kV_Mi (As := [.int 30, .int 6]) (rest := []) ⟨hx, hb, hml, hown, hts⟩ (ok_X2_sum l D cI cJ a _ _ _ _ _ hw) (cwV 2 hts gX4_count_X2_sum rfl rfl rfl (by decide +kernel) ⟨Nat.le_of_ble_eq_true rfl, Nat.le_of_ble_eq_true rfl⟩) hK hW hA 1 rfl rfl rfl hl.1 rfl (Nat.le_of_ble_eq_true rfl) dX4_count_141 ⟨Nat.le_of_ble_eq_true rfl, Nat.le_of_ble_eq_true rfl⟩ (fun r_7 _ H locs hw hW => ?_)
    exact hret _ () _ _ _ _ hw hW dX4_count_144
  have hw := hw.2 hs5
  by_cases hs6 : w_1 = 6
  · have hw := hw.1 hs6
    refine lv_tableIn (tgt := 145) hx hb dX4_count_1 (by rw [hs6]; decide) (by rw [hs6]; decide) (by rw [hs6]; rfl) (by decide) ?_
    refine lv_aload_n hx hb dX4_count_145 rfl (lv_at hl 0 rfl) ?_
    refine va_get (D := D) (ci := 4) (v := .ref (a 1)) (C := RX4) (T := TX4) (N := 4) hx hb hts hinX4 hown hK hW.1 0 rfl rfl 0 (by decide) (hts _ (List.mem_of_getElem? (i := 3) rfl)) (fun _ h9 => h9) rfl dX4_count_146 ?_
    refine lv_sipush (v := 166) hx hb dX4_count_149 (by decide) ?_
    refine kV_Mi (As := [.int 166]) (rest := []) ⟨hx, hb, hml, hown, hts⟩ (ok_X2_get_ l D cI cJ a _ _ _ _ hw) (cwV 1 hts gX4_count_X2_get_ rfl rfl rfl (by decide +kernel) ⟨Nat.le_of_ble_eq_true rfl, Nat.le_of_ble_eq_true rfl⟩) hK hW hA 1 rfl rfl rfl hl.1 rfl (Nat.le_of_ble_eq_true rfl) dX4_count_152 ⟨Nat.le_of_ble_eq_true rfl, Nat.le_of_ble_eq_true rfl⟩ (fun r_8 _ H locs hw hW => ?_)
    exact hret _ () _ _ _ _ hw hW dX4_count_155
  have hw := hw.2 hs6
  by_cases hs7 : w_1 = 7
  · have hw := hw.1 hs7
    refine lv_tableIn (tgt := 156) hx hb dX4_count_1 (by rw [hs7]; decide) (by rw [hs7]; decide) (by rw [hs7]; rfl) (by decide) ?_
    refine lv_aload_n hx hb dX4_count_156 rfl (lv_at hl 0 rfl) ?_
    refine va_get (D := D) (ci := 4) (v := .ref (a 1)) (C := RX4) (T := TX4) (N := 4) hx hb hts hinX4 hown hK hW.1 0 rfl rfl 0 (by decide) (hts _ (List.mem_of_getElem? (i := 3) rfl)) (fun _ h9 => h9) rfl dX4_count_157 ?_
    refine lv_bipush (v := 48) hx hb dX4_count_160 (by decide) ?_
    refine lv_bipush (v := 6) hx hb dX4_count_162 (by decide) ?_
    refine kV_Mi (As := [.int 48, .int 6]) (rest := []) ⟨hx, hb, hml, hown, hts⟩ (ok_X2_sum l D cI cJ a _ _ _ _ _ hw) (cwV 2 hts gX4_count_X2_sum rfl rfl rfl (by decide +kernel) ⟨Nat.le_of_ble_eq_true rfl, Nat.le_of_ble_eq_true rfl⟩) hK hW hA 1 rfl rfl rfl hl.1 rfl (Nat.le_of_ble_eq_true rfl) dX4_count_164 ⟨Nat.le_of_ble_eq_true rfl, Nat.le_of_ble_eq_true rfl⟩ (fun r_9 _ H locs hw hW => ?_)
    exact hret _ () _ _ _ _ hw hW dX4_count_167
  have hw := hw.2 hs7
  by_cases hs8 : w_1 = 8
  · have hw := hw.1 hs8
    refine lv_tableIn (tgt := 168) hx hb dX4_count_1 (by rw [hs8]; decide) (by rw [hs8]; decide) (by rw [hs8]; rfl) (by decide) ?_
    refine lv_aload_n hx hb dX4_count_168 rfl (lv_at hl 0 rfl) ?_
    refine va_get (D := D) (ci := 4) (v := .ref (a 1)) (C := RX4) (T := TX4) (N := 4) hx hb hts hinX4 hown hK hW.1 0 rfl rfl 0 (by decide) (hts _ (List.mem_of_getElem? (i := 3) rfl)) (fun _ h9 => h9) rfl dX4_count_169 ?_
    refine lv_bipush (v := 42) hx hb dX4_count_172 (by decide) ?_
    refine lv_bipush (v := 6) hx hb dX4_count_174 (by decide) ?_
    refine kV_Mi (As := [.int 42, .int 6]) (rest := []) ⟨hx, hb, hml, hown, hts⟩ (ok_X2_sum l D cI cJ a _ _ _ _ _ hw) (cwV 2 hts gX4_count_X2_sum rfl rfl rfl (by decide +kernel) ⟨Nat.le_of_ble_eq_true rfl, Nat.le_of_ble_eq_true rfl⟩) hK hW hA 1 rfl rfl rfl hl.1 rfl (Nat.le_of_ble_eq_true rfl) dX4_count_176 ⟨Nat.le_of_ble_eq_true rfl, Nat.le_of_ble_eq_true rfl⟩ (fun r_10 _ H locs hw hW => ?_)
    exact hret _ () _ _ _ _ hw hW dX4_count_179
  have hw := hw.2 hs8
  by_cases hs9 : w_1 = 9
  · have hw := hw.1 hs9
    refine lv_tableIn (tgt := 180) hx hb dX4_count_1 (by rw [hs9]; decide) (by rw [hs9]; decide) (by rw [hs9]; rfl) (by decide) ?_
    refine lv_aload_n hx hb dX4_count_180 rfl (lv_at hl 0 rfl) ?_
    refine va_get (D := D) (ci := 4) (v := .ref (a 1)) (C := RX4) (T := TX4) (N := 4) hx hb hts hinX4 hown hK hW.1 0 rfl rfl 0 (by decide) (hts _ (List.mem_of_getElem? (i := 3) rfl)) (fun _ h9 => h9) rfl dX4_count_181 ?_
    refine lv_sipush (v := 173) hx hb dX4_count_184 (by decide) ?_
    refine kV_Mi (As := [.int 173]) (rest := []) ⟨hx, hb, hml, hown, hts⟩ (ok_X2_get_ l D cI cJ a _ _ _ _ hw) (cwV 1 hts gX4_count_X2_get_ rfl rfl rfl (by decide +kernel) ⟨Nat.le_of_ble_eq_true rfl, Nat.le_of_ble_eq_true rfl⟩) hK hW hA 1 rfl rfl rfl hl.1 rfl (Nat.le_of_ble_eq_true rfl) dX4_count_187 ⟨Nat.le_of_ble_eq_true rfl, Nat.le_of_ble_eq_true rfl⟩ (fun r_11 _ H locs hw hW => ?_)
    exact hret _ () _ _ _ _ hw hW dX4_count_190
  have hw := hw.2 hs9
  by_cases hs10 : w_1 = 10
  · have hw := hw.1 hs10
    refine lv_tableIn (tgt := 191) hx hb dX4_count_1 (by rw [hs10]; decide) (by rw [hs10]; decide) (by rw [hs10]; rfl) (by decide) ?_
    refine lv_aload_n hx hb dX4_count_191 rfl (lv_at hl 0 rfl) ?_
    refine va_get (D := D) (ci := 4) (v := .ref (a 1)) (C := RX4) (T := TX4) (N := 4) hx hb hts hinX4 hown hK hW.1 0 rfl rfl 0 (by decide) (hts _ (List.mem_of_getElem? (i := 3) rfl)) (fun _ h9 => h9) rfl dX4_count_192 ?_
    refine lv_bipush (v := 6) hx hb dX4_count_195 (by decide) ?_
    refine lv_bipush (v := 6) hx hb dX4_count_197 (by decide) ?_
    refine kV_Mi (As := [.int 6, .int 6]) (rest := []) ⟨hx, hb, hml, hown, hts⟩ (ok_X2_sum l D cI cJ a _ _ _ _ _ hw) (cwV 2 hts gX4_count_X2_sum rfl rfl rfl (by decide +kernel) ⟨Nat.le_of_ble_eq_true rfl, Nat.le_of_ble_eq_true rfl⟩) hK hW hA 1 rfl rfl rfl hl.1 rfl (Nat.le_of_ble_eq_true rfl) dX4_count_199 ⟨Nat.le_of_ble_eq_true rfl, Nat.le_of_ble_eq_true rfl⟩ (fun r_12 _ H locs hw hW => ?_)
    exact hret _ () _ _ _ _ hw hW dX4_count_202
  have hw := hw.2 hs10
  by_cases hs11 : w_1 = 11
  · have hw := hw.1 hs11
    refine lv_tableIn (tgt := 203) hx hb dX4_count_1 (by rw [hs11]; decide) (by rw [hs11]; decide) (by rw [hs11]; rfl) (by decide) ?_
    refine lv_aload_n hx hb dX4_count_203 rfl (lv_at hl 0 rfl) ?_
    refine va_get (D := D) (ci := 4) (v := .ref (a 1)) (C := RX4) (T := TX4) (N := 4) hx hb hts hinX4 hown hK hW.1 0 rfl rfl 0 (by decide) (hts _ (List.mem_of_getElem? (i := 3) rfl)) (fun _ h9 => h9) rfl dX4_count_204 ?_
    refine lv_bipush (v := 36) hx hb dX4_count_207 (by decide) ?_
    refine lv_bipush (v := 6) hx hb dX4_count_209 (by decide) ?_
    refine kV_Mi (As := [.int 36, .int 6]) (rest := []) ⟨hx, hb, hml, hown, hts⟩ (ok_X2_sum l D cI cJ a _ _ _ _ _ hw) (cwV 2 hts gX4_count_X2_sum rfl rfl rfl (by decide +kernel) ⟨Nat.le_of_ble_eq_true rfl, Nat.le_of_ble_eq_true rfl⟩) hK hW hA 1 rfl rfl rfl hl.1 rfl (Nat.le_of_ble_eq_true rfl) dX4_count_211 ⟨Nat.le_of_ble_eq_true rfl, Nat.le_of_ble_eq_true rfl⟩ (fun r_13 _ H locs hw hW => ?_)
    exact hret _ () _ _ _ _ hw hW dX4_count_214
  have hw := hw.2 hs11
  by_cases hs12 : w_1 = 12
  · have hw := hw.1 hs12
    refine lv_tableIn (tgt := 215) hx hb dX4_count_1 (by rw [hs12]; decide) (by rw [hs12]; decide) (by rw [hs12]; rfl) (by decide) ?_
    refine lv_aload_n hx hb dX4_count_215 rfl (lv_at hl 0 rfl) ?_
    refine va_get (D := D) (ci := 4) (v := .ref (a 1)) (C := RX4) (T := TX4) (N := 4) hx hb hts hinX4 hown hK hW.1 0 rfl rfl 0 (by decide) (hts _ (List.mem_of_getElem? (i := 3) rfl)) (fun _ h9 => h9) rfl dX4_count_216 ?_
    refine lv_sipush (v := 171) hx hb dX4_count_219 (by decide) ?_
    refine kV_Mi (As := [.int 171]) (rest := []) ⟨hx, hb, hml, hown, hts⟩ (ok_X2_get_ l D cI cJ a _ _ _ _ hw) (cwV 1 hts gX4_count_X2_get_ rfl rfl rfl (by decide +kernel) ⟨Nat.le_of_ble_eq_true rfl, Nat.le_of_ble_eq_true rfl⟩) hK hW hA 1 rfl rfl rfl hl.1 rfl (Nat.le_of_ble_eq_true rfl) dX4_count_222 ⟨Nat.le_of_ble_eq_true rfl, Nat.le_of_ble_eq_true rfl⟩ (fun r_14 _ H locs hw hW => ?_)
    exact hret _ () _ _ _ _ hw hW dX4_count_225
  have hw := hw.2 hs12
  by_cases hs13 : w_1 = 13
  · have hw := hw.1 hs13
    refine lv_tableIn (tgt := 226) hx hb dX4_count_1 (by rw [hs13]; decide) (by rw [hs13]; decide) (by rw [hs13]; rfl) (by decide) ?_
    refine lv_aload_n hx hb dX4_count_226 rfl (lv_at hl 0 rfl) ?_
    refine va_get (D := D) (ci := 4) (v := .ref (a 1)) (C := RX4) (T := TX4) (N := 4) hx hb hts hinX4 hown hK hW.1 0 rfl rfl 0 (by decide) (hts _ (List.mem_of_getElem? (i := 3) rfl)) (fun _ h9 => h9) rfl dX4_count_227 ?_
    refine lv_sipush (v := 172) hx hb dX4_count_230 (by decide) ?_
    refine kV_Mi (As := [.int 172]) (rest := []) ⟨hx, hb, hml, hown, hts⟩ (ok_X2_get_ l D cI cJ a _ _ _ _ hw) (cwV 1 hts gX4_count_X2_get_ rfl rfl rfl (by decide +kernel) ⟨Nat.le_of_ble_eq_true rfl, Nat.le_of_ble_eq_true rfl⟩) hK hW hA 1 rfl rfl rfl hl.1 rfl (Nat.le_of_ble_eq_true rfl) dX4_count_233 ⟨Nat.le_of_ble_eq_true rfl, Nat.le_of_ble_eq_true rfl⟩ (fun r_15 _ H locs hw hW => ?_)
    exact hret _ () _ _ _ _ hw hW dX4_count_236
  have hw := hw.2 hs13
  by_cases hs14 : w_1 = 14
  · have hw := hw.1 hs14
    refine lv_tableIn (tgt := 237) hx hb dX4_count_1 (by rw [hs14]; decide) (by rw [hs14]; decide) (by rw [hs14]; rfl) (by decide) ?_
    refine lv_aload_n hx hb dX4_count_237 rfl (lv_at hl 0 rfl) ?_
    refine va_get (D := D) (ci := 4) (v := .ref (a 6)) (C := RX4) (T := TX4) (N := 4) hx hb hts hinX4 hown hK hW.1 0 rfl rfl 2 (by decide) (hts _ (List.mem_of_getElem? (i := 4) rfl)) (fun _ h9 => h9) rfl dX4_count_238 ?_
    refine kV_Mi (As := []) (rest := []) ⟨hx, hb, hml, hown, hts⟩ (ok_X0_savedStates l D cI cJ a _ _ _ hw) (cwV 0 hts gX4_count_X0_savedStates rfl rfl rfl (by decide +kernel) ⟨Nat.le_of_ble_eq_true rfl, Nat.le_of_ble_eq_true rfl⟩) hK hW hA 6 rfl rfl rfl hl.1 rfl (Nat.le_of_ble_eq_true rfl) dX4_count_241 ⟨Nat.le_of_ble_eq_true rfl, Nat.le_of_ble_eq_true rfl⟩ (fun r_16 _ H locs hw hW => ?_)
    exact hret _ () _ _ _ _ hw hW dX4_count_244
  have hw := hw.2 hs14
  refine lv_tableOut (tgt := 245) hx hb dX4_count_1 (by have q0 := lv_neT hs0 (a := 0) (by decide); have q1 := lv_neT hs1 (a := 1) (by decide); have q2 := lv_neT hs2 (a := 2) (by decide); have q3 := lv_neT hs3 (a := 3) (by decide); have q4 := lv_neT hs4 (a := 4) (by decide); have q5 := lv_neT hs5 (a := 5) (by decide); have q6 := lv_neT hs6 (a := 6) (by decide); have q7 := lv_neT hs7 (a := 7) (by decide); have q8 := lv_neT hs8 (a := 8) (by decide); have q9 := lv_neT hs9 (a := 9) (by decide); have q10 := lv_neT hs10 (a := 10) (by decide); have q11 := lv_neT hs11 (a := 11) (by decide); have q12 := lv_neT hs12 (a := 12) (by decide); have q13 := lv_neT hs13 (a := 13) (by decide); have q14 := lv_neT hs14 (a := 14) (by decide); omega) (by decide) ?_
  exact hw.elim
def wp_X4_setting (σ : CS) (p1 : Int32) (post : Int32 → Prop) (px : String → Prop) : Prop := wp_X4_needPlace σ p1 3 (wp_X2_get σ 162 p1 (fun r_1 => post r_1)) px
abbrev rm_X4_setting_n : Room := { frames := 9, cells := 0, slots := 0, locals := 161 }
theorem in_X4_setting_n_X4 : ∀ w ∈ wsX40, w ∈ wsX4_setting := fun w h => List.mem_cons_of_mem _ (List.mem_append_left _ (List.mem_append_left _ (List.mem_append_right _ (h))))
set_option maxHeartbeats 4000000 in
set_option maxRecDepth 100000 in
theorem ok_X4_setting_n (l : Launch) (D : va_G) (cI cJ : ClassId) (a : Nat → Nat) (sz : Nat) (σ : CS) (p1 : Int32) (post : Int32 → Prop) (hw : wp_X4_setting σ p1 post (fun _ => False)) : Mi l yX4_setting wsX4_setting rm_X4_setting_n [.ref (a 0), .int p1] D (tysIJ cI cJ) (cW cI cJ a σ) sz (fun r (_ : Unit) => post r) (fun _ => cW cI cJ a σ) := by
  refine s_Mi (by decide) rfl (Nat.le_of_ble_eq_true rfl) ?_
  intro p e s m args below meth c A Q hx hb hml hts hown hin hK hA hret H locs ls hW hl
  have hown : s.vm.findClass RX4 = some m.cls := hown
  have hl : lv_has ls 2 [(0, .ref (a 0)), (1, .int p1)] := hl
  have hinX4 := in_X4_setting_n_X4
  refine lv_iload_n hx hb dX4_setting_0 rfl (lv_at hl 1 rfl) ?_
  refine lv_iconst (v := 3) hx hb dX4_setting_1 (by decide) ?_
  refine kS_Mv (As := [.int p1, .int 3]) (rest := []) ⟨hx, hb, hml, hown, hts⟩ (ok_X4_needPlace_n l D cI cJ a _ _ _ _ _ hw) (va_cwS 2 hts gX4_setting_X4_needPlace rfl rfl rfl (by decide +kernel) ⟨Nat.le_of_ble_eq_true rfl, Nat.le_of_ble_eq_true rfl⟩) hK hW hA rfl hl.1 rfl (Nat.le_of_ble_eq_true rfl) dX4_setting_2 ⟨Nat.le_of_ble_eq_true rfl, Nat.le_of_ble_eq_true rfl⟩ (fun _ H locs hw hW => ?_)
  refine lv_aload_n hx hb dX4_setting_5 rfl (lv_at hl 0 rfl) ?_
  refine va_get (D := D) (ci := 4) (v := .ref (a 1)) (C := RX4) (T := TX4) (N := 4) hx hb hts hinX4 hown hK hW.1 0 rfl rfl 0 (by decide) (hts _ (List.mem_of_getElem? (i := 1) rfl)) (fun _ h9 => h9) rfl dX4_setting_6 ?_
  refine lv_sipush (v := 162) hx hb dX4_setting_9 (by decide) ?_
  refine lv_iload_n hx hb dX4_setting_12 rfl (lv_at hl 1 rfl) ?_
  refine kV_Mi (As := [.int 162, .int p1]) (rest := []) ⟨hx, hb, hml, hown, hts⟩ (ok_X2_get l D cI cJ a _ _ _ _ _ hw) (cwV 2 hts gX4_setting_X2_get rfl rfl rfl (by decide +kernel) ⟨Nat.le_of_ble_eq_true rfl, Nat.le_of_ble_eq_true rfl⟩) hK hW hA 1 rfl rfl rfl hl.1 rfl (Nat.le_of_ble_eq_true rfl) dX4_setting_13 ⟨Nat.le_of_ble_eq_true rfl, Nat.le_of_ble_eq_true rfl⟩ (fun r_1 _ H locs hw hW => ?_)
  exact hret _ () _ _ _ _ hw hW dX4_setting_16
def wp_X4_why (σ : CS) (p1 : Int32) (p2 : Int32) (p3 : Int32) (post : Int32 → Prop) (px : String → Prop) : Prop := wp_X4_needPlace σ p1 6 (wp_X4_needPlace σ p2 6 (wp_X4_needRange σ p3 1 99 (wp_X2_whyNotSealed σ p1 p2 p3 (fun r_1 => post r_1)) px) px) px
abbrev rm_X4_why_n : Room := { frames := 9, cells := 0, slots := 0, locals := 162 }
theorem in_X4_why_n_X4 : ∀ w ∈ wsX40, w ∈ wsX4_why := fun w h => List.mem_cons_of_mem _ (List.mem_append_left _ (List.mem_append_left _ (List.mem_append_left _ (List.mem_append_right _ (h)))))
set_option maxHeartbeats 4000000 in
set_option maxRecDepth 100000 in
theorem ok_X4_why_n (l : Launch) (D : va_G) (cI cJ : ClassId) (a : Nat → Nat) (sz : Nat) (σ : CS) (p1 : Int32) (p2 : Int32) (p3 : Int32) (post : Int32 → Prop) (hw : wp_X4_why σ p1 p2 p3 post (fun _ => False)) : Mi l yX4_why wsX4_why rm_X4_why_n [.ref (a 0), .int p1, .int p2, .int p3] D (tysIJ cI cJ) (cW cI cJ a σ) sz (fun r (_ : Unit) => post r) (fun _ => cW cI cJ a σ) := by
  refine s_Mi (by decide) rfl (Nat.le_of_ble_eq_true rfl) ?_
  intro p e s m args below meth c A Q hx hb hml hts hown hin hK hA hret H locs ls hW hl
  have hown : s.vm.findClass RX4 = some m.cls := hown
  have hl : lv_has ls 4 [(0, .ref (a 0)), (1, .int p1), (2, .int p2), (3, .int p3)] := hl
  have hinX4 := in_X4_why_n_X4
  refine lv_iload_n hx hb dX4_why_0 rfl (lv_at hl 1 rfl) ?_
  refine lv_bipush (v := 6) hx hb dX4_why_1 (by decide) ?_
  refine kS_Mv (As := [.int p1, .int 6]) (rest := []) ⟨hx, hb, hml, hown, hts⟩ (ok_X4_needPlace_n l D cI cJ a _ _ _ _ _ hw) (va_cwS 2 hts gX4_why_X4_needPlace rfl rfl rfl (by decide +kernel) ⟨Nat.le_of_ble_eq_true rfl, Nat.le_of_ble_eq_true rfl⟩) hK hW hA rfl hl.1 rfl (Nat.le_of_ble_eq_true rfl) dX4_why_3 ⟨Nat.le_of_ble_eq_true rfl, Nat.le_of_ble_eq_true rfl⟩ (fun _ H locs hw hW => ?_)
  refine lv_iload_n hx hb dX4_why_6 rfl (lv_at hl 2 rfl) ?_
  refine lv_bipush (v := 6) hx hb dX4_why_7 (by decide) ?_
  refine kS_Mv (As := [.int p2, .int 6]) (rest := []) ⟨hx, hb, hml, hown, hts⟩ (ok_X4_needPlace_n l D cI cJ a _ _ _ _ _ hw) (va_cwS 2 hts gX4_why_X4_needPlace rfl rfl rfl (by decide +kernel) ⟨Nat.le_of_ble_eq_true rfl, Nat.le_of_ble_eq_true rfl⟩) hK hW hA rfl hl.1 rfl (Nat.le_of_ble_eq_true rfl) dX4_why_9 ⟨Nat.le_of_ble_eq_true rfl, Nat.le_of_ble_eq_true rfl⟩ (fun _ H locs hw hW => ?_)
  refine lv_iload_n hx hb dX4_why_12 rfl (lv_at hl 3 rfl) ?_
  refine lv_iconst (v := 1) hx hb dX4_why_13 (by decide) ?_
  refine lv_bipush (v := 99) hx hb dX4_why_14 (by decide) ?_
  refine kS_Mv (As := [.int p3, .int 1, .int 99]) (rest := []) ⟨hx, hb, hml, hown, hts⟩ (ok_X4_needRange_n l D cI cJ a _ _ _ _ _ _ hw) (va_cwS 3 hts gX4_why_X4_needRange rfl rfl rfl (by decide +kernel) ⟨Nat.le_of_ble_eq_true rfl, Nat.le_of_ble_eq_true rfl⟩) hK hW hA rfl hl.1 rfl (Nat.le_of_ble_eq_true rfl) dX4_why_16 ⟨Nat.le_of_ble_eq_true rfl, Nat.le_of_ble_eq_true rfl⟩ (fun _ H locs hw hW => ?_)
  refine lv_aload_n hx hb dX4_why_19 rfl (lv_at hl 0 rfl) ?_
  refine va_get (D := D) (ci := 4) (v := .ref (a 1)) (C := RX4) (T := TX4) (N := 4) hx hb hts hinX4 hown hK hW.1 0 rfl rfl 0 (by decide) (hts _ (List.mem_of_getElem? (i := 1) rfl)) (fun _ h9 => h9) rfl dX4_why_20 ?_
  refine lv_iload_n hx hb dX4_why_23 rfl (lv_at hl 1 rfl) ?_
  refine lv_iload_n hx hb dX4_why_24 rfl (lv_at hl 2 rfl) ?_
  refine lv_iload_n hx hb dX4_why_25 rfl (lv_at hl 3 rfl) ?_
  refine kV_Mi (As := [.int p1, .int p2, .int p3]) (rest := []) ⟨hx, hb, hml, hown, hts⟩ (ok_X2_whyNotSealed l D cI cJ a _ _ _ _ _ _ hw) (cwV 3 hts gX4_why_X2_whyNotSealed rfl rfl rfl (by decide +kernel) ⟨Nat.le_of_ble_eq_true rfl, Nat.le_of_ble_eq_true rfl⟩) hK hW hA 1 rfl rfl rfl hl.1 rfl (Nat.le_of_ble_eq_true rfl) dX4_why_26 ⟨Nat.le_of_ble_eq_true rfl, Nat.le_of_ble_eq_true rfl⟩ (fun r_1 _ H locs hw hW => ?_)
  exact hret _ () _ _ _ _ hw hW dX4_why_29
def wp_X4_worth (σ : CS) (p1 : Int32) (p2 : Int32) (post : Int32 → CS → Prop) (px : String → Prop) : Prop := wp_X4_needRange σ p1 0 6 (wp_X4_needRange σ p2 0 1 (wp_X4_findSharing σ (fun σ_1 => ((¬ p2 = 0 → wp_X1_worthWithout σ_1 p1 (fun r_2 => post r_2 σ_1)) ∧ (p2 = 0 → wp_X1_worthByTrying σ_1 p1 (fun r_3 => post r_3 σ_1))))) px) px
abbrev rm_X4_worth_n : Room := { frames := 10, cells := 0, slots := 0, locals := 438 }
theorem in_X4_worth_n_X4 : ∀ w ∈ wsX40, w ∈ wsX4_worth := fun w h => List.mem_cons_of_mem _ (List.mem_append_left _ (List.mem_append_left _ (List.mem_append_left _ (List.mem_append_right _ (h)))))
set_option maxHeartbeats 4000000 in
set_option maxRecDepth 100000 in
theorem ok_X4_worth_n (l : Launch) (D : va_G) (cI cJ : ClassId) (a : Nat → Nat) (sz : Nat) (σ : CS) (p1 : Int32) (p2 : Int32) (post : Int32 → CS → Prop) (hw : wp_X4_worth σ p1 p2 post (fun _ => False)) : Mi l yX4_worth wsX4_worth rm_X4_worth_n [.ref (a 0), .int p1, .int p2] D (tysIJ cI cJ) (cW cI cJ a σ) sz post (cW cI cJ a) := by
  refine s_Mi (by decide) rfl (Nat.le_of_ble_eq_true rfl) ?_
  intro p e s m args below meth c A Q hx hb hml hts hown hin hK hA hret H locs ls hW hl
  have hown : s.vm.findClass RX4 = some m.cls := hown
  have hl : lv_has ls 3 [(0, .ref (a 0)), (1, .int p1), (2, .int p2)] := hl
  have hinX4 := in_X4_worth_n_X4
  refine lv_iload_n hx hb dX4_worth_0 rfl (lv_at hl 1 rfl) ?_
  refine lv_iconst (v := 0) hx hb dX4_worth_1 (by decide) ?_
  refine lv_bipush (v := 6) hx hb dX4_worth_2 (by decide) ?_
  refine kS_Mv (As := [.int p1, .int 0, .int 6]) (rest := []) ⟨hx, hb, hml, hown, hts⟩ (ok_X4_needRange_n l D cI cJ a _ _ _ _ _ _ hw) (va_cwS 3 hts gX4_worth_X4_needRange rfl rfl rfl (by decide +kernel) ⟨Nat.le_of_ble_eq_true rfl, Nat.le_of_ble_eq_true rfl⟩) hK hW hA rfl hl.1 rfl (Nat.le_of_ble_eq_true rfl) dX4_worth_4 ⟨Nat.le_of_ble_eq_true rfl, Nat.le_of_ble_eq_true rfl⟩ (fun _ H locs hw hW => ?_)
  refine lv_iload_n hx hb dX4_worth_7 rfl (lv_at hl 2 rfl) ?_
  refine lv_iconst (v := 0) hx hb dX4_worth_8 (by decide) ?_
  refine lv_iconst (v := 1) hx hb dX4_worth_9 (by decide) ?_
  refine kS_Mv (As := [.int p2, .int 0, .int 1]) (rest := []) ⟨hx, hb, hml, hown, hts⟩ (ok_X4_needRange_n l D cI cJ a _ _ _ _ _ _ hw) (va_cwS 3 hts gX4_worth_X4_needRange rfl rfl rfl (by decide +kernel) ⟨Nat.le_of_ble_eq_true rfl, Nat.le_of_ble_eq_true rfl⟩) hK hW hA rfl hl.1 rfl (Nat.le_of_ble_eq_true rfl) dX4_worth_10 ⟨Nat.le_of_ble_eq_true rfl, Nat.le_of_ble_eq_true rfl⟩ (fun _ H locs hw hW => ?_)
  refine lv_aload_n hx hb dX4_worth_13 rfl (lv_at hl 0 rfl) ?_
  refine kV_Mv (As := []) (rest := []) ⟨hx, hb, hml, hown, hts⟩ (ok_X4_findSharing l D cI cJ a _ _ _ hw) (cwV 0 hts gX4_worth_X4_findSharing rfl rfl rfl (by decide +kernel) ⟨Nat.le_of_ble_eq_true rfl, Nat.le_of_ble_eq_true rfl⟩) hK hW hA 0 rfl rfl rfl hl.1 rfl (Nat.le_of_ble_eq_true rfl) dX4_worth_14 ⟨Nat.le_of_ble_eq_true rfl, Nat.le_of_ble_eq_true rfl⟩ (fun σ_1 H locs hw hW => ?_)
  refine lv_iload_n hx hb dX4_worth_17 rfl (lv_at hl 2 rfl) ?_
  refine lv_if_ne (tgt := 32) hx hb dX4_worth_18 (by decide) (fun hc => ?_) (fun hc => ?_)
  · have hw := hw.1 hc
    refine lv_aload_n hx hb dX4_worth_32 rfl (lv_at hl 0 rfl) ?_
    refine va_get (D := D) (ci := 4) (v := .ref (a 3)) (C := RX4) (T := TX4) (N := 4) hx hb hts hinX4 hown hK hW.1 0 rfl rfl 1 (by decide) (hts _ (List.mem_of_getElem? (i := 1) rfl)) (fun _ h9 => h9) rfl dX4_worth_33 ?_
    refine lv_iload_n hx hb dX4_worth_36 rfl (lv_at hl 1 rfl) ?_
    refine kV_Mi (As := [.int p1]) (rest := []) ⟨hx, hb, hml, hown, hts⟩ (ok_X1_worthWithout l D cI cJ a _ _ _ _ hw) (cwV 1 hts gX4_worth_X1_worthWithout rfl rfl rfl (by decide +kernel) ⟨Nat.le_of_ble_eq_true rfl, Nat.le_of_ble_eq_true rfl⟩) hK hW hA 3 rfl rfl rfl hl.1 rfl (Nat.le_of_ble_eq_true rfl) dX4_worth_37 ⟨Nat.le_of_ble_eq_true rfl, Nat.le_of_ble_eq_true rfl⟩ (fun r_2 _ H locs hw hW => ?_)
    exact hret _ σ_1 _ _ _ _ hw hW dX4_worth_40
  · have hw := hw.2 hc
    refine lv_aload_n hx hb dX4_worth_21 rfl (lv_at hl 0 rfl) ?_
    refine va_get (D := D) (ci := 4) (v := .ref (a 3)) (C := RX4) (T := TX4) (N := 4) hx hb hts hinX4 hown hK hW.1 0 rfl rfl 1 (by decide) (hts _ (List.mem_of_getElem? (i := 1) rfl)) (fun _ h9 => h9) rfl dX4_worth_22 ?_
    refine lv_iload_n hx hb dX4_worth_25 rfl (lv_at hl 1 rfl) ?_
    refine kV_Mi (As := [.int p1]) (rest := []) ⟨hx, hb, hml, hown, hts⟩ (ok_X1_worthByTrying l D cI cJ a _ _ _ _ hw) (cwV 1 hts gX4_worth_X1_worthByTrying rfl rfl rfl (by decide +kernel) ⟨Nat.le_of_ble_eq_true rfl, Nat.le_of_ble_eq_true rfl⟩) hK hW hA 3 rfl rfl rfl hl.1 rfl (Nat.le_of_ble_eq_true rfl) dX4_worth_26 ⟨Nat.le_of_ble_eq_true rfl, Nat.le_of_ble_eq_true rfl⟩ (fun r_3 _ H locs hw hW => ?_)
    refine lv_goto (tgt := 40) hx hb dX4_worth_29 (by decide) ?_
    exact hret _ σ_1 _ _ _ _ hw hW dX4_worth_40
def wp_X4_ifOpened (σ : CS) (p1 : Int32) (p2 : Int32) (post : Int32 → CS → Prop) (px : String → Prop) : Prop := wp_X4_needPlace σ p1 6 (wp_X4_needRange σ p2 0 1 (wp_X4_findSharing σ (fun σ_1 => ((¬ p2 = 0 → wp_X1_priceOf σ_1 p1 (fun r_2 => post r_2 σ_1)) ∧ (p2 = 0 → wp_X1_ownerOf σ_1 p1 (fun r_3 => post r_3 σ_1))))) px) px
abbrev rm_X4_ifOpened_n : Room := { frames := 9, cells := 0, slots := 0, locals := 162 }
theorem in_X4_ifOpened_n_X4 : ∀ w ∈ wsX40, w ∈ wsX4_ifOpened := fun w h => List.mem_cons_of_mem _ (List.mem_append_left _ (List.mem_append_left _ (List.mem_append_left _ (List.mem_append_left _ (List.mem_append_right _ (h))))))
set_option maxHeartbeats 4000000 in
set_option maxRecDepth 100000 in
theorem ok_X4_ifOpened_n (l : Launch) (D : va_G) (cI cJ : ClassId) (a : Nat → Nat) (sz : Nat) (σ : CS) (p1 : Int32) (p2 : Int32) (post : Int32 → CS → Prop) (hw : wp_X4_ifOpened σ p1 p2 post (fun _ => False)) : Mi l yX4_ifOpened wsX4_ifOpened rm_X4_ifOpened_n [.ref (a 0), .int p1, .int p2] D (tysIJ cI cJ) (cW cI cJ a σ) sz post (cW cI cJ a) := by
  refine s_Mi (by decide) rfl (Nat.le_of_ble_eq_true rfl) ?_
  intro p e s m args below meth c A Q hx hb hml hts hown hin hK hA hret H locs ls hW hl
  have hown : s.vm.findClass RX4 = some m.cls := hown
  have hl : lv_has ls 3 [(0, .ref (a 0)), (1, .int p1), (2, .int p2)] := hl
  have hinX4 := in_X4_ifOpened_n_X4
  refine lv_iload_n hx hb dX4_ifOpened_0 rfl (lv_at hl 1 rfl) ?_
  refine lv_bipush (v := 6) hx hb dX4_ifOpened_1 (by decide) ?_
  refine kS_Mv (As := [.int p1, .int 6]) (rest := []) ⟨hx, hb, hml, hown, hts⟩ (ok_X4_needPlace_n l D cI cJ a _ _ _ _ _ hw) (va_cwS 2 hts gX4_ifOpened_X4_needPlace rfl rfl rfl (by decide +kernel) ⟨Nat.le_of_ble_eq_true rfl, Nat.le_of_ble_eq_true rfl⟩) hK hW hA rfl hl.1 rfl (Nat.le_of_ble_eq_true rfl) dX4_ifOpened_3 ⟨Nat.le_of_ble_eq_true rfl, Nat.le_of_ble_eq_true rfl⟩ (fun _ H locs hw hW => ?_)
  refine lv_iload_n hx hb dX4_ifOpened_6 rfl (lv_at hl 2 rfl) ?_
  refine lv_iconst (v := 0) hx hb dX4_ifOpened_7 (by decide) ?_
  refine lv_iconst (v := 1) hx hb dX4_ifOpened_8 (by decide) ?_
  refine kS_Mv (As := [.int p2, .int 0, .int 1]) (rest := []) ⟨hx, hb, hml, hown, hts⟩ (ok_X4_needRange_n l D cI cJ a _ _ _ _ _ _ hw) (va_cwS 3 hts gX4_ifOpened_X4_needRange rfl rfl rfl (by decide +kernel) ⟨Nat.le_of_ble_eq_true rfl, Nat.le_of_ble_eq_true rfl⟩) hK hW hA rfl hl.1 rfl (Nat.le_of_ble_eq_true rfl) dX4_ifOpened_9 ⟨Nat.le_of_ble_eq_true rfl, Nat.le_of_ble_eq_true rfl⟩ (fun _ H locs hw hW => ?_)
  refine lv_aload_n hx hb dX4_ifOpened_12 rfl (lv_at hl 0 rfl) ?_
  refine kV_Mv (As := []) (rest := []) ⟨hx, hb, hml, hown, hts⟩ (ok_X4_findSharing l D cI cJ a _ _ _ hw) (cwV 0 hts gX4_ifOpened_X4_findSharing rfl rfl rfl (by decide +kernel) ⟨Nat.le_of_ble_eq_true rfl, Nat.le_of_ble_eq_true rfl⟩) hK hW hA 0 rfl rfl rfl hl.1 rfl (Nat.le_of_ble_eq_true rfl) dX4_ifOpened_13 ⟨Nat.le_of_ble_eq_true rfl, Nat.le_of_ble_eq_true rfl⟩ (fun σ_1 H locs hw hW => ?_)
  refine lv_iload_n hx hb dX4_ifOpened_16 rfl (lv_at hl 2 rfl) ?_
  refine lv_if_ne (tgt := 31) hx hb dX4_ifOpened_17 (by decide) (fun hc => ?_) (fun hc => ?_)
  · have hw := hw.1 hc
    refine lv_aload_n hx hb dX4_ifOpened_31 rfl (lv_at hl 0 rfl) ?_
    refine va_get (D := D) (ci := 4) (v := .ref (a 3)) (C := RX4) (T := TX4) (N := 4) hx hb hts hinX4 hown hK hW.1 0 rfl rfl 1 (by decide) (hts _ (List.mem_of_getElem? (i := 1) rfl)) (fun _ h9 => h9) rfl dX4_ifOpened_32 ?_
    refine lv_iload_n hx hb dX4_ifOpened_35 rfl (lv_at hl 1 rfl) ?_
    refine lv_aload_n hx hb dX4_ifOpened_36 rfl (lv_at hl 0 rfl) ?_
    refine va_get (D := D) (ci := 4) (v := .ref (a 1)) (C := RX4) (T := TX4) (N := 4) hx hb hts hinX4 hown hK hW.1 0 rfl rfl 0 (by decide) (hts _ (List.mem_of_getElem? (i := 2) rfl)) (fun _ h9 => h9) rfl dX4_ifOpened_37 ?_
    refine kV_Mi (As := [.int p1, .ref (a 1)]) (rest := []) ⟨hx, hb, hml, hown, hts⟩ (ok_X1_priceOf l D cI cJ a _ _ _ _ hw) (cwV 2 hts gX4_ifOpened_X1_priceOf rfl rfl rfl (by decide +kernel) ⟨Nat.le_of_ble_eq_true rfl, Nat.le_of_ble_eq_true rfl⟩) hK hW hA 3 rfl rfl rfl hl.1 rfl (Nat.le_of_ble_eq_true rfl) dX4_ifOpened_40 ⟨Nat.le_of_ble_eq_true rfl, Nat.le_of_ble_eq_true rfl⟩ (fun r_2 _ H locs hw hW => ?_)
    exact hret _ σ_1 _ _ _ _ hw hW dX4_ifOpened_43
  · have hw := hw.2 hc
    refine lv_aload_n hx hb dX4_ifOpened_20 rfl (lv_at hl 0 rfl) ?_
    refine va_get (D := D) (ci := 4) (v := .ref (a 3)) (C := RX4) (T := TX4) (N := 4) hx hb hts hinX4 hown hK hW.1 0 rfl rfl 1 (by decide) (hts _ (List.mem_of_getElem? (i := 1) rfl)) (fun _ h9 => h9) rfl dX4_ifOpened_21 ?_
    refine lv_iload_n hx hb dX4_ifOpened_24 rfl (lv_at hl 1 rfl) ?_
    refine kV_Mi (As := [.int p1]) (rest := []) ⟨hx, hb, hml, hown, hts⟩ (ok_X1_ownerOf l D cI cJ a _ _ _ _ hw) (cwV 1 hts gX4_ifOpened_X1_ownerOf rfl rfl rfl (by decide +kernel) ⟨Nat.le_of_ble_eq_true rfl, Nat.le_of_ble_eq_true rfl⟩) hK hW hA 3 rfl rfl rfl hl.1 rfl (Nat.le_of_ble_eq_true rfl) dX4_ifOpened_25 ⟨Nat.le_of_ble_eq_true rfl, Nat.le_of_ble_eq_true rfl⟩ (fun r_3 _ H locs hw hW => ?_)
    refine lv_goto (tgt := 43) hx hb dX4_ifOpened_28 (by decide) ?_
    exact hret _ σ_1 _ _ _ _ hw hW dX4_ifOpened_43
def wp_X4_ifBid (σ : CS) (p1 : Int32) (p2 : Int32) (p3 : Int32) (p4 : Int32) (post : Int32 → CS → Prop) (px : String → Prop) : Prop := wp_X4_needPlace σ p1 6 (wp_X4_needPlace σ p2 6 (wp_X4_needRange σ p3 1 99 (wp_X4_needRange σ p4 0 1 (wp_X1_readBids σ (fun σ_1 => wp_X1_keyOf σ_1 p1 p2 p3 (fun r_2 => wp_X1_replaceBid σ_1 p1 p2 r_2 (fun σ_3 => wp_X1_find σ_3 (-1) (fun σ_4 => wp_X1_spotOf σ_4 p1 (fun r_5 => ((p4 = 0 → post r_5 σ_4) ∧ (¬ p4 = 0 → ((¬ r_5 = (-1) → wp_X1_priceOf σ_4 r_5 (fun r_6 => post r_6 σ_4)) ∧ (r_5 = (-1) → post r_5 σ_4)))))))))) px) px) px) px
abbrev rm_X4_ifBid_n : Room := { frames := 9, cells := 0, slots := 0, locals := 162 }
theorem in_X4_ifBid_n_X4 : ∀ w ∈ wsX40, w ∈ wsX4_ifBid := fun w h => List.mem_cons_of_mem _ (List.mem_append_left _ (List.mem_append_left _ (List.mem_append_left _ (List.mem_append_left _ (List.mem_append_right _ (h))))))
set_option maxHeartbeats 4000000 in
set_option maxRecDepth 100000 in
theorem ok_X4_ifBid_n (l : Launch) (D : va_G) (cI cJ : ClassId) (a : Nat → Nat) (sz : Nat) (σ : CS) (p1 : Int32) (p2 : Int32) (p3 : Int32) (p4 : Int32) (post : Int32 → CS → Prop) (hw : wp_X4_ifBid σ p1 p2 p3 p4 post (fun _ => False)) : Mi l yX4_ifBid wsX4_ifBid rm_X4_ifBid_n [.ref (a 0), .int p1, .int p2, .int p3, .int p4] D (tysIJ cI cJ) (cW cI cJ a σ) sz post (cW cI cJ a) := by
  refine s_Mi (by decide) rfl (Nat.le_of_ble_eq_true rfl) ?_
  intro p e s m args below meth c A Q hx hb hml hts hown hin hK hA hret H locs ls hW hl
  have hown : s.vm.findClass RX4 = some m.cls := hown
  have hl : lv_has ls 6 [(0, .ref (a 0)), (1, .int p1), (2, .int p2), (3, .int p3), (4, .int p4)] := hl
  have hinX4 := in_X4_ifBid_n_X4
  refine lv_iload_n hx hb dX4_ifBid_0 rfl (lv_at hl 1 rfl) ?_
  refine lv_bipush (v := 6) hx hb dX4_ifBid_1 (by decide) ?_
  refine kS_Mv (As := [.int p1, .int 6]) (rest := []) ⟨hx, hb, hml, hown, hts⟩ (ok_X4_needPlace_n l D cI cJ a _ _ _ _ _ hw) (va_cwS 2 hts gX4_ifBid_X4_needPlace rfl rfl rfl (by decide +kernel) ⟨Nat.le_of_ble_eq_true rfl, Nat.le_of_ble_eq_true rfl⟩) hK hW hA rfl hl.1 rfl (Nat.le_of_ble_eq_true rfl) dX4_ifBid_3 ⟨Nat.le_of_ble_eq_true rfl, Nat.le_of_ble_eq_true rfl⟩ (fun _ H locs hw hW => ?_)
  refine lv_iload_n hx hb dX4_ifBid_6 rfl (lv_at hl 2 rfl) ?_
  refine lv_bipush (v := 6) hx hb dX4_ifBid_7 (by decide) ?_
  refine kS_Mv (As := [.int p2, .int 6]) (rest := []) ⟨hx, hb, hml, hown, hts⟩ (ok_X4_needPlace_n l D cI cJ a _ _ _ _ _ hw) (va_cwS 2 hts gX4_ifBid_X4_needPlace rfl rfl rfl (by decide +kernel) ⟨Nat.le_of_ble_eq_true rfl, Nat.le_of_ble_eq_true rfl⟩) hK hW hA rfl hl.1 rfl (Nat.le_of_ble_eq_true rfl) dX4_ifBid_9 ⟨Nat.le_of_ble_eq_true rfl, Nat.le_of_ble_eq_true rfl⟩ (fun _ H locs hw hW => ?_)
  refine lv_iload_n hx hb dX4_ifBid_12 rfl (lv_at hl 3 rfl) ?_
  refine lv_iconst (v := 1) hx hb dX4_ifBid_13 (by decide) ?_
  refine lv_bipush (v := 99) hx hb dX4_ifBid_14 (by decide) ?_
  refine kS_Mv (As := [.int p3, .int 1, .int 99]) (rest := []) ⟨hx, hb, hml, hown, hts⟩ (ok_X4_needRange_n l D cI cJ a _ _ _ _ _ _ hw) (va_cwS 3 hts gX4_ifBid_X4_needRange rfl rfl rfl (by decide +kernel) ⟨Nat.le_of_ble_eq_true rfl, Nat.le_of_ble_eq_true rfl⟩) hK hW hA rfl hl.1 rfl (Nat.le_of_ble_eq_true rfl) dX4_ifBid_16 ⟨Nat.le_of_ble_eq_true rfl, Nat.le_of_ble_eq_true rfl⟩ (fun _ H locs hw hW => ?_)
  refine lv_iload hx hb dX4_ifBid_19 (lv_at hl 4 rfl) ?_
  refine lv_iconst (v := 0) hx hb dX4_ifBid_21 (by decide) ?_
  refine lv_iconst (v := 1) hx hb dX4_ifBid_22 (by decide) ?_
  refine kS_Mv (As := [.int p4, .int 0, .int 1]) (rest := []) ⟨hx, hb, hml, hown, hts⟩ (ok_X4_needRange_n l D cI cJ a _ _ _ _ _ _ hw) (va_cwS 3 hts gX4_ifBid_X4_needRange rfl rfl rfl (by decide +kernel) ⟨Nat.le_of_ble_eq_true rfl, Nat.le_of_ble_eq_true rfl⟩) hK hW hA rfl hl.1 rfl (Nat.le_of_ble_eq_true rfl) dX4_ifBid_23 ⟨Nat.le_of_ble_eq_true rfl, Nat.le_of_ble_eq_true rfl⟩ (fun _ H locs hw hW => ?_)
  refine lv_aload_n hx hb dX4_ifBid_26 rfl (lv_at hl 0 rfl) ?_
  refine va_get (D := D) (ci := 4) (v := .ref (a 3)) (C := RX4) (T := TX4) (N := 4) hx hb hts hinX4 hown hK hW.1 0 rfl rfl 1 (by decide) (hts _ (List.mem_of_getElem? (i := 1) rfl)) (fun _ h9 => h9) rfl dX4_ifBid_27 ?_
  refine lv_aload_n hx hb dX4_ifBid_30 rfl (lv_at hl 0 rfl) ?_
  refine va_get (D := D) (ci := 4) (v := .ref (a 1)) (C := RX4) (T := TX4) (N := 4) hx hb hts hinX4 hown hK hW.1 0 rfl rfl 0 (by decide) (hts _ (List.mem_of_getElem? (i := 2) rfl)) (fun _ h9 => h9) rfl dX4_ifBid_31 ?_
  refine kV_Mv (As := [.ref (a 1)]) (rest := []) ⟨hx, hb, hml, hown, hts⟩ (ok_X1_readBids l D cI cJ a _ _ _ hw) (cwV 1 hts gX4_ifBid_X1_readBids rfl rfl rfl (by decide +kernel) ⟨Nat.le_of_ble_eq_true rfl, Nat.le_of_ble_eq_true rfl⟩) hK hW hA 3 rfl rfl rfl hl.1 rfl (Nat.le_of_ble_eq_true rfl) dX4_ifBid_34 ⟨Nat.le_of_ble_eq_true rfl, Nat.le_of_ble_eq_true rfl⟩ (fun σ_1 H locs hw hW => ?_)
  refine lv_aload_n hx hb dX4_ifBid_37 rfl (lv_at hl 0 rfl) ?_
  refine va_get (D := D) (ci := 4) (v := .ref (a 3)) (C := RX4) (T := TX4) (N := 4) hx hb hts hinX4 hown hK hW.1 0 rfl rfl 1 (by decide) (hts _ (List.mem_of_getElem? (i := 1) rfl)) (fun _ h9 => h9) rfl dX4_ifBid_38 ?_
  refine lv_iload_n hx hb dX4_ifBid_41 rfl (lv_at hl 1 rfl) ?_
  refine lv_iload_n hx hb dX4_ifBid_42 rfl (lv_at hl 2 rfl) ?_
  refine lv_aload_n hx hb dX4_ifBid_43 rfl (lv_at hl 0 rfl) ?_
  refine va_get (D := D) (ci := 4) (v := .ref (a 1)) (C := RX4) (T := TX4) (N := 4) hx hb hts hinX4 hown hK hW.1 0 rfl rfl 0 (by decide) (hts _ (List.mem_of_getElem? (i := 2) rfl)) (fun _ h9 => h9) rfl dX4_ifBid_44 ?_
  refine lv_iload_n hx hb dX4_ifBid_47 rfl (lv_at hl 1 rfl) ?_
  refine lv_iload_n hx hb dX4_ifBid_48 rfl (lv_at hl 2 rfl) ?_
  refine lv_iload_n hx hb dX4_ifBid_49 rfl (lv_at hl 3 rfl) ?_
  refine kS_Ml (As := [.ref (a 1), .int p1, .int p2, .int p3]) (rest := [.int p2, .int p1, .ref (a 3)]) ⟨hx, hb, hml, hown, hts⟩ (ok_X1_keyOf l D cI cJ a _ _ _ _ _ _ hw) (va_cwS 4 hts gX4_ifBid_X1_keyOf rfl rfl rfl (by decide +kernel) ⟨Nat.le_of_ble_eq_true rfl, Nat.le_of_ble_eq_true rfl⟩) hK hW hA rfl hl.1 rfl (Nat.le_of_ble_eq_true rfl) dX4_ifBid_50 ⟨Nat.le_of_ble_eq_true rfl, Nat.le_of_ble_eq_true rfl⟩ (fun r_2 _ H locs hw hW => ?_)
  refine kV_Mv (As := [.int p1, .int p2, .long r_2]) (rest := []) ⟨hx, hb, hml, hown, hts⟩ (ok_X1_replaceBid l D cI cJ a _ _ _ _ _ _ hw) (cwV 3 hts gX4_ifBid_X1_replaceBid rfl rfl rfl (by decide +kernel) ⟨Nat.le_of_ble_eq_true rfl, Nat.le_of_ble_eq_true rfl⟩) hK hW hA 3 rfl rfl rfl hl.1 rfl (Nat.le_of_ble_eq_true rfl) dX4_ifBid_53 ⟨Nat.le_of_ble_eq_true rfl, Nat.le_of_ble_eq_true rfl⟩ (fun σ_3 H locs hw hW => ?_)
  refine lv_aload_n hx hb dX4_ifBid_56 rfl (lv_at hl 0 rfl) ?_
  refine va_get (D := D) (ci := 4) (v := .ref (a 3)) (C := RX4) (T := TX4) (N := 4) hx hb hts hinX4 hown hK hW.1 0 rfl rfl 1 (by decide) (hts _ (List.mem_of_getElem? (i := 1) rfl)) (fun _ h9 => h9) rfl dX4_ifBid_57 ?_
  refine lv_iconst (v := (-1)) hx hb dX4_ifBid_60 (by decide) ?_
  refine kV_Mv (As := [.int (-1)]) (rest := []) ⟨hx, hb, hml, hown, hts⟩ (ok_X1_find l D cI cJ a _ _ _ _ hw) (cwV 1 hts gX4_ifBid_X1_find rfl rfl rfl (by decide +kernel) ⟨Nat.le_of_ble_eq_true rfl, Nat.le_of_ble_eq_true rfl⟩) hK hW hA 3 rfl rfl rfl hl.1 rfl (Nat.le_of_ble_eq_true rfl) dX4_ifBid_61 ⟨Nat.le_of_ble_eq_true rfl, Nat.le_of_ble_eq_true rfl⟩ (fun σ_4 H locs hw hW => ?_)
  refine lv_aload_n hx hb dX4_ifBid_64 rfl (lv_at hl 0 rfl) ?_
  refine va_get (D := D) (ci := 4) (v := .ref (a 3)) (C := RX4) (T := TX4) (N := 4) hx hb hts hinX4 hown hK hW.1 0 rfl rfl 1 (by decide) (hts _ (List.mem_of_getElem? (i := 1) rfl)) (fun _ h9 => h9) rfl dX4_ifBid_65 ?_
  refine lv_iload_n hx hb dX4_ifBid_68 rfl (lv_at hl 1 rfl) ?_
  refine kV_Mi (As := [.int p1]) (rest := []) ⟨hx, hb, hml, hown, hts⟩ (ok_X1_spotOf l D cI cJ a _ _ _ _ hw) (cwV 1 hts gX4_ifBid_X1_spotOf rfl rfl rfl (by decide +kernel) ⟨Nat.le_of_ble_eq_true rfl, Nat.le_of_ble_eq_true rfl⟩) hK hW hA 3 rfl rfl rfl hl.1 rfl (Nat.le_of_ble_eq_true rfl) dX4_ifBid_69 ⟨Nat.le_of_ble_eq_true rfl, Nat.le_of_ble_eq_true rfl⟩ (fun r_5 _ H locs hw hW => ?_)
  refine lv_istore (lv' := [(5, .int r_5), (0, .ref (a 0)), (1, .int p1), (2, .int p2), (3, .int p3), (4, .int p4)]) hx hb dX4_ifBid_72 hl (by decide) rfl (fun ls hl => ?_)
  refine lv_iload hx hb dX4_ifBid_74 (lv_at hl 5 rfl) ?_
  refine lv_if_eq (tgt := 85) hx hb dX4_ifBid_76 (by decide) (fun hc => ?_) (fun hc => ?_)
  · have hw := hw.1 hc
    refine lv_iload hx hb dX4_ifBid_85 (lv_at hl 0 rfl) ?_
    refine lv_goto (tgt := 103) hx hb dX4_ifBid_87 (by decide) ?_
    exact hret _ σ_4 _ _ _ _ hw hW dX4_ifBid_103
  · have hw := hw.2 hc
    refine lv_iload hx hb dX4_ifBid_79 (lv_at hl 0 rfl) ?_
    refine lv_iconst (v := (-1)) hx hb dX4_ifBid_81 (by decide) ?_
    refine lv_icmp_ne (tgt := 90) hx hb dX4_ifBid_82 (by decide) (fun hc => ?_) (fun hc => ?_)
    · have hw := hw.1 hc
      refine lv_aload_n hx hb dX4_ifBid_90 rfl (lv_at hl 1 rfl) ?_
      refine va_get (D := D) (ci := 4) (v := .ref (a 3)) (C := RX4) (T := TX4) (N := 4) hx hb hts hinX4 hown hK hW.1 0 rfl rfl 1 (by decide) (hts _ (List.mem_of_getElem? (i := 1) rfl)) (fun _ h9 => h9) rfl dX4_ifBid_91 ?_
      refine lv_iload hx hb dX4_ifBid_94 (lv_at hl 0 rfl) ?_
      refine lv_aload_n hx hb dX4_ifBid_96 rfl (lv_at hl 1 rfl) ?_
      refine va_get (D := D) (ci := 4) (v := .ref (a 1)) (C := RX4) (T := TX4) (N := 4) hx hb hts hinX4 hown hK hW.1 0 rfl rfl 0 (by decide) (hts _ (List.mem_of_getElem? (i := 2) rfl)) (fun _ h9 => h9) rfl dX4_ifBid_97 ?_
      refine kV_Mi (As := [.int r_5, .ref (a 1)]) (rest := []) ⟨hx, hb, hml, hown, hts⟩ (ok_X1_priceOf l D cI cJ a _ _ _ _ hw) (cwV 2 hts gX4_ifBid_X1_priceOf rfl rfl rfl (by decide +kernel) ⟨Nat.le_of_ble_eq_true rfl, Nat.le_of_ble_eq_true rfl⟩) hK hW hA 3 rfl rfl rfl hl.1 rfl (Nat.le_of_ble_eq_true rfl) dX4_ifBid_100 ⟨Nat.le_of_ble_eq_true rfl, Nat.le_of_ble_eq_true rfl⟩ (fun r_6 _ H locs hw hW => ?_)
      exact hret _ σ_4 _ _ _ _ hw hW dX4_ifBid_103
    · have hw := hw.2 hc
      refine lv_iload hx hb dX4_ifBid_85 (lv_at hl 0 rfl) ?_
      refine lv_goto (tgt := 103) hx hb dX4_ifBid_87 (by decide) ?_
      exact hret _ σ_4 _ _ _ _ hw hW dX4_ifBid_103
def wp_X4_leastWinning (σ : CS) (p1 : Int32) (p2 : Int32) (post : Int32 → CS → Prop) : Prop := wp_X1_readBids σ (fun σ_1 => wp_X1_replaceBid σ_1 p1 p2 0 (fun σ_2 => wp_X1_find σ_2 (-1) (fun σ_3 => wp_X1_keyWithout σ_3 (-1) (fun r_4 => wp_X1_find σ_3 p2 (fun σ_5 => wp_X1_keyWithout σ_5 p1 (fun r_6 => ∃ I7 : Nat → Int32 → Prop, (∃ n : Nat, I7 n 1) ∧ ∀ (n7 : Nat) (v7_7 : Int32), I7 n7 v7_7 → ((99 < v7_7 → post (-1) σ_5) ∧ (¬ 99 < v7_7 → wp_X1_keyOf σ_5 p1 p2 v7_7 (fun r_8 => (((lg_cmp r_8 0) = 0 → ∀ v7_9 : Int32, v7_9 = v7_7 + 1 → ∃ n' : Nat, n' < n7 ∧ I7 n' v7_9) ∧ (¬ (lg_cmp r_8 0) = 0 → (((lg_cmp (r_6 + r_8) r_4) ≤ 0 → ∀ v7_10 : Int32, v7_10 = v7_7 + 1 → ∃ n' : Nat, n' < n7 ∧ I7 n' v7_10) ∧ (¬ (lg_cmp (r_6 + r_8) r_4) ≤ 0 → post v7_7 σ_5)))))))))))))
abbrev rm_X4_leastWinning : Room := { frames := 3, cells := 0, slots := 0, locals := 89 }
theorem in_X4_leastWinning_X4 : ∀ w ∈ wsX40, w ∈ wsX4_leastWinning := fun w h => List.mem_cons_of_mem _ (List.mem_append_left _ (List.mem_append_left _ (List.mem_append_right _ (h))))
set_option maxHeartbeats 4000000 in
set_option maxRecDepth 100000 in
theorem ok_X4_leastWinning (l : Launch) (D : va_G) (cI cJ : ClassId) (a : Nat → Nat) (sz : Nat) (σ : CS) (p1 : Int32) (p2 : Int32) (post : Int32 → CS → Prop) (hw : wp_X4_leastWinning σ p1 p2 post) : Mi l yX4_leastWinning wsX4_leastWinning rm_X4_leastWinning [.ref (a 0), .int p1, .int p2] D (tysIJ cI cJ) (cW cI cJ a σ) sz post (cW cI cJ a) := by
  refine s_Mi (by decide) rfl (Nat.le_of_ble_eq_true rfl) ?_
  intro p e s m args below meth c A Q hx hb hml hts hown hin hK hA hret H locs ls hW hl
  have hown : s.vm.findClass RX4 = some m.cls := hown
  have hl : lv_has ls 10 [(0, .ref (a 0)), (1, .int p1), (2, .int p2)] := hl
  have hinX4 := in_X4_leastWinning_X4
  refine lv_aload_n hx hb dX4_leastWinning_0 rfl (lv_at hl 0 rfl) ?_
  refine va_get (D := D) (ci := 4) (v := .ref (a 3)) (C := RX4) (T := TX4) (N := 4) hx hb hts hinX4 hown hK hW.1 0 rfl rfl 1 (by decide) (hts _ (List.mem_of_getElem? (i := 1) rfl)) (fun _ h9 => h9) rfl dX4_leastWinning_1 ?_
  refine lv_aload_n hx hb dX4_leastWinning_4 rfl (lv_at hl 0 rfl) ?_
  refine va_get (D := D) (ci := 4) (v := .ref (a 1)) (C := RX4) (T := TX4) (N := 4) hx hb hts hinX4 hown hK hW.1 0 rfl rfl 0 (by decide) (hts _ (List.mem_of_getElem? (i := 2) rfl)) (fun _ h9 => h9) rfl dX4_leastWinning_5 ?_
  refine kV_Mv (As := [.ref (a 1)]) (rest := []) ⟨hx, hb, hml, hown, hts⟩ (ok_X1_readBids l D cI cJ a _ _ _ hw) (cwV 1 hts gX4_leastWinning_X1_readBids rfl rfl rfl (by decide +kernel) ⟨Nat.le_of_ble_eq_true rfl, Nat.le_of_ble_eq_true rfl⟩) hK hW hA 3 rfl rfl rfl hl.1 rfl (Nat.le_of_ble_eq_true rfl) dX4_leastWinning_8 ⟨Nat.le_of_ble_eq_true rfl, Nat.le_of_ble_eq_true rfl⟩ (fun σ_1 H locs hw hW => ?_)
  refine lv_aload_n hx hb dX4_leastWinning_11 rfl (lv_at hl 0 rfl) ?_
  refine va_get (D := D) (ci := 4) (v := .ref (a 3)) (C := RX4) (T := TX4) (N := 4) hx hb hts hinX4 hown hK hW.1 0 rfl rfl 1 (by decide) (hts _ (List.mem_of_getElem? (i := 1) rfl)) (fun _ h9 => h9) rfl dX4_leastWinning_12 ?_
  refine lv_iload_n hx hb dX4_leastWinning_15 rfl (lv_at hl 1 rfl) ?_
  refine lv_iload_n hx hb dX4_leastWinning_16 rfl (lv_at hl 2 rfl) ?_
  refine lv_lconst (v := 0) hx hb dX4_leastWinning_17 (by decide) ?_
  refine kV_Mv (As := [.int p1, .int p2, .long 0]) (rest := []) ⟨hx, hb, hml, hown, hts⟩ (ok_X1_replaceBid l D cI cJ a _ _ _ _ _ _ hw) (cwV 3 hts gX4_leastWinning_X1_replaceBid rfl rfl rfl (by decide +kernel) ⟨Nat.le_of_ble_eq_true rfl, Nat.le_of_ble_eq_true rfl⟩) hK hW hA 3 rfl rfl rfl hl.1 rfl (Nat.le_of_ble_eq_true rfl) dX4_leastWinning_18 ⟨Nat.le_of_ble_eq_true rfl, Nat.le_of_ble_eq_true rfl⟩ (fun σ_2 H locs hw hW => ?_)
  refine lv_aload_n hx hb dX4_leastWinning_21 rfl (lv_at hl 0 rfl) ?_
  refine va_get (D := D) (ci := 4) (v := .ref (a 3)) (C := RX4) (T := TX4) (N := 4) hx hb hts hinX4 hown hK hW.1 0 rfl rfl 1 (by decide) (hts _ (List.mem_of_getElem? (i := 1) rfl)) (fun _ h9 => h9) rfl dX4_leastWinning_22 ?_
  refine lv_iconst (v := (-1)) hx hb dX4_leastWinning_25 (by decide) ?_
  refine kV_Mv (As := [.int (-1)]) (rest := []) ⟨hx, hb, hml, hown, hts⟩ (ok_X1_find l D cI cJ a _ _ _ _ hw) (cwV 1 hts gX4_leastWinning_X1_find rfl rfl rfl (by decide +kernel) ⟨Nat.le_of_ble_eq_true rfl, Nat.le_of_ble_eq_true rfl⟩) hK hW hA 3 rfl rfl rfl hl.1 rfl (Nat.le_of_ble_eq_true rfl) dX4_leastWinning_26 ⟨Nat.le_of_ble_eq_true rfl, Nat.le_of_ble_eq_true rfl⟩ (fun σ_3 H locs hw hW => ?_)
  refine lv_aload_n hx hb dX4_leastWinning_29 rfl (lv_at hl 0 rfl) ?_
  refine va_get (D := D) (ci := 4) (v := .ref (a 3)) (C := RX4) (T := TX4) (N := 4) hx hb hts hinX4 hown hK hW.1 0 rfl rfl 1 (by decide) (hts _ (List.mem_of_getElem? (i := 1) rfl)) (fun _ h9 => h9) rfl dX4_leastWinning_30 ?_
  refine lv_iconst (v := (-1)) hx hb dX4_leastWinning_33 (by decide) ?_
  refine kV_Ml (As := [.int (-1)]) (rest := []) ⟨hx, hb, hml, hown, hts⟩ (ok_X1_keyWithout l D cI cJ a _ _ _ _ hw) (cwV 1 hts gX4_leastWinning_X1_keyWithout rfl rfl rfl (by decide +kernel) ⟨Nat.le_of_ble_eq_true rfl, Nat.le_of_ble_eq_true rfl⟩) hK hW hA 3 rfl rfl rfl hl.1 rfl (Nat.le_of_ble_eq_true rfl) dX4_leastWinning_34 ⟨Nat.le_of_ble_eq_true rfl, Nat.le_of_ble_eq_true rfl⟩ (fun r_4 _ H locs hw hW => ?_)
  refine lv_lstore_n (lv' := [(3, .long r_4), (0, .ref (a 0)), (1, .int p1), (2, .int p2)]) hx hb dX4_leastWinning_37 rfl hl (by decide) rfl (fun ls hl => ?_)
  refine lv_aload_n hx hb dX4_leastWinning_38 rfl (lv_at hl 1 rfl) ?_
  refine va_get (D := D) (ci := 4) (v := .ref (a 3)) (C := RX4) (T := TX4) (N := 4) hx hb hts hinX4 hown hK hW.1 0 rfl rfl 1 (by decide) (hts _ (List.mem_of_getElem? (i := 1) rfl)) (fun _ h9 => h9) rfl dX4_leastWinning_39 ?_
  refine lv_iload_n hx hb dX4_leastWinning_42 rfl (lv_at hl 3 rfl) ?_
  refine kV_Mv (As := [.int p2]) (rest := []) ⟨hx, hb, hml, hown, hts⟩ (ok_X1_find l D cI cJ a _ _ _ _ hw) (cwV 1 hts gX4_leastWinning_X1_find rfl rfl rfl (by decide +kernel) ⟨Nat.le_of_ble_eq_true rfl, Nat.le_of_ble_eq_true rfl⟩) hK hW hA 3 rfl rfl rfl hl.1 rfl (Nat.le_of_ble_eq_true rfl) dX4_leastWinning_43 ⟨Nat.le_of_ble_eq_true rfl, Nat.le_of_ble_eq_true rfl⟩ (fun σ_5 H locs hw hW => ?_)
  refine lv_aload_n hx hb dX4_leastWinning_46 rfl (lv_at hl 1 rfl) ?_
  refine va_get (D := D) (ci := 4) (v := .ref (a 3)) (C := RX4) (T := TX4) (N := 4) hx hb hts hinX4 hown hK hW.1 0 rfl rfl 1 (by decide) (hts _ (List.mem_of_getElem? (i := 1) rfl)) (fun _ h9 => h9) rfl dX4_leastWinning_47 ?_
  refine lv_iload_n hx hb dX4_leastWinning_50 rfl (lv_at hl 2 rfl) ?_
  refine kV_Ml (As := [.int p1]) (rest := []) ⟨hx, hb, hml, hown, hts⟩ (ok_X1_keyWithout l D cI cJ a _ _ _ _ hw) (cwV 1 hts gX4_leastWinning_X1_keyWithout rfl rfl rfl (by decide +kernel) ⟨Nat.le_of_ble_eq_true rfl, Nat.le_of_ble_eq_true rfl⟩) hK hW hA 3 rfl rfl rfl hl.1 rfl (Nat.le_of_ble_eq_true rfl) dX4_leastWinning_51 ⟨Nat.le_of_ble_eq_true rfl, Nat.le_of_ble_eq_true rfl⟩ (fun r_6 _ H locs hw hW => ?_)
  refine lv_lstore (lv' := [(5, .long r_6), (3, .long r_4), (0, .ref (a 0)), (1, .int p1), (2, .int p2)]) hx hb dX4_leastWinning_54 hl (by decide) rfl (fun ls hl => ?_)
  refine lv_iconst (v := 1) hx hb dX4_leastWinning_56 (by decide) ?_
  refine lv_istore (lv' := [(7, .int 1), (5, .long r_6), (3, .long r_4), (0, .ref (a 0)), (1, .int p1), (2, .int p2)]) hx hb dX4_leastWinning_57 hl (by decide) rfl (fun ls hl => ?_)
  obtain ⟨I7, ⟨n7, hI7⟩, hJ7⟩ := hw
  have hl : lv_has ls 10 [(0, .ref (a 0)), (1, .int p1), (2, .int p2), (3, .long r_4), (5, .long r_6), (7, .int 1)] := lv_sub hl [3, 4, 5, 2, 1, 0] rfl
  suffices LP7 : ∀ (n : Nat) (v7_7 : Int32) (H : Heap) (locs : List Loc) (ls : Array Slot), I7 n v7_7 → Wd D A s.heap (cW cI cJ a σ_5) H locs → lv_has ls 10 [(0, .ref (a 0)), (1, .int p1), (2, .int p2), (3, .long r_4), (5, .long r_6), (7, .int v7_7)] → W p l e rm_X4_leastWinning s m args below meth c H locs 0 0 Q (F0 m 59 ls []) from LP7 n7 1 H locs ls hI7 hW hl
  intro n7
  induction n7 using Nat.strongRecOn with
  | ind n7 ih7 =>
    intro v7_7 H locs ls hIn hW hl
    have hw := hJ7 n7 v7_7 hIn
    refine lv_iload hx hb dX4_leastWinning_59 (lv_at hl 5 rfl) ?_
    refine lv_bipush (v := 99) hx hb dX4_leastWinning_61 (by decide) ?_
    refine lv_icmp_gt (tgt := 105) hx hb dX4_leastWinning_63 (by decide) (fun hc => ?_) (fun hc => ?_)
    · have hw := hw.1 hc
      refine lv_iconst (v := (-1)) hx hb dX4_leastWinning_105 (by decide) ?_
      exact hret _ σ_5 _ _ _ _ hw hW dX4_leastWinning_106
    · have hw := hw.2 hc
      refine lv_aload_n hx hb dX4_leastWinning_66 rfl (lv_at hl 0 rfl) ?_
      refine va_get (D := D) (ci := 4) (v := .ref (a 1)) (C := RX4) (T := TX4) (N := 4) hx hb hts hinX4 hown hK hW.1 0 rfl rfl 0 (by decide) (hts _ (List.mem_of_getElem? (i := 2) rfl)) (fun _ h9 => h9) rfl dX4_leastWinning_67 ?_
      refine lv_iload_n hx hb dX4_leastWinning_70 rfl (lv_at hl 1 rfl) ?_
      refine lv_iload_n hx hb dX4_leastWinning_71 rfl (lv_at hl 2 rfl) ?_
      refine lv_iload hx hb dX4_leastWinning_72 (lv_at hl 5 rfl) ?_
      refine kS_Ml (As := [.ref (a 1), .int p1, .int p2, .int v7_7]) (rest := []) ⟨hx, hb, hml, hown, hts⟩ (ok_X1_keyOf l D cI cJ a _ _ _ _ _ _ hw) (va_cwS 4 hts gX4_leastWinning_X1_keyOf rfl rfl rfl (by decide +kernel) ⟨Nat.le_of_ble_eq_true rfl, Nat.le_of_ble_eq_true rfl⟩) hK hW hA rfl hl.1 rfl (Nat.le_of_ble_eq_true rfl) dX4_leastWinning_74 ⟨Nat.le_of_ble_eq_true rfl, Nat.le_of_ble_eq_true rfl⟩ (fun r_8 _ H locs hw hW => ?_)
      refine lv_lstore (lv' := [(8, .long r_8), (0, .ref (a 0)), (1, .int p1), (2, .int p2), (3, .long r_4), (5, .long r_6), (7, .int v7_7)]) hx hb dX4_leastWinning_77 hl (by decide) rfl (fun ls hl => ?_)
      refine lv_lload hx hb dX4_leastWinning_79 (lv_at hl 0 rfl) ?_
      refine lv_lconst (v := 0) hx hb dX4_leastWinning_81 (by decide) ?_
      refine W.lcmp hx hb dX4_leastWinning_82 ?_
      refine lv_if_eq (tgt := 99) hx hb dX4_leastWinning_83 (by decide) (fun hc => ?_) (fun hc => ?_)
      · have hw := hw.1 hc
        obtain ⟨v7_9, ev7_9⟩ : ∃ y : Int32, y = v7_7 + 1 := ⟨_, rfl⟩
        have hw := hw v7_9 ev7_9
        refine lv_iinc (v := v7_9) (lv' := [(7, .int v7_9), (8, .long r_8), (0, .ref (a 0)), (1, .int p1), (2, .int p2), (3, .long r_4), (5, .long r_6)]) hx hb dX4_leastWinning_99 hl (k := 6) rfl (by rw [ev7_9]; rfl) (by decide) rfl (fun ls hl => ?_)
        refine lv_goto (tgt := 59) hx hb dX4_leastWinning_102 (by decide) ?_
        obtain ⟨n9, hlt9, hI9⟩ := hw
        exact ih7 n9 hlt9 _ _ _ _ hI9 hW (lv_sub hl [2, 3, 4, 5, 6, 0] rfl)
      · have hw := hw.2 hc
        refine lv_lload hx hb dX4_leastWinning_86 (lv_at hl 5 rfl) ?_
        refine lv_lload hx hb dX4_leastWinning_88 (lv_at hl 0 rfl) ?_
        refine lv_ladd hx hb dX4_leastWinning_90 ?_
        refine lv_lload_n hx hb dX4_leastWinning_91 rfl (lv_at hl 4 rfl) ?_
        refine W.lcmp hx hb dX4_leastWinning_92 ?_
        refine lv_if_le (tgt := 99) hx hb dX4_leastWinning_93 (by decide) (fun hc => ?_) (fun hc => ?_)
        · have hw := hw.1 hc
          obtain ⟨v7_10, ev7_10⟩ : ∃ y : Int32, y = v7_7 + 1 := ⟨_, rfl⟩
          have hw := hw v7_10 ev7_10
          refine lv_iinc (v := v7_10) (lv' := [(7, .int v7_10), (8, .long r_8), (0, .ref (a 0)), (1, .int p1), (2, .int p2), (3, .long r_4), (5, .long r_6)]) hx hb dX4_leastWinning_99 hl (k := 6) rfl (by rw [ev7_10]; rfl) (by decide) rfl (fun ls hl => ?_)
          refine lv_goto (tgt := 59) hx hb dX4_leastWinning_102 (by decide) ?_
          obtain ⟨n9, hlt9, hI9⟩ := hw
          exact ih7 n9 hlt9 _ _ _ _ hI9 hW (lv_sub hl [2, 3, 4, 5, 6, 0] rfl)
        · have hw := hw.2 hc
          refine lv_iload hx hb dX4_leastWinning_96 (lv_at hl 6 rfl) ?_
          exact hret _ σ_5 _ _ _ _ hw hW dX4_leastWinning_98
def wp_X4_least (σ : CS) (p1 : Int32) (p2 : Int32) (post : Int32 → CS → Prop) (px : String → Prop) : Prop := wp_X4_needPlace σ p1 6 (wp_X4_needPlace σ p2 6 (wp_X4_leastWinning σ p1 p2 (fun r_1 σ_2 => post r_1 σ_2)) px) px
abbrev rm_X4_least_n : Room := { frames := 9, cells := 0, slots := 0, locals := 161 }
set_option maxHeartbeats 4000000 in
set_option maxRecDepth 100000 in
theorem ok_X4_least_n (l : Launch) (D : va_G) (cI cJ : ClassId) (a : Nat → Nat) (sz : Nat) (σ : CS) (p1 : Int32) (p2 : Int32) (post : Int32 → CS → Prop) (hw : wp_X4_least σ p1 p2 post (fun _ => False)) : Mi l yX4_least wsX4_least rm_X4_least_n [.ref (a 0), .int p1, .int p2] D (tysIJ cI cJ) (cW cI cJ a σ) sz post (cW cI cJ a) := by
  refine s_Mi (by decide) rfl (Nat.le_of_ble_eq_true rfl) ?_
  intro p e s m args below meth c A Q hx hb hml hts hown hin hK hA hret H locs ls hW hl
  have hown : s.vm.findClass RX4 = some m.cls := hown
  have hl : lv_has ls 3 [(0, .ref (a 0)), (1, .int p1), (2, .int p2)] := hl
  refine lv_iload_n hx hb dX4_least_0 rfl (lv_at hl 1 rfl) ?_
  refine lv_bipush (v := 6) hx hb dX4_least_1 (by decide) ?_
  refine kS_Mv (As := [.int p1, .int 6]) (rest := []) ⟨hx, hb, hml, hown, hts⟩ (ok_X4_needPlace_n l D cI cJ a _ _ _ _ _ hw) (va_cwS 2 hts gX4_least_X4_needPlace rfl rfl rfl (by decide +kernel) ⟨Nat.le_of_ble_eq_true rfl, Nat.le_of_ble_eq_true rfl⟩) hK hW hA rfl hl.1 rfl (Nat.le_of_ble_eq_true rfl) dX4_least_3 ⟨Nat.le_of_ble_eq_true rfl, Nat.le_of_ble_eq_true rfl⟩ (fun _ H locs hw hW => ?_)
  refine lv_iload_n hx hb dX4_least_6 rfl (lv_at hl 2 rfl) ?_
  refine lv_bipush (v := 6) hx hb dX4_least_7 (by decide) ?_
  refine kS_Mv (As := [.int p2, .int 6]) (rest := []) ⟨hx, hb, hml, hown, hts⟩ (ok_X4_needPlace_n l D cI cJ a _ _ _ _ _ hw) (va_cwS 2 hts gX4_least_X4_needPlace rfl rfl rfl (by decide +kernel) ⟨Nat.le_of_ble_eq_true rfl, Nat.le_of_ble_eq_true rfl⟩) hK hW hA rfl hl.1 rfl (Nat.le_of_ble_eq_true rfl) dX4_least_9 ⟨Nat.le_of_ble_eq_true rfl, Nat.le_of_ble_eq_true rfl⟩ (fun _ H locs hw hW => ?_)
  refine lv_aload_n hx hb dX4_least_12 rfl (lv_at hl 0 rfl) ?_
  refine lv_iload_n hx hb dX4_least_13 rfl (lv_at hl 1 rfl) ?_
  refine lv_iload_n hx hb dX4_least_14 rfl (lv_at hl 2 rfl) ?_
  refine kV_Mi (As := [.int p1, .int p2]) (rest := []) ⟨hx, hb, hml, hown, hts⟩ (ok_X4_leastWinning l D cI cJ a _ _ _ _ _ hw) (cwV 2 hts gX4_least_X4_leastWinning rfl rfl rfl (by decide +kernel) ⟨Nat.le_of_ble_eq_true rfl, Nat.le_of_ble_eq_true rfl⟩) hK hW hA 0 rfl rfl rfl hl.1 rfl (Nat.le_of_ble_eq_true rfl) dX4_least_15 ⟨Nat.le_of_ble_eq_true rfl, Nat.le_of_ble_eq_true rfl⟩ (fun r_1 σ_2 H locs hw hW => ?_)
  exact hret _ σ_2 _ _ _ _ hw hW dX4_least_18
def wp_X4_keenest (σ : CS) (post : Int32 → CS → Prop) : Prop := wp_X4_findSharing σ (fun σ_1 => ∃ I2 : Nat → Int32 → Int32 → Prop, (∃ n : Nat, I2 n 0 1) ∧ ∀ (n2 : Nat) (v1_2 : Int32) (v2_2 : Int32), I2 n2 v1_2 v2_2 → ((6 ≤ v2_2 → post v1_2 σ_1) ∧ (¬ 6 ≤ v2_2 → wp_X1_worthWithout σ_1 v2_2 (fun r_3 => wp_X1_worthWithout σ_1 v1_2 (fun r_4 => ((r_4 ≤ r_3 → ∀ v2_5 : Int32, v2_5 = v2_2 + 1 → ∃ n' : Nat, n' < n2 ∧ I2 n' v1_2 v2_5) ∧ (¬ r_4 ≤ r_3 → ∀ v2_6 : Int32, v2_6 = v2_2 + 1 → ∃ n' : Nat, n' < n2 ∧ I2 n' v2_2 v2_6)))))))
abbrev rm_X4_keenest : Room := { frames := 4, cells := 0, slots := 0, locals := 109 }
theorem in_X4_keenest_X4 : ∀ w ∈ wsX40, w ∈ wsX4_keenest := fun w h => List.mem_cons_of_mem _ (List.mem_append_left _ (List.mem_append_left _ (List.mem_append_right _ (h))))
set_option maxHeartbeats 4000000 in
set_option maxRecDepth 100000 in
theorem ok_X4_keenest (l : Launch) (D : va_G) (cI cJ : ClassId) (a : Nat → Nat) (sz : Nat) (σ : CS) (post : Int32 → CS → Prop) (hw : wp_X4_keenest σ post) : Mi l yX4_keenest wsX4_keenest rm_X4_keenest [.ref (a 0)] D (tysIJ cI cJ) (cW cI cJ a σ) sz post (cW cI cJ a) := by
  refine s_Mi (by decide) rfl (Nat.le_of_ble_eq_true rfl) ?_
  intro p e s m args below meth c A Q hx hb hml hts hown hin hK hA hret H locs ls hW hl
  have hown : s.vm.findClass RX4 = some m.cls := hown
  have hl : lv_has ls 3 [(0, .ref (a 0))] := hl
  have hinX4 := in_X4_keenest_X4
  refine lv_aload_n hx hb dX4_keenest_0 rfl (lv_at hl 0 rfl) ?_
  refine kV_Mv (As := []) (rest := []) ⟨hx, hb, hml, hown, hts⟩ (ok_X4_findSharing l D cI cJ a _ _ _ hw) (cwV 0 hts gX4_keenest_X4_findSharing rfl rfl rfl (by decide +kernel) ⟨Nat.le_of_ble_eq_true rfl, Nat.le_of_ble_eq_true rfl⟩) hK hW hA 0 rfl rfl rfl hl.1 rfl (Nat.le_of_ble_eq_true rfl) dX4_keenest_1 ⟨Nat.le_of_ble_eq_true rfl, Nat.le_of_ble_eq_true rfl⟩ (fun σ_1 H locs hw hW => ?_)
  refine lv_iconst (v := 0) hx hb dX4_keenest_4 (by decide) ?_
  refine lv_istore_n (lv' := [(1, .int 0), (0, .ref (a 0))]) hx hb dX4_keenest_5 rfl hl (by decide) rfl (fun ls hl => ?_)
  refine lv_iconst (v := 1) hx hb dX4_keenest_6 (by decide) ?_
  refine lv_istore_n (lv' := [(2, .int 1), (1, .int 0), (0, .ref (a 0))]) hx hb dX4_keenest_7 rfl hl (by decide) rfl (fun ls hl => ?_)
  obtain ⟨I2, ⟨n2, hI2⟩, hJ2⟩ := hw
  have hl : lv_has ls 3 [(0, .ref (a 0)), (1, .int 0), (2, .int 1)] := lv_sub hl [2, 1, 0] rfl
  suffices LP2 : ∀ (n : Nat) (v1_2 : Int32) (v2_2 : Int32) (H : Heap) (locs : List Loc) (ls : Array Slot), I2 n v1_2 v2_2 → Wd D A s.heap (cW cI cJ a σ_1) H locs → lv_has ls 3 [(0, .ref (a 0)), (1, .int v1_2), (2, .int v2_2)] → W p l e rm_X4_keenest s m args below meth c H locs 0 0 Q (F0 m 8 ls []) from LP2 n2 0 1 H locs ls hI2 hW hl
  intro n2
  induction n2 using Nat.strongRecOn with
  | ind n2 ih2 =>
    intro v1_2 v2_2 H locs ls hIn hW hl
    have hw := hJ2 n2 v1_2 v2_2 hIn
    refine lv_iload_n hx hb dX4_keenest_8 rfl (lv_at hl 2 rfl) ?_
    refine lv_bipush (v := 6) hx hb dX4_keenest_9 (by decide) ?_
    refine lv_icmp_ge (tgt := 41) hx hb dX4_keenest_11 (by decide) (fun hc => ?_) (fun hc => ?_)
    · have hw := hw.1 hc
      refine lv_iload_n hx hb dX4_keenest_41 rfl (lv_at hl 1 rfl) ?_
      exact hret _ σ_1 _ _ _ _ hw hW dX4_keenest_42
    · have hw := hw.2 hc
      refine lv_aload_n hx hb dX4_keenest_14 rfl (lv_at hl 0 rfl) ?_
      refine va_get (D := D) (ci := 4) (v := .ref (a 3)) (C := RX4) (T := TX4) (N := 4) hx hb hts hinX4 hown hK hW.1 0 rfl rfl 1 (by decide) (hts _ (List.mem_of_getElem? (i := 1) rfl)) (fun _ h9 => h9) rfl dX4_keenest_15 ?_
      refine lv_iload_n hx hb dX4_keenest_18 rfl (lv_at hl 2 rfl) ?_
      refine kV_Mi (As := [.int v2_2]) (rest := []) ⟨hx, hb, hml, hown, hts⟩ (ok_X1_worthWithout l D cI cJ a _ _ _ _ hw) (cwV 1 hts gX4_keenest_X1_worthWithout rfl rfl rfl (by decide +kernel) ⟨Nat.le_of_ble_eq_true rfl, Nat.le_of_ble_eq_true rfl⟩) hK hW hA 3 rfl rfl rfl hl.1 rfl (Nat.le_of_ble_eq_true rfl) dX4_keenest_19 ⟨Nat.le_of_ble_eq_true rfl, Nat.le_of_ble_eq_true rfl⟩ (fun r_3 _ H locs hw hW => ?_)
      refine lv_aload_n hx hb dX4_keenest_22 rfl (lv_at hl 0 rfl) ?_
      refine va_get (D := D) (ci := 4) (v := .ref (a 3)) (C := RX4) (T := TX4) (N := 4) hx hb hts hinX4 hown hK hW.1 0 rfl rfl 1 (by decide) (hts _ (List.mem_of_getElem? (i := 1) rfl)) (fun _ h9 => h9) rfl dX4_keenest_23 ?_
      refine lv_iload_n hx hb dX4_keenest_26 rfl (lv_at hl 1 rfl) ?_
      refine kV_Mi (As := [.int v1_2]) (rest := [.int r_3]) ⟨hx, hb, hml, hown, hts⟩ (ok_X1_worthWithout l D cI cJ a _ _ _ _ hw) (cwV 1 hts gX4_keenest_X1_worthWithout rfl rfl rfl (by decide +kernel) ⟨Nat.le_of_ble_eq_true rfl, Nat.le_of_ble_eq_true rfl⟩) hK hW hA 3 rfl rfl rfl hl.1 rfl (Nat.le_of_ble_eq_true rfl) dX4_keenest_27 ⟨Nat.le_of_ble_eq_true rfl, Nat.le_of_ble_eq_true rfl⟩ (fun r_4 _ H locs hw hW => ?_)
      refine lv_icmp_ge (tgt := 35) hx hb dX4_keenest_30 (by decide) (fun hc => ?_) (fun hc => ?_)
      · have hw := hw.1 hc
        obtain ⟨v2_5, ev2_5⟩ : ∃ y : Int32, y = v2_2 + 1 := ⟨_, rfl⟩
        have hw := hw v2_5 ev2_5
        refine lv_iinc (v := v2_5) (lv' := [(2, .int v2_5), (0, .ref (a 0)), (1, .int v1_2)]) hx hb dX4_keenest_35 hl (k := 2) rfl (by rw [ev2_5]; rfl) (by decide) rfl (fun ls hl => ?_)
        refine lv_goto (tgt := 8) hx hb dX4_keenest_38 (by decide) ?_
        obtain ⟨n9, hlt9, hI9⟩ := hw
        exact ih2 n9 hlt9 _ _ _ _ _ hI9 hW (lv_sub hl [1, 2, 0] rfl)
      · have hw := hw.2 hc
        refine lv_iload_n hx hb dX4_keenest_33 rfl (lv_at hl 2 rfl) ?_
        refine lv_istore_n (lv' := [(1, .int v2_2), (0, .ref (a 0)), (2, .int v2_2)]) hx hb dX4_keenest_34 rfl hl (by decide) rfl (fun ls hl => ?_)
        obtain ⟨v2_6, ev2_6⟩ : ∃ y : Int32, y = v2_2 + 1 := ⟨_, rfl⟩
        have hw := hw v2_6 ev2_6
        refine lv_iinc (v := v2_6) (lv' := [(2, .int v2_6), (1, .int v2_2), (0, .ref (a 0))]) hx hb dX4_keenest_35 hl (k := 2) rfl (by rw [ev2_6]; rfl) (by decide) rfl (fun ls hl => ?_)
        refine lv_goto (tgt := 8) hx hb dX4_keenest_38 (by decide) ?_
        obtain ⟨n9, hlt9, hI9⟩ := hw
        exact ih2 n9 hlt9 _ _ _ _ _ hI9 hW (lv_sub hl [2, 1, 0] rfl)
def wp_X4_chestShare (σ : CS) (post : UInt64 → Prop) : Prop := wp_X4_count σ 6 (fun r_1 => ((¬ r_1 = 0 → wp_X4_count σ 4 (fun r_2 => vf_n64 (FP.ddiv (FP.i2d r_2) (FP.i2d r_1)) ∧ post (FP.ddiv (FP.i2d r_2) (FP.i2d r_1))) (fun _ => False)) ∧ (r_1 = 0 → post (FP.dconst0)))) (fun _ => False)
abbrev rm_X4_chestShare : Room := { frames := 9, cells := 0, slots := 0, locals := 161 }
set_option maxHeartbeats 4000000 in
set_option maxRecDepth 100000 in
theorem ok_X4_chestShare (l : Launch) (D : va_G) (cI cJ : ClassId) (a : Nat → Nat) (sz : Nat) (σ : CS) (post : UInt64 → Prop) (hw : wp_X4_chestShare σ post) : Md l yX4_chestShare wsX4_chestShare rm_X4_chestShare [.ref (a 0)] D (tysIJ cI cJ) (cW cI cJ a σ) sz (fun r (_ : Unit) => post r) (fun _ => cW cI cJ a σ) := by
  refine s_Md (by decide) rfl (Nat.le_of_ble_eq_true rfl) ?_
  intro p e s m args below meth c A Q hx hb hml hts hown hin hK hA hret H locs ls hW hl
  have hown : s.vm.findClass RX4 = some m.cls := hown
  have hl : lv_has ls 2 [(0, .ref (a 0))] := hl
  refine lv_aload_n hx hb dX4_chestShare_0 rfl (lv_at hl 0 rfl) ?_
  refine lv_bipush (v := 6) hx hb dX4_chestShare_1 (by decide) ?_
  refine kV_Mi (As := [.int 6]) (rest := []) ⟨hx, hb, hml, hown, hts⟩ (ok_X4_count_n l D cI cJ a _ _ _ _ hw) (cwV 1 hts gX4_chestShare_X4_count rfl rfl rfl (by decide +kernel) ⟨Nat.le_of_ble_eq_true rfl, Nat.le_of_ble_eq_true rfl⟩) hK hW hA 0 rfl rfl rfl hl.1 rfl (Nat.le_of_ble_eq_true rfl) dX4_chestShare_3 ⟨Nat.le_of_ble_eq_true rfl, Nat.le_of_ble_eq_true rfl⟩ (fun r_1 _ H locs hw hW => ?_)
  refine lv_istore_n (lv' := [(1, .int r_1), (0, .ref (a 0))]) hx hb dX4_chestShare_6 rfl hl (by decide) rfl (fun ls hl => ?_)
  refine lv_iload_n hx hb dX4_chestShare_7 rfl (lv_at hl 0 rfl) ?_
  refine lv_if_ne (tgt := 15) hx hb dX4_chestShare_8 (by decide) (fun hc => ?_) (fun hc => ?_)
  · have hw := hw.1 hc
    refine lv_aload_n hx hb dX4_chestShare_15 rfl (lv_at hl 1 rfl) ?_
    refine lv_iconst (v := 4) hx hb dX4_chestShare_16 (by decide) ?_
    refine kV_Mi (As := [.int 4]) (rest := []) ⟨hx, hb, hml, hown, hts⟩ (ok_X4_count_n l D cI cJ a _ _ _ _ hw) (cwV 1 hts gX4_chestShare_X4_count rfl rfl rfl (by decide +kernel) ⟨Nat.le_of_ble_eq_true rfl, Nat.le_of_ble_eq_true rfl⟩) hK hW hA 0 rfl rfl rfl hl.1 rfl (Nat.le_of_ble_eq_true rfl) dX4_chestShare_17 ⟨Nat.le_of_ble_eq_true rfl, Nat.le_of_ble_eq_true rfl⟩ (fun r_2 _ H locs hw hW => ?_)
    refine lv_i2d hx hb dX4_chestShare_20 ?_
    refine lv_iload_n hx hb dX4_chestShare_21 rfl (lv_at hl 0 rfl) ?_
    refine lv_i2d hx hb dX4_chestShare_22 ?_
    refine lv_ddiv hx hb dX4_chestShare_23 hw.1 ?_
    have hw := hw.2
    exact hret _ () _ _ _ _ hw hW dX4_chestShare_24
  · have hw := hw.2 hc
    refine lv_dconst0 hx hb dX4_chestShare_11 ?_
    refine lv_goto (tgt := 24) hx hb dX4_chestShare_12 (by decide) ?_
    exact hret _ () _ _ _ _ hw hW dX4_chestShare_24
def wp_X4_meanPrice (σ : CS) (post : UInt32 → Prop) : Prop := wp_X4_count σ 9 (fun r_1 => ((¬ r_1 = 0 → wp_X4_count σ 8 (fun r_2 => vf_n32 (FP.fdiv (FP.i2f r_2) (FP.i2f r_1)) ∧ post (FP.fdiv (FP.i2f r_2) (FP.i2f r_1))) (fun _ => False)) ∧ (r_1 = 0 → post (FP.fconst0)))) (fun _ => False)
abbrev rm_X4_meanPrice : Room := { frames := 9, cells := 0, slots := 0, locals := 161 }
set_option maxHeartbeats 4000000 in
set_option maxRecDepth 100000 in
theorem ok_X4_meanPrice (l : Launch) (D : va_G) (cI cJ : ClassId) (a : Nat → Nat) (sz : Nat) (σ : CS) (post : UInt32 → Prop) (hw : wp_X4_meanPrice σ post) : Mf l yX4_meanPrice wsX4_meanPrice rm_X4_meanPrice [.ref (a 0)] D (tysIJ cI cJ) (cW cI cJ a σ) sz (fun r (_ : Unit) => post r) (fun _ => cW cI cJ a σ) := by
  refine s_Mf (by decide) rfl (Nat.le_of_ble_eq_true rfl) ?_
  intro p e s m args below meth c A Q hx hb hml hts hown hin hK hA hret H locs ls hW hl
  have hown : s.vm.findClass RX4 = some m.cls := hown
  have hl : lv_has ls 2 [(0, .ref (a 0))] := hl
  refine lv_aload_n hx hb dX4_meanPrice_0 rfl (lv_at hl 0 rfl) ?_
  refine lv_bipush (v := 9) hx hb dX4_meanPrice_1 (by decide) ?_
  refine kV_Mi (As := [.int 9]) (rest := []) ⟨hx, hb, hml, hown, hts⟩ (ok_X4_count_n l D cI cJ a _ _ _ _ hw) (cwV 1 hts gX4_meanPrice_X4_count rfl rfl rfl (by decide +kernel) ⟨Nat.le_of_ble_eq_true rfl, Nat.le_of_ble_eq_true rfl⟩) hK hW hA 0 rfl rfl rfl hl.1 rfl (Nat.le_of_ble_eq_true rfl) dX4_meanPrice_3 ⟨Nat.le_of_ble_eq_true rfl, Nat.le_of_ble_eq_true rfl⟩ (fun r_1 _ H locs hw hW => ?_)
  refine lv_istore_n (lv' := [(1, .int r_1), (0, .ref (a 0))]) hx hb dX4_meanPrice_6 rfl hl (by decide) rfl (fun ls hl => ?_)
  refine lv_iload_n hx hb dX4_meanPrice_7 rfl (lv_at hl 0 rfl) ?_
  refine lv_if_ne (tgt := 15) hx hb dX4_meanPrice_8 (by decide) (fun hc => ?_) (fun hc => ?_)
  · have hw := hw.1 hc
    refine lv_aload_n hx hb dX4_meanPrice_15 rfl (lv_at hl 1 rfl) ?_
    refine lv_bipush (v := 8) hx hb dX4_meanPrice_16 (by decide) ?_
    refine kV_Mi (As := [.int 8]) (rest := []) ⟨hx, hb, hml, hown, hts⟩ (ok_X4_count_n l D cI cJ a _ _ _ _ hw) (cwV 1 hts gX4_meanPrice_X4_count rfl rfl rfl (by decide +kernel) ⟨Nat.le_of_ble_eq_true rfl, Nat.le_of_ble_eq_true rfl⟩) hK hW hA 0 rfl rfl rfl hl.1 rfl (Nat.le_of_ble_eq_true rfl) dX4_meanPrice_18 ⟨Nat.le_of_ble_eq_true rfl, Nat.le_of_ble_eq_true rfl⟩ (fun r_2 _ H locs hw hW => ?_)
    refine lv_i2f hx hb dX4_meanPrice_21 ?_
    refine lv_iload_n hx hb dX4_meanPrice_22 rfl (lv_at hl 0 rfl) ?_
    refine lv_i2f hx hb dX4_meanPrice_23 ?_
    refine lv_fdiv hx hb dX4_meanPrice_24 hw.1 ?_
    have hw := hw.2
    exact hret _ () _ _ _ _ hw hW dX4_meanPrice_25
  · have hw := hw.2 hc
    refine lv_fconst0 hx hb dX4_meanPrice_11 ?_
    refine lv_goto (tgt := 25) hx hb dX4_meanPrice_12 (by decide) ?_
    exact hret _ () _ _ _ _ hw hW dX4_meanPrice_25
