def wp_X5_thrown (σ : MS) (post : Int32 → Prop) : Prop := post (m_thrown σ)
abbrev rm_X5_thrown : Room := { frames := 0, cells := 0, slots := 0, locals := 0 }
theorem in_X5_thrown_X5 : ∀ w ∈ wsX50, w ∈ wsX5_thrown := fun w h => List.mem_cons_of_mem _ (List.mem_append_right _ (h))
set_option maxHeartbeats 4000000 in
set_option maxRecDepth 100000 in
theorem ok_X5_thrown (l : Launch) (D : va_G) (cI cJ : ClassId) (a : Nat → Nat) (sz : Nat) (σ : MS) (post : Int32 → Prop) (hw : wp_X5_thrown σ post) : Mi l yX5_thrown wsX5_thrown rm_X5_thrown [.ref (a 0)] D (tysIJ cI cJ) (mW cI cJ a σ) sz (fun r (_ : Unit) => post r) (fun _ => mW cI cJ a σ) := by
  refine s_Mi (by decide) rfl (Nat.le_of_ble_eq_true rfl) ?_
  intro p e s m args below meth c A Q hx hb hml hts hown hin hK hA hret H locs ls hW hl
  have hown : s.vm.findClass RX5 = some m.cls := hown
  have hl : lv_has ls 1 [(0, .ref (a 0))] := hl
  have hinX5 := in_X5_thrown_X5
  refine lv_aload_n hx hb dX5_thrown_0 rfl (lv_at hl 0 rfl) ?_
  refine va_get (D := D) (ci := 5) (v := .int (m_thrown σ)) (C := RX5) (T := TX5) (N := 18) hx hb hts hinX5 hown hK hW.1 0 rfl rfl 0 (by decide) (hts _ (List.mem_of_getElem? (i := 1) rfl)) (fun _ h9 => h9) rfl dX5_thrown_1 ?_
  exact hret _ () _ _ _ _ hw hW dX5_thrown_4
def wp_X5_in (p1 : Int32) (p2 : Int32) (p3 : Int32) (post : Int32 → Prop) : Prop := ((p1 < p2 → post 0) ∧ (¬ p1 < p2 → ((p3 < p1 → post 0) ∧ (¬ p3 < p1 → post 1))))
abbrev rm_X5_in : Room := { frames := 0, cells := 0, slots := 0, locals := 0 }
set_option maxHeartbeats 4000000 in
set_option maxRecDepth 100000 in
theorem ok_X5_in (l : Launch) (p1 : Int32) (p2 : Int32) (p3 : Int32) (post : Int32 → Prop) (hw : wp_X5_in p1 p2 p3 post) : Pi l yX5_in wsX5_in rm_X5_in [.int p1, .int p2, .int p3] post := by
  refine s_Pz (by decide) rfl (Nat.le_of_ble_eq_true rfl) ?_
  intro p e s m args below meth c A Q hx hb hml hts hown hin hret H locs ls hW hl
  have hown : s.vm.findClass RX5 = some m.cls := hown
  have hl : lv_has ls 3 [(0, .int p1), (1, .int p2), (2, .int p3)] := hl
  refine lv_iload_n hx hb dX5_in_0 rfl (lv_at hl 0 rfl) ?_
  refine lv_iload_n hx hb dX5_in_1 rfl (lv_at hl 1 rfl) ?_
  refine lv_icmp_lt (tgt := 14) hx hb dX5_in_2 (by decide) (fun hc => ?_) (fun hc => ?_)
  · have hw := hw.1 hc
    refine lv_iconst (v := 0) hx hb dX5_in_14 (by decide) ?_
    exact hret _ _ _ _ _ (by decide) hw hW dX5_in_15
  · have hw := hw.2 hc
    refine lv_iload_n hx hb dX5_in_5 rfl (lv_at hl 0 rfl) ?_
    refine lv_iload_n hx hb dX5_in_6 rfl (lv_at hl 2 rfl) ?_
    refine lv_icmp_gt (tgt := 14) hx hb dX5_in_7 (by decide) (fun hc => ?_) (fun hc => ?_)
    · have hw := hw.1 hc
      refine lv_iconst (v := 0) hx hb dX5_in_14 (by decide) ?_
      exact hret _ _ _ _ _ (by decide) hw hW dX5_in_15
    · have hw := hw.2 hc
      refine lv_iconst (v := 1) hx hb dX5_in_10 (by decide) ?_
      refine lv_goto (tgt := 15) hx hb dX5_in_11 (by decide) ?_
      exact hret _ _ _ _ _ (by decide) hw hW dX5_in_15
def wp_X5_holds (σ : MS) (p1 : Int32) (post : Int32 → MS → Prop) : Prop := ∀ σ_1 : MS, σ_1 = ms_thrown σ p1 → ((¬ p1 = 0 → post 0 σ_1) ∧ (p1 = 0 → post 1 σ_1))
abbrev rm_X5_holds : Room := { frames := 0, cells := 0, slots := 0, locals := 0 }
theorem in_X5_holds_X5 : ∀ w ∈ wsX50, w ∈ wsX5_holds := fun w h => List.mem_cons_of_mem _ (List.mem_append_right _ (h))
set_option maxHeartbeats 4000000 in
set_option maxRecDepth 100000 in
theorem ok_X5_holds (l : Launch) (D : va_G) (cI cJ : ClassId) (a : Nat → Nat) (sz : Nat) (σ : MS) (p1 : Int32) (post : Int32 → MS → Prop) (hw : wp_X5_holds σ p1 post) : Mi l yX5_holds wsX5_holds rm_X5_holds [.ref (a 0), .int p1] D (tysIJ cI cJ) (mW cI cJ a σ) sz post (mW cI cJ a) := by
  refine s_Mz (by decide) rfl (Nat.le_of_ble_eq_true rfl) ?_
  intro p e s m args below meth c A Q hx hb hml hts hown hin hK hA hret H locs ls hW hl
  have hown : s.vm.findClass RX5 = some m.cls := hown
  have hl : lv_has ls 2 [(0, .ref (a 0)), (1, .int p1)] := hl
  have hinX5 := in_X5_holds_X5
  refine lv_aload_n hx hb dX5_holds_0 rfl (lv_at hl 0 rfl) ?_
  refine lv_iload_n hx hb dX5_holds_1 rfl (lv_at hl 1 rfl) ?_
  refine pf_m_thrown hx hb hts hinX5 hown hK hW (hts _ (List.mem_of_getElem? (i := 1) rfl)) dX5_holds_2 (fun σ_1 eσ_1 H locs hW => ?_)
  have hw := hw σ_1 eσ_1
  refine lv_iload_n hx hb dX5_holds_5 rfl (lv_at hl 1 rfl) ?_
  refine lv_if_ne (tgt := 13) hx hb dX5_holds_6 (by decide) (fun hc => ?_) (fun hc => ?_)
  · have hw := hw.1 hc
    refine lv_iconst (v := 0) hx hb dX5_holds_13 (by decide) ?_
    exact hret _ σ_1 _ _ _ _ (by decide) hw hW dX5_holds_14
  · have hw := hw.2 hc
    refine lv_iconst (v := 1) hx hb dX5_holds_9 (by decide) ?_
    refine lv_goto (tgt := 14) hx hb dX5_holds_10 (by decide) ?_
    exact hret _ σ_1 _ _ _ _ (by decide) hw hW dX5_holds_14
def wp_X5_isOne (p1 : Int32) (post : Int32 → Prop) : Prop := wp_X5_in p1 0 5 (fun r_1 => (narrow .boolean (.int r_1) = .int r_1 ∧ post r_1))
abbrev rm_X5_isOne : Room := { frames := 1, cells := 0, slots := 0, locals := 22 }
set_option maxHeartbeats 4000000 in
set_option maxRecDepth 100000 in
theorem ok_X5_isOne (l : Launch) (p1 : Int32) (post : Int32 → Prop) (hw : wp_X5_isOne p1 post) : Pi l yX5_isOne wsX5_isOne rm_X5_isOne [.int p1] post := by
  refine s_Pz (by decide) rfl (Nat.le_of_ble_eq_true rfl) ?_
  intro p e s m args below meth c A Q hx hb hml hts hown hin hret H locs ls hW hl
  have hown : s.vm.findClass RX5 = some m.cls := hown
  have hl : lv_has ls 1 [(0, .int p1)] := hl
  refine lv_iload_n hx hb dX5_isOne_0 rfl (lv_at hl 0 rfl) ?_
  refine lv_iconst (v := 0) hx hb dX5_isOne_1 (by decide) ?_
  refine lv_iconst (v := 5) hx hb dX5_isOne_2 (by decide) ?_
  refine kS_Pi (As := [.int p1, .int 0, .int 5]) (rest := []) ⟨hx, hb, hml, hown, hts⟩ (ok_X5_in l _ _ _ _ hw) (va_cwS 3 hts gX5_isOne_X5_in rfl rfl rfl (by decide +kernel) ⟨Nat.le_of_ble_eq_true rfl, Nat.le_of_ble_eq_true rfl⟩) hW rfl hl.1 rfl (Nat.le_of_ble_eq_true rfl) dX5_isOne_3 ⟨Nat.le_of_ble_eq_true rfl, Nat.le_of_ble_eq_true rfl⟩ (fun r_1 H locs hw hk hS => ?_)
  have hW := hS
  exact hret _ _ _ _ _ hw.1 hw.2 hW dX5_isOne_6
def wp_X5_isAmount (p1 : Int32) (post : Int32 → Prop) : Prop := wp_X5_in p1 1 99 (fun r_1 => (narrow .boolean (.int r_1) = .int r_1 ∧ post r_1))
abbrev rm_X5_isAmount : Room := { frames := 1, cells := 0, slots := 0, locals := 22 }
set_option maxHeartbeats 4000000 in
set_option maxRecDepth 100000 in
theorem ok_X5_isAmount (l : Launch) (p1 : Int32) (post : Int32 → Prop) (hw : wp_X5_isAmount p1 post) : Pi l yX5_isAmount wsX5_isAmount rm_X5_isAmount [.int p1] post := by
  refine s_Pz (by decide) rfl (Nat.le_of_ble_eq_true rfl) ?_
  intro p e s m args below meth c A Q hx hb hml hts hown hin hret H locs ls hW hl
  have hown : s.vm.findClass RX5 = some m.cls := hown
  have hl : lv_has ls 1 [(0, .int p1)] := hl
  refine lv_iload_n hx hb dX5_isAmount_0 rfl (lv_at hl 0 rfl) ?_
  refine lv_iconst (v := 1) hx hb dX5_isAmount_1 (by decide) ?_
  refine lv_bipush (v := 99) hx hb dX5_isAmount_2 (by decide) ?_
  refine kS_Pi (As := [.int p1, .int 1, .int 99]) (rest := []) ⟨hx, hb, hml, hown, hts⟩ (ok_X5_in l _ _ _ _ hw) (va_cwS 3 hts gX5_isAmount_X5_in rfl rfl rfl (by decide +kernel) ⟨Nat.le_of_ble_eq_true rfl, Nat.le_of_ble_eq_true rfl⟩) hW rfl hl.1 rfl (Nat.le_of_ble_eq_true rfl) dX5_isAmount_4 ⟨Nat.le_of_ble_eq_true rfl, Nat.le_of_ble_eq_true rfl⟩ (fun r_1 H locs hw hk hS => ?_)
  have hW := hS
  exact hret _ _ _ _ _ hw.1 hw.2 hW dX5_isAmount_7
def wp_X5_of (σ : MS) (p1 : Int32) (p2 : Int32) (post : Int32 → Prop) : Prop := vp_in ((15 + (5 * p1)) + p2) 1416 ∧ post ((m_s σ) ((15 + (5 * p1)) + p2).toNatClampNeg)
abbrev rm_X5_of : Room := { frames := 0, cells := 0, slots := 0, locals := 0 }
theorem in_X5_of_X5 : ∀ w ∈ wsX50, w ∈ wsX5_of := fun w h => List.mem_cons_of_mem _ (List.mem_append_right _ (h))
set_option maxHeartbeats 4000000 in
set_option maxRecDepth 100000 in
theorem ok_X5_of (l : Launch) (D : va_G) (cI cJ : ClassId) (a : Nat → Nat) (sz : Nat) (σ : MS) (p1 : Int32) (p2 : Int32) (post : Int32 → Prop) (hw : wp_X5_of σ p1 p2 post) : Mi l yX5_of wsX5_of rm_X5_of [.ref (a 0), .int p1, .int p2] D (tysIJ cI cJ) (mW cI cJ a σ) sz (fun r (_ : Unit) => post r) (fun _ => mW cI cJ a σ) := by
  refine s_Mi (by decide) rfl (Nat.le_of_ble_eq_true rfl) ?_
  intro p e s m args below meth c A Q hx hb hml hts hown hin hK hA hret H locs ls hW hl
  have hown : s.vm.findClass RX5 = some m.cls := hown
  have hl : lv_has ls 3 [(0, .ref (a 0)), (1, .int p1), (2, .int p2)] := hl
  have hinX5 := in_X5_of_X5
  refine lv_aload_n hx hb dX5_of_0 rfl (lv_at hl 0 rfl) ?_
  refine va_get (D := D) (ci := 5) (v := .ref (a 1)) (C := RX5) (T := TX5) (N := 18) hx hb hts hinX5 hown hK hW.1 0 rfl rfl 1 (by decide) (hts _ (List.mem_of_getElem? (i := 1) rfl)) (fun _ h9 => h9) rfl dX5_of_1 ?_
  refine lv_bipush (v := 15) hx hb dX5_of_4 (by decide) ?_
  refine lv_iconst (v := 5) hx hb dX5_of_6 (by decide) ?_
  refine lv_iload_n hx hb dX5_of_7 rfl (lv_at hl 1 rfl) ?_
  refine lv_imul hx hb dX5_of_8 ?_
  refine lv_iadd hx hb dX5_of_9 ?_
  refine lv_iload_n hx hb dX5_of_10 rfl (lv_at hl 2 rfl) ?_
  refine lv_iadd hx hb dX5_of_11 ?_
  refine va_iald hx hb hK hW.1 1 0 rfl rfl hw.1 dX5_of_12 ?_
  have hw := hw.2
  exact hret _ () _ _ _ _ hw hW dX5_of_13
def wp_X5_lay (σ : MS) (p1 : Int32) (p2 : Int32) (p3 : Int32) (post : MS → Prop) : Prop := vp_in ((15 + (5 * p1)) + p2) 1416 ∧ ∀ σ_1 : MS, σ_1 = ms_s σ (upd (m_s σ) ((15 + (5 * p1)) + p2).toNatClampNeg p3) → post σ_1
abbrev rm_X5_lay : Room := { frames := 0, cells := 0, slots := 0, locals := 0 }
theorem in_X5_lay_X5 : ∀ w ∈ wsX50, w ∈ wsX5_lay := fun w h => List.mem_cons_of_mem _ (List.mem_append_right _ (h))
set_option maxHeartbeats 4000000 in
set_option maxRecDepth 100000 in
theorem ok_X5_lay (l : Launch) (D : va_G) (cI cJ : ClassId) (a : Nat → Nat) (sz : Nat) (σ : MS) (p1 : Int32) (p2 : Int32) (p3 : Int32) (post : MS → Prop) (hw : wp_X5_lay σ p1 p2 p3 post) : Mv l yX5_lay wsX5_lay rm_X5_lay [.ref (a 0), .int p1, .int p2, .int p3] D (tysIJ cI cJ) (mW cI cJ a σ) sz post (mW cI cJ a) := by
  refine s_Mv (by decide) rfl (Nat.le_of_ble_eq_true rfl) ?_
  intro p e s m args below meth c A Q hx hb hml hts hown hin hK hA hret H locs ls hW hl
  have hown : s.vm.findClass RX5 = some m.cls := hown
  have hl : lv_has ls 4 [(0, .ref (a 0)), (1, .int p1), (2, .int p2), (3, .int p3)] := hl
  have hinX5 := in_X5_lay_X5
  refine lv_aload_n hx hb dX5_lay_0 rfl (lv_at hl 0 rfl) ?_
  refine va_get (D := D) (ci := 5) (v := .ref (a 1)) (C := RX5) (T := TX5) (N := 18) hx hb hts hinX5 hown hK hW.1 0 rfl rfl 1 (by decide) (hts _ (List.mem_of_getElem? (i := 1) rfl)) (fun _ h9 => h9) rfl dX5_lay_1 ?_
  refine lv_bipush (v := 15) hx hb dX5_lay_4 (by decide) ?_
  refine lv_iconst (v := 5) hx hb dX5_lay_6 (by decide) ?_
  refine lv_iload_n hx hb dX5_lay_7 rfl (lv_at hl 1 rfl) ?_
  refine lv_imul hx hb dX5_lay_8 ?_
  refine lv_iadd hx hb dX5_lay_9 ?_
  refine lv_iload_n hx hb dX5_lay_10 rfl (lv_at hl 2 rfl) ?_
  refine lv_iadd hx hb dX5_lay_11 ?_
  refine lv_iload_n hx hb dX5_lay_12 rfl (lv_at hl 3 rfl) ?_
  refine st_m_s hx hb hK hW hw.1 dX5_lay_13 (fun σ_1 eσ_1 H locs hW => ?_)
  have hw := hw.2
  have hw := hw σ_1 eσ_1
  exact hret σ_1 _ _ _ _ hw hW dX5_lay_14
def wp_X5_has (σ : MS) (p1 : Int32) (p2 : Int32) (post : Int32 → Prop) : Prop := vp_in ((45 + (4 * p1)) + p2) 1416 ∧ post ((m_s σ) ((45 + (4 * p1)) + p2).toNatClampNeg)
abbrev rm_X5_has : Room := { frames := 0, cells := 0, slots := 0, locals := 0 }
theorem in_X5_has_X5 : ∀ w ∈ wsX50, w ∈ wsX5_has := fun w h => List.mem_cons_of_mem _ (List.mem_append_right _ (h))
set_option maxHeartbeats 4000000 in
set_option maxRecDepth 100000 in
theorem ok_X5_has (l : Launch) (D : va_G) (cI cJ : ClassId) (a : Nat → Nat) (sz : Nat) (σ : MS) (p1 : Int32) (p2 : Int32) (post : Int32 → Prop) (hw : wp_X5_has σ p1 p2 post) : Mi l yX5_has wsX5_has rm_X5_has [.ref (a 0), .int p1, .int p2] D (tysIJ cI cJ) (mW cI cJ a σ) sz (fun r (_ : Unit) => post r) (fun _ => mW cI cJ a σ) := by
  refine s_Mi (by decide) rfl (Nat.le_of_ble_eq_true rfl) ?_
  intro p e s m args below meth c A Q hx hb hml hts hown hin hK hA hret H locs ls hW hl
  have hown : s.vm.findClass RX5 = some m.cls := hown
  have hl : lv_has ls 3 [(0, .ref (a 0)), (1, .int p1), (2, .int p2)] := hl
  have hinX5 := in_X5_has_X5
  refine lv_aload_n hx hb dX5_has_0 rfl (lv_at hl 0 rfl) ?_
  refine va_get (D := D) (ci := 5) (v := .ref (a 1)) (C := RX5) (T := TX5) (N := 18) hx hb hts hinX5 hown hK hW.1 0 rfl rfl 1 (by decide) (hts _ (List.mem_of_getElem? (i := 1) rfl)) (fun _ h9 => h9) rfl dX5_has_1 ?_
  refine lv_bipush (v := 45) hx hb dX5_has_4 (by decide) ?_
  refine lv_iconst (v := 4) hx hb dX5_has_6 (by decide) ?_
  refine lv_iload_n hx hb dX5_has_7 rfl (lv_at hl 1 rfl) ?_
  refine lv_imul hx hb dX5_has_8 ?_
  refine lv_iadd hx hb dX5_has_9 ?_
  refine lv_iload_n hx hb dX5_has_10 rfl (lv_at hl 2 rfl) ?_
  refine lv_iadd hx hb dX5_has_11 ?_
  refine va_iald hx hb hK hW.1 1 0 rfl rfl hw.1 dX5_has_12 ?_
  have hw := hw.2
  exact hret _ () _ _ _ _ hw hW dX5_has_13
def wp_X5_adds (σ : MS) (p1 : Int32) (p2 : Int32) (p3 : Int32) (post : MS → Prop) : Prop := vp_in ((45 + (4 * p1)) + p2) 1416 ∧ vp_in ((45 + (4 * p1)) + p2) 1416 ∧ ∀ σ_1 : MS, σ_1 = ms_s σ (upd (m_s σ) ((45 + (4 * p1)) + p2).toNatClampNeg (((m_s σ) ((45 + (4 * p1)) + p2).toNatClampNeg) + p3)) → post σ_1
abbrev rm_X5_adds : Room := { frames := 0, cells := 0, slots := 0, locals := 0 }
theorem in_X5_adds_X5 : ∀ w ∈ wsX50, w ∈ wsX5_adds := fun w h => List.mem_cons_of_mem _ (List.mem_append_right _ (h))
set_option maxHeartbeats 4000000 in
set_option maxRecDepth 100000 in
theorem ok_X5_adds (l : Launch) (D : va_G) (cI cJ : ClassId) (a : Nat → Nat) (sz : Nat) (σ : MS) (p1 : Int32) (p2 : Int32) (p3 : Int32) (post : MS → Prop) (hw : wp_X5_adds σ p1 p2 p3 post) : Mv l yX5_adds wsX5_adds rm_X5_adds [.ref (a 0), .int p1, .int p2, .int p3] D (tysIJ cI cJ) (mW cI cJ a σ) sz post (mW cI cJ a) := by
  refine s_Mv (by decide) rfl (Nat.le_of_ble_eq_true rfl) ?_
  intro p e s m args below meth c A Q hx hb hml hts hown hin hK hA hret H locs ls hW hl
  have hown : s.vm.findClass RX5 = some m.cls := hown
  have hl : lv_has ls 4 [(0, .ref (a 0)), (1, .int p1), (2, .int p2), (3, .int p3)] := hl
  have hinX5 := in_X5_adds_X5
  refine lv_aload_n hx hb dX5_adds_0 rfl (lv_at hl 0 rfl) ?_
  refine va_get (D := D) (ci := 5) (v := .ref (a 1)) (C := RX5) (T := TX5) (N := 18) hx hb hts hinX5 hown hK hW.1 0 rfl rfl 1 (by decide) (hts _ (List.mem_of_getElem? (i := 1) rfl)) (fun _ h9 => h9) rfl dX5_adds_1 ?_
  refine lv_bipush (v := 45) hx hb dX5_adds_4 (by decide) ?_
  refine lv_iconst (v := 4) hx hb dX5_adds_6 (by decide) ?_
  refine lv_iload_n hx hb dX5_adds_7 rfl (lv_at hl 1 rfl) ?_
  refine lv_imul hx hb dX5_adds_8 ?_
  refine lv_iadd hx hb dX5_adds_9 ?_
  refine lv_iload_n hx hb dX5_adds_10 rfl (lv_at hl 2 rfl) ?_
  refine lv_iadd hx hb dX5_adds_11 ?_
  refine lv_dup2_11 hx hb dX5_adds_12 rfl rfl ?_
  refine va_iald hx hb hK hW.1 1 0 rfl rfl hw.1 dX5_adds_13 ?_
  have hw := hw.2
  refine lv_iload_n hx hb dX5_adds_14 rfl (lv_at hl 3 rfl) ?_
  refine lv_iadd hx hb dX5_adds_15 ?_
  refine st_m_s hx hb hK hW hw.1 dX5_adds_16 (fun σ_1 eσ_1 H locs hW => ?_)
  have hw := hw.2
  have hw := hw σ_1 eσ_1
  exact hret σ_1 _ _ _ _ hw hW dX5_adds_17
def wp_X5_bidAt (σ : MS) (p1 : Int32) (p2 : Int32) (post : Int32 → Prop) : Prop := post ((69 + (18 * p1)) + (3 * p2))
abbrev rm_X5_bidAt : Room := { frames := 0, cells := 0, slots := 0, locals := 0 }
set_option maxHeartbeats 4000000 in
set_option maxRecDepth 100000 in
theorem ok_X5_bidAt (l : Launch) (D : va_G) (cI cJ : ClassId) (a : Nat → Nat) (sz : Nat) (σ : MS) (p1 : Int32) (p2 : Int32) (post : Int32 → Prop) (hw : wp_X5_bidAt σ p1 p2 post) : Mi l yX5_bidAt wsX5_bidAt rm_X5_bidAt [.ref (a 0), .int p1, .int p2] D (tysIJ cI cJ) (mW cI cJ a σ) sz (fun r (_ : Unit) => post r) (fun _ => mW cI cJ a σ) := by
  refine s_Mi (by decide) rfl (Nat.le_of_ble_eq_true rfl) ?_
  intro p e s m args below meth c A Q hx hb hml hts hown hin hK hA hret H locs ls hW hl
  have hown : s.vm.findClass RX5 = some m.cls := hown
  have hl : lv_has ls 3 [(0, .ref (a 0)), (1, .int p1), (2, .int p2)] := hl
  refine lv_bipush (v := 69) hx hb dX5_bidAt_0 (by decide) ?_
  refine lv_bipush (v := 18) hx hb dX5_bidAt_2 (by decide) ?_
  refine lv_iload_n hx hb dX5_bidAt_4 rfl (lv_at hl 1 rfl) ?_
  refine lv_imul hx hb dX5_bidAt_5 ?_
  refine lv_iadd hx hb dX5_bidAt_6 ?_
  refine lv_iconst (v := 3) hx hb dX5_bidAt_7 (by decide) ?_
  refine lv_iload_n hx hb dX5_bidAt_8 rfl (lv_at hl 2 rfl) ?_
  refine lv_imul hx hb dX5_bidAt_9 ?_
  refine lv_iadd hx hb dX5_bidAt_10 ?_
  exact hret _ () _ _ _ _ hw hW dX5_bidAt_11
def wp_X5_isBid (σ : MS) (p1 : Int32) (p2 : Int32) (post : Int32 → Prop) : Prop := wp_X5_bidAt σ p1 p2 (fun r_1 => vp_in r_1 1416 ∧ ((((m_s σ) (r_1).toNatClampNeg) = (-1) → post 0) ∧ (¬ ((m_s σ) (r_1).toNatClampNeg) = (-1) → post 1)))
abbrev rm_X5_isBid : Room := { frames := 1, cells := 0, slots := 0, locals := 22 }
theorem in_X5_isBid_X5 : ∀ w ∈ wsX50, w ∈ wsX5_isBid := fun w h => List.mem_cons_of_mem _ (List.mem_append_right _ (h))
set_option maxHeartbeats 4000000 in
set_option maxRecDepth 100000 in
theorem ok_X5_isBid (l : Launch) (D : va_G) (cI cJ : ClassId) (a : Nat → Nat) (sz : Nat) (σ : MS) (p1 : Int32) (p2 : Int32) (post : Int32 → Prop) (hw : wp_X5_isBid σ p1 p2 post) : Mi l yX5_isBid wsX5_isBid rm_X5_isBid [.ref (a 0), .int p1, .int p2] D (tysIJ cI cJ) (mW cI cJ a σ) sz (fun r (_ : Unit) => post r) (fun _ => mW cI cJ a σ) := by
  refine s_Mz (by decide) rfl (Nat.le_of_ble_eq_true rfl) ?_
  intro p e s m args below meth c A Q hx hb hml hts hown hin hK hA hret H locs ls hW hl
  have hown : s.vm.findClass RX5 = some m.cls := hown
  have hl : lv_has ls 3 [(0, .ref (a 0)), (1, .int p1), (2, .int p2)] := hl
  have hinX5 := in_X5_isBid_X5
  refine lv_aload_n hx hb dX5_isBid_0 rfl (lv_at hl 0 rfl) ?_
  refine va_get (D := D) (ci := 5) (v := .ref (a 1)) (C := RX5) (T := TX5) (N := 18) hx hb hts hinX5 hown hK hW.1 0 rfl rfl 1 (by decide) (hts _ (List.mem_of_getElem? (i := 1) rfl)) (fun _ h9 => h9) rfl dX5_isBid_1 ?_
  refine lv_aload_n hx hb dX5_isBid_4 rfl (lv_at hl 0 rfl) ?_
  refine lv_iload_n hx hb dX5_isBid_5 rfl (lv_at hl 1 rfl) ?_
  refine lv_iload_n hx hb dX5_isBid_6 rfl (lv_at hl 2 rfl) ?_
  refine kV_Mi (As := [.int p1, .int p2]) (rest := [.ref (a 1)]) ⟨hx, hb, hml, hown, hts⟩ (ok_X5_bidAt l D cI cJ a _ _ _ _ _ hw) (cwV 2 hts gX5_isBid_X5_bidAt rfl rfl rfl (by decide +kernel) ⟨Nat.le_of_ble_eq_true rfl, Nat.le_of_ble_eq_true rfl⟩) hK hW hA 0 rfl rfl rfl hl.1 rfl (Nat.le_of_ble_eq_true rfl) dX5_isBid_7 ⟨Nat.le_of_ble_eq_true rfl, Nat.le_of_ble_eq_true rfl⟩ (fun r_1 _ H locs hw hW => ?_)
  refine va_iald hx hb hK hW.1 1 0 rfl rfl hw.1 dX5_isBid_10 ?_
  have hw := hw.2
  refine lv_iconst (v := (-1)) hx hb dX5_isBid_11 (by decide) ?_
  refine lv_icmp_eq (tgt := 19) hx hb dX5_isBid_12 (by decide) (fun hc => ?_) (fun hc => ?_)
  · have hw := hw.1 hc
    refine lv_iconst (v := 0) hx hb dX5_isBid_19 (by decide) ?_
    exact hret _ () _ _ _ _ (by decide) hw hW dX5_isBid_20
  · have hw := hw.2 hc
    refine lv_iconst (v := 1) hx hb dX5_isBid_15 (by decide) ?_
    refine lv_goto (tgt := 20) hx hb dX5_isBid_16 (by decide) ?_
    exact hret _ () _ _ _ _ (by decide) hw hW dX5_isBid_20
def wp_X5_amountOf (σ : MS) (p1 : Int32) (p2 : Int32) (post : Int32 → Prop) : Prop := ((¬ p1 = (m_asker σ) → wp_X5_isBid σ p1 p2 (fun r_1 => ((r_1 = 0 → post 0) ∧ (¬ r_1 = 0 → wp_X5_bidAt σ p1 p2 (fun r_2 => vp_in (r_2 + 2) 1416 ∧ post ((m_s σ) (r_2 + 2).toNatClampNeg)))))) ∧ (p1 = (m_asker σ) → ((¬ p2 = (m_askedSpot σ) → wp_X5_isBid σ p1 p2 (fun r_3 => ((r_3 = 0 → post 0) ∧ (¬ r_3 = 0 → wp_X5_bidAt σ p1 p2 (fun r_4 => vp_in (r_4 + 2) 1416 ∧ post ((m_s σ) (r_4 + 2).toNatClampNeg)))))) ∧ (p2 = (m_askedSpot σ) → post (m_askedAmount σ)))))
abbrev rm_X5_amountOf : Room := { frames := 2, cells := 0, slots := 0, locals := 44 }
theorem in_X5_amountOf_X5 : ∀ w ∈ wsX50, w ∈ wsX5_amountOf := fun w h => List.mem_cons_of_mem _ (List.mem_append_right _ (h))
set_option maxHeartbeats 4000000 in
set_option maxRecDepth 100000 in
theorem ok_X5_amountOf (l : Launch) (D : va_G) (cI cJ : ClassId) (a : Nat → Nat) (sz : Nat) (σ : MS) (p1 : Int32) (p2 : Int32) (post : Int32 → Prop) (hw : wp_X5_amountOf σ p1 p2 post) : Mi l yX5_amountOf wsX5_amountOf rm_X5_amountOf [.ref (a 0), .int p1, .int p2] D (tysIJ cI cJ) (mW cI cJ a σ) sz (fun r (_ : Unit) => post r) (fun _ => mW cI cJ a σ) := by
  refine s_Mi (by decide) rfl (Nat.le_of_ble_eq_true rfl) ?_
  intro p e s m args below meth c A Q hx hb hml hts hown hin hK hA hret H locs ls hW hl
  have hown : s.vm.findClass RX5 = some m.cls := hown
  have hl : lv_has ls 3 [(0, .ref (a 0)), (1, .int p1), (2, .int p2)] := hl
  have hinX5 := in_X5_amountOf_X5
  refine lv_iload_n hx hb dX5_amountOf_0 rfl (lv_at hl 1 rfl) ?_
  refine lv_aload_n hx hb dX5_amountOf_1 rfl (lv_at hl 0 rfl) ?_
  refine va_get (D := D) (ci := 5) (v := .int (m_asker σ)) (C := RX5) (T := TX5) (N := 18) hx hb hts hinX5 hown hK hW.1 0 rfl rfl 11 (by decide) (hts _ (List.mem_of_getElem? (i := 1) rfl)) (fun _ h9 => h9) rfl dX5_amountOf_2 ?_
  refine lv_icmp_ne (tgt := 21) hx hb dX5_amountOf_5 (by decide) (fun hc => ?_) (fun hc => ?_)
  · have hw := hw.1 hc
    refine lv_aload_n hx hb dX5_amountOf_21 rfl (lv_at hl 0 rfl) ?_
    refine lv_iload_n hx hb dX5_amountOf_22 rfl (lv_at hl 1 rfl) ?_
    refine lv_iload_n hx hb dX5_amountOf_23 rfl (lv_at hl 2 rfl) ?_
    refine kV_Mi (As := [.int p1, .int p2]) (rest := []) ⟨hx, hb, hml, hown, hts⟩ (ok_X5_isBid l D cI cJ a _ _ _ _ _ hw) (cwV 2 hts gX5_amountOf_X5_isBid rfl rfl rfl (by decide +kernel) ⟨Nat.le_of_ble_eq_true rfl, Nat.le_of_ble_eq_true rfl⟩) hK hW hA 0 rfl rfl rfl hl.1 rfl (Nat.le_of_ble_eq_true rfl) dX5_amountOf_24 ⟨Nat.le_of_ble_eq_true rfl, Nat.le_of_ble_eq_true rfl⟩ (fun r_1 _ H locs hw hW => ?_)
    refine lv_if_eq (tgt := 46) hx hb dX5_amountOf_27 (by decide) (fun hc => ?_) (fun hc => ?_)
    · have hw := hw.1 hc
      refine lv_iconst (v := 0) hx hb dX5_amountOf_46 (by decide) ?_
      exact hret _ () _ _ _ _ hw hW dX5_amountOf_47
    · have hw := hw.2 hc
      refine lv_aload_n hx hb dX5_amountOf_30 rfl (lv_at hl 0 rfl) ?_
      refine va_get (D := D) (ci := 5) (v := .ref (a 1)) (C := RX5) (T := TX5) (N := 18) hx hb hts hinX5 hown hK hW.1 0 rfl rfl 1 (by decide) (hts _ (List.mem_of_getElem? (i := 4) rfl)) (fun _ h9 => h9) rfl dX5_amountOf_31 ?_
      refine lv_aload_n hx hb dX5_amountOf_34 rfl (lv_at hl 0 rfl) ?_
      refine lv_iload_n hx hb dX5_amountOf_35 rfl (lv_at hl 1 rfl) ?_
      refine lv_iload_n hx hb dX5_amountOf_36 rfl (lv_at hl 2 rfl) ?_
      refine kV_Mi (As := [.int p1, .int p2]) (rest := [.ref (a 1)]) ⟨hx, hb, hml, hown, hts⟩ (ok_X5_bidAt l D cI cJ a _ _ _ _ _ hw) (cwV 2 hts gX5_amountOf_X5_bidAt rfl rfl rfl (by decide +kernel) ⟨Nat.le_of_ble_eq_true rfl, Nat.le_of_ble_eq_true rfl⟩) hK hW hA 0 rfl rfl rfl hl.1 rfl (Nat.le_of_ble_eq_true rfl) dX5_amountOf_37 ⟨Nat.le_of_ble_eq_true rfl, Nat.le_of_ble_eq_true rfl⟩ (fun r_2 _ H locs hw hW => ?_)
      refine lv_iconst (v := 2) hx hb dX5_amountOf_40 (by decide) ?_
      refine lv_iadd hx hb dX5_amountOf_41 ?_
      refine va_iald hx hb hK hW.1 1 0 rfl rfl hw.1 dX5_amountOf_42 ?_
      have hw := hw.2
      refine lv_goto (tgt := 47) hx hb dX5_amountOf_43 (by decide) ?_
      exact hret _ () _ _ _ _ hw hW dX5_amountOf_47
  · have hw := hw.2 hc
    refine lv_iload_n hx hb dX5_amountOf_8 rfl (lv_at hl 2 rfl) ?_
    refine lv_aload_n hx hb dX5_amountOf_9 rfl (lv_at hl 0 rfl) ?_
    refine va_get (D := D) (ci := 5) (v := .int (m_askedSpot σ)) (C := RX5) (T := TX5) (N := 18) hx hb hts hinX5 hown hK hW.1 0 rfl rfl 12 (by decide) (hts _ (List.mem_of_getElem? (i := 2) rfl)) (fun _ h9 => h9) rfl dX5_amountOf_10 ?_
    refine lv_icmp_ne (tgt := 21) hx hb dX5_amountOf_13 (by decide) (fun hc => ?_) (fun hc => ?_)
    · have hw := hw.1 hc
      refine lv_aload_n hx hb dX5_amountOf_21 rfl (lv_at hl 0 rfl) ?_
      refine lv_iload_n hx hb dX5_amountOf_22 rfl (lv_at hl 1 rfl) ?_
      refine lv_iload_n hx hb dX5_amountOf_23 rfl (lv_at hl 2 rfl) ?_
      refine kV_Mi (As := [.int p1, .int p2]) (rest := []) ⟨hx, hb, hml, hown, hts⟩ (ok_X5_isBid l D cI cJ a _ _ _ _ _ hw) (cwV 2 hts gX5_amountOf_X5_isBid rfl rfl rfl (by decide +kernel) ⟨Nat.le_of_ble_eq_true rfl, Nat.le_of_ble_eq_true rfl⟩) hK hW hA 0 rfl rfl rfl hl.1 rfl (Nat.le_of_ble_eq_true rfl) dX5_amountOf_24 ⟨Nat.le_of_ble_eq_true rfl, Nat.le_of_ble_eq_true rfl⟩ (fun r_3 _ H locs hw hW => ?_)
      refine lv_if_eq (tgt := 46) hx hb dX5_amountOf_27 (by decide) (fun hc => ?_) (fun hc => ?_)
      · have hw := hw.1 hc
        refine lv_iconst (v := 0) hx hb dX5_amountOf_46 (by decide) ?_
        exact hret _ () _ _ _ _ hw hW dX5_amountOf_47
      · have hw := hw.2 hc
        refine lv_aload_n hx hb dX5_amountOf_30 rfl (lv_at hl 0 rfl) ?_
        refine va_get (D := D) (ci := 5) (v := .ref (a 1)) (C := RX5) (T := TX5) (N := 18) hx hb hts hinX5 hown hK hW.1 0 rfl rfl 1 (by decide) (hts _ (List.mem_of_getElem? (i := 4) rfl)) (fun _ h9 => h9) rfl dX5_amountOf_31 ?_
        refine lv_aload_n hx hb dX5_amountOf_34 rfl (lv_at hl 0 rfl) ?_
        refine lv_iload_n hx hb dX5_amountOf_35 rfl (lv_at hl 1 rfl) ?_
        refine lv_iload_n hx hb dX5_amountOf_36 rfl (lv_at hl 2 rfl) ?_
        refine kV_Mi (As := [.int p1, .int p2]) (rest := [.ref (a 1)]) ⟨hx, hb, hml, hown, hts⟩ (ok_X5_bidAt l D cI cJ a _ _ _ _ _ hw) (cwV 2 hts gX5_amountOf_X5_bidAt rfl rfl rfl (by decide +kernel) ⟨Nat.le_of_ble_eq_true rfl, Nat.le_of_ble_eq_true rfl⟩) hK hW hA 0 rfl rfl rfl hl.1 rfl (Nat.le_of_ble_eq_true rfl) dX5_amountOf_37 ⟨Nat.le_of_ble_eq_true rfl, Nat.le_of_ble_eq_true rfl⟩ (fun r_4 _ H locs hw hW => ?_)
        refine lv_iconst (v := 2) hx hb dX5_amountOf_40 (by decide) ?_
        refine lv_iadd hx hb dX5_amountOf_41 ?_
        refine va_iald hx hb hK hW.1 1 0 rfl rfl hw.1 dX5_amountOf_42 ?_
        have hw := hw.2
        refine lv_goto (tgt := 47) hx hb dX5_amountOf_43 (by decide) ?_
        exact hret _ () _ _ _ _ hw hW dX5_amountOf_47
    · have hw := hw.2 hc
      refine lv_aload_n hx hb dX5_amountOf_16 rfl (lv_at hl 0 rfl) ?_
      refine va_get (D := D) (ci := 5) (v := .int (m_askedAmount σ)) (C := RX5) (T := TX5) (N := 18) hx hb hts hinX5 hown hK hW.1 0 rfl rfl 13 (by decide) (hts _ (List.mem_of_getElem? (i := 3) rfl)) (fun _ h9 => h9) rfl dX5_amountOf_17 ?_
      exact hret _ () _ _ _ _ hw hW dX5_amountOf_20
def wp_X5_brings (σ : MS) (p1 : Int32) (p2 : Int32) (post : Int32 → Prop) : Prop := wp_X5_amountOf σ p1 p2 (fun r_1 => ((r_1 ≤ 0 → post (-1)) ∧ (¬ r_1 ≤ 0 → wp_X5_of σ p2 0 (fun r_2 => ((r_1 < r_2 → post (-1)) ∧ (¬ r_1 < r_2 → wp_X5_has σ p1 0 (fun r_3 => ((r_3 < r_1 → post (-1)) ∧ (¬ r_3 < r_1 → wp_X5_of σ p2 0 (fun r_4 => post ((8 * (r_1 - r_4)) + 1)))))))))))
abbrev rm_X5_brings : Room := { frames := 3, cells := 0, slots := 0, locals := 66 }
set_option maxHeartbeats 4000000 in
set_option maxRecDepth 100000 in
theorem ok_X5_brings (l : Launch) (D : va_G) (cI cJ : ClassId) (a : Nat → Nat) (sz : Nat) (σ : MS) (p1 : Int32) (p2 : Int32) (post : Int32 → Prop) (hw : wp_X5_brings σ p1 p2 post) : Mi l yX5_brings wsX5_brings rm_X5_brings [.ref (a 0), .int p1, .int p2] D (tysIJ cI cJ) (mW cI cJ a σ) sz (fun r (_ : Unit) => post r) (fun _ => mW cI cJ a σ) := by
  refine s_Mi (by decide) rfl (Nat.le_of_ble_eq_true rfl) ?_
  intro p e s m args below meth c A Q hx hb hml hts hown hin hK hA hret H locs ls hW hl
  have hown : s.vm.findClass RX5 = some m.cls := hown
  have hl : lv_has ls 5 [(0, .ref (a 0)), (1, .int p1), (2, .int p2)] := hl
  refine lv_aload_n hx hb dX5_brings_0 rfl (lv_at hl 0 rfl) ?_
  refine lv_iload_n hx hb dX5_brings_1 rfl (lv_at hl 1 rfl) ?_
  refine lv_iload_n hx hb dX5_brings_2 rfl (lv_at hl 2 rfl) ?_
  refine kV_Mi (As := [.int p1, .int p2]) (rest := []) ⟨hx, hb, hml, hown, hts⟩ (ok_X5_amountOf l D cI cJ a _ _ _ _ _ hw) (cwV 2 hts gX5_brings_X5_amountOf rfl rfl rfl (by decide +kernel) ⟨Nat.le_of_ble_eq_true rfl, Nat.le_of_ble_eq_true rfl⟩) hK hW hA 0 rfl rfl rfl hl.1 rfl (Nat.le_of_ble_eq_true rfl) dX5_brings_3 ⟨Nat.le_of_ble_eq_true rfl, Nat.le_of_ble_eq_true rfl⟩ (fun r_1 _ H locs hw hW => ?_)
  refine lv_istore_n (lv' := [(3, .int r_1), (0, .ref (a 0)), (1, .int p1), (2, .int p2)]) hx hb dX5_brings_6 rfl hl (by decide) rfl (fun ls hl => ?_)
  refine lv_iload_n hx hb dX5_brings_7 rfl (lv_at hl 0 rfl) ?_
  refine lv_if_le (tgt := 35) hx hb dX5_brings_8 (by decide) (fun hc => ?_) (fun hc => ?_)
  · have hw := hw.1 hc
    refine lv_iconst (v := 0) hx hb dX5_brings_35 (by decide) ?_
    refine lv_istore (lv' := [(4, .int 0), (3, .int r_1), (0, .ref (a 0)), (1, .int p1), (2, .int p2)]) hx hb dX5_brings_36 hl (by decide) rfl (fun ls hl => ?_)
    refine lv_iload hx hb dX5_brings_38 (lv_at hl 0 rfl) ?_
    refine lv_if_eq (tgt := 59) hx hb dX5_brings_40 (by decide) (fun _ => ?_) (fun hc => absurd (by decide) hc)
    refine lv_iconst (v := (-1)) hx hb dX5_brings_59 (by decide) ?_
    exact hret _ () _ _ _ _ hw hW dX5_brings_60
  · have hw := hw.2 hc
    refine lv_iload_n hx hb dX5_brings_11 rfl (lv_at hl 0 rfl) ?_
    refine lv_aload_n hx hb dX5_brings_12 rfl (lv_at hl 1 rfl) ?_
    refine lv_iload_n hx hb dX5_brings_13 rfl (lv_at hl 3 rfl) ?_
    refine lv_iconst (v := 0) hx hb dX5_brings_14 (by decide) ?_
    refine kV_Mi (As := [.int p2, .int 0]) (rest := [.int r_1]) ⟨hx, hb, hml, hown, hts⟩ (ok_X5_of l D cI cJ a _ _ _ _ _ hw) (cwV 2 hts gX5_brings_X5_of rfl rfl rfl (by decide +kernel) ⟨Nat.le_of_ble_eq_true rfl, Nat.le_of_ble_eq_true rfl⟩) hK hW hA 0 rfl rfl rfl hl.1 rfl (Nat.le_of_ble_eq_true rfl) dX5_brings_15 ⟨Nat.le_of_ble_eq_true rfl, Nat.le_of_ble_eq_true rfl⟩ (fun r_2 _ H locs hw hW => ?_)
    refine lv_icmp_lt (tgt := 35) hx hb dX5_brings_18 (by decide) (fun hc => ?_) (fun hc => ?_)
    · have hw := hw.1 hc
      refine lv_iconst (v := 0) hx hb dX5_brings_35 (by decide) ?_
      refine lv_istore (lv' := [(4, .int 0), (3, .int r_1), (0, .ref (a 0)), (1, .int p1), (2, .int p2)]) hx hb dX5_brings_36 hl (by decide) rfl (fun ls hl => ?_)
      refine lv_iload hx hb dX5_brings_38 (lv_at hl 0 rfl) ?_
      refine lv_if_eq (tgt := 59) hx hb dX5_brings_40 (by decide) (fun _ => ?_) (fun hc => absurd (by decide) hc)
      refine lv_iconst (v := (-1)) hx hb dX5_brings_59 (by decide) ?_
      exact hret _ () _ _ _ _ hw hW dX5_brings_60
    · have hw := hw.2 hc
      refine lv_aload_n hx hb dX5_brings_21 rfl (lv_at hl 1 rfl) ?_
      refine lv_iload_n hx hb dX5_brings_22 rfl (lv_at hl 2 rfl) ?_
      refine lv_iconst (v := 0) hx hb dX5_brings_23 (by decide) ?_
      refine kV_Mi (As := [.int p1, .int 0]) (rest := []) ⟨hx, hb, hml, hown, hts⟩ (ok_X5_has l D cI cJ a _ _ _ _ _ hw) (cwV 2 hts gX5_brings_X5_has rfl rfl rfl (by decide +kernel) ⟨Nat.le_of_ble_eq_true rfl, Nat.le_of_ble_eq_true rfl⟩) hK hW hA 0 rfl rfl rfl hl.1 rfl (Nat.le_of_ble_eq_true rfl) dX5_brings_24 ⟨Nat.le_of_ble_eq_true rfl, Nat.le_of_ble_eq_true rfl⟩ (fun r_3 _ H locs hw hW => ?_)
      refine lv_iload_n hx hb dX5_brings_27 rfl (lv_at hl 0 rfl) ?_
      refine lv_icmp_lt (tgt := 35) hx hb dX5_brings_28 (by decide) (fun hc => ?_) (fun hc => ?_)
      · have hw := hw.1 hc
        refine lv_iconst (v := 0) hx hb dX5_brings_35 (by decide) ?_
        refine lv_istore (lv' := [(4, .int 0), (3, .int r_1), (0, .ref (a 0)), (1, .int p1), (2, .int p2)]) hx hb dX5_brings_36 hl (by decide) rfl (fun ls hl => ?_)
        refine lv_iload hx hb dX5_brings_38 (lv_at hl 0 rfl) ?_
        refine lv_if_eq (tgt := 59) hx hb dX5_brings_40 (by decide) (fun _ => ?_) (fun hc => absurd (by decide) hc)
        refine lv_iconst (v := (-1)) hx hb dX5_brings_59 (by decide) ?_
        exact hret _ () _ _ _ _ hw hW dX5_brings_60
      · have hw := hw.2 hc
        refine lv_iconst (v := 1) hx hb dX5_brings_31 (by decide) ?_
        refine lv_goto (tgt := 36) hx hb dX5_brings_32 (by decide) ?_
        refine lv_istore (lv' := [(4, .int 1), (3, .int r_1), (0, .ref (a 0)), (1, .int p1), (2, .int p2)]) hx hb dX5_brings_36 hl (by decide) rfl (fun ls hl => ?_)
        refine lv_iload hx hb dX5_brings_38 (lv_at hl 0 rfl) ?_
        refine lv_if_eq (tgt := 59) hx hb dX5_brings_40 (by decide) (fun hc => absurd hc (by decide)) (fun _ => ?_)
        refine lv_bipush (v := 8) hx hb dX5_brings_43 (by decide) ?_
        refine lv_iload_n hx hb dX5_brings_45 rfl (lv_at hl 1 rfl) ?_
        refine lv_aload_n hx hb dX5_brings_46 rfl (lv_at hl 2 rfl) ?_
        refine lv_iload_n hx hb dX5_brings_47 rfl (lv_at hl 4 rfl) ?_
        refine lv_iconst (v := 0) hx hb dX5_brings_48 (by decide) ?_
        refine kV_Mi (As := [.int p2, .int 0]) (rest := [.int r_1, .int 8]) ⟨hx, hb, hml, hown, hts⟩ (ok_X5_of l D cI cJ a _ _ _ _ _ hw) (cwV 2 hts gX5_brings_X5_of rfl rfl rfl (by decide +kernel) ⟨Nat.le_of_ble_eq_true rfl, Nat.le_of_ble_eq_true rfl⟩) hK hW hA 0 rfl rfl rfl hl.1 rfl (Nat.le_of_ble_eq_true rfl) dX5_brings_49 ⟨Nat.le_of_ble_eq_true rfl, Nat.le_of_ble_eq_true rfl⟩ (fun r_4 _ H locs hw hW => ?_)
        refine lv_isub hx hb dX5_brings_52 ?_
        refine lv_imul hx hb dX5_brings_53 ?_
        refine lv_iconst (v := 1) hx hb dX5_brings_54 (by decide) ?_
        refine lv_iadd hx hb dX5_brings_55 ?_
        refine lv_goto (tgt := 60) hx hb dX5_brings_56 (by decide) ?_
        exact hret _ () _ _ _ _ hw hW dX5_brings_60
def wp_X5_with (σ : MS) (p1 : Int32) (p2 : Int32) (p3 : Int32) (post : Int32 → Prop) : Prop := ((¬ p2 = 6 → ((¬ ((p3 >>> (p2 &&& 31)) &&& 1) = 1 → wp_X5_brings σ p2 p1 (fun r_1 => ((¬ r_1 = (-1) → vp_in ((64 * (p1 + 1)) + (p3 ||| ((1 : Int32) <<< (p2 &&& 31)))) 448 ∧ post (r_1 + ((m_best σ) ((64 * (p1 + 1)) + (p3 ||| ((1 : Int32) <<< (p2 &&& 31)))).toNatClampNeg))) ∧ (r_1 = (-1) → post (-1))))) ∧ (((p3 >>> (p2 &&& 31)) &&& 1) = 1 → post (-1)))) ∧ (p2 = 6 → vp_in ((64 * (p1 + 1)) + p3) 448 ∧ post ((m_best σ) ((64 * (p1 + 1)) + p3).toNatClampNeg)))
abbrev rm_X5_with : Room := { frames := 4, cells := 0, slots := 0, locals := 90 }
theorem in_X5_with_X5 : ∀ w ∈ wsX50, w ∈ wsX5_with := fun w h => List.mem_cons_of_mem _ (List.mem_append_right _ (h))
set_option maxHeartbeats 4000000 in
set_option maxRecDepth 100000 in
theorem ok_X5_with (l : Launch) (D : va_G) (cI cJ : ClassId) (a : Nat → Nat) (sz : Nat) (σ : MS) (p1 : Int32) (p2 : Int32) (p3 : Int32) (post : Int32 → Prop) (hw : wp_X5_with σ p1 p2 p3 post) : Mi l yX5_with wsX5_with rm_X5_with [.ref (a 0), .int p1, .int p2, .int p3] D (tysIJ cI cJ) (mW cI cJ a σ) sz (fun r (_ : Unit) => post r) (fun _ => mW cI cJ a σ) := by
  refine s_Mi (by decide) rfl (Nat.le_of_ble_eq_true rfl) ?_
  intro p e s m args below meth c A Q hx hb hml hts hown hin hK hA hret H locs ls hW hl
  have hown : s.vm.findClass RX5 = some m.cls := hown
  have hl : lv_has ls 5 [(0, .ref (a 0)), (1, .int p1), (2, .int p2), (3, .int p3)] := hl
  have hinX5 := in_X5_with_X5
  refine lv_iload_n hx hb dX5_with_0 rfl (lv_at hl 2 rfl) ?_
  refine lv_bipush (v := 6) hx hb dX5_with_1 (by decide) ?_
  refine lv_icmp_ne (tgt := 20) hx hb dX5_with_3 (by decide) (fun hc => ?_) (fun hc => ?_)
  · have hw := hw.1 hc
    refine lv_iload_n hx hb dX5_with_20 rfl (lv_at hl 3 rfl) ?_
    refine lv_iload_n hx hb dX5_with_21 rfl (lv_at hl 2 rfl) ?_
    refine lv_ishr hx hb dX5_with_22 ?_
    refine lv_iconst (v := 1) hx hb dX5_with_23 (by decide) ?_
    refine lv_iand hx hb dX5_with_24 ?_
    refine lv_iconst (v := 1) hx hb dX5_with_25 (by decide) ?_
    refine lv_icmp_ne (tgt := 33) hx hb dX5_with_26 (by decide) (fun hc => ?_) (fun hc => ?_)
    · have hw := hw.1 hc
      refine lv_aload_n hx hb dX5_with_33 rfl (lv_at hl 0 rfl) ?_
      refine lv_iload_n hx hb dX5_with_34 rfl (lv_at hl 2 rfl) ?_
      refine lv_iload_n hx hb dX5_with_35 rfl (lv_at hl 1 rfl) ?_
      refine kV_Mi (As := [.int p2, .int p1]) (rest := []) ⟨hx, hb, hml, hown, hts⟩ (ok_X5_brings l D cI cJ a _ _ _ _ _ hw) (cwV 2 hts gX5_with_X5_brings rfl rfl rfl (by decide +kernel) ⟨Nat.le_of_ble_eq_true rfl, Nat.le_of_ble_eq_true rfl⟩) hK hW hA 0 rfl rfl rfl hl.1 rfl (Nat.le_of_ble_eq_true rfl) dX5_with_36 ⟨Nat.le_of_ble_eq_true rfl, Nat.le_of_ble_eq_true rfl⟩ (fun r_1 _ H locs hw hW => ?_)
      refine lv_istore (lv' := [(4, .int r_1), (0, .ref (a 0)), (1, .int p1), (2, .int p2), (3, .int p3)]) hx hb dX5_with_39 hl (by decide) rfl (fun ls hl => ?_)
      refine lv_iload hx hb dX5_with_41 (lv_at hl 0 rfl) ?_
      refine lv_iconst (v := (-1)) hx hb dX5_with_43 (by decide) ?_
      refine lv_icmp_ne (tgt := 51) hx hb dX5_with_44 (by decide) (fun hc => ?_) (fun hc => ?_)
      · have hw := hw.1 hc
        refine lv_iload hx hb dX5_with_51 (lv_at hl 0 rfl) ?_
        refine lv_aload_n hx hb dX5_with_53 rfl (lv_at hl 1 rfl) ?_
        refine va_get (D := D) (ci := 5) (v := .ref (a 3)) (C := RX5) (T := TX5) (N := 18) hx hb hts hinX5 hown hK hW.1 0 rfl rfl 14 (by decide) (hts _ (List.mem_of_getElem? (i := 1) rfl)) (fun _ h9 => h9) rfl dX5_with_54 ?_
        refine lv_bipush (v := 64) hx hb dX5_with_57 (by decide) ?_
        refine lv_iload_n hx hb dX5_with_59 rfl (lv_at hl 2 rfl) ?_
        refine lv_iconst (v := 1) hx hb dX5_with_60 (by decide) ?_
        refine lv_iadd hx hb dX5_with_61 ?_
        refine lv_imul hx hb dX5_with_62 ?_
        refine lv_iload_n hx hb dX5_with_63 rfl (lv_at hl 4 rfl) ?_
        refine lv_iconst (v := 1) hx hb dX5_with_64 (by decide) ?_
        refine lv_iload_n hx hb dX5_with_65 rfl (lv_at hl 3 rfl) ?_
        refine lv_ishl hx hb dX5_with_66 ?_
        refine lv_ior hx hb dX5_with_67 ?_
        refine lv_iadd hx hb dX5_with_68 ?_
        refine va_iald hx hb hK hW.1 3 0 rfl rfl hw.1 dX5_with_69 ?_
        have hw := hw.2
        refine lv_iadd hx hb dX5_with_70 ?_
        exact hret _ () _ _ _ _ hw hW dX5_with_71
      · have hw := hw.2 hc
        refine lv_iconst (v := (-1)) hx hb dX5_with_47 (by decide) ?_
        refine lv_goto (tgt := 71) hx hb dX5_with_48 (by decide) ?_
        exact hret _ () _ _ _ _ hw hW dX5_with_71
    · have hw := hw.2 hc
      refine lv_iconst (v := (-1)) hx hb dX5_with_29 (by decide) ?_
      refine lv_goto (tgt := 39) hx hb dX5_with_30 (by decide) ?_
      refine lv_istore (lv' := [(4, .int (-1)), (0, .ref (a 0)), (1, .int p1), (2, .int p2), (3, .int p3)]) hx hb dX5_with_39 hl (by decide) rfl (fun ls hl => ?_)
      refine lv_iload hx hb dX5_with_41 (lv_at hl 0 rfl) ?_
      refine lv_iconst (v := (-1)) hx hb dX5_with_43 (by decide) ?_
      refine lv_icmp_ne (tgt := 51) hx hb dX5_with_44 (by decide) (fun hc => absurd hc (by decide)) (fun _ => ?_)
      refine lv_iconst (v := (-1)) hx hb dX5_with_47 (by decide) ?_
      refine lv_goto (tgt := 71) hx hb dX5_with_48 (by decide) ?_
      exact hret _ () _ _ _ _ hw hW dX5_with_71
  · have hw := hw.2 hc
    refine lv_aload_n hx hb dX5_with_6 rfl (lv_at hl 0 rfl) ?_
    refine va_get (D := D) (ci := 5) (v := .ref (a 3)) (C := RX5) (T := TX5) (N := 18) hx hb hts hinX5 hown hK hW.1 0 rfl rfl 14 (by decide) (hts _ (List.mem_of_getElem? (i := 1) rfl)) (fun _ h9 => h9) rfl dX5_with_7 ?_
    refine lv_bipush (v := 64) hx hb dX5_with_10 (by decide) ?_
    refine lv_iload_n hx hb dX5_with_12 rfl (lv_at hl 1 rfl) ?_
    refine lv_iconst (v := 1) hx hb dX5_with_13 (by decide) ?_
    refine lv_iadd hx hb dX5_with_14 ?_
    refine lv_imul hx hb dX5_with_15 ?_
    refine lv_iload_n hx hb dX5_with_16 rfl (lv_at hl 3 rfl) ?_
    refine lv_iadd hx hb dX5_with_17 ?_
    refine va_iald hx hb hK hW.1 3 0 rfl rfl hw.1 dX5_with_18 ?_
    have hw := hw.2
    exact hret _ () _ _ _ _ hw hW dX5_with_19
def wp_X5_worthOf (σ : MS) (p1 : Int32) (post : Int32 → MS → Prop) : Prop := ∃ I1 : Nat → Int32 → MS → Prop, (∃ n : Nat, I1 n 0 (σ)) ∧ ∀ (n1 : Nat) (v2_1 : Int32) (σ_1 : MS), I1 n1 v2_1 σ_1 → ((64 ≤ v2_1 → ∃ I2 : Nat → Int32 → MS → Prop, (∃ n : Nat, I2 n 383 (σ_1)) ∧ ∀ (n2 : Nat) (v2_2 : Int32) (σ_2 : MS), I2 n2 v2_2 σ_2 → ((v2_2 < 0 → post (((m_best σ_2) (0 : Int32).toNatClampNeg) / 8) σ_2) ∧ (¬ v2_2 < 0 → vp_in v2_2 448 ∧ ∀ σ_3 : MS, σ_3 = ms_best σ_2 (upd (m_best σ_2) (v2_2).toNatClampNeg 0) → ∃ I4 : Nat → Int32 → MS → Prop, (∃ n : Nat, I4 n 0 (σ_3)) ∧ ∀ (n4 : Nat) (v3_4 : Int32) (σ_4 : MS), I4 n4 v3_4 σ_4 → ((6 < v3_4 → ∀ v2_5 : Int32, v2_5 = v2_2 + (-1) → ∃ n' : Nat, n' < n2 ∧ I2 n' v2_5 (σ_4)) ∧ (¬ 6 < v3_4 → ((¬ v3_4 = p1 → wp_X5_with σ_4 (v2_2 / 64) v3_4 (v2_2 - v2_2 / 64 * 64) (fun r_6 => vp_in v2_2 448 ∧ ((r_6 ≤ ((m_best σ_4) (v2_2).toNatClampNeg) → vp_in v2_2 448 ∧ vp_in v2_2 448 ∧ ∀ σ_7 : MS, σ_7 = ms_best σ_4 (upd (m_best σ_4) (v2_2).toNatClampNeg ((m_best σ_4) (v2_2).toNatClampNeg)) → ∀ v3_8 : Int32, v3_8 = v3_4 + 1 → ∃ n' : Nat, n' < n4 ∧ I4 n' v3_8 (σ_7)) ∧ (¬ r_6 ≤ ((m_best σ_4) (v2_2).toNatClampNeg) → vp_in v2_2 448 ∧ ∀ σ_9 : MS, σ_9 = ms_best σ_4 (upd (m_best σ_4) (v2_2).toNatClampNeg r_6) → ∀ v3_10 : Int32, v3_10 = v3_4 + 1 → ∃ n' : Nat, n' < n4 ∧ I4 n' v3_10 (σ_9))))) ∧ (v3_4 = p1 → ((6 ≤ v3_4 → wp_X5_with σ_4 (v2_2 / 64) v3_4 (v2_2 - v2_2 / 64 * 64) (fun r_11 => vp_in v2_2 448 ∧ ((r_11 ≤ ((m_best σ_4) (v2_2).toNatClampNeg) → vp_in v2_2 448 ∧ vp_in v2_2 448 ∧ ∀ σ_12 : MS, σ_12 = ms_best σ_4 (upd (m_best σ_4) (v2_2).toNatClampNeg ((m_best σ_4) (v2_2).toNatClampNeg)) → ∀ v3_13 : Int32, v3_13 = v3_4 + 1 → ∃ n' : Nat, n' < n4 ∧ I4 n' v3_13 (σ_12)) ∧ (¬ r_11 ≤ ((m_best σ_4) (v2_2).toNatClampNeg) → vp_in v2_2 448 ∧ ∀ σ_14 : MS, σ_14 = ms_best σ_4 (upd (m_best σ_4) (v2_2).toNatClampNeg r_11) → ∀ v3_15 : Int32, v3_15 = v3_4 + 1 → ∃ n' : Nat, n' < n4 ∧ I4 n' v3_15 (σ_14))))) ∧ (¬ 6 ≤ v3_4 → vp_in v2_2 448 ∧ (((-1) ≤ ((m_best σ_4) (v2_2).toNatClampNeg) → vp_in v2_2 448 ∧ vp_in v2_2 448 ∧ ∀ σ_16 : MS, σ_16 = ms_best σ_4 (upd (m_best σ_4) (v2_2).toNatClampNeg ((m_best σ_4) (v2_2).toNatClampNeg)) → ∀ v3_17 : Int32, v3_17 = v3_4 + 1 → ∃ n' : Nat, n' < n4 ∧ I4 n' v3_17 (σ_16)) ∧ (¬ (-1) ≤ ((m_best σ_4) (v2_2).toNatClampNeg) → vp_in v2_2 448 ∧ ∀ σ_18 : MS, σ_18 = ms_best σ_4 (upd (m_best σ_4) (v2_2).toNatClampNeg (-1)) → ∀ v3_19 : Int32, v3_19 = v3_4 + 1 → ∃ n' : Nat, n' < n4 ∧ I4 n' v3_19 (σ_18)))))))))))) ∧ (¬ 64 ≤ v2_1 → vp_in (384 + v2_1) 448 ∧ ∀ σ_20 : MS, σ_20 = ms_best σ_1 (upd (m_best σ_1) (384 + v2_1).toNatClampNeg 0) → ∀ v2_21 : Int32, v2_21 = v2_1 + 1 → ∃ n' : Nat, n' < n1 ∧ I1 n' v2_21 (σ_20)))
abbrev rm_X5_worthOf : Room := { frames := 5, cells := 0, slots := 0, locals := 114 }
theorem in_X5_worthOf_X5 : ∀ w ∈ wsX50, w ∈ wsX5_worthOf := fun w h => List.mem_cons_of_mem _ (List.mem_append_right _ (h))
set_option maxHeartbeats 4000000 in
set_option maxRecDepth 100000 in
theorem ok_X5_worthOf (l : Launch) (D : va_G) (cI cJ : ClassId) (a : Nat → Nat) (sz : Nat) (σ : MS) (p1 : Int32) (post : Int32 → MS → Prop) (hw : wp_X5_worthOf σ p1 post) : Mi l yX5_worthOf wsX5_worthOf rm_X5_worthOf [.ref (a 0), .int p1] D (tysIJ cI cJ) (mW cI cJ a σ) sz post (mW cI cJ a) := by
  refine s_Mi (by decide) rfl (Nat.le_of_ble_eq_true rfl) ?_
  intro p e s m args below meth c A Q hx hb hml hts hown hin hK hA hret H locs ls hW hl
  have hown : s.vm.findClass RX5 = some m.cls := hown
  have hl : lv_has ls 5 [(0, .ref (a 0)), (1, .int p1)] := hl
  have hinX5 := in_X5_worthOf_X5
  refine lv_iconst (v := 0) hx hb dX5_worthOf_0 (by decide) ?_
  refine lv_istore_n (lv' := [(2, .int 0), (0, .ref (a 0)), (1, .int p1)]) hx hb dX5_worthOf_1 rfl hl (by decide) rfl (fun ls hl => ?_)
  obtain ⟨I1, ⟨n1, hI1⟩, hJ1⟩ := hw
  have hl : lv_has ls 5 [(0, .ref (a 0)), (1, .int p1), (2, .int 0)] := lv_sub hl [1, 2, 0] rfl
  suffices LP1 : ∀ (n : Nat) (v2_1 : Int32) (σ_1 : MS) (H : Heap) (locs : List Loc) (ls : Array Slot), I1 n v2_1 σ_1 → Wd D A s.heap (mW cI cJ a σ_1) H locs → lv_has ls 5 [(0, .ref (a 0)), (1, .int p1), (2, .int v2_1)] → W p l e rm_X5_worthOf s m args below meth c H locs 0 0 Q (F0 m 2 ls []) from LP1 n1 0 _ H locs ls hI1 hW hl
  intro n1
  induction n1 using Nat.strongRecOn with
  | ind n1 ih1 =>
    intro v2_1 σ_1 H locs ls hIn hW hl
    have hw := hJ1 n1 v2_1 σ_1 hIn
    refine lv_iload_n hx hb dX5_worthOf_2 rfl (lv_at hl 2 rfl) ?_
    refine lv_bipush (v := 64) hx hb dX5_worthOf_3 (by decide) ?_
    refine lv_icmp_ge (tgt := 25) hx hb dX5_worthOf_5 (by decide) (fun hc => ?_) (fun hc => ?_)
    · have hw := hw.1 hc
      refine lv_sipush (v := 383) hx hb dX5_worthOf_25 (by decide) ?_
      refine lv_istore_n (lv' := [(2, .int 383), (0, .ref (a 0)), (1, .int p1)]) hx hb dX5_worthOf_28 rfl hl (by decide) rfl (fun ls hl => ?_)
      obtain ⟨I2, ⟨n2, hI2⟩, hJ2⟩ := hw
      have hl : lv_has ls 5 [(0, .ref (a 0)), (1, .int p1), (2, .int 383)] := lv_sub hl [1, 2, 0] rfl
      suffices LP2 : ∀ (n : Nat) (v2_2 : Int32) (σ_2 : MS) (H : Heap) (locs : List Loc) (ls : Array Slot), I2 n v2_2 σ_2 → Wd D A s.heap (mW cI cJ a σ_2) H locs → lv_has ls 5 [(0, .ref (a 0)), (1, .int p1), (2, .int v2_2)] → W p l e rm_X5_worthOf s m args below meth c H locs 0 0 Q (F0 m 29 ls []) from LP2 n2 383 _ H locs ls hI2 hW hl
      intro n2
      induction n2 using Nat.strongRecOn with
      | ind n2 ih2 =>
        intro v2_2 σ_2 H locs ls hIn hW hl
        have hw := hJ2 n2 v2_2 σ_2 hIn
        refine lv_iload_n hx hb dX5_worthOf_29 rfl (lv_at hl 2 rfl) ?_
        refine lv_if_lt (tgt := 118) hx hb dX5_worthOf_30 (by decide) (fun hc => ?_) (fun hc => ?_)
        · have hw := hw.1 hc
          refine lv_aload_n hx hb dX5_worthOf_118 rfl (lv_at hl 0 rfl) ?_
          refine va_get (D := D) (ci := 5) (v := .ref (a 3)) (C := RX5) (T := TX5) (N := 18) hx hb hts hinX5 hown hK hW.1 0 rfl rfl 14 (by decide) (hts _ (List.mem_of_getElem? (i := 1) rfl)) (fun _ h9 => h9) rfl dX5_worthOf_119 ?_
          refine lv_iconst (v := 0) hx hb dX5_worthOf_122 (by decide) ?_
          refine va_iald hx hb hK hW.1 3 0 rfl rfl (by unfold vp_in; decide) dX5_worthOf_123 ?_
          refine lv_bipush (v := 8) hx hb dX5_worthOf_124 (by decide) ?_
          refine lv_idiv hx hb dX5_worthOf_126 (by decide) ?_
          exact hret _ σ_2 _ _ _ _ hw hW dX5_worthOf_127
        · have hw := hw.2 hc
          refine lv_aload_n hx hb dX5_worthOf_33 rfl (lv_at hl 0 rfl) ?_
          refine va_get (D := D) (ci := 5) (v := .ref (a 3)) (C := RX5) (T := TX5) (N := 18) hx hb hts hinX5 hown hK hW.1 0 rfl rfl 14 (by decide) (hts _ (List.mem_of_getElem? (i := 1) rfl)) (fun _ h9 => h9) rfl dX5_worthOf_34 ?_
          refine lv_iload_n hx hb dX5_worthOf_37 rfl (lv_at hl 2 rfl) ?_
          refine lv_iconst (v := 0) hx hb dX5_worthOf_38 (by decide) ?_
          refine st_m_best hx hb hK hW hw.1 dX5_worthOf_39 (fun σ_3 eσ_3 H locs hW => ?_)
          have hw := hw.2
          have hw := hw σ_3 eσ_3
          refine lv_iconst (v := 0) hx hb dX5_worthOf_40 (by decide) ?_
          refine lv_istore_n (lv' := [(3, .int 0), (0, .ref (a 0)), (1, .int p1), (2, .int v2_2)]) hx hb dX5_worthOf_41 rfl hl (by decide) rfl (fun ls hl => ?_)
          obtain ⟨I4, ⟨n4, hI4⟩, hJ4⟩ := hw
          have hl : lv_has ls 5 [(0, .ref (a 0)), (1, .int p1), (2, .int v2_2), (3, .int 0)] := lv_sub hl [1, 2, 3, 0] rfl
          suffices LP4 : ∀ (n : Nat) (v3_4 : Int32) (σ_4 : MS) (H : Heap) (locs : List Loc) (ls : Array Slot), I4 n v3_4 σ_4 → Wd D A s.heap (mW cI cJ a σ_4) H locs → lv_has ls 5 [(0, .ref (a 0)), (1, .int p1), (2, .int v2_2), (3, .int v3_4)] → W p l e rm_X5_worthOf s m args below meth c H locs 0 0 Q (F0 m 42 ls []) from LP4 n4 0 _ H locs ls hI4 hW hl
          intro n4
          induction n4 using Nat.strongRecOn with
          | ind n4 ih4 =>
            intro v3_4 σ_4 H locs ls hIn hW hl
            have hw := hJ4 n4 v3_4 σ_4 hIn
            refine lv_iload_n hx hb dX5_worthOf_42 rfl (lv_at hl 3 rfl) ?_
            refine lv_bipush (v := 6) hx hb dX5_worthOf_43 (by decide) ?_
            refine lv_icmp_gt (tgt := 112) hx hb dX5_worthOf_45 (by decide) (fun hc => ?_) (fun hc => ?_)
            · have hw := hw.1 hc
              obtain ⟨v2_5, ev2_5⟩ : ∃ y : Int32, y = v2_2 + (-1) := ⟨_, rfl⟩
              have hw := hw v2_5 ev2_5
              refine lv_iinc (v := v2_5) (lv' := [(2, .int v2_5), (0, .ref (a 0)), (1, .int p1), (3, .int v3_4)]) hx hb dX5_worthOf_112 hl (k := 2) rfl (by rw [ev2_5]; rfl) (by decide) rfl (fun ls hl => ?_)
              refine lv_goto (tgt := 29) hx hb dX5_worthOf_115 (by decide) ?_
              obtain ⟨n9, hlt9, hI9⟩ := hw
              exact ih2 n9 hlt9 _ _ _ _ _ hI9 hW (lv_sub hl [1, 2, 0] rfl)
            · have hw := hw.2 hc
              refine lv_iload_n hx hb dX5_worthOf_48 rfl (lv_at hl 3 rfl) ?_
              refine lv_iload_n hx hb dX5_worthOf_49 rfl (lv_at hl 1 rfl) ?_
              refine lv_icmp_ne (tgt := 63) hx hb dX5_worthOf_50 (by decide) (fun hc => ?_) (fun hc => ?_)
              · have hw := hw.1 hc
                refine lv_aload_n hx hb dX5_worthOf_63 rfl (lv_at hl 0 rfl) ?_
                refine lv_iload_n hx hb dX5_worthOf_64 rfl (lv_at hl 2 rfl) ?_
                refine lv_bipush (v := 64) hx hb dX5_worthOf_65 (by decide) ?_
                refine lv_idiv hx hb dX5_worthOf_67 (by decide) ?_
                refine lv_iload_n hx hb dX5_worthOf_68 rfl (lv_at hl 3 rfl) ?_
                refine lv_iload_n hx hb dX5_worthOf_69 rfl (lv_at hl 2 rfl) ?_
                refine lv_bipush (v := 64) hx hb dX5_worthOf_70 (by decide) ?_
                refine lv_irem hx hb dX5_worthOf_72 (by decide) ?_
                refine kV_Mi (As := [.int (v2_2 / 64), .int v3_4, .int (v2_2 - v2_2 / 64 * 64)]) (rest := []) ⟨hx, hb, hml, hown, hts⟩ (ok_X5_with l D cI cJ a _ _ _ _ _ _ hw) (cwV 3 hts gX5_worthOf_X5_with rfl rfl rfl (by decide +kernel) ⟨Nat.le_of_ble_eq_true rfl, Nat.le_of_ble_eq_true rfl⟩) hK hW hA 0 rfl rfl rfl hl.1 rfl (Nat.le_of_ble_eq_true rfl) dX5_worthOf_73 ⟨Nat.le_of_ble_eq_true rfl, Nat.le_of_ble_eq_true rfl⟩ (fun r_6 _ H locs hw hW => ?_)
                refine lv_istore (lv' := [(4, .int r_6), (0, .ref (a 0)), (1, .int p1), (2, .int v2_2), (3, .int v3_4)]) hx hb dX5_worthOf_76 hl (by decide) rfl (fun ls hl => ?_)
                refine lv_aload_n hx hb dX5_worthOf_78 rfl (lv_at hl 1 rfl) ?_
                refine va_get (D := D) (ci := 5) (v := .ref (a 3)) (C := RX5) (T := TX5) (N := 18) hx hb hts hinX5 hown hK hW.1 0 rfl rfl 14 (by decide) (hts _ (List.mem_of_getElem? (i := 1) rfl)) (fun _ h9 => h9) rfl dX5_worthOf_79 ?_
                refine lv_iload_n hx hb dX5_worthOf_82 rfl (lv_at hl 3 rfl) ?_
                refine lv_iload hx hb dX5_worthOf_83 (lv_at hl 0 rfl) ?_
                refine lv_aload_n hx hb dX5_worthOf_85 rfl (lv_at hl 1 rfl) ?_
                refine va_get (D := D) (ci := 5) (v := .ref (a 3)) (C := RX5) (T := TX5) (N := 18) hx hb hts hinX5 hown hK hW.1 0 rfl rfl 14 (by decide) (hts _ (List.mem_of_getElem? (i := 1) rfl)) (fun _ h9 => h9) rfl dX5_worthOf_86 ?_
                refine lv_iload_n hx hb dX5_worthOf_89 rfl (lv_at hl 3 rfl) ?_
                refine va_iald hx hb hK hW.1 3 0 rfl rfl hw.1 dX5_worthOf_90 ?_
                have hw := hw.2
                refine lv_icmp_le (tgt := 99) hx hb dX5_worthOf_91 (by decide) (fun hc => ?_) (fun hc => ?_)
                · have hw := hw.1 hc
                  refine lv_aload_n hx hb dX5_worthOf_99 rfl (lv_at hl 1 rfl) ?_
                  refine va_get (D := D) (ci := 5) (v := .ref (a 3)) (C := RX5) (T := TX5) (N := 18) hx hb hts hinX5 hown hK hW.1 0 rfl rfl 14 (by decide) (hts _ (List.mem_of_getElem? (i := 1) rfl)) (fun _ h9 => h9) rfl dX5_worthOf_100 ?_
                  refine lv_iload_n hx hb dX5_worthOf_103 rfl (lv_at hl 3 rfl) ?_
                  refine va_iald hx hb hK hW.1 3 0 rfl rfl hw.1 dX5_worthOf_104 ?_
                  have hw := hw.2
                  refine st_m_best hx hb hK hW hw.1 dX5_worthOf_105 (fun σ_7 eσ_7 H locs hW => ?_)
                  have hw := hw.2
                  have hw := hw σ_7 eσ_7
                  obtain ⟨v3_8, ev3_8⟩ : ∃ y : Int32, y = v3_4 + 1 := ⟨_, rfl⟩
                  have hw := hw v3_8 ev3_8
                  refine lv_iinc (v := v3_8) (lv' := [(3, .int v3_8), (4, .int r_6), (0, .ref (a 0)), (1, .int p1), (2, .int v2_2)]) hx hb dX5_worthOf_106 hl (k := 4) rfl (by rw [ev3_8]; rfl) (by decide) rfl (fun ls hl => ?_)
                  refine lv_goto (tgt := 42) hx hb dX5_worthOf_109 (by decide) ?_
                  obtain ⟨n9, hlt9, hI9⟩ := hw
                  exact ih4 n9 hlt9 _ _ _ _ _ hI9 hW (lv_sub hl [2, 3, 4, 0] rfl)
                · have hw := hw.2 hc
                  refine lv_iload hx hb dX5_worthOf_94 (lv_at hl 0 rfl) ?_
                  refine lv_goto (tgt := 105) hx hb dX5_worthOf_96 (by decide) ?_
                  refine st_m_best hx hb hK hW hw.1 dX5_worthOf_105 (fun σ_9 eσ_9 H locs hW => ?_)
                  have hw := hw.2
                  have hw := hw σ_9 eσ_9
                  obtain ⟨v3_10, ev3_10⟩ : ∃ y : Int32, y = v3_4 + 1 := ⟨_, rfl⟩
                  have hw := hw v3_10 ev3_10
                  refine lv_iinc (v := v3_10) (lv' := [(3, .int v3_10), (4, .int r_6), (0, .ref (a 0)), (1, .int p1), (2, .int v2_2)]) hx hb dX5_worthOf_106 hl (k := 4) rfl (by rw [ev3_10]; rfl) (by decide) rfl (fun ls hl => ?_)
                  refine lv_goto (tgt := 42) hx hb dX5_worthOf_109 (by decide) ?_
                  obtain ⟨n9, hlt9, hI9⟩ := hw
                  exact ih4 n9 hlt9 _ _ _ _ _ hI9 hW (lv_sub hl [2, 3, 4, 0] rfl)
              · have hw := hw.2 hc
                refine lv_iload_n hx hb dX5_worthOf_53 rfl (lv_at hl 3 rfl) ?_
                refine lv_bipush (v := 6) hx hb dX5_worthOf_54 (by decide) ?_
                refine lv_icmp_ge (tgt := 63) hx hb dX5_worthOf_56 (by decide) (fun hc => ?_) (fun hc => ?_)
                · have hw := hw.1 hc
                  refine lv_aload_n hx hb dX5_worthOf_63 rfl (lv_at hl 0 rfl) ?_
                  refine lv_iload_n hx hb dX5_worthOf_64 rfl (lv_at hl 2 rfl) ?_
                  refine lv_bipush (v := 64) hx hb dX5_worthOf_65 (by decide) ?_
                  refine lv_idiv hx hb dX5_worthOf_67 (by decide) ?_
                  refine lv_iload_n hx hb dX5_worthOf_68 rfl (lv_at hl 3 rfl) ?_
                  refine lv_iload_n hx hb dX5_worthOf_69 rfl (lv_at hl 2 rfl) ?_
                  refine lv_bipush (v := 64) hx hb dX5_worthOf_70 (by decide) ?_
                  refine lv_irem hx hb dX5_worthOf_72 (by decide) ?_
                  refine kV_Mi (As := [.int (v2_2 / 64), .int v3_4, .int (v2_2 - v2_2 / 64 * 64)]) (rest := []) ⟨hx, hb, hml, hown, hts⟩ (ok_X5_with l D cI cJ a _ _ _ _ _ _ hw) (cwV 3 hts gX5_worthOf_X5_with rfl rfl rfl (by decide +kernel) ⟨Nat.le_of_ble_eq_true rfl, Nat.le_of_ble_eq_true rfl⟩) hK hW hA 0 rfl rfl rfl hl.1 rfl (Nat.le_of_ble_eq_true rfl) dX5_worthOf_73 ⟨Nat.le_of_ble_eq_true rfl, Nat.le_of_ble_eq_true rfl⟩ (fun r_11 _ H locs hw hW => ?_)
                  refine lv_istore (lv' := [(4, .int r_11), (0, .ref (a 0)), (1, .int p1), (2, .int v2_2), (3, .int v3_4)]) hx hb dX5_worthOf_76 hl (by decide) rfl (fun ls hl => ?_)
                  refine lv_aload_n hx hb dX5_worthOf_78 rfl (lv_at hl 1 rfl) ?_
                  refine va_get (D := D) (ci := 5) (v := .ref (a 3)) (C := RX5) (T := TX5) (N := 18) hx hb hts hinX5 hown hK hW.1 0 rfl rfl 14 (by decide) (hts _ (List.mem_of_getElem? (i := 1) rfl)) (fun _ h9 => h9) rfl dX5_worthOf_79 ?_
                  refine lv_iload_n hx hb dX5_worthOf_82 rfl (lv_at hl 3 rfl) ?_
                  refine lv_iload hx hb dX5_worthOf_83 (lv_at hl 0 rfl) ?_
                  refine lv_aload_n hx hb dX5_worthOf_85 rfl (lv_at hl 1 rfl) ?_
                  refine va_get (D := D) (ci := 5) (v := .ref (a 3)) (C := RX5) (T := TX5) (N := 18) hx hb hts hinX5 hown hK hW.1 0 rfl rfl 14 (by decide) (hts _ (List.mem_of_getElem? (i := 1) rfl)) (fun _ h9 => h9) rfl dX5_worthOf_86 ?_
                  refine lv_iload_n hx hb dX5_worthOf_89 rfl (lv_at hl 3 rfl) ?_
                  refine va_iald hx hb hK hW.1 3 0 rfl rfl hw.1 dX5_worthOf_90 ?_
                  have hw := hw.2
                  refine lv_icmp_le (tgt := 99) hx hb dX5_worthOf_91 (by decide) (fun hc => ?_) (fun hc => ?_)
                  · have hw := hw.1 hc
                    refine lv_aload_n hx hb dX5_worthOf_99 rfl (lv_at hl 1 rfl) ?_
                    refine va_get (D := D) (ci := 5) (v := .ref (a 3)) (C := RX5) (T := TX5) (N := 18) hx hb hts hinX5 hown hK hW.1 0 rfl rfl 14 (by decide) (hts _ (List.mem_of_getElem? (i := 1) rfl)) (fun _ h9 => h9) rfl dX5_worthOf_100 ?_
                    refine lv_iload_n hx hb dX5_worthOf_103 rfl (lv_at hl 3 rfl) ?_
                    refine va_iald hx hb hK hW.1 3 0 rfl rfl hw.1 dX5_worthOf_104 ?_
                    have hw := hw.2
                    refine st_m_best hx hb hK hW hw.1 dX5_worthOf_105 (fun σ_12 eσ_12 H locs hW => ?_)
                    have hw := hw.2
                    have hw := hw σ_12 eσ_12
                    obtain ⟨v3_13, ev3_13⟩ : ∃ y : Int32, y = v3_4 + 1 := ⟨_, rfl⟩
                    have hw := hw v3_13 ev3_13
                    refine lv_iinc (v := v3_13) (lv' := [(3, .int v3_13), (4, .int r_11), (0, .ref (a 0)), (1, .int p1), (2, .int v2_2)]) hx hb dX5_worthOf_106 hl (k := 4) rfl (by rw [ev3_13]; rfl) (by decide) rfl (fun ls hl => ?_)
                    refine lv_goto (tgt := 42) hx hb dX5_worthOf_109 (by decide) ?_
                    obtain ⟨n9, hlt9, hI9⟩ := hw
                    exact ih4 n9 hlt9 _ _ _ _ _ hI9 hW (lv_sub hl [2, 3, 4, 0] rfl)
                  · have hw := hw.2 hc
                    refine lv_iload hx hb dX5_worthOf_94 (lv_at hl 0 rfl) ?_
                    refine lv_goto (tgt := 105) hx hb dX5_worthOf_96 (by decide) ?_
                    refine st_m_best hx hb hK hW hw.1 dX5_worthOf_105 (fun σ_14 eσ_14 H locs hW => ?_)
                    have hw := hw.2
                    have hw := hw σ_14 eσ_14
                    obtain ⟨v3_15, ev3_15⟩ : ∃ y : Int32, y = v3_4 + 1 := ⟨_, rfl⟩
                    have hw := hw v3_15 ev3_15
                    refine lv_iinc (v := v3_15) (lv' := [(3, .int v3_15), (4, .int r_11), (0, .ref (a 0)), (1, .int p1), (2, .int v2_2)]) hx hb dX5_worthOf_106 hl (k := 4) rfl (by rw [ev3_15]; rfl) (by decide) rfl (fun ls hl => ?_)
                    refine lv_goto (tgt := 42) hx hb dX5_worthOf_109 (by decide) ?_
                    obtain ⟨n9, hlt9, hI9⟩ := hw
                    exact ih4 n9 hlt9 _ _ _ _ _ hI9 hW (lv_sub hl [2, 3, 4, 0] rfl)
                · have hw := hw.2 hc
                  refine lv_iconst (v := (-1)) hx hb dX5_worthOf_59 (by decide) ?_
                  refine lv_goto (tgt := 76) hx hb dX5_worthOf_60 (by decide) ?_
                  refine lv_istore (lv' := [(4, .int (-1)), (0, .ref (a 0)), (1, .int p1), (2, .int v2_2), (3, .int v3_4)]) hx hb dX5_worthOf_76 hl (by decide) rfl (fun ls hl => ?_)
                  refine lv_aload_n hx hb dX5_worthOf_78 rfl (lv_at hl 1 rfl) ?_
                  refine va_get (D := D) (ci := 5) (v := .ref (a 3)) (C := RX5) (T := TX5) (N := 18) hx hb hts hinX5 hown hK hW.1 0 rfl rfl 14 (by decide) (hts _ (List.mem_of_getElem? (i := 1) rfl)) (fun _ h9 => h9) rfl dX5_worthOf_79 ?_
                  refine lv_iload_n hx hb dX5_worthOf_82 rfl (lv_at hl 3 rfl) ?_
                  refine lv_iload hx hb dX5_worthOf_83 (lv_at hl 0 rfl) ?_
                  refine lv_aload_n hx hb dX5_worthOf_85 rfl (lv_at hl 1 rfl) ?_
                  refine va_get (D := D) (ci := 5) (v := .ref (a 3)) (C := RX5) (T := TX5) (N := 18) hx hb hts hinX5 hown hK hW.1 0 rfl rfl 14 (by decide) (hts _ (List.mem_of_getElem? (i := 1) rfl)) (fun _ h9 => h9) rfl dX5_worthOf_86 ?_
                  refine lv_iload_n hx hb dX5_worthOf_89 rfl (lv_at hl 3 rfl) ?_
                  refine va_iald hx hb hK hW.1 3 0 rfl rfl hw.1 dX5_worthOf_90 ?_
                  have hw := hw.2
                  refine lv_icmp_le (tgt := 99) hx hb dX5_worthOf_91 (by decide) (fun hc => ?_) (fun hc => ?_)
                  · have hw := hw.1 hc
                    refine lv_aload_n hx hb dX5_worthOf_99 rfl (lv_at hl 1 rfl) ?_
                    refine va_get (D := D) (ci := 5) (v := .ref (a 3)) (C := RX5) (T := TX5) (N := 18) hx hb hts hinX5 hown hK hW.1 0 rfl rfl 14 (by decide) (hts _ (List.mem_of_getElem? (i := 1) rfl)) (fun _ h9 => h9) rfl dX5_worthOf_100 ?_
                    refine lv_iload_n hx hb dX5_worthOf_103 rfl (lv_at hl 3 rfl) ?_
                    refine va_iald hx hb hK hW.1 3 0 rfl rfl hw.1 dX5_worthOf_104 ?_
                    have hw := hw.2
                    refine st_m_best hx hb hK hW hw.1 dX5_worthOf_105 (fun σ_16 eσ_16 H locs hW => ?_)
                    have hw := hw.2
                    have hw := hw σ_16 eσ_16
                    obtain ⟨v3_17, ev3_17⟩ : ∃ y : Int32, y = v3_4 + 1 := ⟨_, rfl⟩
                    have hw := hw v3_17 ev3_17
                    refine lv_iinc (v := v3_17) (lv' := [(3, .int v3_17), (4, .int (-1)), (0, .ref (a 0)), (1, .int p1), (2, .int v2_2)]) hx hb dX5_worthOf_106 hl (k := 4) rfl (by rw [ev3_17]; rfl) (by decide) rfl (fun ls hl => ?_)
                    refine lv_goto (tgt := 42) hx hb dX5_worthOf_109 (by decide) ?_
                    obtain ⟨n9, hlt9, hI9⟩ := hw
                    exact ih4 n9 hlt9 _ _ _ _ _ hI9 hW (lv_sub hl [2, 3, 4, 0] rfl)
                  · have hw := hw.2 hc
                    refine lv_iload hx hb dX5_worthOf_94 (lv_at hl 0 rfl) ?_
                    refine lv_goto (tgt := 105) hx hb dX5_worthOf_96 (by decide) ?_
                    refine st_m_best hx hb hK hW hw.1 dX5_worthOf_105 (fun σ_18 eσ_18 H locs hW => ?_)
                    have hw := hw.2
                    have hw := hw σ_18 eσ_18
                    obtain ⟨v3_19, ev3_19⟩ : ∃ y : Int32, y = v3_4 + 1 := ⟨_, rfl⟩
                    have hw := hw v3_19 ev3_19
                    refine lv_iinc (v := v3_19) (lv' := [(3, .int v3_19), (4, .int (-1)), (0, .ref (a 0)), (1, .int p1), (2, .int v2_2)]) hx hb dX5_worthOf_106 hl (k := 4) rfl (by rw [ev3_19]; rfl) (by decide) rfl (fun ls hl => ?_)
                    refine lv_goto (tgt := 42) hx hb dX5_worthOf_109 (by decide) ?_
                    obtain ⟨n9, hlt9, hI9⟩ := hw
                    exact ih4 n9 hlt9 _ _ _ _ _ hI9 hW (lv_sub hl [2, 3, 4, 0] rfl)
    · have hw := hw.2 hc
      refine lv_aload_n hx hb dX5_worthOf_8 rfl (lv_at hl 0 rfl) ?_
      refine va_get (D := D) (ci := 5) (v := .ref (a 3)) (C := RX5) (T := TX5) (N := 18) hx hb hts hinX5 hown hK hW.1 0 rfl rfl 14 (by decide) (hts _ (List.mem_of_getElem? (i := 1) rfl)) (fun _ h9 => h9) rfl dX5_worthOf_9 ?_
      refine lv_sipush (v := 384) hx hb dX5_worthOf_12 (by decide) ?_
      refine lv_iload_n hx hb dX5_worthOf_15 rfl (lv_at hl 2 rfl) ?_
      refine lv_iadd hx hb dX5_worthOf_16 ?_
      refine lv_iconst (v := 0) hx hb dX5_worthOf_17 (by decide) ?_
      refine st_m_best hx hb hK hW hw.1 dX5_worthOf_18 (fun σ_20 eσ_20 H locs hW => ?_)
      have hw := hw.2
      have hw := hw σ_20 eσ_20
      obtain ⟨v2_21, ev2_21⟩ : ∃ y : Int32, y = v2_1 + 1 := ⟨_, rfl⟩
      have hw := hw v2_21 ev2_21
      refine lv_iinc (v := v2_21) (lv' := [(2, .int v2_21), (0, .ref (a 0)), (1, .int p1)]) hx hb dX5_worthOf_19 hl (k := 2) rfl (by rw [ev2_21]; rfl) (by decide) rfl (fun ls hl => ?_)
      refine lv_goto (tgt := 2) hx hb dX5_worthOf_22 (by decide) ?_
      obtain ⟨n9, hlt9, hI9⟩ := hw
      exact ih1 n9 hlt9 _ _ _ _ _ hI9 hW (lv_sub hl [1, 2, 0] rfl)
def wp_X5_shares (σ : MS) (post : MS → Prop) : Prop := wp_X5_worthOf σ 6 (fun r_1 σ_2 => ∃ I3 : Nat → Int32 → Int32 → MS → Prop, (∃ n : Nat, I3 n 0 0 (σ_2)) ∧ ∀ (n3 : Nat) (v2_3 : Int32) (v3_3 : Int32) (σ_3 : MS), I3 n3 v2_3 v3_3 σ_3 → ((6 ≤ v3_3 → ∃ I4 : Nat → Int32 → MS → Prop, (∃ n : Nat, I4 n 0 (σ_3)) ∧ ∀ (n4 : Nat) (v3_4 : Int32) (σ_4 : MS), I4 n4 v3_4 σ_4 → ((6 ≤ v3_4 → post σ_4) ∧ (¬ 6 ≤ v3_4 → vp_in v3_4 6 ∧ ∀ v4_5 : Int32, v4_5 = ((m_shared σ_4) (v3_4).toNatClampNeg) → ((¬ v4_5 = (-1) → wp_X5_of σ_4 v3_4 0 (fun r_6 => wp_X5_worthOf σ_4 v4_5 (fun r_7 σ_8 => wp_X5_brings σ_8 v4_5 v3_4 (fun r_9 => vp_in v3_4 6 ∧ ∀ σ_10 : MS, σ_10 = ms_due σ_8 (upd (m_due σ_8) (v3_4).toNatClampNeg (((r_6 + r_7) - r_1) + (r_9 / 8))) → ∀ v3_11 : Int32, v3_11 = v3_4 + 1 → ∃ n' : Nat, n' < n4 ∧ I4 n' v3_11 (σ_10))))) ∧ (v4_5 = (-1) → vp_in v3_4 6 ∧ ∀ σ_12 : MS, σ_12 = ms_due σ_4 (upd (m_due σ_4) (v3_4).toNatClampNeg (-1)) → ∀ v3_13 : Int32, v3_13 = v3_4 + 1 → ∃ n' : Nat, n' < n4 ∧ I4 n' v3_13 (σ_12)))))) ∧ (¬ 6 ≤ v3_3 → ∃ I14 : Nat → Int32 → Prop, (∃ n : Nat, I14 n 0) ∧ ∀ (n14 : Nat) (v4_14 : Int32), I14 n14 v4_14 → wp_X5_with σ_3 v3_3 v4_14 v2_3 (fun r_15 => vp_in ((64 * v3_3) + v2_3) 448 ∧ ((r_15 = ((m_best σ_3) ((64 * v3_3) + v2_3).toNatClampNeg) → ((¬ v4_14 = 6 → vp_in v3_3 6 ∧ ∀ σ_16 : MS, σ_16 = ms_shared σ_3 (upd (m_shared σ_3) (v3_3).toNatClampNeg v4_14) → ((¬ v4_14 = 6 → ∀ v2_17 : Int32, v2_17 = (v2_3 ||| ((1 : Int32) <<< (v4_14 &&& 31))) → ∀ v3_18 : Int32, v3_18 = v3_3 + 1 → ∃ n' : Nat, n' < n3 ∧ I3 n' v2_17 v3_18 (σ_16)) ∧ (v4_14 = 6 → ∀ v2_19 : Int32, v2_19 = (v2_3 ||| 0) → ∀ v3_20 : Int32, v3_20 = v3_3 + 1 → ∃ n' : Nat, n' < n3 ∧ I3 n' v2_19 v3_20 (σ_16)))) ∧ (v4_14 = 6 → vp_in v3_3 6 ∧ ∀ σ_21 : MS, σ_21 = ms_shared σ_3 (upd (m_shared σ_3) (v3_3).toNatClampNeg (-1)) → ((¬ v4_14 = 6 → ∀ v2_22 : Int32, v2_22 = (v2_3 ||| ((1 : Int32) <<< (v4_14 &&& 31))) → ∀ v3_23 : Int32, v3_23 = v3_3 + 1 → ∃ n' : Nat, n' < n3 ∧ I3 n' v2_22 v3_23 (σ_21)) ∧ (v4_14 = 6 → ∀ v2_24 : Int32, v2_24 = (v2_3 ||| 0) → ∀ v3_25 : Int32, v3_25 = v3_3 + 1 → ∃ n' : Nat, n' < n3 ∧ I3 n' v2_24 v3_25 (σ_21)))))) ∧ (¬ r_15 = ((m_best σ_3) ((64 * v3_3) + v2_3).toNatClampNeg) → ∀ v4_26 : Int32, v4_26 = v4_14 + 1 → ∃ n' : Nat, n' < n14 ∧ I14 n' v4_26))))))
abbrev rm_X5_shares : Room := { frames := 6, cells := 0, slots := 0, locals := 138 }
theorem in_X5_shares_X5 : ∀ w ∈ wsX50, w ∈ wsX5_shares := fun w h => List.mem_cons_of_mem _ (List.mem_append_right _ (h))
set_option maxHeartbeats 4000000 in
set_option maxRecDepth 100000 in
theorem ok_X5_shares (l : Launch) (D : va_G) (cI cJ : ClassId) (a : Nat → Nat) (sz : Nat) (σ : MS) (post : MS → Prop) (hw : wp_X5_shares σ post) : Mv l yX5_shares wsX5_shares rm_X5_shares [.ref (a 0)] D (tysIJ cI cJ) (mW cI cJ a σ) sz post (mW cI cJ a) := by
  refine s_Mv (by decide) rfl (Nat.le_of_ble_eq_true rfl) ?_
  intro p e s m args below meth c A Q hx hb hml hts hown hin hK hA hret H locs ls hW hl
  have hown : s.vm.findClass RX5 = some m.cls := hown
  have hl : lv_has ls 5 [(0, .ref (a 0))] := hl
  have hinX5 := in_X5_shares_X5
  refine lv_aload_n hx hb dX5_shares_0 rfl (lv_at hl 0 rfl) ?_
  refine lv_bipush (v := 6) hx hb dX5_shares_1 (by decide) ?_
  refine kV_Mi (As := [.int 6]) (rest := []) ⟨hx, hb, hml, hown, hts⟩ (ok_X5_worthOf l D cI cJ a _ _ _ _ hw) (cwV 1 hts gX5_shares_X5_worthOf rfl rfl rfl (by decide +kernel) ⟨Nat.le_of_ble_eq_true rfl, Nat.le_of_ble_eq_true rfl⟩) hK hW hA 0 rfl rfl rfl hl.1 rfl (Nat.le_of_ble_eq_true rfl) dX5_shares_3 ⟨Nat.le_of_ble_eq_true rfl, Nat.le_of_ble_eq_true rfl⟩ (fun r_1 σ_2 H locs hw hW => ?_)
  refine lv_istore_n (lv' := [(1, .int r_1), (0, .ref (a 0))]) hx hb dX5_shares_6 rfl hl (by decide) rfl (fun ls hl => ?_)
  refine lv_iconst (v := 0) hx hb dX5_shares_7 (by decide) ?_
  refine lv_istore_n (lv' := [(2, .int 0), (1, .int r_1), (0, .ref (a 0))]) hx hb dX5_shares_8 rfl hl (by decide) rfl (fun ls hl => ?_)
  refine lv_iconst (v := 0) hx hb dX5_shares_9 (by decide) ?_
  refine lv_istore_n (lv' := [(3, .int 0), (2, .int 0), (1, .int r_1), (0, .ref (a 0))]) hx hb dX5_shares_10 rfl hl (by decide) rfl (fun ls hl => ?_)
  obtain ⟨I3, ⟨n3, hI3⟩, hJ3⟩ := hw
  have hl : lv_has ls 5 [(0, .ref (a 0)), (1, .int r_1), (2, .int 0), (3, .int 0)] := lv_sub hl [3, 2, 1, 0] rfl
  suffices LP3 : ∀ (n : Nat) (v2_3 : Int32) (v3_3 : Int32) (σ_3 : MS) (H : Heap) (locs : List Loc) (ls : Array Slot), I3 n v2_3 v3_3 σ_3 → Wd D A s.heap (mW cI cJ a σ_3) H locs → lv_has ls 5 [(0, .ref (a 0)), (1, .int r_1), (2, .int v2_3), (3, .int v3_3)] → W p l e rm_X5_shares s m args below meth c H locs 0 0 Q (F0 m 11 ls []) from LP3 n3 0 0 _ H locs ls hI3 hW hl
  intro n3
  induction n3 using Nat.strongRecOn with
  | ind n3 ih3 =>
    intro v2_3 v3_3 σ_3 H locs ls hIn hW hl
    have hw := hJ3 n3 v2_3 v3_3 σ_3 hIn
    refine lv_iload_n hx hb dX5_shares_11 rfl (lv_at hl 3 rfl) ?_
    refine lv_bipush (v := 6) hx hb dX5_shares_12 (by decide) ?_
    refine lv_icmp_ge (tgt := 91) hx hb dX5_shares_14 (by decide) (fun hc => ?_) (fun hc => ?_)
    · have hw := hw.1 hc
      refine lv_iconst (v := 0) hx hb dX5_shares_91 (by decide) ?_
      refine lv_istore_n (lv' := [(3, .int 0), (0, .ref (a 0)), (1, .int r_1), (2, .int v2_3)]) hx hb dX5_shares_92 rfl hl (by decide) rfl (fun ls hl => ?_)
      obtain ⟨I4, ⟨n4, hI4⟩, hJ4⟩ := hw
      have hl : lv_has ls 5 [(0, .ref (a 0)), (1, .int r_1), (3, .int 0)] := lv_sub hl [1, 2, 0] rfl
      suffices LP4 : ∀ (n : Nat) (v3_4 : Int32) (σ_4 : MS) (H : Heap) (locs : List Loc) (ls : Array Slot), I4 n v3_4 σ_4 → Wd D A s.heap (mW cI cJ a σ_4) H locs → lv_has ls 5 [(0, .ref (a 0)), (1, .int r_1), (3, .int v3_4)] → W p l e rm_X5_shares s m args below meth c H locs 0 0 Q (F0 m 93 ls []) from LP4 n4 0 _ H locs ls hI4 hW hl
      intro n4
      induction n4 using Nat.strongRecOn with
      | ind n4 ih4 =>
        intro v3_4 σ_4 H locs ls hIn hW hl
        have hw := hJ4 n4 v3_4 σ_4 hIn
        refine lv_iload_n hx hb dX5_shares_93 rfl (lv_at hl 2 rfl) ?_
        refine lv_bipush (v := 6) hx hb dX5_shares_94 (by decide) ?_
        refine lv_icmp_ge (tgt := 155) hx hb dX5_shares_96 (by decide) (fun hc => ?_) (fun hc => ?_)
        · have hw := hw.1 hc
          exact hret σ_4 _ _ _ _ hw hW dX5_shares_155
        · have hw := hw.2 hc
          refine lv_aload_n hx hb dX5_shares_99 rfl (lv_at hl 0 rfl) ?_
          refine va_get (D := D) (ci := 5) (v := .ref (a 4)) (C := RX5) (T := TX5) (N := 18) hx hb hts hinX5 hown hK hW.1 0 rfl rfl 15 (by decide) (hts _ (List.mem_of_getElem? (i := 2) rfl)) (fun _ h9 => h9) rfl dX5_shares_100 ?_
          refine lv_iload_n hx hb dX5_shares_103 rfl (lv_at hl 2 rfl) ?_
          refine va_iald hx hb hK hW.1 4 0 rfl rfl hw.1 dX5_shares_104 ?_
          have hw := hw.2
          refine lv_topi (fun v4_5 ev4_5 => ?_)
          have hw := hw v4_5 ev4_5
          refine lv_istore (lv' := [(4, .int v4_5), (0, .ref (a 0)), (1, .int r_1), (3, .int v3_4)]) hx hb dX5_shares_105 hl (by decide) rfl (fun ls hl => ?_)
          refine lv_aload_n hx hb dX5_shares_107 rfl (lv_at hl 1 rfl) ?_
          refine va_get (D := D) (ci := 5) (v := .ref (a 5)) (C := RX5) (T := TX5) (N := 18) hx hb hts hinX5 hown hK hW.1 0 rfl rfl 16 (by decide) (hts _ (List.mem_of_getElem? (i := 3) rfl)) (fun _ h9 => h9) rfl dX5_shares_108 ?_
          refine lv_iload_n hx hb dX5_shares_111 rfl (lv_at hl 3 rfl) ?_
          refine lv_iload hx hb dX5_shares_112 (lv_at hl 0 rfl) ?_
          refine lv_iconst (v := (-1)) hx hb dX5_shares_114 (by decide) ?_
          refine lv_icmp_ne (tgt := 122) hx hb dX5_shares_115 (by decide) (fun hc => ?_) (fun hc => ?_)
          · have hw := hw.1 hc
            refine lv_aload_n hx hb dX5_shares_122 rfl (lv_at hl 1 rfl) ?_
            refine lv_iload_n hx hb dX5_shares_123 rfl (lv_at hl 3 rfl) ?_
            refine lv_iconst (v := 0) hx hb dX5_shares_124 (by decide) ?_
            refine kV_Mi (As := [.int v3_4, .int 0]) (rest := [.int v3_4, .ref (a 5)]) ⟨hx, hb, hml, hown, hts⟩ (ok_X5_of l D cI cJ a _ _ _ _ _ hw) (cwV 2 hts gX5_shares_X5_of rfl rfl rfl (by decide +kernel) ⟨Nat.le_of_ble_eq_true rfl, Nat.le_of_ble_eq_true rfl⟩) hK hW hA 0 rfl rfl rfl hl.1 rfl (Nat.le_of_ble_eq_true rfl) dX5_shares_125 ⟨Nat.le_of_ble_eq_true rfl, Nat.le_of_ble_eq_true rfl⟩ (fun r_6 _ H locs hw hW => ?_)
            refine lv_aload_n hx hb dX5_shares_128 rfl (lv_at hl 1 rfl) ?_
            refine lv_iload hx hb dX5_shares_129 (lv_at hl 0 rfl) ?_
            refine kV_Mi (As := [.int v4_5]) (rest := [.int r_6, .int v3_4, .ref (a 5)]) ⟨hx, hb, hml, hown, hts⟩ (ok_X5_worthOf l D cI cJ a _ _ _ _ hw) (cwV 1 hts gX5_shares_X5_worthOf rfl rfl rfl (by decide +kernel) ⟨Nat.le_of_ble_eq_true rfl, Nat.le_of_ble_eq_true rfl⟩) hK hW hA 0 rfl rfl rfl hl.1 rfl (Nat.le_of_ble_eq_true rfl) dX5_shares_131 ⟨Nat.le_of_ble_eq_true rfl, Nat.le_of_ble_eq_true rfl⟩ (fun r_7 σ_8 H locs hw hW => ?_)
            refine lv_iadd hx hb dX5_shares_134 ?_
            refine lv_iload_n hx hb dX5_shares_135 rfl (lv_at hl 2 rfl) ?_
            refine lv_isub hx hb dX5_shares_136 ?_
            refine lv_aload_n hx hb dX5_shares_137 rfl (lv_at hl 1 rfl) ?_
            refine lv_iload hx hb dX5_shares_138 (lv_at hl 0 rfl) ?_
            refine lv_iload_n hx hb dX5_shares_140 rfl (lv_at hl 3 rfl) ?_
            refine kV_Mi (As := [.int v4_5, .int v3_4]) (rest := [.int ((r_6 + r_7) - r_1), .int v3_4, .ref (a 5)]) ⟨hx, hb, hml, hown, hts⟩ (ok_X5_brings l D cI cJ a _ _ _ _ _ hw) (cwV 2 hts gX5_shares_X5_brings rfl rfl rfl (by decide +kernel) ⟨Nat.le_of_ble_eq_true rfl, Nat.le_of_ble_eq_true rfl⟩) hK hW hA 0 rfl rfl rfl hl.1 rfl (Nat.le_of_ble_eq_true rfl) dX5_shares_141 ⟨Nat.le_of_ble_eq_true rfl, Nat.le_of_ble_eq_true rfl⟩ (fun r_9 _ H locs hw hW => ?_)
            refine lv_bipush (v := 8) hx hb dX5_shares_144 (by decide) ?_
            refine lv_idiv hx hb dX5_shares_146 (by decide) ?_
            refine lv_iadd hx hb dX5_shares_147 ?_
            refine st_m_due hx hb hK hW hw.1 dX5_shares_148 (fun σ_10 eσ_10 H locs hW => ?_)
            have hw := hw.2
            have hw := hw σ_10 eσ_10
            obtain ⟨v3_11, ev3_11⟩ : ∃ y : Int32, y = v3_4 + 1 := ⟨_, rfl⟩
            have hw := hw v3_11 ev3_11
            refine lv_iinc (v := v3_11) (lv' := [(3, .int v3_11), (4, .int v4_5), (0, .ref (a 0)), (1, .int r_1)]) hx hb dX5_shares_149 hl (k := 3) rfl (by rw [ev3_11]; rfl) (by decide) rfl (fun ls hl => ?_)
            refine lv_goto (tgt := 93) hx hb dX5_shares_152 (by decide) ?_
            obtain ⟨n9, hlt9, hI9⟩ := hw
            exact ih4 n9 hlt9 _ _ _ _ _ hI9 hW (lv_sub hl [2, 3, 0] rfl)
          · have hw := hw.2 hc
            refine lv_iconst (v := (-1)) hx hb dX5_shares_118 (by decide) ?_
            refine lv_goto (tgt := 148) hx hb dX5_shares_119 (by decide) ?_
            refine st_m_due hx hb hK hW hw.1 dX5_shares_148 (fun σ_12 eσ_12 H locs hW => ?_)
            have hw := hw.2
            have hw := hw σ_12 eσ_12
            obtain ⟨v3_13, ev3_13⟩ : ∃ y : Int32, y = v3_4 + 1 := ⟨_, rfl⟩
            have hw := hw v3_13 ev3_13
            refine lv_iinc (v := v3_13) (lv' := [(3, .int v3_13), (4, .int v4_5), (0, .ref (a 0)), (1, .int r_1)]) hx hb dX5_shares_149 hl (k := 3) rfl (by rw [ev3_13]; rfl) (by decide) rfl (fun ls hl => ?_)
            refine lv_goto (tgt := 93) hx hb dX5_shares_152 (by decide) ?_
            obtain ⟨n9, hlt9, hI9⟩ := hw
            exact ih4 n9 hlt9 _ _ _ _ _ hI9 hW (lv_sub hl [2, 3, 0] rfl)
    · have hw := hw.2 hc
      refine lv_iconst (v := 0) hx hb dX5_shares_17 (by decide) ?_
      refine lv_istore (lv' := [(4, .int 0), (0, .ref (a 0)), (1, .int r_1), (2, .int v2_3), (3, .int v3_3)]) hx hb dX5_shares_18 hl (by decide) rfl (fun ls hl => ?_)
      obtain ⟨I14, ⟨n14, hI14⟩, hJ14⟩ := hw
      have hl : lv_has ls 5 [(0, .ref (a 0)), (1, .int r_1), (2, .int v2_3), (3, .int v3_3), (4, .int 0)] := lv_sub hl [1, 2, 3, 4, 0] rfl
      suffices LP14 : ∀ (n : Nat) (v4_14 : Int32) (H : Heap) (locs : List Loc) (ls : Array Slot), I14 n v4_14 → Wd D A s.heap (mW cI cJ a σ_3) H locs → lv_has ls 5 [(0, .ref (a 0)), (1, .int r_1), (2, .int v2_3), (3, .int v3_3), (4, .int v4_14)] → W p l e rm_X5_shares s m args below meth c H locs 0 0 Q (F0 m 20 ls []) from LP14 n14 0 H locs ls hI14 hW hl
      intro n14
      induction n14 using Nat.strongRecOn with
      | ind n14 ih14 =>
        intro v4_14 H locs ls hIn hW hl
        have hw := hJ14 n14 v4_14 hIn
        refine lv_aload_n hx hb dX5_shares_20 rfl (lv_at hl 0 rfl) ?_
        refine lv_iload_n hx hb dX5_shares_21 rfl (lv_at hl 3 rfl) ?_
        refine lv_iload hx hb dX5_shares_22 (lv_at hl 4 rfl) ?_
        refine lv_iload_n hx hb dX5_shares_24 rfl (lv_at hl 2 rfl) ?_
        refine kV_Mi (As := [.int v3_3, .int v4_14, .int v2_3]) (rest := []) ⟨hx, hb, hml, hown, hts⟩ (ok_X5_with l D cI cJ a _ _ _ _ _ _ hw) (cwV 3 hts gX5_shares_X5_with rfl rfl rfl (by decide +kernel) ⟨Nat.le_of_ble_eq_true rfl, Nat.le_of_ble_eq_true rfl⟩) hK hW hA 0 rfl rfl rfl hl.1 rfl (Nat.le_of_ble_eq_true rfl) dX5_shares_25 ⟨Nat.le_of_ble_eq_true rfl, Nat.le_of_ble_eq_true rfl⟩ (fun r_15 _ H locs hw hW => ?_)
        refine lv_aload_n hx hb dX5_shares_28 rfl (lv_at hl 0 rfl) ?_
        refine va_get (D := D) (ci := 5) (v := .ref (a 3)) (C := RX5) (T := TX5) (N := 18) hx hb hts hinX5 hown hK hW.1 0 rfl rfl 14 (by decide) (hts _ (List.mem_of_getElem? (i := 1) rfl)) (fun _ h9 => h9) rfl dX5_shares_29 ?_
        refine lv_bipush (v := 64) hx hb dX5_shares_32 (by decide) ?_
        refine lv_iload_n hx hb dX5_shares_34 rfl (lv_at hl 3 rfl) ?_
        refine lv_imul hx hb dX5_shares_35 ?_
        refine lv_iload_n hx hb dX5_shares_36 rfl (lv_at hl 2 rfl) ?_
        refine lv_iadd hx hb dX5_shares_37 ?_
        refine va_iald hx hb hK hW.1 3 0 rfl rfl hw.1 dX5_shares_38 ?_
        have hw := hw.2
        refine lv_icmp_eq (tgt := 48) hx hb dX5_shares_39 (by decide) (fun hc => ?_) (fun hc => ?_)
        · have hw := hw.1 hc
          refine lv_aload_n hx hb dX5_shares_48 rfl (lv_at hl 0 rfl) ?_
          refine va_get (D := D) (ci := 5) (v := .ref (a 4)) (C := RX5) (T := TX5) (N := 18) hx hb hts hinX5 hown hK hW.1 0 rfl rfl 15 (by decide) (hts _ (List.mem_of_getElem? (i := 2) rfl)) (fun _ h9 => h9) rfl dX5_shares_49 ?_
          refine lv_iload_n hx hb dX5_shares_52 rfl (lv_at hl 3 rfl) ?_
          refine lv_iload hx hb dX5_shares_53 (lv_at hl 4 rfl) ?_
          refine lv_bipush (v := 6) hx hb dX5_shares_55 (by decide) ?_
          refine lv_icmp_ne (tgt := 64) hx hb dX5_shares_57 (by decide) (fun hc => ?_) (fun hc => ?_)
          · have hw := hw.1 hc
            refine lv_iload hx hb dX5_shares_64 (lv_at hl 4 rfl) ?_
            refine st_m_shared hx hb hK hW hw.1 dX5_shares_66 (fun σ_16 eσ_16 H locs hW => ?_)
            have hw := hw.2
            have hw := hw σ_16 eσ_16
            refine lv_iload_n hx hb dX5_shares_67 rfl (lv_at hl 2 rfl) ?_
            refine lv_iload hx hb dX5_shares_68 (lv_at hl 4 rfl) ?_
            refine lv_bipush (v := 6) hx hb dX5_shares_70 (by decide) ?_
            refine lv_icmp_ne (tgt := 79) hx hb dX5_shares_72 (by decide) (fun hc => ?_) (fun hc => ?_)
            · have hw := hw.1 hc
              refine lv_iconst (v := 1) hx hb dX5_shares_79 (by decide) ?_
              refine lv_iload hx hb dX5_shares_80 (lv_at hl 4 rfl) ?_
              refine lv_ishl hx hb dX5_shares_82 ?_
              refine lv_ior hx hb dX5_shares_83 ?_
              refine lv_topi (fun v2_17 ev2_17 => ?_)
              have hw := hw v2_17 ev2_17
              refine lv_istore_n (lv' := [(2, .int v2_17), (0, .ref (a 0)), (1, .int r_1), (3, .int v3_3), (4, .int v4_14)]) hx hb dX5_shares_84 rfl hl (by decide) rfl (fun ls hl => ?_)
              obtain ⟨v3_18, ev3_18⟩ : ∃ y : Int32, y = v3_3 + 1 := ⟨_, rfl⟩
              have hw := hw v3_18 ev3_18
              refine lv_iinc (v := v3_18) (lv' := [(3, .int v3_18), (2, .int v2_17), (0, .ref (a 0)), (1, .int r_1), (4, .int v4_14)]) hx hb dX5_shares_85 hl (k := 3) rfl (by rw [ev3_18]; rfl) (by decide) rfl (fun ls hl => ?_)
              refine lv_goto (tgt := 11) hx hb dX5_shares_88 (by decide) ?_
              obtain ⟨n9, hlt9, hI9⟩ := hw
              exact ih3 n9 hlt9 _ _ _ _ _ _ hI9 hW (lv_sub hl [2, 3, 1, 0] rfl)
            · have hw := hw.2 hc
              refine lv_iconst (v := 0) hx hb dX5_shares_75 (by decide) ?_
              refine lv_goto (tgt := 83) hx hb dX5_shares_76 (by decide) ?_
              refine lv_ior hx hb dX5_shares_83 ?_
              refine lv_topi (fun v2_19 ev2_19 => ?_)
              have hw := hw v2_19 ev2_19
              refine lv_istore_n (lv' := [(2, .int v2_19), (0, .ref (a 0)), (1, .int r_1), (3, .int v3_3), (4, .int v4_14)]) hx hb dX5_shares_84 rfl hl (by decide) rfl (fun ls hl => ?_)
              obtain ⟨v3_20, ev3_20⟩ : ∃ y : Int32, y = v3_3 + 1 := ⟨_, rfl⟩
              have hw := hw v3_20 ev3_20
              refine lv_iinc (v := v3_20) (lv' := [(3, .int v3_20), (2, .int v2_19), (0, .ref (a 0)), (1, .int r_1), (4, .int v4_14)]) hx hb dX5_shares_85 hl (k := 3) rfl (by rw [ev3_20]; rfl) (by decide) rfl (fun ls hl => ?_)
              refine lv_goto (tgt := 11) hx hb dX5_shares_88 (by decide) ?_
              obtain ⟨n9, hlt9, hI9⟩ := hw
              exact ih3 n9 hlt9 _ _ _ _ _ _ hI9 hW (lv_sub hl [2, 3, 1, 0] rfl)
          · have hw := hw.2 hc
            refine lv_iconst (v := (-1)) hx hb dX5_shares_60 (by decide) ?_
            refine lv_goto (tgt := 66) hx hb dX5_shares_61 (by decide) ?_
            refine st_m_shared hx hb hK hW hw.1 dX5_shares_66 (fun σ_21 eσ_21 H locs hW => ?_)
            have hw := hw.2
            have hw := hw σ_21 eσ_21
            refine lv_iload_n hx hb dX5_shares_67 rfl (lv_at hl 2 rfl) ?_
            refine lv_iload hx hb dX5_shares_68 (lv_at hl 4 rfl) ?_
            refine lv_bipush (v := 6) hx hb dX5_shares_70 (by decide) ?_
            refine lv_icmp_ne (tgt := 79) hx hb dX5_shares_72 (by decide) (fun hc => ?_) (fun hc => ?_)
            · have hw := hw.1 hc
              refine lv_iconst (v := 1) hx hb dX5_shares_79 (by decide) ?_
              refine lv_iload hx hb dX5_shares_80 (lv_at hl 4 rfl) ?_
              refine lv_ishl hx hb dX5_shares_82 ?_
              refine lv_ior hx hb dX5_shares_83 ?_
              refine lv_topi (fun v2_22 ev2_22 => ?_)
              have hw := hw v2_22 ev2_22
              refine lv_istore_n (lv' := [(2, .int v2_22), (0, .ref (a 0)), (1, .int r_1), (3, .int v3_3), (4, .int v4_14)]) hx hb dX5_shares_84 rfl hl (by decide) rfl (fun ls hl => ?_)
              obtain ⟨v3_23, ev3_23⟩ : ∃ y : Int32, y = v3_3 + 1 := ⟨_, rfl⟩
              have hw := hw v3_23 ev3_23
              refine lv_iinc (v := v3_23) (lv' := [(3, .int v3_23), (2, .int v2_22), (0, .ref (a 0)), (1, .int r_1), (4, .int v4_14)]) hx hb dX5_shares_85 hl (k := 3) rfl (by rw [ev3_23]; rfl) (by decide) rfl (fun ls hl => ?_)
              refine lv_goto (tgt := 11) hx hb dX5_shares_88 (by decide) ?_
              obtain ⟨n9, hlt9, hI9⟩ := hw
              exact ih3 n9 hlt9 _ _ _ _ _ _ hI9 hW (lv_sub hl [2, 3, 1, 0] rfl)
            · have hw := hw.2 hc
              refine lv_iconst (v := 0) hx hb dX5_shares_75 (by decide) ?_
              refine lv_goto (tgt := 83) hx hb dX5_shares_76 (by decide) ?_
              refine lv_ior hx hb dX5_shares_83 ?_
              refine lv_topi (fun v2_24 ev2_24 => ?_)
              have hw := hw v2_24 ev2_24
              refine lv_istore_n (lv' := [(2, .int v2_24), (0, .ref (a 0)), (1, .int r_1), (3, .int v3_3), (4, .int v4_14)]) hx hb dX5_shares_84 rfl hl (by decide) rfl (fun ls hl => ?_)
              obtain ⟨v3_25, ev3_25⟩ : ∃ y : Int32, y = v3_3 + 1 := ⟨_, rfl⟩
              have hw := hw v3_25 ev3_25
              refine lv_iinc (v := v3_25) (lv' := [(3, .int v3_25), (2, .int v2_24), (0, .ref (a 0)), (1, .int r_1), (4, .int v4_14)]) hx hb dX5_shares_85 hl (k := 3) rfl (by rw [ev3_25]; rfl) (by decide) rfl (fun ls hl => ?_)
              refine lv_goto (tgt := 11) hx hb dX5_shares_88 (by decide) ?_
              obtain ⟨n9, hlt9, hI9⟩ := hw
              exact ih3 n9 hlt9 _ _ _ _ _ _ hI9 hW (lv_sub hl [2, 3, 1, 0] rfl)
        · have hw := hw.2 hc
          obtain ⟨v4_26, ev4_26⟩ : ∃ y : Int32, y = v4_14 + 1 := ⟨_, rfl⟩
          have hw := hw v4_26 ev4_26
          refine lv_iinc (v := v4_26) (lv' := [(4, .int v4_26), (0, .ref (a 0)), (1, .int r_1), (2, .int v2_3), (3, .int v3_3)]) hx hb dX5_shares_42 hl (k := 4) rfl (by rw [ev4_26]; rfl) (by decide) rfl (fun ls hl => ?_)
          refine lv_goto (tgt := 20) hx hb dX5_shares_45 (by decide) ?_
          obtain ⟨n9, hlt9, hI9⟩ := hw
          exact ih14 n9 hlt9 _ _ _ _ hI9 hW (lv_sub hl [1, 2, 3, 4, 0] rfl)
def wp_X5_gets (σ : MS) (p1 : Int32) (post : Int32 → Prop) : Prop := ∃ I1 : Nat → Int32 → Prop, (∃ n : Nat, I1 n 0) ∧ ∀ (n1 : Nat) (v2_1 : Int32), I1 n1 v2_1 → ((6 ≤ v2_1 → post (-1)) ∧ (¬ 6 ≤ v2_1 → vp_in v2_1 6 ∧ ((¬ ((m_shared σ) (v2_1).toNatClampNeg) = p1 → ∀ v2_2 : Int32, v2_2 = v2_1 + 1 → ∃ n' : Nat, n' < n1 ∧ I1 n' v2_2) ∧ (((m_shared σ) (v2_1).toNatClampNeg) = p1 → post v2_1))))
abbrev rm_X5_gets : Room := { frames := 0, cells := 0, slots := 0, locals := 0 }
theorem in_X5_gets_X5 : ∀ w ∈ wsX50, w ∈ wsX5_gets := fun w h => List.mem_cons_of_mem _ (List.mem_append_right _ (h))
set_option maxHeartbeats 4000000 in
set_option maxRecDepth 100000 in
theorem ok_X5_gets (l : Launch) (D : va_G) (cI cJ : ClassId) (a : Nat → Nat) (sz : Nat) (σ : MS) (p1 : Int32) (post : Int32 → Prop) (hw : wp_X5_gets σ p1 post) : Mi l yX5_gets wsX5_gets rm_X5_gets [.ref (a 0), .int p1] D (tysIJ cI cJ) (mW cI cJ a σ) sz (fun r (_ : Unit) => post r) (fun _ => mW cI cJ a σ) := by
  refine s_Mi (by decide) rfl (Nat.le_of_ble_eq_true rfl) ?_
  intro p e s m args below meth c A Q hx hb hml hts hown hin hK hA hret H locs ls hW hl
  have hown : s.vm.findClass RX5 = some m.cls := hown
  have hl : lv_has ls 3 [(0, .ref (a 0)), (1, .int p1)] := hl
  have hinX5 := in_X5_gets_X5
  refine lv_iconst (v := 0) hx hb dX5_gets_0 (by decide) ?_
  refine lv_istore_n (lv' := [(2, .int 0), (0, .ref (a 0)), (1, .int p1)]) hx hb dX5_gets_1 rfl hl (by decide) rfl (fun ls hl => ?_)
  obtain ⟨I1, ⟨n1, hI1⟩, hJ1⟩ := hw
  have hl : lv_has ls 3 [(0, .ref (a 0)), (1, .int p1), (2, .int 0)] := lv_sub hl [1, 2, 0] rfl
  suffices LP1 : ∀ (n : Nat) (v2_1 : Int32) (H : Heap) (locs : List Loc) (ls : Array Slot), I1 n v2_1 → Wd D A s.heap (mW cI cJ a σ) H locs → lv_has ls 3 [(0, .ref (a 0)), (1, .int p1), (2, .int v2_1)] → W p l e rm_X5_gets s m args below meth c H locs 0 0 Q (F0 m 2 ls []) from LP1 n1 0 H locs ls hI1 hW hl
  intro n1
  induction n1 using Nat.strongRecOn with
  | ind n1 ih1 =>
    intro v2_1 H locs ls hIn hW hl
    have hw := hJ1 n1 v2_1 hIn
    refine lv_iload_n hx hb dX5_gets_2 rfl (lv_at hl 2 rfl) ?_
    refine lv_bipush (v := 6) hx hb dX5_gets_3 (by decide) ?_
    refine lv_icmp_ge (tgt := 26) hx hb dX5_gets_5 (by decide) (fun hc => ?_) (fun hc => ?_)
    · have hw := hw.1 hc
      refine lv_iconst (v := (-1)) hx hb dX5_gets_26 (by decide) ?_
      exact hret _ () _ _ _ _ hw hW dX5_gets_27
    · have hw := hw.2 hc
      refine lv_aload_n hx hb dX5_gets_8 rfl (lv_at hl 0 rfl) ?_
      refine va_get (D := D) (ci := 5) (v := .ref (a 4)) (C := RX5) (T := TX5) (N := 18) hx hb hts hinX5 hown hK hW.1 0 rfl rfl 15 (by decide) (hts _ (List.mem_of_getElem? (i := 1) rfl)) (fun _ h9 => h9) rfl dX5_gets_9 ?_
      refine lv_iload_n hx hb dX5_gets_12 rfl (lv_at hl 2 rfl) ?_
      refine va_iald hx hb hK hW.1 4 0 rfl rfl hw.1 dX5_gets_13 ?_
      have hw := hw.2
      refine lv_iload_n hx hb dX5_gets_14 rfl (lv_at hl 1 rfl) ?_
      refine lv_icmp_ne (tgt := 20) hx hb dX5_gets_15 (by decide) (fun hc => ?_) (fun hc => ?_)
      · have hw := hw.1 hc
        obtain ⟨v2_2, ev2_2⟩ : ∃ y : Int32, y = v2_1 + 1 := ⟨_, rfl⟩
        have hw := hw v2_2 ev2_2
        refine lv_iinc (v := v2_2) (lv' := [(2, .int v2_2), (0, .ref (a 0)), (1, .int p1)]) hx hb dX5_gets_20 hl (k := 2) rfl (by rw [ev2_2]; rfl) (by decide) rfl (fun ls hl => ?_)
        refine lv_goto (tgt := 2) hx hb dX5_gets_23 (by decide) ?_
        obtain ⟨n9, hlt9, hI9⟩ := hw
        exact ih1 n9 hlt9 _ _ _ _ hI9 hW (lv_sub hl [1, 2, 0] rfl)
      · have hw := hw.2 hc
        refine lv_iload_n hx hb dX5_gets_18 rfl (lv_at hl 2 rfl) ?_
        exact hret _ () _ _ _ _ hw hW dX5_gets_19
def wp_X5_reason (σ : MS) (p1 : Int32) (p2 : Int32) (p3 : Int32) (post : Int32 → Prop) : Prop := ((¬ ((m_s σ) (2 : Int32).toNatClampNeg) = 1 → wp_X5_isBid σ p1 p2 (fun r_1 => ((r_1 = 0 → wp_X5_of σ p2 0 (fun r_2 => ((r_2 ≤ p3 → wp_X5_has σ p1 0 (fun r_3 => ((p3 ≤ r_3 → post 0) ∧ (¬ p3 ≤ r_3 → post 4)))) ∧ (¬ r_2 ≤ p3 → post 3)))) ∧ (¬ r_1 = 0 → post 2)))) ∧ (((m_s σ) (2 : Int32).toNatClampNeg) = 1 → post 1))
abbrev rm_X5_reason : Room := { frames := 2, cells := 0, slots := 0, locals := 44 }
theorem in_X5_reason_X5 : ∀ w ∈ wsX50, w ∈ wsX5_reason := fun w h => List.mem_cons_of_mem _ (List.mem_append_right _ (h))
set_option maxHeartbeats 4000000 in
set_option maxRecDepth 100000 in
theorem ok_X5_reason (l : Launch) (D : va_G) (cI cJ : ClassId) (a : Nat → Nat) (sz : Nat) (σ : MS) (p1 : Int32) (p2 : Int32) (p3 : Int32) (post : Int32 → Prop) (hw : wp_X5_reason σ p1 p2 p3 post) : Mi l yX5_reason wsX5_reason rm_X5_reason [.ref (a 0), .int p1, .int p2, .int p3] D (tysIJ cI cJ) (mW cI cJ a σ) sz (fun r (_ : Unit) => post r) (fun _ => mW cI cJ a σ) := by
  refine s_Mi (by decide) rfl (Nat.le_of_ble_eq_true rfl) ?_
  intro p e s m args below meth c A Q hx hb hml hts hown hin hK hA hret H locs ls hW hl
  have hown : s.vm.findClass RX5 = some m.cls := hown
  have hl : lv_has ls 4 [(0, .ref (a 0)), (1, .int p1), (2, .int p2), (3, .int p3)] := hl
  have hinX5 := in_X5_reason_X5
  refine lv_aload_n hx hb dX5_reason_0 rfl (lv_at hl 0 rfl) ?_
  refine va_get (D := D) (ci := 5) (v := .ref (a 1)) (C := RX5) (T := TX5) (N := 18) hx hb hts hinX5 hown hK hW.1 0 rfl rfl 1 (by decide) (hts _ (List.mem_of_getElem? (i := 1) rfl)) (fun _ h9 => h9) rfl dX5_reason_1 ?_
  refine lv_iconst (v := 2) hx hb dX5_reason_4 (by decide) ?_
  refine va_iald hx hb hK hW.1 1 0 rfl rfl (by unfold vp_in; decide) dX5_reason_5 ?_
  refine lv_iconst (v := 1) hx hb dX5_reason_6 (by decide) ?_
  refine lv_icmp_ne (tgt := 12) hx hb dX5_reason_7 (by decide) (fun hc => ?_) (fun hc => ?_)
  · have hw := hw.1 hc
    refine lv_aload_n hx hb dX5_reason_12 rfl (lv_at hl 0 rfl) ?_
    refine lv_iload_n hx hb dX5_reason_13 rfl (lv_at hl 1 rfl) ?_
    refine lv_iload_n hx hb dX5_reason_14 rfl (lv_at hl 2 rfl) ?_
    refine kV_Mi (As := [.int p1, .int p2]) (rest := []) ⟨hx, hb, hml, hown, hts⟩ (ok_X5_isBid l D cI cJ a _ _ _ _ _ hw) (cwV 2 hts gX5_reason_X5_isBid rfl rfl rfl (by decide +kernel) ⟨Nat.le_of_ble_eq_true rfl, Nat.le_of_ble_eq_true rfl⟩) hK hW hA 0 rfl rfl rfl hl.1 rfl (Nat.le_of_ble_eq_true rfl) dX5_reason_15 ⟨Nat.le_of_ble_eq_true rfl, Nat.le_of_ble_eq_true rfl⟩ (fun r_1 _ H locs hw hW => ?_)
    refine lv_if_eq (tgt := 23) hx hb dX5_reason_18 (by decide) (fun hc => ?_) (fun hc => ?_)
    · have hw := hw.1 hc
      refine lv_iload_n hx hb dX5_reason_23 rfl (lv_at hl 3 rfl) ?_
      refine lv_aload_n hx hb dX5_reason_24 rfl (lv_at hl 0 rfl) ?_
      refine lv_iload_n hx hb dX5_reason_25 rfl (lv_at hl 2 rfl) ?_
      refine lv_iconst (v := 0) hx hb dX5_reason_26 (by decide) ?_
      refine kV_Mi (As := [.int p2, .int 0]) (rest := [.int p3]) ⟨hx, hb, hml, hown, hts⟩ (ok_X5_of l D cI cJ a _ _ _ _ _ hw) (cwV 2 hts gX5_reason_X5_of rfl rfl rfl (by decide +kernel) ⟨Nat.le_of_ble_eq_true rfl, Nat.le_of_ble_eq_true rfl⟩) hK hW hA 0 rfl rfl rfl hl.1 rfl (Nat.le_of_ble_eq_true rfl) dX5_reason_27 ⟨Nat.le_of_ble_eq_true rfl, Nat.le_of_ble_eq_true rfl⟩ (fun r_2 _ H locs hw hW => ?_)
      refine lv_icmp_ge (tgt := 37) hx hb dX5_reason_30 (by decide) (fun hc => ?_) (fun hc => ?_)
      · have hw := hw.1 hc
        refine lv_aload_n hx hb dX5_reason_37 rfl (lv_at hl 0 rfl) ?_
        refine lv_iload_n hx hb dX5_reason_38 rfl (lv_at hl 1 rfl) ?_
        refine lv_iconst (v := 0) hx hb dX5_reason_39 (by decide) ?_
        refine kV_Mi (As := [.int p1, .int 0]) (rest := []) ⟨hx, hb, hml, hown, hts⟩ (ok_X5_has l D cI cJ a _ _ _ _ _ hw) (cwV 2 hts gX5_reason_X5_has rfl rfl rfl (by decide +kernel) ⟨Nat.le_of_ble_eq_true rfl, Nat.le_of_ble_eq_true rfl⟩) hK hW hA 0 rfl rfl rfl hl.1 rfl (Nat.le_of_ble_eq_true rfl) dX5_reason_40 ⟨Nat.le_of_ble_eq_true rfl, Nat.le_of_ble_eq_true rfl⟩ (fun r_3 _ H locs hw hW => ?_)
        refine lv_iload_n hx hb dX5_reason_43 rfl (lv_at hl 3 rfl) ?_
        refine lv_icmp_ge (tgt := 51) hx hb dX5_reason_44 (by decide) (fun hc => ?_) (fun hc => ?_)
        · have hw := hw.1 hc
          refine lv_iconst (v := 0) hx hb dX5_reason_51 (by decide) ?_
          exact hret _ () _ _ _ _ hw hW dX5_reason_52
        · have hw := hw.2 hc
          refine lv_iconst (v := 4) hx hb dX5_reason_47 (by decide) ?_
          refine lv_goto (tgt := 52) hx hb dX5_reason_48 (by decide) ?_
          exact hret _ () _ _ _ _ hw hW dX5_reason_52
      · have hw := hw.2 hc
        refine lv_iconst (v := 3) hx hb dX5_reason_33 (by decide) ?_
        refine lv_goto (tgt := 52) hx hb dX5_reason_34 (by decide) ?_
        exact hret _ () _ _ _ _ hw hW dX5_reason_52
    · have hw := hw.2 hc
      refine lv_iconst (v := 2) hx hb dX5_reason_21 (by decide) ?_
      exact hret _ () _ _ _ _ hw hW dX5_reason_22
  · have hw := hw.2 hc
    refine lv_iconst (v := 1) hx hb dX5_reason_10 (by decide) ?_
    exact hret _ () _ _ _ _ hw hW dX5_reason_11
def wp_X5_fee (σ : MS) (p1 : Int32) (p2 : Int32) (post : Int32 → Prop) : Prop := wp_X5_bidAt σ p1 p2 (fun r_1 => vp_in (r_1 + 1) 1416 ∧ post (((m_s σ) (12 : Int32).toNatClampNeg) + (((m_s σ) (13 : Int32).toNatClampNeg) * (((m_s σ) (1 : Int32).toNatClampNeg) - ((m_s σ) (r_1 + 1).toNatClampNeg)))))
abbrev rm_X5_fee : Room := { frames := 1, cells := 0, slots := 0, locals := 22 }
theorem in_X5_fee_X5 : ∀ w ∈ wsX50, w ∈ wsX5_fee := fun w h => List.mem_cons_of_mem _ (List.mem_append_right _ (h))
set_option maxHeartbeats 4000000 in
set_option maxRecDepth 100000 in
theorem ok_X5_fee (l : Launch) (D : va_G) (cI cJ : ClassId) (a : Nat → Nat) (sz : Nat) (σ : MS) (p1 : Int32) (p2 : Int32) (post : Int32 → Prop) (hw : wp_X5_fee σ p1 p2 post) : Mi l yX5_fee wsX5_fee rm_X5_fee [.ref (a 0), .int p1, .int p2] D (tysIJ cI cJ) (mW cI cJ a σ) sz (fun r (_ : Unit) => post r) (fun _ => mW cI cJ a σ) := by
  refine s_Mi (by decide) rfl (Nat.le_of_ble_eq_true rfl) ?_
  intro p e s m args below meth c A Q hx hb hml hts hown hin hK hA hret H locs ls hW hl
  have hown : s.vm.findClass RX5 = some m.cls := hown
  have hl : lv_has ls 3 [(0, .ref (a 0)), (1, .int p1), (2, .int p2)] := hl
  have hinX5 := in_X5_fee_X5
  refine lv_aload_n hx hb dX5_fee_0 rfl (lv_at hl 0 rfl) ?_
  refine va_get (D := D) (ci := 5) (v := .ref (a 1)) (C := RX5) (T := TX5) (N := 18) hx hb hts hinX5 hown hK hW.1 0 rfl rfl 1 (by decide) (hts _ (List.mem_of_getElem? (i := 1) rfl)) (fun _ h9 => h9) rfl dX5_fee_1 ?_
  refine lv_bipush (v := 12) hx hb dX5_fee_4 (by decide) ?_
  refine va_iald hx hb hK hW.1 1 0 rfl rfl (by unfold vp_in; decide) dX5_fee_6 ?_
  refine lv_aload_n hx hb dX5_fee_7 rfl (lv_at hl 0 rfl) ?_
  refine va_get (D := D) (ci := 5) (v := .ref (a 1)) (C := RX5) (T := TX5) (N := 18) hx hb hts hinX5 hown hK hW.1 0 rfl rfl 1 (by decide) (hts _ (List.mem_of_getElem? (i := 1) rfl)) (fun _ h9 => h9) rfl dX5_fee_8 ?_
  refine lv_bipush (v := 13) hx hb dX5_fee_11 (by decide) ?_
  refine va_iald hx hb hK hW.1 1 0 rfl rfl (by unfold vp_in; decide) dX5_fee_13 ?_
  refine lv_aload_n hx hb dX5_fee_14 rfl (lv_at hl 0 rfl) ?_
  refine va_get (D := D) (ci := 5) (v := .ref (a 1)) (C := RX5) (T := TX5) (N := 18) hx hb hts hinX5 hown hK hW.1 0 rfl rfl 1 (by decide) (hts _ (List.mem_of_getElem? (i := 1) rfl)) (fun _ h9 => h9) rfl dX5_fee_15 ?_
  refine lv_iconst (v := 1) hx hb dX5_fee_18 (by decide) ?_
  refine va_iald hx hb hK hW.1 1 0 rfl rfl (by unfold vp_in; decide) dX5_fee_19 ?_
  refine lv_aload_n hx hb dX5_fee_20 rfl (lv_at hl 0 rfl) ?_
  refine va_get (D := D) (ci := 5) (v := .ref (a 1)) (C := RX5) (T := TX5) (N := 18) hx hb hts hinX5 hown hK hW.1 0 rfl rfl 1 (by decide) (hts _ (List.mem_of_getElem? (i := 1) rfl)) (fun _ h9 => h9) rfl dX5_fee_21 ?_
  refine lv_aload_n hx hb dX5_fee_24 rfl (lv_at hl 0 rfl) ?_
  refine lv_iload_n hx hb dX5_fee_25 rfl (lv_at hl 1 rfl) ?_
  refine lv_iload_n hx hb dX5_fee_26 rfl (lv_at hl 2 rfl) ?_
  refine kV_Mi (As := [.int p1, .int p2]) (rest := [.ref (a 1), .int ((m_s σ) (1 : Int32).toNatClampNeg), .int ((m_s σ) (13 : Int32).toNatClampNeg), .int ((m_s σ) (12 : Int32).toNatClampNeg)]) ⟨hx, hb, hml, hown, hts⟩ (ok_X5_bidAt l D cI cJ a _ _ _ _ _ hw) (cwV 2 hts gX5_fee_X5_bidAt rfl rfl rfl (by decide +kernel) ⟨Nat.le_of_ble_eq_true rfl, Nat.le_of_ble_eq_true rfl⟩) hK hW hA 0 rfl rfl rfl hl.1 rfl (Nat.le_of_ble_eq_true rfl) dX5_fee_27 ⟨Nat.le_of_ble_eq_true rfl, Nat.le_of_ble_eq_true rfl⟩ (fun r_1 _ H locs hw hW => ?_)
  refine lv_iconst (v := 1) hx hb dX5_fee_30 (by decide) ?_
  refine lv_iadd hx hb dX5_fee_31 ?_
  refine va_iald hx hb hK hW.1 1 0 rfl rfl hw.1 dX5_fee_32 ?_
  have hw := hw.2
  refine lv_isub hx hb dX5_fee_33 ?_
  refine lv_imul hx hb dX5_fee_34 ?_
  refine lv_iadd hx hb dX5_fee_35 ?_
  exact hret _ () _ _ _ _ hw hW dX5_fee_36
def wp_X5_whyKept (σ : MS) (p1 : Int32) (p2 : Int32) (post : Int32 → Prop) : Prop := ((¬ ((m_s σ) (2 : Int32).toNatClampNeg) = 1 → wp_X5_isBid σ p1 p2 (fun r_1 => ((¬ r_1 = 0 → wp_X5_has σ p1 0 (fun r_2 => wp_X5_fee σ p1 p2 (fun r_3 => ((r_3 ≤ r_2 → post 0) ∧ (¬ r_3 ≤ r_2 → post 3))))) ∧ (r_1 = 0 → post 2)))) ∧ (((m_s σ) (2 : Int32).toNatClampNeg) = 1 → post 1))
abbrev rm_X5_whyKept : Room := { frames := 2, cells := 0, slots := 0, locals := 44 }
theorem in_X5_whyKept_X5 : ∀ w ∈ wsX50, w ∈ wsX5_whyKept := fun w h => List.mem_cons_of_mem _ (List.mem_append_right _ (h))
set_option maxHeartbeats 4000000 in
set_option maxRecDepth 100000 in
theorem ok_X5_whyKept (l : Launch) (D : va_G) (cI cJ : ClassId) (a : Nat → Nat) (sz : Nat) (σ : MS) (p1 : Int32) (p2 : Int32) (post : Int32 → Prop) (hw : wp_X5_whyKept σ p1 p2 post) : Mi l yX5_whyKept wsX5_whyKept rm_X5_whyKept [.ref (a 0), .int p1, .int p2] D (tysIJ cI cJ) (mW cI cJ a σ) sz (fun r (_ : Unit) => post r) (fun _ => mW cI cJ a σ) := by
  refine s_Mi (by decide) rfl (Nat.le_of_ble_eq_true rfl) ?_
  intro p e s m args below meth c A Q hx hb hml hts hown hin hK hA hret H locs ls hW hl
  have hown : s.vm.findClass RX5 = some m.cls := hown
  have hl : lv_has ls 3 [(0, .ref (a 0)), (1, .int p1), (2, .int p2)] := hl
  have hinX5 := in_X5_whyKept_X5
  refine lv_aload_n hx hb dX5_whyKept_0 rfl (lv_at hl 0 rfl) ?_
  refine va_get (D := D) (ci := 5) (v := .ref (a 1)) (C := RX5) (T := TX5) (N := 18) hx hb hts hinX5 hown hK hW.1 0 rfl rfl 1 (by decide) (hts _ (List.mem_of_getElem? (i := 1) rfl)) (fun _ h9 => h9) rfl dX5_whyKept_1 ?_
  refine lv_iconst (v := 2) hx hb dX5_whyKept_4 (by decide) ?_
  refine va_iald hx hb hK hW.1 1 0 rfl rfl (by unfold vp_in; decide) dX5_whyKept_5 ?_
  refine lv_iconst (v := 1) hx hb dX5_whyKept_6 (by decide) ?_
  refine lv_icmp_ne (tgt := 12) hx hb dX5_whyKept_7 (by decide) (fun hc => ?_) (fun hc => ?_)
  · have hw := hw.1 hc
    refine lv_aload_n hx hb dX5_whyKept_12 rfl (lv_at hl 0 rfl) ?_
    refine lv_iload_n hx hb dX5_whyKept_13 rfl (lv_at hl 1 rfl) ?_
    refine lv_iload_n hx hb dX5_whyKept_14 rfl (lv_at hl 2 rfl) ?_
    refine kV_Mi (As := [.int p1, .int p2]) (rest := []) ⟨hx, hb, hml, hown, hts⟩ (ok_X5_isBid l D cI cJ a _ _ _ _ _ hw) (cwV 2 hts gX5_whyKept_X5_isBid rfl rfl rfl (by decide +kernel) ⟨Nat.le_of_ble_eq_true rfl, Nat.le_of_ble_eq_true rfl⟩) hK hW hA 0 rfl rfl rfl hl.1 rfl (Nat.le_of_ble_eq_true rfl) dX5_whyKept_15 ⟨Nat.le_of_ble_eq_true rfl, Nat.le_of_ble_eq_true rfl⟩ (fun r_1 _ H locs hw hW => ?_)
    refine lv_if_ne (tgt := 25) hx hb dX5_whyKept_18 (by decide) (fun hc => ?_) (fun hc => ?_)
    · have hw := hw.1 hc
      refine lv_aload_n hx hb dX5_whyKept_25 rfl (lv_at hl 0 rfl) ?_
      refine lv_iload_n hx hb dX5_whyKept_26 rfl (lv_at hl 1 rfl) ?_
      refine lv_iconst (v := 0) hx hb dX5_whyKept_27 (by decide) ?_
      refine kV_Mi (As := [.int p1, .int 0]) (rest := []) ⟨hx, hb, hml, hown, hts⟩ (ok_X5_has l D cI cJ a _ _ _ _ _ hw) (cwV 2 hts gX5_whyKept_X5_has rfl rfl rfl (by decide +kernel) ⟨Nat.le_of_ble_eq_true rfl, Nat.le_of_ble_eq_true rfl⟩) hK hW hA 0 rfl rfl rfl hl.1 rfl (Nat.le_of_ble_eq_true rfl) dX5_whyKept_28 ⟨Nat.le_of_ble_eq_true rfl, Nat.le_of_ble_eq_true rfl⟩ (fun r_2 _ H locs hw hW => ?_)
      refine lv_aload_n hx hb dX5_whyKept_31 rfl (lv_at hl 0 rfl) ?_
      refine lv_iload_n hx hb dX5_whyKept_32 rfl (lv_at hl 1 rfl) ?_
      refine lv_iload_n hx hb dX5_whyKept_33 rfl (lv_at hl 2 rfl) ?_
      refine kV_Mi (As := [.int p1, .int p2]) (rest := [.int r_2]) ⟨hx, hb, hml, hown, hts⟩ (ok_X5_fee l D cI cJ a _ _ _ _ _ hw) (cwV 2 hts gX5_whyKept_X5_fee rfl rfl rfl (by decide +kernel) ⟨Nat.le_of_ble_eq_true rfl, Nat.le_of_ble_eq_true rfl⟩) hK hW hA 0 rfl rfl rfl hl.1 rfl (Nat.le_of_ble_eq_true rfl) dX5_whyKept_34 ⟨Nat.le_of_ble_eq_true rfl, Nat.le_of_ble_eq_true rfl⟩ (fun r_3 _ H locs hw hW => ?_)
      refine lv_icmp_ge (tgt := 44) hx hb dX5_whyKept_37 (by decide) (fun hc => ?_) (fun hc => ?_)
      · have hw := hw.1 hc
        refine lv_iconst (v := 0) hx hb dX5_whyKept_44 (by decide) ?_
        exact hret _ () _ _ _ _ hw hW dX5_whyKept_45
      · have hw := hw.2 hc
        refine lv_iconst (v := 3) hx hb dX5_whyKept_40 (by decide) ?_
        refine lv_goto (tgt := 45) hx hb dX5_whyKept_41 (by decide) ?_
        exact hret _ () _ _ _ _ hw hW dX5_whyKept_45
    · have hw := hw.2 hc
      refine lv_iconst (v := 2) hx hb dX5_whyKept_21 (by decide) ?_
      refine lv_goto (tgt := 45) hx hb dX5_whyKept_22 (by decide) ?_
      exact hret _ () _ _ _ _ hw hW dX5_whyKept_45
  · have hw := hw.2 hc
    refine lv_iconst (v := 1) hx hb dX5_whyKept_10 (by decide) ?_
    exact hret _ () _ _ _ _ hw hW dX5_whyKept_11
def wp_X5_seals (σ : MS) (p1 : Int32) (p2 : Int32) (p3 : Int32) (post : Int32 → MS → Prop) : Prop := wp_X5_bidAt σ p1 p2 (fun r_1 => vp_in r_1 1416 ∧ ∀ σ_2 : MS, σ_2 = ms_s σ (upd (m_s σ) (r_1).toNatClampNeg (((((73 * p3) + (41 * ((m_s σ) (11 : Int32).toNatClampNeg))) + (6 * p1)) + p2) - ((((73 * p3) + (41 * ((m_s σ) (11 : Int32).toNatClampNeg))) + (6 * p1)) + p2) / 4096 * 4096)) → vp_in (r_1 + 1) 1416 ∧ ∀ σ_3 : MS, σ_3 = ms_s σ_2 (upd (m_s σ_2) (r_1 + 1).toNatClampNeg ((m_s σ_2) (1 : Int32).toNatClampNeg)) → vp_in (r_1 + 2) 1416 ∧ ∀ σ_4 : MS, σ_4 = ms_s σ_3 (upd (m_s σ_3) (r_1 + 2).toNatClampNeg p3) → ∀ σ_5 : MS, σ_5 = ms_s σ_4 (upd (m_s σ_4) (11 : Int32).toNatClampNeg (((m_s σ_4) (11 : Int32).toNatClampNeg) + 1)) → ∀ σ_6 : MS, σ_6 = ms_s σ_5 (upd (m_s σ_5) (9 : Int32).toNatClampNeg (((m_s σ_5) (9 : Int32).toNatClampNeg) + 1)) → vp_in r_1 1416 ∧ post ((m_s σ_6) (r_1).toNatClampNeg) σ_6)
abbrev rm_X5_seals : Room := { frames := 1, cells := 0, slots := 0, locals := 22 }
theorem in_X5_seals_X5 : ∀ w ∈ wsX50, w ∈ wsX5_seals := fun w h => List.mem_cons_of_mem _ (List.mem_append_right _ (h))
set_option maxHeartbeats 4000000 in
set_option maxRecDepth 100000 in
theorem ok_X5_seals (l : Launch) (D : va_G) (cI cJ : ClassId) (a : Nat → Nat) (sz : Nat) (σ : MS) (p1 : Int32) (p2 : Int32) (p3 : Int32) (post : Int32 → MS → Prop) (hw : wp_X5_seals σ p1 p2 p3 post) : Mi l yX5_seals wsX5_seals rm_X5_seals [.ref (a 0), .int p1, .int p2, .int p3] D (tysIJ cI cJ) (mW cI cJ a σ) sz post (mW cI cJ a) := by
  refine s_Mi (by decide) rfl (Nat.le_of_ble_eq_true rfl) ?_
  intro p e s m args below meth c A Q hx hb hml hts hown hin hK hA hret H locs ls hW hl
  have hown : s.vm.findClass RX5 = some m.cls := hown
  have hl : lv_has ls 5 [(0, .ref (a 0)), (1, .int p1), (2, .int p2), (3, .int p3)] := hl
  have hinX5 := in_X5_seals_X5
  refine lv_aload_n hx hb dX5_seals_0 rfl (lv_at hl 0 rfl) ?_
  refine lv_iload_n hx hb dX5_seals_1 rfl (lv_at hl 1 rfl) ?_
  refine lv_iload_n hx hb dX5_seals_2 rfl (lv_at hl 2 rfl) ?_
  refine kV_Mi (As := [.int p1, .int p2]) (rest := []) ⟨hx, hb, hml, hown, hts⟩ (ok_X5_bidAt l D cI cJ a _ _ _ _ _ hw) (cwV 2 hts gX5_seals_X5_bidAt rfl rfl rfl (by decide +kernel) ⟨Nat.le_of_ble_eq_true rfl, Nat.le_of_ble_eq_true rfl⟩) hK hW hA 0 rfl rfl rfl hl.1 rfl (Nat.le_of_ble_eq_true rfl) dX5_seals_3 ⟨Nat.le_of_ble_eq_true rfl, Nat.le_of_ble_eq_true rfl⟩ (fun r_1 _ H locs hw hW => ?_)
  refine lv_istore (lv' := [(4, .int r_1), (0, .ref (a 0)), (1, .int p1), (2, .int p2), (3, .int p3)]) hx hb dX5_seals_6 hl (by decide) rfl (fun ls hl => ?_)
  refine lv_aload_n hx hb dX5_seals_8 rfl (lv_at hl 1 rfl) ?_
  refine va_get (D := D) (ci := 5) (v := .ref (a 1)) (C := RX5) (T := TX5) (N := 18) hx hb hts hinX5 hown hK hW.1 0 rfl rfl 1 (by decide) (hts _ (List.mem_of_getElem? (i := 1) rfl)) (fun _ h9 => h9) rfl dX5_seals_9 ?_
  refine lv_iload hx hb dX5_seals_12 (lv_at hl 0 rfl) ?_
  refine lv_bipush (v := 73) hx hb dX5_seals_14 (by decide) ?_
  refine lv_iload_n hx hb dX5_seals_16 rfl (lv_at hl 4 rfl) ?_
  refine lv_imul hx hb dX5_seals_17 ?_
  refine lv_bipush (v := 41) hx hb dX5_seals_18 (by decide) ?_
  refine lv_aload_n hx hb dX5_seals_20 rfl (lv_at hl 1 rfl) ?_
  refine va_get (D := D) (ci := 5) (v := .ref (a 1)) (C := RX5) (T := TX5) (N := 18) hx hb hts hinX5 hown hK hW.1 0 rfl rfl 1 (by decide) (hts _ (List.mem_of_getElem? (i := 1) rfl)) (fun _ h9 => h9) rfl dX5_seals_21 ?_
  refine lv_bipush (v := 11) hx hb dX5_seals_24 (by decide) ?_
  refine va_iald hx hb hK hW.1 1 0 rfl rfl (by unfold vp_in; decide) dX5_seals_26 ?_
  refine lv_imul hx hb dX5_seals_27 ?_
  refine lv_iadd hx hb dX5_seals_28 ?_
  refine lv_bipush (v := 6) hx hb dX5_seals_29 (by decide) ?_
  refine lv_iload_n hx hb dX5_seals_31 rfl (lv_at hl 2 rfl) ?_
  refine lv_imul hx hb dX5_seals_32 ?_
  refine lv_iadd hx hb dX5_seals_33 ?_
  refine lv_iload_n hx hb dX5_seals_34 rfl (lv_at hl 3 rfl) ?_
  refine lv_iadd hx hb dX5_seals_35 ?_
  refine lv_sipush (v := 4096) hx hb dX5_seals_36 (by decide) ?_
  refine lv_irem hx hb dX5_seals_39 (by decide) ?_
  refine st_m_s hx hb hK hW hw.1 dX5_seals_40 (fun σ_2 eσ_2 H locs hW => ?_)
  have hw := hw.2
  have hw := hw σ_2 eσ_2
  refine lv_aload_n hx hb dX5_seals_41 rfl (lv_at hl 1 rfl) ?_
  refine va_get (D := D) (ci := 5) (v := .ref (a 1)) (C := RX5) (T := TX5) (N := 18) hx hb hts hinX5 hown hK hW.1 0 rfl rfl 1 (by decide) (hts _ (List.mem_of_getElem? (i := 1) rfl)) (fun _ h9 => h9) rfl dX5_seals_42 ?_
  refine lv_iload hx hb dX5_seals_45 (lv_at hl 0 rfl) ?_
  refine lv_iconst (v := 1) hx hb dX5_seals_47 (by decide) ?_
  refine lv_iadd hx hb dX5_seals_48 ?_
  refine lv_aload_n hx hb dX5_seals_49 rfl (lv_at hl 1 rfl) ?_
  refine va_get (D := D) (ci := 5) (v := .ref (a 1)) (C := RX5) (T := TX5) (N := 18) hx hb hts hinX5 hown hK hW.1 0 rfl rfl 1 (by decide) (hts _ (List.mem_of_getElem? (i := 1) rfl)) (fun _ h9 => h9) rfl dX5_seals_50 ?_
  refine lv_iconst (v := 1) hx hb dX5_seals_53 (by decide) ?_
  refine va_iald hx hb hK hW.1 1 0 rfl rfl (by unfold vp_in; decide) dX5_seals_54 ?_
  refine st_m_s hx hb hK hW hw.1 dX5_seals_55 (fun σ_3 eσ_3 H locs hW => ?_)
  have hw := hw.2
  have hw := hw σ_3 eσ_3
  refine lv_aload_n hx hb dX5_seals_56 rfl (lv_at hl 1 rfl) ?_
  refine va_get (D := D) (ci := 5) (v := .ref (a 1)) (C := RX5) (T := TX5) (N := 18) hx hb hts hinX5 hown hK hW.1 0 rfl rfl 1 (by decide) (hts _ (List.mem_of_getElem? (i := 1) rfl)) (fun _ h9 => h9) rfl dX5_seals_57 ?_
  refine lv_iload hx hb dX5_seals_60 (lv_at hl 0 rfl) ?_
  refine lv_iconst (v := 2) hx hb dX5_seals_62 (by decide) ?_
  refine lv_iadd hx hb dX5_seals_63 ?_
  refine lv_iload_n hx hb dX5_seals_64 rfl (lv_at hl 4 rfl) ?_
  refine st_m_s hx hb hK hW hw.1 dX5_seals_65 (fun σ_4 eσ_4 H locs hW => ?_)
  have hw := hw.2
  have hw := hw σ_4 eσ_4
  refine lv_aload_n hx hb dX5_seals_66 rfl (lv_at hl 1 rfl) ?_
  refine va_get (D := D) (ci := 5) (v := .ref (a 1)) (C := RX5) (T := TX5) (N := 18) hx hb hts hinX5 hown hK hW.1 0 rfl rfl 1 (by decide) (hts _ (List.mem_of_getElem? (i := 1) rfl)) (fun _ h9 => h9) rfl dX5_seals_67 ?_
  refine lv_bipush (v := 11) hx hb dX5_seals_70 (by decide) ?_
  refine lv_dup2_11 hx hb dX5_seals_72 rfl rfl ?_
  refine va_iald hx hb hK hW.1 1 0 rfl rfl (by unfold vp_in; decide) dX5_seals_73 ?_
  refine lv_iconst (v := 1) hx hb dX5_seals_74 (by decide) ?_
  refine lv_iadd hx hb dX5_seals_75 ?_
  refine st_m_s hx hb hK hW (by unfold vp_in; decide) dX5_seals_76 (fun σ_5 eσ_5 H locs hW => ?_)
  have hw := hw σ_5 eσ_5
  refine lv_aload_n hx hb dX5_seals_77 rfl (lv_at hl 1 rfl) ?_
  refine va_get (D := D) (ci := 5) (v := .ref (a 1)) (C := RX5) (T := TX5) (N := 18) hx hb hts hinX5 hown hK hW.1 0 rfl rfl 1 (by decide) (hts _ (List.mem_of_getElem? (i := 1) rfl)) (fun _ h9 => h9) rfl dX5_seals_78 ?_
  refine lv_bipush (v := 9) hx hb dX5_seals_81 (by decide) ?_
  refine lv_dup2_11 hx hb dX5_seals_83 rfl rfl ?_
  refine va_iald hx hb hK hW.1 1 0 rfl rfl (by unfold vp_in; decide) dX5_seals_84 ?_
  refine lv_iconst (v := 1) hx hb dX5_seals_85 (by decide) ?_
  refine lv_iadd hx hb dX5_seals_86 ?_
  refine st_m_s hx hb hK hW (by unfold vp_in; decide) dX5_seals_87 (fun σ_6 eσ_6 H locs hW => ?_)
  have hw := hw σ_6 eσ_6
  refine lv_aload_n hx hb dX5_seals_88 rfl (lv_at hl 1 rfl) ?_
  refine va_get (D := D) (ci := 5) (v := .ref (a 1)) (C := RX5) (T := TX5) (N := 18) hx hb hts hinX5 hown hK hW.1 0 rfl rfl 1 (by decide) (hts _ (List.mem_of_getElem? (i := 1) rfl)) (fun _ h9 => h9) rfl dX5_seals_89 ?_
  refine lv_iload hx hb dX5_seals_92 (lv_at hl 0 rfl) ?_
  refine va_iald hx hb hK hW.1 1 0 rfl rfl hw.1 dX5_seals_94 ?_
  have hw := hw.2
  exact hret _ σ_6 _ _ _ _ hw hW dX5_seals_95
def wp_X5_withdraws (σ : MS) (p1 : Int32) (p2 : Int32) (post : Int32 → MS → Prop) : Prop := wp_X5_fee σ p1 p2 (fun r_1 => wp_X5_adds σ p1 0 (-r_1) (fun σ_2 => wp_X5_adds σ_2 p1 3 r_1 (fun σ_3 => ∀ σ_4 : MS, σ_4 = ms_s σ_3 (upd (m_s σ_3) (3 : Int32).toNatClampNeg (((m_s σ_3) (3 : Int32).toNatClampNeg) + r_1)) → ∀ σ_5 : MS, σ_5 = ms_s σ_4 (upd (m_s σ_4) (5 : Int32).toNatClampNeg (((m_s σ_4) (5 : Int32).toNatClampNeg) + r_1)) → ∀ σ_6 : MS, σ_6 = ms_s σ_5 (upd (m_s σ_5) (10 : Int32).toNatClampNeg (((m_s σ_5) (10 : Int32).toNatClampNeg) + 1)) → wp_X5_bidAt σ_6 p1 p2 (fun r_7 => vp_in r_7 1416 ∧ ∀ σ_8 : MS, σ_8 = ms_s σ_6 (upd (m_s σ_6) (r_7).toNatClampNeg (-1)) → post r_1 σ_8))))
abbrev rm_X5_withdraws : Room := { frames := 2, cells := 0, slots := 0, locals := 44 }
theorem in_X5_withdraws_X5 : ∀ w ∈ wsX50, w ∈ wsX5_withdraws := fun w h => List.mem_cons_of_mem _ (List.mem_append_right _ (h))
set_option maxHeartbeats 4000000 in
set_option maxRecDepth 100000 in
theorem ok_X5_withdraws (l : Launch) (D : va_G) (cI cJ : ClassId) (a : Nat → Nat) (sz : Nat) (σ : MS) (p1 : Int32) (p2 : Int32) (post : Int32 → MS → Prop) (hw : wp_X5_withdraws σ p1 p2 post) : Mi l yX5_withdraws wsX5_withdraws rm_X5_withdraws [.ref (a 0), .int p1, .int p2] D (tysIJ cI cJ) (mW cI cJ a σ) sz post (mW cI cJ a) := by
  refine s_Mi (by decide) rfl (Nat.le_of_ble_eq_true rfl) ?_
  intro p e s m args below meth c A Q hx hb hml hts hown hin hK hA hret H locs ls hW hl
  have hown : s.vm.findClass RX5 = some m.cls := hown
  have hl : lv_has ls 4 [(0, .ref (a 0)), (1, .int p1), (2, .int p2)] := hl
  have hinX5 := in_X5_withdraws_X5
  refine lv_aload_n hx hb dX5_withdraws_0 rfl (lv_at hl 0 rfl) ?_
  refine lv_iload_n hx hb dX5_withdraws_1 rfl (lv_at hl 1 rfl) ?_
  refine lv_iload_n hx hb dX5_withdraws_2 rfl (lv_at hl 2 rfl) ?_
  refine kV_Mi (As := [.int p1, .int p2]) (rest := []) ⟨hx, hb, hml, hown, hts⟩ (ok_X5_fee l D cI cJ a _ _ _ _ _ hw) (cwV 2 hts gX5_withdraws_X5_fee rfl rfl rfl (by decide +kernel) ⟨Nat.le_of_ble_eq_true rfl, Nat.le_of_ble_eq_true rfl⟩) hK hW hA 0 rfl rfl rfl hl.1 rfl (Nat.le_of_ble_eq_true rfl) dX5_withdraws_3 ⟨Nat.le_of_ble_eq_true rfl, Nat.le_of_ble_eq_true rfl⟩ (fun r_1 _ H locs hw hW => ?_)
  refine lv_istore_n (lv' := [(3, .int r_1), (0, .ref (a 0)), (1, .int p1), (2, .int p2)]) hx hb dX5_withdraws_6 rfl hl (by decide) rfl (fun ls hl => ?_)
  refine lv_aload_n hx hb dX5_withdraws_7 rfl (lv_at hl 1 rfl) ?_
  refine lv_iload_n hx hb dX5_withdraws_8 rfl (lv_at hl 2 rfl) ?_
  refine lv_iconst (v := 0) hx hb dX5_withdraws_9 (by decide) ?_
  refine lv_iload_n hx hb dX5_withdraws_10 rfl (lv_at hl 0 rfl) ?_
  refine lv_ineg hx hb dX5_withdraws_11 ?_
  refine kV_Mv (As := [.int p1, .int 0, .int (-r_1)]) (rest := []) ⟨hx, hb, hml, hown, hts⟩ (ok_X5_adds l D cI cJ a _ _ _ _ _ _ hw) (cwV 3 hts gX5_withdraws_X5_adds rfl rfl rfl (by decide +kernel) ⟨Nat.le_of_ble_eq_true rfl, Nat.le_of_ble_eq_true rfl⟩) hK hW hA 0 rfl rfl rfl hl.1 rfl (Nat.le_of_ble_eq_true rfl) dX5_withdraws_12 ⟨Nat.le_of_ble_eq_true rfl, Nat.le_of_ble_eq_true rfl⟩ (fun σ_2 H locs hw hW => ?_)
  refine lv_aload_n hx hb dX5_withdraws_15 rfl (lv_at hl 1 rfl) ?_
  refine lv_iload_n hx hb dX5_withdraws_16 rfl (lv_at hl 2 rfl) ?_
  refine lv_iconst (v := 3) hx hb dX5_withdraws_17 (by decide) ?_
  refine lv_iload_n hx hb dX5_withdraws_18 rfl (lv_at hl 0 rfl) ?_
  refine kV_Mv (As := [.int p1, .int 3, .int r_1]) (rest := []) ⟨hx, hb, hml, hown, hts⟩ (ok_X5_adds l D cI cJ a _ _ _ _ _ _ hw) (cwV 3 hts gX5_withdraws_X5_adds rfl rfl rfl (by decide +kernel) ⟨Nat.le_of_ble_eq_true rfl, Nat.le_of_ble_eq_true rfl⟩) hK hW hA 0 rfl rfl rfl hl.1 rfl (Nat.le_of_ble_eq_true rfl) dX5_withdraws_19 ⟨Nat.le_of_ble_eq_true rfl, Nat.le_of_ble_eq_true rfl⟩ (fun σ_3 H locs hw hW => ?_)
  refine lv_aload_n hx hb dX5_withdraws_22 rfl (lv_at hl 1 rfl) ?_
  refine va_get (D := D) (ci := 5) (v := .ref (a 1)) (C := RX5) (T := TX5) (N := 18) hx hb hts hinX5 hown hK hW.1 0 rfl rfl 1 (by decide) (hts _ (List.mem_of_getElem? (i := 1) rfl)) (fun _ h9 => h9) rfl dX5_withdraws_23 ?_
  refine lv_iconst (v := 3) hx hb dX5_withdraws_26 (by decide) ?_
  refine lv_dup2_11 hx hb dX5_withdraws_27 rfl rfl ?_
  refine va_iald hx hb hK hW.1 1 0 rfl rfl (by unfold vp_in; decide) dX5_withdraws_28 ?_
  refine lv_iload_n hx hb dX5_withdraws_29 rfl (lv_at hl 0 rfl) ?_
  refine lv_iadd hx hb dX5_withdraws_30 ?_
  refine st_m_s hx hb hK hW (by unfold vp_in; decide) dX5_withdraws_31 (fun σ_4 eσ_4 H locs hW => ?_)
  have hw := hw σ_4 eσ_4
  refine lv_aload_n hx hb dX5_withdraws_32 rfl (lv_at hl 1 rfl) ?_
  refine va_get (D := D) (ci := 5) (v := .ref (a 1)) (C := RX5) (T := TX5) (N := 18) hx hb hts hinX5 hown hK hW.1 0 rfl rfl 1 (by decide) (hts _ (List.mem_of_getElem? (i := 1) rfl)) (fun _ h9 => h9) rfl dX5_withdraws_33 ?_
  refine lv_iconst (v := 5) hx hb dX5_withdraws_36 (by decide) ?_
  refine lv_dup2_11 hx hb dX5_withdraws_37 rfl rfl ?_
  refine va_iald hx hb hK hW.1 1 0 rfl rfl (by unfold vp_in; decide) dX5_withdraws_38 ?_
  refine lv_iload_n hx hb dX5_withdraws_39 rfl (lv_at hl 0 rfl) ?_
  refine lv_iadd hx hb dX5_withdraws_40 ?_
  refine st_m_s hx hb hK hW (by unfold vp_in; decide) dX5_withdraws_41 (fun σ_5 eσ_5 H locs hW => ?_)
  have hw := hw σ_5 eσ_5
  refine lv_aload_n hx hb dX5_withdraws_42 rfl (lv_at hl 1 rfl) ?_
  refine va_get (D := D) (ci := 5) (v := .ref (a 1)) (C := RX5) (T := TX5) (N := 18) hx hb hts hinX5 hown hK hW.1 0 rfl rfl 1 (by decide) (hts _ (List.mem_of_getElem? (i := 1) rfl)) (fun _ h9 => h9) rfl dX5_withdraws_43 ?_
  refine lv_bipush (v := 10) hx hb dX5_withdraws_46 (by decide) ?_
  refine lv_dup2_11 hx hb dX5_withdraws_48 rfl rfl ?_
  refine va_iald hx hb hK hW.1 1 0 rfl rfl (by unfold vp_in; decide) dX5_withdraws_49 ?_
  refine lv_iconst (v := 1) hx hb dX5_withdraws_50 (by decide) ?_
  refine lv_iadd hx hb dX5_withdraws_51 ?_
  refine st_m_s hx hb hK hW (by unfold vp_in; decide) dX5_withdraws_52 (fun σ_6 eσ_6 H locs hW => ?_)
  have hw := hw σ_6 eσ_6
  refine lv_aload_n hx hb dX5_withdraws_53 rfl (lv_at hl 1 rfl) ?_
  refine va_get (D := D) (ci := 5) (v := .ref (a 1)) (C := RX5) (T := TX5) (N := 18) hx hb hts hinX5 hown hK hW.1 0 rfl rfl 1 (by decide) (hts _ (List.mem_of_getElem? (i := 1) rfl)) (fun _ h9 => h9) rfl dX5_withdraws_54 ?_
  refine lv_aload_n hx hb dX5_withdraws_57 rfl (lv_at hl 1 rfl) ?_
  refine lv_iload_n hx hb dX5_withdraws_58 rfl (lv_at hl 2 rfl) ?_
  refine lv_iload_n hx hb dX5_withdraws_59 rfl (lv_at hl 3 rfl) ?_
  refine kV_Mi (As := [.int p1, .int p2]) (rest := [.ref (a 1)]) ⟨hx, hb, hml, hown, hts⟩ (ok_X5_bidAt l D cI cJ a _ _ _ _ _ hw) (cwV 2 hts gX5_withdraws_X5_bidAt rfl rfl rfl (by decide +kernel) ⟨Nat.le_of_ble_eq_true rfl, Nat.le_of_ble_eq_true rfl⟩) hK hW hA 0 rfl rfl rfl hl.1 rfl (Nat.le_of_ble_eq_true rfl) dX5_withdraws_60 ⟨Nat.le_of_ble_eq_true rfl, Nat.le_of_ble_eq_true rfl⟩ (fun r_7 _ H locs hw hW => ?_)
  refine lv_iconst (v := (-1)) hx hb dX5_withdraws_63 (by decide) ?_
  refine st_m_s hx hb hK hW hw.1 dX5_withdraws_64 (fun σ_8 eσ_8 H locs hW => ?_)
  have hw := hw.2
  have hw := hw σ_8 eσ_8
  refine lv_iload_n hx hb dX5_withdraws_65 rfl (lv_at hl 0 rfl) ?_
  exact hret _ σ_8 _ _ _ _ hw hW dX5_withdraws_66
def wp_X5_pauses (σ : MS) (p1 : Int32) (post : Int32 → MS → Prop) : Prop := ∀ v2_1 : Int32, v2_1 = (((m_s σ) (1 : Int32).toNatClampNeg) + p1) → ((v2_1 ≤ 23 → ∀ σ_2 : MS, σ_2 = ms_s σ (upd (m_s σ) (1 : Int32).toNatClampNeg v2_1) → post ((m_s σ_2) (1 : Int32).toNatClampNeg) σ_2) ∧ (¬ v2_1 ≤ 23 → ∀ σ_3 : MS, σ_3 = ms_s σ (upd (m_s σ) (1 : Int32).toNatClampNeg 23) → post ((m_s σ_3) (1 : Int32).toNatClampNeg) σ_3))
abbrev rm_X5_pauses : Room := { frames := 0, cells := 0, slots := 0, locals := 0 }
theorem in_X5_pauses_X5 : ∀ w ∈ wsX50, w ∈ wsX5_pauses := fun w h => List.mem_cons_of_mem _ (List.mem_append_right _ (h))
set_option maxHeartbeats 4000000 in
set_option maxRecDepth 100000 in
theorem ok_X5_pauses (l : Launch) (D : va_G) (cI cJ : ClassId) (a : Nat → Nat) (sz : Nat) (σ : MS) (p1 : Int32) (post : Int32 → MS → Prop) (hw : wp_X5_pauses σ p1 post) : Mi l yX5_pauses wsX5_pauses rm_X5_pauses [.ref (a 0), .int p1] D (tysIJ cI cJ) (mW cI cJ a σ) sz post (mW cI cJ a) := by
  refine s_Mi (by decide) rfl (Nat.le_of_ble_eq_true rfl) ?_
  intro p e s m args below meth c A Q hx hb hml hts hown hin hK hA hret H locs ls hW hl
  have hown : s.vm.findClass RX5 = some m.cls := hown
  have hl : lv_has ls 3 [(0, .ref (a 0)), (1, .int p1)] := hl
  have hinX5 := in_X5_pauses_X5
  refine lv_aload_n hx hb dX5_pauses_0 rfl (lv_at hl 0 rfl) ?_
  refine va_get (D := D) (ci := 5) (v := .ref (a 1)) (C := RX5) (T := TX5) (N := 18) hx hb hts hinX5 hown hK hW.1 0 rfl rfl 1 (by decide) (hts _ (List.mem_of_getElem? (i := 1) rfl)) (fun _ h9 => h9) rfl dX5_pauses_1 ?_
  refine lv_iconst (v := 1) hx hb dX5_pauses_4 (by decide) ?_
  refine va_iald hx hb hK hW.1 1 0 rfl rfl (by unfold vp_in; decide) dX5_pauses_5 ?_
  refine lv_iload_n hx hb dX5_pauses_6 rfl (lv_at hl 1 rfl) ?_
  refine lv_iadd hx hb dX5_pauses_7 ?_
  refine lv_topi (fun v2_1 ev2_1 => ?_)
  have hw := hw v2_1 ev2_1
  refine lv_istore_n (lv' := [(2, .int v2_1), (0, .ref (a 0)), (1, .int p1)]) hx hb dX5_pauses_8 rfl hl (by decide) rfl (fun ls hl => ?_)
  refine lv_aload_n hx hb dX5_pauses_9 rfl (lv_at hl 1 rfl) ?_
  refine va_get (D := D) (ci := 5) (v := .ref (a 1)) (C := RX5) (T := TX5) (N := 18) hx hb hts hinX5 hown hK hW.1 0 rfl rfl 1 (by decide) (hts _ (List.mem_of_getElem? (i := 1) rfl)) (fun _ h9 => h9) rfl dX5_pauses_10 ?_
  refine lv_iconst (v := 1) hx hb dX5_pauses_13 (by decide) ?_
  refine lv_iload_n hx hb dX5_pauses_14 rfl (lv_at hl 0 rfl) ?_
  refine lv_bipush (v := 23) hx hb dX5_pauses_15 (by decide) ?_
  refine lv_icmp_le (tgt := 25) hx hb dX5_pauses_17 (by decide) (fun hc => ?_) (fun hc => ?_)
  · have hw := hw.1 hc
    refine lv_iload_n hx hb dX5_pauses_25 rfl (lv_at hl 0 rfl) ?_
    refine st_m_s hx hb hK hW (by unfold vp_in; decide) dX5_pauses_26 (fun σ_2 eσ_2 H locs hW => ?_)
    have hw := hw σ_2 eσ_2
    refine lv_aload_n hx hb dX5_pauses_27 rfl (lv_at hl 1 rfl) ?_
    refine va_get (D := D) (ci := 5) (v := .ref (a 1)) (C := RX5) (T := TX5) (N := 18) hx hb hts hinX5 hown hK hW.1 0 rfl rfl 1 (by decide) (hts _ (List.mem_of_getElem? (i := 1) rfl)) (fun _ h9 => h9) rfl dX5_pauses_28 ?_
    refine lv_iconst (v := 1) hx hb dX5_pauses_31 (by decide) ?_
    refine va_iald hx hb hK hW.1 1 0 rfl rfl (by unfold vp_in; decide) dX5_pauses_32 ?_
    exact hret _ σ_2 _ _ _ _ hw hW dX5_pauses_33
  · have hw := hw.2 hc
    refine lv_bipush (v := 23) hx hb dX5_pauses_20 (by decide) ?_
    refine lv_goto (tgt := 26) hx hb dX5_pauses_22 (by decide) ?_
    refine st_m_s hx hb hK hW (by unfold vp_in; decide) dX5_pauses_26 (fun σ_3 eσ_3 H locs hW => ?_)
    have hw := hw σ_3 eσ_3
    refine lv_aload_n hx hb dX5_pauses_27 rfl (lv_at hl 1 rfl) ?_
    refine va_get (D := D) (ci := 5) (v := .ref (a 1)) (C := RX5) (T := TX5) (N := 18) hx hb hts hinX5 hown hK hW.1 0 rfl rfl 1 (by decide) (hts _ (List.mem_of_getElem? (i := 1) rfl)) (fun _ h9 => h9) rfl dX5_pauses_28 ?_
    refine lv_iconst (v := 1) hx hb dX5_pauses_31 (by decide) ?_
    refine va_iald hx hb hK hW.1 1 0 rfl rfl (by unfold vp_in; decide) dX5_pauses_32 ?_
    exact hret _ σ_3 _ _ _ _ hw hW dX5_pauses_33
def wp_X5_opens (σ : MS) (post : Int32 → MS → Prop) : Prop := wp_X5_shares σ (fun σ_1 => ∃ I2 : Nat → Int32 → Int32 → MS → Prop, (∃ n : Nat, I2 n 0 0 (σ_1)) ∧ ∀ (n2 : Nat) (v1_2 : Int32) (v2_2 : Int32) (σ_2 : MS), I2 n2 v1_2 v2_2 σ_2 → ((6 ≤ v2_2 → ∀ σ_3 : MS, σ_3 = ms_s σ_2 (upd (m_s σ_2) (7 : Int32).toNatClampNeg (((m_s σ_2) (7 : Int32).toNatClampNeg) + v1_2)) → ∀ σ_4 : MS, σ_4 = ms_s σ_3 (upd (m_s σ_3) (2 : Int32).toNatClampNeg 1) → post v1_2 σ_4) ∧ (¬ 6 ≤ v2_2 → vp_in v2_2 6 ∧ wp_X5_lay σ_2 v2_2 2 ((m_shared σ_2) (v2_2).toNatClampNeg) (fun σ_5 => vp_in v2_2 6 ∧ wp_X5_lay σ_5 v2_2 3 ((m_due σ_5) (v2_2).toNatClampNeg) (fun σ_6 => vp_in v2_2 6 ∧ ((((m_shared σ_6) (v2_2).toNatClampNeg) = (-1) → ∀ v2_7 : Int32, v2_7 = v2_2 + 1 → ∃ n' : Nat, n' < n2 ∧ I2 n' v1_2 v2_7 (σ_6)) ∧ (¬ ((m_shared σ_6) (v2_2).toNatClampNeg) = (-1) → vp_in v2_2 6 ∧ vp_in v2_2 6 ∧ wp_X5_adds σ_6 ((m_shared σ_6) (v2_2).toNatClampNeg) 0 (-((m_due σ_6) (v2_2).toNatClampNeg)) (fun σ_8 => vp_in v2_2 6 ∧ vp_in v2_2 6 ∧ wp_X5_adds σ_8 ((m_shared σ_8) (v2_2).toNatClampNeg) 2 ((m_due σ_8) (v2_2).toNatClampNeg) (fun σ_9 => vp_in v2_2 6 ∧ ∀ σ_10 : MS, σ_10 = ms_s σ_9 (upd (m_s σ_9) (3 : Int32).toNatClampNeg (((m_s σ_9) (3 : Int32).toNatClampNeg) + ((m_due σ_9) (v2_2).toNatClampNeg))) → vp_in v2_2 6 ∧ ∀ σ_11 : MS, σ_11 = ms_s σ_10 (upd (m_s σ_10) (6 : Int32).toNatClampNeg (((m_s σ_10) (6 : Int32).toNatClampNeg) + ((m_due σ_10) (v2_2).toNatClampNeg))) → ∀ v1_12 : Int32, v1_12 = v1_2 + 1 → ∀ v2_13 : Int32, v2_13 = v2_2 + 1 → ∃ n' : Nat, n' < n2 ∧ I2 n' v1_12 v2_13 (σ_11))))))))))
abbrev rm_X5_opens : Room := { frames := 7, cells := 0, slots := 0, locals := 162 }
theorem in_X5_opens_X5 : ∀ w ∈ wsX50, w ∈ wsX5_opens := fun w h => List.mem_cons_of_mem _ (List.mem_append_right _ (h))
set_option maxHeartbeats 4000000 in
set_option maxRecDepth 100000 in
theorem ok_X5_opens (l : Launch) (D : va_G) (cI cJ : ClassId) (a : Nat → Nat) (sz : Nat) (σ : MS) (post : Int32 → MS → Prop) (hw : wp_X5_opens σ post) : Mi l yX5_opens wsX5_opens rm_X5_opens [.ref (a 0)] D (tysIJ cI cJ) (mW cI cJ a σ) sz post (mW cI cJ a) := by
  refine s_Mi (by decide) rfl (Nat.le_of_ble_eq_true rfl) ?_
  intro p e s m args below meth c A Q hx hb hml hts hown hin hK hA hret H locs ls hW hl
  have hown : s.vm.findClass RX5 = some m.cls := hown
  have hl : lv_has ls 3 [(0, .ref (a 0))] := hl
  have hinX5 := in_X5_opens_X5
  refine lv_aload_n hx hb dX5_opens_0 rfl (lv_at hl 0 rfl) ?_
  refine kV_Mv (As := []) (rest := []) ⟨hx, hb, hml, hown, hts⟩ (ok_X5_shares l D cI cJ a _ _ _ hw) (cwV 0 hts gX5_opens_X5_shares rfl rfl rfl (by decide +kernel) ⟨Nat.le_of_ble_eq_true rfl, Nat.le_of_ble_eq_true rfl⟩) hK hW hA 0 rfl rfl rfl hl.1 rfl (Nat.le_of_ble_eq_true rfl) dX5_opens_1 ⟨Nat.le_of_ble_eq_true rfl, Nat.le_of_ble_eq_true rfl⟩ (fun σ_1 H locs hw hW => ?_)
  refine lv_iconst (v := 0) hx hb dX5_opens_4 (by decide) ?_
  refine lv_istore_n (lv' := [(1, .int 0), (0, .ref (a 0))]) hx hb dX5_opens_5 rfl hl (by decide) rfl (fun ls hl => ?_)
  refine lv_iconst (v := 0) hx hb dX5_opens_6 (by decide) ?_
  refine lv_istore_n (lv' := [(2, .int 0), (1, .int 0), (0, .ref (a 0))]) hx hb dX5_opens_7 rfl hl (by decide) rfl (fun ls hl => ?_)
  obtain ⟨I2, ⟨n2, hI2⟩, hJ2⟩ := hw
  have hl : lv_has ls 3 [(0, .ref (a 0)), (1, .int 0), (2, .int 0)] := lv_sub hl [2, 1, 0] rfl
  suffices LP2 : ∀ (n : Nat) (v1_2 : Int32) (v2_2 : Int32) (σ_2 : MS) (H : Heap) (locs : List Loc) (ls : Array Slot), I2 n v1_2 v2_2 σ_2 → Wd D A s.heap (mW cI cJ a σ_2) H locs → lv_has ls 3 [(0, .ref (a 0)), (1, .int v1_2), (2, .int v2_2)] → W p l e rm_X5_opens s m args below meth c H locs 0 0 Q (F0 m 8 ls []) from LP2 n2 0 0 _ H locs ls hI2 hW hl
  intro n2
  induction n2 using Nat.strongRecOn with
  | ind n2 ih2 =>
    intro v1_2 v2_2 σ_2 H locs ls hIn hW hl
    have hw := hJ2 n2 v1_2 v2_2 σ_2 hIn
    refine lv_iload_n hx hb dX5_opens_8 rfl (lv_at hl 2 rfl) ?_
    refine lv_bipush (v := 6) hx hb dX5_opens_9 (by decide) ?_
    refine lv_icmp_ge (tgt := 123) hx hb dX5_opens_11 (by decide) (fun hc => ?_) (fun hc => ?_)
    · have hw := hw.1 hc
      refine lv_aload_n hx hb dX5_opens_123 rfl (lv_at hl 0 rfl) ?_
      refine va_get (D := D) (ci := 5) (v := .ref (a 1)) (C := RX5) (T := TX5) (N := 18) hx hb hts hinX5 hown hK hW.1 0 rfl rfl 1 (by decide) (hts _ (List.mem_of_getElem? (i := 3) rfl)) (fun _ h9 => h9) rfl dX5_opens_124 ?_
      refine lv_bipush (v := 7) hx hb dX5_opens_127 (by decide) ?_
      refine lv_dup2_11 hx hb dX5_opens_129 rfl rfl ?_
      refine va_iald hx hb hK hW.1 1 0 rfl rfl (by unfold vp_in; decide) dX5_opens_130 ?_
      refine lv_iload_n hx hb dX5_opens_131 rfl (lv_at hl 1 rfl) ?_
      refine lv_iadd hx hb dX5_opens_132 ?_
      refine st_m_s hx hb hK hW (by unfold vp_in; decide) dX5_opens_133 (fun σ_3 eσ_3 H locs hW => ?_)
      have hw := hw σ_3 eσ_3
      refine lv_aload_n hx hb dX5_opens_134 rfl (lv_at hl 0 rfl) ?_
      refine va_get (D := D) (ci := 5) (v := .ref (a 1)) (C := RX5) (T := TX5) (N := 18) hx hb hts hinX5 hown hK hW.1 0 rfl rfl 1 (by decide) (hts _ (List.mem_of_getElem? (i := 3) rfl)) (fun _ h9 => h9) rfl dX5_opens_135 ?_
      refine lv_iconst (v := 2) hx hb dX5_opens_138 (by decide) ?_
      refine lv_iconst (v := 1) hx hb dX5_opens_139 (by decide) ?_
      refine st_m_s hx hb hK hW (by unfold vp_in; decide) dX5_opens_140 (fun σ_4 eσ_4 H locs hW => ?_)
      have hw := hw σ_4 eσ_4
      refine lv_iload_n hx hb dX5_opens_141 rfl (lv_at hl 1 rfl) ?_
      exact hret _ σ_4 _ _ _ _ hw hW dX5_opens_142
    · have hw := hw.2 hc
      refine lv_aload_n hx hb dX5_opens_14 rfl (lv_at hl 0 rfl) ?_
      refine lv_iload_n hx hb dX5_opens_15 rfl (lv_at hl 2 rfl) ?_
      refine lv_iconst (v := 2) hx hb dX5_opens_16 (by decide) ?_
      refine lv_aload_n hx hb dX5_opens_17 rfl (lv_at hl 0 rfl) ?_
      refine va_get (D := D) (ci := 5) (v := .ref (a 4)) (C := RX5) (T := TX5) (N := 18) hx hb hts hinX5 hown hK hW.1 0 rfl rfl 15 (by decide) (hts _ (List.mem_of_getElem? (i := 1) rfl)) (fun _ h9 => h9) rfl dX5_opens_18 ?_
      refine lv_iload_n hx hb dX5_opens_21 rfl (lv_at hl 2 rfl) ?_
      refine va_iald hx hb hK hW.1 4 0 rfl rfl hw.1 dX5_opens_22 ?_
      have hw := hw.2
      refine kV_Mv (As := [.int v2_2, .int 2, .int ((m_shared σ_2) (v2_2).toNatClampNeg)]) (rest := []) ⟨hx, hb, hml, hown, hts⟩ (ok_X5_lay l D cI cJ a _ _ _ _ _ _ hw) (cwV 3 hts gX5_opens_X5_lay rfl rfl rfl (by decide +kernel) ⟨Nat.le_of_ble_eq_true rfl, Nat.le_of_ble_eq_true rfl⟩) hK hW hA 0 rfl rfl rfl hl.1 rfl (Nat.le_of_ble_eq_true rfl) dX5_opens_23 ⟨Nat.le_of_ble_eq_true rfl, Nat.le_of_ble_eq_true rfl⟩ (fun σ_5 H locs hw hW => ?_)
      refine lv_aload_n hx hb dX5_opens_26 rfl (lv_at hl 0 rfl) ?_
      refine lv_iload_n hx hb dX5_opens_27 rfl (lv_at hl 2 rfl) ?_
      refine lv_iconst (v := 3) hx hb dX5_opens_28 (by decide) ?_
      refine lv_aload_n hx hb dX5_opens_29 rfl (lv_at hl 0 rfl) ?_
      refine va_get (D := D) (ci := 5) (v := .ref (a 5)) (C := RX5) (T := TX5) (N := 18) hx hb hts hinX5 hown hK hW.1 0 rfl rfl 16 (by decide) (hts _ (List.mem_of_getElem? (i := 2) rfl)) (fun _ h9 => h9) rfl dX5_opens_30 ?_
      refine lv_iload_n hx hb dX5_opens_33 rfl (lv_at hl 2 rfl) ?_
      refine va_iald hx hb hK hW.1 5 0 rfl rfl hw.1 dX5_opens_34 ?_
      have hw := hw.2
      refine kV_Mv (As := [.int v2_2, .int 3, .int ((m_due σ_5) (v2_2).toNatClampNeg)]) (rest := []) ⟨hx, hb, hml, hown, hts⟩ (ok_X5_lay l D cI cJ a _ _ _ _ _ _ hw) (cwV 3 hts gX5_opens_X5_lay rfl rfl rfl (by decide +kernel) ⟨Nat.le_of_ble_eq_true rfl, Nat.le_of_ble_eq_true rfl⟩) hK hW hA 0 rfl rfl rfl hl.1 rfl (Nat.le_of_ble_eq_true rfl) dX5_opens_35 ⟨Nat.le_of_ble_eq_true rfl, Nat.le_of_ble_eq_true rfl⟩ (fun σ_6 H locs hw hW => ?_)
      refine lv_aload_n hx hb dX5_opens_38 rfl (lv_at hl 0 rfl) ?_
      refine va_get (D := D) (ci := 5) (v := .ref (a 4)) (C := RX5) (T := TX5) (N := 18) hx hb hts hinX5 hown hK hW.1 0 rfl rfl 15 (by decide) (hts _ (List.mem_of_getElem? (i := 1) rfl)) (fun _ h9 => h9) rfl dX5_opens_39 ?_
      refine lv_iload_n hx hb dX5_opens_42 rfl (lv_at hl 2 rfl) ?_
      refine va_iald hx hb hK hW.1 4 0 rfl rfl hw.1 dX5_opens_43 ?_
      have hw := hw.2
      refine lv_iconst (v := (-1)) hx hb dX5_opens_44 (by decide) ?_
      refine lv_icmp_eq (tgt := 117) hx hb dX5_opens_45 (by decide) (fun hc => ?_) (fun hc => ?_)
      · have hw := hw.1 hc
        obtain ⟨v2_7, ev2_7⟩ : ∃ y : Int32, y = v2_2 + 1 := ⟨_, rfl⟩
        have hw := hw v2_7 ev2_7
        refine lv_iinc (v := v2_7) (lv' := [(2, .int v2_7), (0, .ref (a 0)), (1, .int v1_2)]) hx hb dX5_opens_117 hl (k := 2) rfl (by rw [ev2_7]; rfl) (by decide) rfl (fun ls hl => ?_)
        refine lv_goto (tgt := 8) hx hb dX5_opens_120 (by decide) ?_
        obtain ⟨n9, hlt9, hI9⟩ := hw
        exact ih2 n9 hlt9 _ _ _ _ _ _ hI9 hW (lv_sub hl [1, 2, 0] rfl)
      · have hw := hw.2 hc
        refine lv_aload_n hx hb dX5_opens_48 rfl (lv_at hl 0 rfl) ?_
        refine lv_aload_n hx hb dX5_opens_49 rfl (lv_at hl 0 rfl) ?_
        refine va_get (D := D) (ci := 5) (v := .ref (a 4)) (C := RX5) (T := TX5) (N := 18) hx hb hts hinX5 hown hK hW.1 0 rfl rfl 15 (by decide) (hts _ (List.mem_of_getElem? (i := 1) rfl)) (fun _ h9 => h9) rfl dX5_opens_50 ?_
        refine lv_iload_n hx hb dX5_opens_53 rfl (lv_at hl 2 rfl) ?_
        refine va_iald hx hb hK hW.1 4 0 rfl rfl hw.1 dX5_opens_54 ?_
        have hw := hw.2
        refine lv_iconst (v := 0) hx hb dX5_opens_55 (by decide) ?_
        refine lv_aload_n hx hb dX5_opens_56 rfl (lv_at hl 0 rfl) ?_
        refine va_get (D := D) (ci := 5) (v := .ref (a 5)) (C := RX5) (T := TX5) (N := 18) hx hb hts hinX5 hown hK hW.1 0 rfl rfl 16 (by decide) (hts _ (List.mem_of_getElem? (i := 2) rfl)) (fun _ h9 => h9) rfl dX5_opens_57 ?_
        refine lv_iload_n hx hb dX5_opens_60 rfl (lv_at hl 2 rfl) ?_
        refine va_iald hx hb hK hW.1 5 0 rfl rfl hw.1 dX5_opens_61 ?_
        have hw := hw.2
        refine lv_ineg hx hb dX5_opens_62 ?_
        refine kV_Mv (As := [.int ((m_shared σ_6) (v2_2).toNatClampNeg), .int 0, .int (-((m_due σ_6) (v2_2).toNatClampNeg))]) (rest := []) ⟨hx, hb, hml, hown, hts⟩ (ok_X5_adds l D cI cJ a _ _ _ _ _ _ hw) (cwV 3 hts gX5_opens_X5_adds rfl rfl rfl (by decide +kernel) ⟨Nat.le_of_ble_eq_true rfl, Nat.le_of_ble_eq_true rfl⟩) hK hW hA 0 rfl rfl rfl hl.1 rfl (Nat.le_of_ble_eq_true rfl) dX5_opens_63 ⟨Nat.le_of_ble_eq_true rfl, Nat.le_of_ble_eq_true rfl⟩ (fun σ_8 H locs hw hW => ?_)
        refine lv_aload_n hx hb dX5_opens_66 rfl (lv_at hl 0 rfl) ?_
        refine lv_aload_n hx hb dX5_opens_67 rfl (lv_at hl 0 rfl) ?_
        refine va_get (D := D) (ci := 5) (v := .ref (a 4)) (C := RX5) (T := TX5) (N := 18) hx hb hts hinX5 hown hK hW.1 0 rfl rfl 15 (by decide) (hts _ (List.mem_of_getElem? (i := 1) rfl)) (fun _ h9 => h9) rfl dX5_opens_68 ?_
        refine lv_iload_n hx hb dX5_opens_71 rfl (lv_at hl 2 rfl) ?_
        refine va_iald hx hb hK hW.1 4 0 rfl rfl hw.1 dX5_opens_72 ?_
        have hw := hw.2
        refine lv_iconst (v := 2) hx hb dX5_opens_73 (by decide) ?_
        refine lv_aload_n hx hb dX5_opens_74 rfl (lv_at hl 0 rfl) ?_
        refine va_get (D := D) (ci := 5) (v := .ref (a 5)) (C := RX5) (T := TX5) (N := 18) hx hb hts hinX5 hown hK hW.1 0 rfl rfl 16 (by decide) (hts _ (List.mem_of_getElem? (i := 2) rfl)) (fun _ h9 => h9) rfl dX5_opens_75 ?_
        refine lv_iload_n hx hb dX5_opens_78 rfl (lv_at hl 2 rfl) ?_
        refine va_iald hx hb hK hW.1 5 0 rfl rfl hw.1 dX5_opens_79 ?_
        have hw := hw.2
        refine kV_Mv (As := [.int ((m_shared σ_8) (v2_2).toNatClampNeg), .int 2, .int ((m_due σ_8) (v2_2).toNatClampNeg)]) (rest := []) ⟨hx, hb, hml, hown, hts⟩ (ok_X5_adds l D cI cJ a _ _ _ _ _ _ hw) (cwV 3 hts gX5_opens_X5_adds rfl rfl rfl (by decide +kernel) ⟨Nat.le_of_ble_eq_true rfl, Nat.le_of_ble_eq_true rfl⟩) hK hW hA 0 rfl rfl rfl hl.1 rfl (Nat.le_of_ble_eq_true rfl) dX5_opens_80 ⟨Nat.le_of_ble_eq_true rfl, Nat.le_of_ble_eq_true rfl⟩ (fun σ_9 H locs hw hW => ?_)
        refine lv_aload_n hx hb dX5_opens_83 rfl (lv_at hl 0 rfl) ?_
        refine va_get (D := D) (ci := 5) (v := .ref (a 1)) (C := RX5) (T := TX5) (N := 18) hx hb hts hinX5 hown hK hW.1 0 rfl rfl 1 (by decide) (hts _ (List.mem_of_getElem? (i := 3) rfl)) (fun _ h9 => h9) rfl dX5_opens_84 ?_
        refine lv_iconst (v := 3) hx hb dX5_opens_87 (by decide) ?_
        refine lv_dup2_11 hx hb dX5_opens_88 rfl rfl ?_
        refine va_iald hx hb hK hW.1 1 0 rfl rfl (by unfold vp_in; decide) dX5_opens_89 ?_
        refine lv_aload_n hx hb dX5_opens_90 rfl (lv_at hl 0 rfl) ?_
        refine va_get (D := D) (ci := 5) (v := .ref (a 5)) (C := RX5) (T := TX5) (N := 18) hx hb hts hinX5 hown hK hW.1 0 rfl rfl 16 (by decide) (hts _ (List.mem_of_getElem? (i := 2) rfl)) (fun _ h9 => h9) rfl dX5_opens_91 ?_
        refine lv_iload_n hx hb dX5_opens_94 rfl (lv_at hl 2 rfl) ?_
        refine va_iald hx hb hK hW.1 5 0 rfl rfl hw.1 dX5_opens_95 ?_
        have hw := hw.2
        refine lv_iadd hx hb dX5_opens_96 ?_
        refine st_m_s hx hb hK hW (by unfold vp_in; decide) dX5_opens_97 (fun σ_10 eσ_10 H locs hW => ?_)
        have hw := hw σ_10 eσ_10
        refine lv_aload_n hx hb dX5_opens_98 rfl (lv_at hl 0 rfl) ?_
        refine va_get (D := D) (ci := 5) (v := .ref (a 1)) (C := RX5) (T := TX5) (N := 18) hx hb hts hinX5 hown hK hW.1 0 rfl rfl 1 (by decide) (hts _ (List.mem_of_getElem? (i := 3) rfl)) (fun _ h9 => h9) rfl dX5_opens_99 ?_
        refine lv_bipush (v := 6) hx hb dX5_opens_102 (by decide) ?_
        refine lv_dup2_11 hx hb dX5_opens_104 rfl rfl ?_
        refine va_iald hx hb hK hW.1 1 0 rfl rfl (by unfold vp_in; decide) dX5_opens_105 ?_
        refine lv_aload_n hx hb dX5_opens_106 rfl (lv_at hl 0 rfl) ?_
        refine va_get (D := D) (ci := 5) (v := .ref (a 5)) (C := RX5) (T := TX5) (N := 18) hx hb hts hinX5 hown hK hW.1 0 rfl rfl 16 (by decide) (hts _ (List.mem_of_getElem? (i := 2) rfl)) (fun _ h9 => h9) rfl dX5_opens_107 ?_
        refine lv_iload_n hx hb dX5_opens_110 rfl (lv_at hl 2 rfl) ?_
        refine va_iald hx hb hK hW.1 5 0 rfl rfl hw.1 dX5_opens_111 ?_
        have hw := hw.2
        refine lv_iadd hx hb dX5_opens_112 ?_
        refine st_m_s hx hb hK hW (by unfold vp_in; decide) dX5_opens_113 (fun σ_11 eσ_11 H locs hW => ?_)
        have hw := hw σ_11 eσ_11
        obtain ⟨v1_12, ev1_12⟩ : ∃ y : Int32, y = v1_2 + 1 := ⟨_, rfl⟩
        have hw := hw v1_12 ev1_12
        refine lv_iinc (v := v1_12) (lv' := [(1, .int v1_12), (0, .ref (a 0)), (2, .int v2_2)]) hx hb dX5_opens_114 hl (k := 1) rfl (by rw [ev1_12]; rfl) (by decide) rfl (fun ls hl => ?_)
        obtain ⟨v2_13, ev2_13⟩ : ∃ y : Int32, y = v2_2 + 1 := ⟨_, rfl⟩
        have hw := hw v2_13 ev2_13
        refine lv_iinc (v := v2_13) (lv' := [(2, .int v2_13), (1, .int v1_12), (0, .ref (a 0))]) hx hb dX5_opens_117 hl (k := 2) rfl (by rw [ev2_13]; rfl) (by decide) rfl (fun ls hl => ?_)
        refine lv_goto (tgt := 8) hx hb dX5_opens_120 (by decide) ?_
        obtain ⟨n9, hlt9, hI9⟩ := hw
        exact ih2 n9 hlt9 _ _ _ _ _ _ hI9 hW (lv_sub hl [2, 1, 0] rfl)
def wp_X5_spreads (σ : MS) (p1 : Int32) (p2 : Int32) (post : MS → Prop) : Prop := wp_X5_isOne p2 (fun r_1 => ((r_1 = 0 → post σ) ∧ (¬ r_1 = 0 → wp_X5_of σ p2 1 (fun r_2 => wp_X5_of σ p1 1 (fun r_3 => ((r_3 ≤ r_2 → post σ) ∧ (¬ r_3 ≤ r_2 → wp_X5_of σ p2 2 (fun r_4 => ((¬ r_4 = (-1) → post σ) ∧ (r_4 = (-1) → wp_X5_of σ p1 1 (fun r_5 => ∀ v3_6 : Int32, v3_6 = (r_5 / 10) → wp_X5_of σ p2 1 (fun r_7 => ∀ v4_8 : Int32, v4_8 = (200 - r_7) → ((v4_8 ≤ v3_6 → wp_X5_of σ p1 1 (fun r_9 => wp_X5_lay σ p1 1 (r_9 - v4_8) (fun σ_10 => wp_X5_of σ_10 p2 1 (fun r_11 => wp_X5_lay σ_10 p2 1 (r_11 + v4_8) (fun σ_12 => post σ_12))))) ∧ (¬ v4_8 ≤ v3_6 → wp_X5_of σ p1 1 (fun r_13 => wp_X5_lay σ p1 1 (r_13 - v3_6) (fun σ_14 => wp_X5_of σ_14 p2 1 (fun r_15 => wp_X5_lay σ_14 p2 1 (r_15 + v3_6) (fun σ_16 => post σ_16))))))))))))))))))
abbrev rm_X5_spreads : Room := { frames := 2, cells := 0, slots := 0, locals := 42 }
set_option maxHeartbeats 4000000 in
set_option maxRecDepth 100000 in
theorem ok_X5_spreads (l : Launch) (D : va_G) (cI cJ : ClassId) (a : Nat → Nat) (sz : Nat) (σ : MS) (p1 : Int32) (p2 : Int32) (post : MS → Prop) (hw : wp_X5_spreads σ p1 p2 post) : Mv l yX5_spreads wsX5_spreads rm_X5_spreads [.ref (a 0), .int p1, .int p2] D (tysIJ cI cJ) (mW cI cJ a σ) sz post (mW cI cJ a) := by
  refine s_Mv (by decide) rfl (Nat.le_of_ble_eq_true rfl) ?_
  intro p e s m args below meth c A Q hx hb hml hts hown hin hK hA hret H locs ls hW hl
  have hown : s.vm.findClass RX5 = some m.cls := hown
  have hl : lv_has ls 6 [(0, .ref (a 0)), (1, .int p1), (2, .int p2)] := hl
  refine lv_iload_n hx hb dX5_spreads_0 rfl (lv_at hl 2 rfl) ?_
  refine kS_Pi (As := [.int p2]) (rest := []) ⟨hx, hb, hml, hown, hts⟩ (ok_X5_isOne l _ _ hw) (va_cwS 1 hts gX5_spreads_X5_isOne rfl rfl rfl (by decide +kernel) ⟨Nat.le_of_ble_eq_true rfl, Nat.le_of_ble_eq_true rfl⟩) hW.2.2 rfl hl.1 rfl (Nat.le_of_ble_eq_true rfl) dX5_spreads_1 ⟨Nat.le_of_ble_eq_true rfl, Nat.le_of_ble_eq_true rfl⟩ (fun r_1 H locs hw hk hS => ?_)
  have hW := hW.kept hk hS
  refine lv_if_eq (tgt := 98) hx hb dX5_spreads_4 (by decide) (fun hc => ?_) (fun hc => ?_)
  · have hw := hw.1 hc
    exact hret σ _ _ _ _ hw hW dX5_spreads_98
  · have hw := hw.2 hc
    refine lv_aload_n hx hb dX5_spreads_7 rfl (lv_at hl 0 rfl) ?_
    refine lv_iload_n hx hb dX5_spreads_8 rfl (lv_at hl 2 rfl) ?_
    refine lv_iconst (v := 1) hx hb dX5_spreads_9 (by decide) ?_
    refine kV_Mi (As := [.int p2, .int 1]) (rest := []) ⟨hx, hb, hml, hown, hts⟩ (ok_X5_of l D cI cJ a _ _ _ _ _ hw) (cwV 2 hts gX5_spreads_X5_of rfl rfl rfl (by decide +kernel) ⟨Nat.le_of_ble_eq_true rfl, Nat.le_of_ble_eq_true rfl⟩) hK hW hA 0 rfl rfl rfl hl.1 rfl (Nat.le_of_ble_eq_true rfl) dX5_spreads_10 ⟨Nat.le_of_ble_eq_true rfl, Nat.le_of_ble_eq_true rfl⟩ (fun r_2 _ H locs hw hW => ?_)
    refine lv_aload_n hx hb dX5_spreads_13 rfl (lv_at hl 0 rfl) ?_
    refine lv_iload_n hx hb dX5_spreads_14 rfl (lv_at hl 1 rfl) ?_
    refine lv_iconst (v := 1) hx hb dX5_spreads_15 (by decide) ?_
    refine kV_Mi (As := [.int p1, .int 1]) (rest := [.int r_2]) ⟨hx, hb, hml, hown, hts⟩ (ok_X5_of l D cI cJ a _ _ _ _ _ hw) (cwV 2 hts gX5_spreads_X5_of rfl rfl rfl (by decide +kernel) ⟨Nat.le_of_ble_eq_true rfl, Nat.le_of_ble_eq_true rfl⟩) hK hW hA 0 rfl rfl rfl hl.1 rfl (Nat.le_of_ble_eq_true rfl) dX5_spreads_16 ⟨Nat.le_of_ble_eq_true rfl, Nat.le_of_ble_eq_true rfl⟩ (fun r_3 _ H locs hw hW => ?_)
    refine lv_icmp_ge (tgt := 98) hx hb dX5_spreads_19 (by decide) (fun hc => ?_) (fun hc => ?_)
    · have hw := hw.1 hc
      exact hret σ _ _ _ _ hw hW dX5_spreads_98
    · have hw := hw.2 hc
      refine lv_aload_n hx hb dX5_spreads_22 rfl (lv_at hl 0 rfl) ?_
      refine lv_iload_n hx hb dX5_spreads_23 rfl (lv_at hl 2 rfl) ?_
      refine lv_iconst (v := 2) hx hb dX5_spreads_24 (by decide) ?_
      refine kV_Mi (As := [.int p2, .int 2]) (rest := []) ⟨hx, hb, hml, hown, hts⟩ (ok_X5_of l D cI cJ a _ _ _ _ _ hw) (cwV 2 hts gX5_spreads_X5_of rfl rfl rfl (by decide +kernel) ⟨Nat.le_of_ble_eq_true rfl, Nat.le_of_ble_eq_true rfl⟩) hK hW hA 0 rfl rfl rfl hl.1 rfl (Nat.le_of_ble_eq_true rfl) dX5_spreads_25 ⟨Nat.le_of_ble_eq_true rfl, Nat.le_of_ble_eq_true rfl⟩ (fun r_4 _ H locs hw hW => ?_)
      refine lv_iconst (v := (-1)) hx hb dX5_spreads_28 (by decide) ?_
      refine lv_icmp_ne (tgt := 98) hx hb dX5_spreads_29 (by decide) (fun hc => ?_) (fun hc => ?_)
      · have hw := hw.1 hc
        exact hret σ _ _ _ _ hw hW dX5_spreads_98
      · have hw := hw.2 hc
        refine lv_aload_n hx hb dX5_spreads_32 rfl (lv_at hl 0 rfl) ?_
        refine lv_iload_n hx hb dX5_spreads_33 rfl (lv_at hl 1 rfl) ?_
        refine lv_iconst (v := 1) hx hb dX5_spreads_34 (by decide) ?_
        refine kV_Mi (As := [.int p1, .int 1]) (rest := []) ⟨hx, hb, hml, hown, hts⟩ (ok_X5_of l D cI cJ a _ _ _ _ _ hw) (cwV 2 hts gX5_spreads_X5_of rfl rfl rfl (by decide +kernel) ⟨Nat.le_of_ble_eq_true rfl, Nat.le_of_ble_eq_true rfl⟩) hK hW hA 0 rfl rfl rfl hl.1 rfl (Nat.le_of_ble_eq_true rfl) dX5_spreads_35 ⟨Nat.le_of_ble_eq_true rfl, Nat.le_of_ble_eq_true rfl⟩ (fun r_5 _ H locs hw hW => ?_)
        refine lv_bipush (v := 10) hx hb dX5_spreads_38 (by decide) ?_
        refine lv_idiv hx hb dX5_spreads_40 (by decide) ?_
        refine lv_topi (fun v3_6 ev3_6 => ?_)
        have hw := hw v3_6 ev3_6
        refine lv_istore_n (lv' := [(3, .int v3_6), (0, .ref (a 0)), (1, .int p1), (2, .int p2)]) hx hb dX5_spreads_41 rfl hl (by decide) rfl (fun ls hl => ?_)
        refine lv_sipush (v := 200) hx hb dX5_spreads_42 (by decide) ?_
        refine lv_aload_n hx hb dX5_spreads_45 rfl (lv_at hl 1 rfl) ?_
        refine lv_iload_n hx hb dX5_spreads_46 rfl (lv_at hl 3 rfl) ?_
        refine lv_iconst (v := 1) hx hb dX5_spreads_47 (by decide) ?_
        refine kV_Mi (As := [.int p2, .int 1]) (rest := [.int 200]) ⟨hx, hb, hml, hown, hts⟩ (ok_X5_of l D cI cJ a _ _ _ _ _ hw) (cwV 2 hts gX5_spreads_X5_of rfl rfl rfl (by decide +kernel) ⟨Nat.le_of_ble_eq_true rfl, Nat.le_of_ble_eq_true rfl⟩) hK hW hA 0 rfl rfl rfl hl.1 rfl (Nat.le_of_ble_eq_true rfl) dX5_spreads_48 ⟨Nat.le_of_ble_eq_true rfl, Nat.le_of_ble_eq_true rfl⟩ (fun r_7 _ H locs hw hW => ?_)
        refine lv_isub hx hb dX5_spreads_51 ?_
        refine lv_topi (fun v4_8 ev4_8 => ?_)
        have hw := hw v4_8 ev4_8
        refine lv_istore (lv' := [(4, .int v4_8), (3, .int v3_6), (0, .ref (a 0)), (1, .int p1), (2, .int p2)]) hx hb dX5_spreads_52 hl (by decide) rfl (fun ls hl => ?_)
        refine lv_iload_n hx hb dX5_spreads_54 rfl (lv_at hl 1 rfl) ?_
        refine lv_iload hx hb dX5_spreads_55 (lv_at hl 0 rfl) ?_
        refine lv_icmp_ge (tgt := 64) hx hb dX5_spreads_57 (by decide) (fun hc => ?_) (fun hc => ?_)
        · have hw := hw.1 hc
          refine lv_iload hx hb dX5_spreads_64 (lv_at hl 0 rfl) ?_
          refine lv_istore (lv' := [(5, .int v4_8), (4, .int v4_8), (3, .int v3_6), (0, .ref (a 0)), (1, .int p1), (2, .int p2)]) hx hb dX5_spreads_66 hl (by decide) rfl (fun ls hl => ?_)
          refine lv_aload_n hx hb dX5_spreads_68 rfl (lv_at hl 3 rfl) ?_
          refine lv_iload_n hx hb dX5_spreads_69 rfl (lv_at hl 4 rfl) ?_
          refine lv_iconst (v := 1) hx hb dX5_spreads_70 (by decide) ?_
          refine lv_aload_n hx hb dX5_spreads_71 rfl (lv_at hl 3 rfl) ?_
          refine lv_iload_n hx hb dX5_spreads_72 rfl (lv_at hl 4 rfl) ?_
          refine lv_iconst (v := 1) hx hb dX5_spreads_73 (by decide) ?_
          refine kV_Mi (As := [.int p1, .int 1]) (rest := [.int 1, .int p1, .ref (a 0)]) ⟨hx, hb, hml, hown, hts⟩ (ok_X5_of l D cI cJ a _ _ _ _ _ hw) (cwV 2 hts gX5_spreads_X5_of rfl rfl rfl (by decide +kernel) ⟨Nat.le_of_ble_eq_true rfl, Nat.le_of_ble_eq_true rfl⟩) hK hW hA 0 rfl rfl rfl hl.1 rfl (Nat.le_of_ble_eq_true rfl) dX5_spreads_74 ⟨Nat.le_of_ble_eq_true rfl, Nat.le_of_ble_eq_true rfl⟩ (fun r_9 _ H locs hw hW => ?_)
          refine lv_iload hx hb dX5_spreads_77 (lv_at hl 0 rfl) ?_
          refine lv_isub hx hb dX5_spreads_79 ?_
          refine kV_Mv (As := [.int p1, .int 1, .int (r_9 - v4_8)]) (rest := []) ⟨hx, hb, hml, hown, hts⟩ (ok_X5_lay l D cI cJ a _ _ _ _ _ _ hw) (cwV 3 hts gX5_spreads_X5_lay rfl rfl rfl (by decide +kernel) ⟨Nat.le_of_ble_eq_true rfl, Nat.le_of_ble_eq_true rfl⟩) hK hW hA 0 rfl rfl rfl hl.1 rfl (Nat.le_of_ble_eq_true rfl) dX5_spreads_80 ⟨Nat.le_of_ble_eq_true rfl, Nat.le_of_ble_eq_true rfl⟩ (fun σ_10 H locs hw hW => ?_)
          refine lv_aload_n hx hb dX5_spreads_83 rfl (lv_at hl 3 rfl) ?_
          refine lv_iload_n hx hb dX5_spreads_84 rfl (lv_at hl 5 rfl) ?_
          refine lv_iconst (v := 1) hx hb dX5_spreads_85 (by decide) ?_
          refine lv_aload_n hx hb dX5_spreads_86 rfl (lv_at hl 3 rfl) ?_
          refine lv_iload_n hx hb dX5_spreads_87 rfl (lv_at hl 5 rfl) ?_
          refine lv_iconst (v := 1) hx hb dX5_spreads_88 (by decide) ?_
          refine kV_Mi (As := [.int p2, .int 1]) (rest := [.int 1, .int p2, .ref (a 0)]) ⟨hx, hb, hml, hown, hts⟩ (ok_X5_of l D cI cJ a _ _ _ _ _ hw) (cwV 2 hts gX5_spreads_X5_of rfl rfl rfl (by decide +kernel) ⟨Nat.le_of_ble_eq_true rfl, Nat.le_of_ble_eq_true rfl⟩) hK hW hA 0 rfl rfl rfl hl.1 rfl (Nat.le_of_ble_eq_true rfl) dX5_spreads_89 ⟨Nat.le_of_ble_eq_true rfl, Nat.le_of_ble_eq_true rfl⟩ (fun r_11 _ H locs hw hW => ?_)
          refine lv_iload hx hb dX5_spreads_92 (lv_at hl 0 rfl) ?_
          refine lv_iadd hx hb dX5_spreads_94 ?_
          refine kV_Mv (As := [.int p2, .int 1, .int (r_11 + v4_8)]) (rest := []) ⟨hx, hb, hml, hown, hts⟩ (ok_X5_lay l D cI cJ a _ _ _ _ _ _ hw) (cwV 3 hts gX5_spreads_X5_lay rfl rfl rfl (by decide +kernel) ⟨Nat.le_of_ble_eq_true rfl, Nat.le_of_ble_eq_true rfl⟩) hK hW hA 0 rfl rfl rfl hl.1 rfl (Nat.le_of_ble_eq_true rfl) dX5_spreads_95 ⟨Nat.le_of_ble_eq_true rfl, Nat.le_of_ble_eq_true rfl⟩ (fun σ_12 H locs hw hW => ?_)
          exact hret σ_12 _ _ _ _ hw hW dX5_spreads_98
        · have hw := hw.2 hc
          refine lv_iload_n hx hb dX5_spreads_60 rfl (lv_at hl 1 rfl) ?_
          refine lv_goto (tgt := 66) hx hb dX5_spreads_61 (by decide) ?_
          refine lv_istore (lv' := [(5, .int v3_6), (4, .int v4_8), (3, .int v3_6), (0, .ref (a 0)), (1, .int p1), (2, .int p2)]) hx hb dX5_spreads_66 hl (by decide) rfl (fun ls hl => ?_)
          refine lv_aload_n hx hb dX5_spreads_68 rfl (lv_at hl 3 rfl) ?_
          refine lv_iload_n hx hb dX5_spreads_69 rfl (lv_at hl 4 rfl) ?_
          refine lv_iconst (v := 1) hx hb dX5_spreads_70 (by decide) ?_
          refine lv_aload_n hx hb dX5_spreads_71 rfl (lv_at hl 3 rfl) ?_
          refine lv_iload_n hx hb dX5_spreads_72 rfl (lv_at hl 4 rfl) ?_
          refine lv_iconst (v := 1) hx hb dX5_spreads_73 (by decide) ?_
          refine kV_Mi (As := [.int p1, .int 1]) (rest := [.int 1, .int p1, .ref (a 0)]) ⟨hx, hb, hml, hown, hts⟩ (ok_X5_of l D cI cJ a _ _ _ _ _ hw) (cwV 2 hts gX5_spreads_X5_of rfl rfl rfl (by decide +kernel) ⟨Nat.le_of_ble_eq_true rfl, Nat.le_of_ble_eq_true rfl⟩) hK hW hA 0 rfl rfl rfl hl.1 rfl (Nat.le_of_ble_eq_true rfl) dX5_spreads_74 ⟨Nat.le_of_ble_eq_true rfl, Nat.le_of_ble_eq_true rfl⟩ (fun r_13 _ H locs hw hW => ?_)
          refine lv_iload hx hb dX5_spreads_77 (lv_at hl 0 rfl) ?_
          refine lv_isub hx hb dX5_spreads_79 ?_
          refine kV_Mv (As := [.int p1, .int 1, .int (r_13 - v3_6)]) (rest := []) ⟨hx, hb, hml, hown, hts⟩ (ok_X5_lay l D cI cJ a _ _ _ _ _ _ hw) (cwV 3 hts gX5_spreads_X5_lay rfl rfl rfl (by decide +kernel) ⟨Nat.le_of_ble_eq_true rfl, Nat.le_of_ble_eq_true rfl⟩) hK hW hA 0 rfl rfl rfl hl.1 rfl (Nat.le_of_ble_eq_true rfl) dX5_spreads_80 ⟨Nat.le_of_ble_eq_true rfl, Nat.le_of_ble_eq_true rfl⟩ (fun σ_14 H locs hw hW => ?_)
          refine lv_aload_n hx hb dX5_spreads_83 rfl (lv_at hl 3 rfl) ?_
          refine lv_iload_n hx hb dX5_spreads_84 rfl (lv_at hl 5 rfl) ?_
          refine lv_iconst (v := 1) hx hb dX5_spreads_85 (by decide) ?_
          refine lv_aload_n hx hb dX5_spreads_86 rfl (lv_at hl 3 rfl) ?_
          refine lv_iload_n hx hb dX5_spreads_87 rfl (lv_at hl 5 rfl) ?_
          refine lv_iconst (v := 1) hx hb dX5_spreads_88 (by decide) ?_
          refine kV_Mi (As := [.int p2, .int 1]) (rest := [.int 1, .int p2, .ref (a 0)]) ⟨hx, hb, hml, hown, hts⟩ (ok_X5_of l D cI cJ a _ _ _ _ _ hw) (cwV 2 hts gX5_spreads_X5_of rfl rfl rfl (by decide +kernel) ⟨Nat.le_of_ble_eq_true rfl, Nat.le_of_ble_eq_true rfl⟩) hK hW hA 0 rfl rfl rfl hl.1 rfl (Nat.le_of_ble_eq_true rfl) dX5_spreads_89 ⟨Nat.le_of_ble_eq_true rfl, Nat.le_of_ble_eq_true rfl⟩ (fun r_15 _ H locs hw hW => ?_)
          refine lv_iload hx hb dX5_spreads_92 (lv_at hl 0 rfl) ?_
          refine lv_iadd hx hb dX5_spreads_94 ?_
          refine kV_Mv (As := [.int p2, .int 1, .int (r_15 + v3_6)]) (rest := []) ⟨hx, hb, hml, hown, hts⟩ (ok_X5_lay l D cI cJ a _ _ _ _ _ _ hw) (cwV 3 hts gX5_spreads_X5_lay rfl rfl rfl (by decide +kernel) ⟨Nat.le_of_ble_eq_true rfl, Nat.le_of_ble_eq_true rfl⟩) hK hW hA 0 rfl rfl rfl hl.1 rfl (Nat.le_of_ble_eq_true rfl) dX5_spreads_95 ⟨Nat.le_of_ble_eq_true rfl, Nat.le_of_ble_eq_true rfl⟩ (fun σ_16 H locs hw hW => ?_)
          exact hret σ_16 _ _ _ _ hw hW dX5_spreads_98
def wp_X5_fishes (σ : MS) (p1 : Int32) (post : Int32 → MS → Prop) : Prop := wp_X5_of σ p1 1 (fun r_1 => ((r_1 ≤ ((r_1 / 4) + 1) → wp_X5_lay σ p1 1 (r_1 - r_1) (fun σ_2 => wp_X5_of σ_2 p1 4 (fun r_3 => wp_X5_lay σ_2 p1 4 (r_3 + r_1) (fun σ_4 => wp_X5_of σ_4 p1 2 (fun r_5 => wp_X5_adds σ_4 r_5 1 r_1 (fun σ_6 => ∀ σ_7 : MS, σ_7 = ms_s σ_6 (upd (m_s σ_6) (8 : Int32).toNatClampNeg (((m_s σ_6) (8 : Int32).toNatClampNeg) + r_1)) → wp_X5_spreads σ_7 p1 (p1 - 1) (fun σ_8 => wp_X5_spreads σ_8 p1 (p1 + 1) (fun σ_9 => post r_1 σ_9)))))))) ∧ (¬ r_1 ≤ ((r_1 / 4) + 1) → ∀ v3_10 : Int32, v3_10 = ((r_1 / 4) + 1) → wp_X5_lay σ p1 1 (r_1 - v3_10) (fun σ_11 => wp_X5_of σ_11 p1 4 (fun r_12 => wp_X5_lay σ_11 p1 4 (r_12 + v3_10) (fun σ_13 => wp_X5_of σ_13 p1 2 (fun r_14 => wp_X5_adds σ_13 r_14 1 v3_10 (fun σ_15 => ∀ σ_16 : MS, σ_16 = ms_s σ_15 (upd (m_s σ_15) (8 : Int32).toNatClampNeg (((m_s σ_15) (8 : Int32).toNatClampNeg) + v3_10)) → wp_X5_spreads σ_16 p1 (p1 - 1) (fun σ_17 => wp_X5_spreads σ_17 p1 (p1 + 1) (fun σ_18 => post v3_10 σ_18))))))))))
abbrev rm_X5_fishes : Room := { frames := 3, cells := 0, slots := 0, locals := 67 }
theorem in_X5_fishes_X5 : ∀ w ∈ wsX50, w ∈ wsX5_fishes := fun w h => List.mem_cons_of_mem _ (List.mem_append_right _ (h))
set_option maxHeartbeats 4000000 in
set_option maxRecDepth 100000 in
theorem ok_X5_fishes (l : Launch) (D : va_G) (cI cJ : ClassId) (a : Nat → Nat) (sz : Nat) (σ : MS) (p1 : Int32) (post : Int32 → MS → Prop) (hw : wp_X5_fishes σ p1 post) : Mi l yX5_fishes wsX5_fishes rm_X5_fishes [.ref (a 0), .int p1] D (tysIJ cI cJ) (mW cI cJ a σ) sz post (mW cI cJ a) := by
  refine s_Mi (by decide) rfl (Nat.le_of_ble_eq_true rfl) ?_
  intro p e s m args below meth c A Q hx hb hml hts hown hin hK hA hret H locs ls hW hl
  have hown : s.vm.findClass RX5 = some m.cls := hown
  have hl : lv_has ls 4 [(0, .ref (a 0)), (1, .int p1)] := hl
  have hinX5 := in_X5_fishes_X5
  refine lv_aload_n hx hb dX5_fishes_0 rfl (lv_at hl 0 rfl) ?_
  refine lv_iload_n hx hb dX5_fishes_1 rfl (lv_at hl 1 rfl) ?_
  refine lv_iconst (v := 1) hx hb dX5_fishes_2 (by decide) ?_
  refine kV_Mi (As := [.int p1, .int 1]) (rest := []) ⟨hx, hb, hml, hown, hts⟩ (ok_X5_of l D cI cJ a _ _ _ _ _ hw) (cwV 2 hts gX5_fishes_X5_of rfl rfl rfl (by decide +kernel) ⟨Nat.le_of_ble_eq_true rfl, Nat.le_of_ble_eq_true rfl⟩) hK hW hA 0 rfl rfl rfl hl.1 rfl (Nat.le_of_ble_eq_true rfl) dX5_fishes_3 ⟨Nat.le_of_ble_eq_true rfl, Nat.le_of_ble_eq_true rfl⟩ (fun r_1 _ H locs hw hW => ?_)
  refine lv_istore_n (lv' := [(2, .int r_1), (0, .ref (a 0)), (1, .int p1)]) hx hb dX5_fishes_6 rfl hl (by decide) rfl (fun ls hl => ?_)
  refine lv_iload_n hx hb dX5_fishes_7 rfl (lv_at hl 0 rfl) ?_
  refine lv_iconst (v := 4) hx hb dX5_fishes_8 (by decide) ?_
  refine lv_idiv hx hb dX5_fishes_9 (by decide) ?_
  refine lv_iconst (v := 1) hx hb dX5_fishes_10 (by decide) ?_
  refine lv_iadd hx hb dX5_fishes_11 ?_
  refine lv_iload_n hx hb dX5_fishes_12 rfl (lv_at hl 0 rfl) ?_
  refine lv_icmp_ge (tgt := 24) hx hb dX5_fishes_13 (by decide) (fun hc => ?_) (fun hc => ?_)
  · have hw := hw.1 hc
    refine lv_iload_n hx hb dX5_fishes_24 rfl (lv_at hl 0 rfl) ?_
    refine lv_istore_n (lv' := [(3, .int r_1), (2, .int r_1), (0, .ref (a 0)), (1, .int p1)]) hx hb dX5_fishes_25 rfl hl (by decide) rfl (fun ls hl => ?_)
    refine lv_aload_n hx hb dX5_fishes_26 rfl (lv_at hl 2 rfl) ?_
    refine lv_iload_n hx hb dX5_fishes_27 rfl (lv_at hl 3 rfl) ?_
    refine lv_iconst (v := 1) hx hb dX5_fishes_28 (by decide) ?_
    refine lv_iload_n hx hb dX5_fishes_29 rfl (lv_at hl 1 rfl) ?_
    refine lv_iload_n hx hb dX5_fishes_30 rfl (lv_at hl 0 rfl) ?_
    refine lv_isub hx hb dX5_fishes_31 ?_
    refine kV_Mv (As := [.int p1, .int 1, .int (r_1 - r_1)]) (rest := []) ⟨hx, hb, hml, hown, hts⟩ (ok_X5_lay l D cI cJ a _ _ _ _ _ _ hw) (cwV 3 hts gX5_fishes_X5_lay rfl rfl rfl (by decide +kernel) ⟨Nat.le_of_ble_eq_true rfl, Nat.le_of_ble_eq_true rfl⟩) hK hW hA 0 rfl rfl rfl hl.1 rfl (Nat.le_of_ble_eq_true rfl) dX5_fishes_32 ⟨Nat.le_of_ble_eq_true rfl, Nat.le_of_ble_eq_true rfl⟩ (fun σ_2 H locs hw hW => ?_)
    refine lv_aload_n hx hb dX5_fishes_35 rfl (lv_at hl 2 rfl) ?_
    refine lv_iload_n hx hb dX5_fishes_36 rfl (lv_at hl 3 rfl) ?_
    refine lv_iconst (v := 4) hx hb dX5_fishes_37 (by decide) ?_
    refine lv_aload_n hx hb dX5_fishes_38 rfl (lv_at hl 2 rfl) ?_
    refine lv_iload_n hx hb dX5_fishes_39 rfl (lv_at hl 3 rfl) ?_
    refine lv_iconst (v := 4) hx hb dX5_fishes_40 (by decide) ?_
    refine kV_Mi (As := [.int p1, .int 4]) (rest := [.int 4, .int p1, .ref (a 0)]) ⟨hx, hb, hml, hown, hts⟩ (ok_X5_of l D cI cJ a _ _ _ _ _ hw) (cwV 2 hts gX5_fishes_X5_of rfl rfl rfl (by decide +kernel) ⟨Nat.le_of_ble_eq_true rfl, Nat.le_of_ble_eq_true rfl⟩) hK hW hA 0 rfl rfl rfl hl.1 rfl (Nat.le_of_ble_eq_true rfl) dX5_fishes_41 ⟨Nat.le_of_ble_eq_true rfl, Nat.le_of_ble_eq_true rfl⟩ (fun r_3 _ H locs hw hW => ?_)
    refine lv_iload_n hx hb dX5_fishes_44 rfl (lv_at hl 0 rfl) ?_
    refine lv_iadd hx hb dX5_fishes_45 ?_
    refine kV_Mv (As := [.int p1, .int 4, .int (r_3 + r_1)]) (rest := []) ⟨hx, hb, hml, hown, hts⟩ (ok_X5_lay l D cI cJ a _ _ _ _ _ _ hw) (cwV 3 hts gX5_fishes_X5_lay rfl rfl rfl (by decide +kernel) ⟨Nat.le_of_ble_eq_true rfl, Nat.le_of_ble_eq_true rfl⟩) hK hW hA 0 rfl rfl rfl hl.1 rfl (Nat.le_of_ble_eq_true rfl) dX5_fishes_46 ⟨Nat.le_of_ble_eq_true rfl, Nat.le_of_ble_eq_true rfl⟩ (fun σ_4 H locs hw hW => ?_)
    refine lv_aload_n hx hb dX5_fishes_49 rfl (lv_at hl 2 rfl) ?_
    refine lv_aload_n hx hb dX5_fishes_50 rfl (lv_at hl 2 rfl) ?_
    refine lv_iload_n hx hb dX5_fishes_51 rfl (lv_at hl 3 rfl) ?_
    refine lv_iconst (v := 2) hx hb dX5_fishes_52 (by decide) ?_
    refine kV_Mi (As := [.int p1, .int 2]) (rest := [.ref (a 0)]) ⟨hx, hb, hml, hown, hts⟩ (ok_X5_of l D cI cJ a _ _ _ _ _ hw) (cwV 2 hts gX5_fishes_X5_of rfl rfl rfl (by decide +kernel) ⟨Nat.le_of_ble_eq_true rfl, Nat.le_of_ble_eq_true rfl⟩) hK hW hA 0 rfl rfl rfl hl.1 rfl (Nat.le_of_ble_eq_true rfl) dX5_fishes_53 ⟨Nat.le_of_ble_eq_true rfl, Nat.le_of_ble_eq_true rfl⟩ (fun r_5 _ H locs hw hW => ?_)
    refine lv_iconst (v := 1) hx hb dX5_fishes_56 (by decide) ?_
    refine lv_iload_n hx hb dX5_fishes_57 rfl (lv_at hl 0 rfl) ?_
    refine kV_Mv (As := [.int r_5, .int 1, .int r_1]) (rest := []) ⟨hx, hb, hml, hown, hts⟩ (ok_X5_adds l D cI cJ a _ _ _ _ _ _ hw) (cwV 3 hts gX5_fishes_X5_adds rfl rfl rfl (by decide +kernel) ⟨Nat.le_of_ble_eq_true rfl, Nat.le_of_ble_eq_true rfl⟩) hK hW hA 0 rfl rfl rfl hl.1 rfl (Nat.le_of_ble_eq_true rfl) dX5_fishes_58 ⟨Nat.le_of_ble_eq_true rfl, Nat.le_of_ble_eq_true rfl⟩ (fun σ_6 H locs hw hW => ?_)
    refine lv_aload_n hx hb dX5_fishes_61 rfl (lv_at hl 2 rfl) ?_
    refine va_get (D := D) (ci := 5) (v := .ref (a 1)) (C := RX5) (T := TX5) (N := 18) hx hb hts hinX5 hown hK hW.1 0 rfl rfl 1 (by decide) (hts _ (List.mem_of_getElem? (i := 1) rfl)) (fun _ h9 => h9) rfl dX5_fishes_62 ?_
    refine lv_bipush (v := 8) hx hb dX5_fishes_65 (by decide) ?_
    refine lv_dup2_11 hx hb dX5_fishes_67 rfl rfl ?_
    refine va_iald hx hb hK hW.1 1 0 rfl rfl (by unfold vp_in; decide) dX5_fishes_68 ?_
    refine lv_iload_n hx hb dX5_fishes_69 rfl (lv_at hl 0 rfl) ?_
    refine lv_iadd hx hb dX5_fishes_70 ?_
    refine st_m_s hx hb hK hW (by unfold vp_in; decide) dX5_fishes_71 (fun σ_7 eσ_7 H locs hW => ?_)
    have hw := hw σ_7 eσ_7
    refine lv_aload_n hx hb dX5_fishes_72 rfl (lv_at hl 2 rfl) ?_
    refine lv_iload_n hx hb dX5_fishes_73 rfl (lv_at hl 3 rfl) ?_
    refine lv_iload_n hx hb dX5_fishes_74 rfl (lv_at hl 3 rfl) ?_
    refine lv_iconst (v := 1) hx hb dX5_fishes_75 (by decide) ?_
    refine lv_isub hx hb dX5_fishes_76 ?_
    refine kV_Mv (As := [.int p1, .int (p1 - 1)]) (rest := []) ⟨hx, hb, hml, hown, hts⟩ (ok_X5_spreads l D cI cJ a _ _ _ _ _ hw) (cwV 2 hts gX5_fishes_X5_spreads rfl rfl rfl (by decide +kernel) ⟨Nat.le_of_ble_eq_true rfl, Nat.le_of_ble_eq_true rfl⟩) hK hW hA 0 rfl rfl rfl hl.1 rfl (Nat.le_of_ble_eq_true rfl) dX5_fishes_77 ⟨Nat.le_of_ble_eq_true rfl, Nat.le_of_ble_eq_true rfl⟩ (fun σ_8 H locs hw hW => ?_)
    refine lv_aload_n hx hb dX5_fishes_80 rfl (lv_at hl 2 rfl) ?_
    refine lv_iload_n hx hb dX5_fishes_81 rfl (lv_at hl 3 rfl) ?_
    refine lv_iload_n hx hb dX5_fishes_82 rfl (lv_at hl 3 rfl) ?_
    refine lv_iconst (v := 1) hx hb dX5_fishes_83 (by decide) ?_
    refine lv_iadd hx hb dX5_fishes_84 ?_
    refine kV_Mv (As := [.int p1, .int (p1 + 1)]) (rest := []) ⟨hx, hb, hml, hown, hts⟩ (ok_X5_spreads l D cI cJ a _ _ _ _ _ hw) (cwV 2 hts gX5_fishes_X5_spreads rfl rfl rfl (by decide +kernel) ⟨Nat.le_of_ble_eq_true rfl, Nat.le_of_ble_eq_true rfl⟩) hK hW hA 0 rfl rfl rfl hl.1 rfl (Nat.le_of_ble_eq_true rfl) dX5_fishes_85 ⟨Nat.le_of_ble_eq_true rfl, Nat.le_of_ble_eq_true rfl⟩ (fun σ_9 H locs hw hW => ?_)
    refine lv_iload_n hx hb dX5_fishes_88 rfl (lv_at hl 0 rfl) ?_
    exact hret _ σ_9 _ _ _ _ hw hW dX5_fishes_89
  · have hw := hw.2 hc
    refine lv_iload_n hx hb dX5_fishes_16 rfl (lv_at hl 0 rfl) ?_
    refine lv_iconst (v := 4) hx hb dX5_fishes_17 (by decide) ?_
    refine lv_idiv hx hb dX5_fishes_18 (by decide) ?_
    refine lv_iconst (v := 1) hx hb dX5_fishes_19 (by decide) ?_
    refine lv_iadd hx hb dX5_fishes_20 ?_
    refine lv_goto (tgt := 25) hx hb dX5_fishes_21 (by decide) ?_
    refine lv_topi (fun v3_10 ev3_10 => ?_)
    have hw := hw v3_10 ev3_10
    refine lv_istore_n (lv' := [(3, .int v3_10), (2, .int r_1), (0, .ref (a 0)), (1, .int p1)]) hx hb dX5_fishes_25 rfl hl (by decide) rfl (fun ls hl => ?_)
    refine lv_aload_n hx hb dX5_fishes_26 rfl (lv_at hl 2 rfl) ?_
    refine lv_iload_n hx hb dX5_fishes_27 rfl (lv_at hl 3 rfl) ?_
    refine lv_iconst (v := 1) hx hb dX5_fishes_28 (by decide) ?_
    refine lv_iload_n hx hb dX5_fishes_29 rfl (lv_at hl 1 rfl) ?_
    refine lv_iload_n hx hb dX5_fishes_30 rfl (lv_at hl 0 rfl) ?_
    refine lv_isub hx hb dX5_fishes_31 ?_
    refine kV_Mv (As := [.int p1, .int 1, .int (r_1 - v3_10)]) (rest := []) ⟨hx, hb, hml, hown, hts⟩ (ok_X5_lay l D cI cJ a _ _ _ _ _ _ hw) (cwV 3 hts gX5_fishes_X5_lay rfl rfl rfl (by decide +kernel) ⟨Nat.le_of_ble_eq_true rfl, Nat.le_of_ble_eq_true rfl⟩) hK hW hA 0 rfl rfl rfl hl.1 rfl (Nat.le_of_ble_eq_true rfl) dX5_fishes_32 ⟨Nat.le_of_ble_eq_true rfl, Nat.le_of_ble_eq_true rfl⟩ (fun σ_11 H locs hw hW => ?_)
    refine lv_aload_n hx hb dX5_fishes_35 rfl (lv_at hl 2 rfl) ?_
    refine lv_iload_n hx hb dX5_fishes_36 rfl (lv_at hl 3 rfl) ?_
    refine lv_iconst (v := 4) hx hb dX5_fishes_37 (by decide) ?_
    refine lv_aload_n hx hb dX5_fishes_38 rfl (lv_at hl 2 rfl) ?_
    refine lv_iload_n hx hb dX5_fishes_39 rfl (lv_at hl 3 rfl) ?_
    refine lv_iconst (v := 4) hx hb dX5_fishes_40 (by decide) ?_
    refine kV_Mi (As := [.int p1, .int 4]) (rest := [.int 4, .int p1, .ref (a 0)]) ⟨hx, hb, hml, hown, hts⟩ (ok_X5_of l D cI cJ a _ _ _ _ _ hw) (cwV 2 hts gX5_fishes_X5_of rfl rfl rfl (by decide +kernel) ⟨Nat.le_of_ble_eq_true rfl, Nat.le_of_ble_eq_true rfl⟩) hK hW hA 0 rfl rfl rfl hl.1 rfl (Nat.le_of_ble_eq_true rfl) dX5_fishes_41 ⟨Nat.le_of_ble_eq_true rfl, Nat.le_of_ble_eq_true rfl⟩ (fun r_12 _ H locs hw hW => ?_)
    refine lv_iload_n hx hb dX5_fishes_44 rfl (lv_at hl 0 rfl) ?_
    refine lv_iadd hx hb dX5_fishes_45 ?_
    refine kV_Mv (As := [.int p1, .int 4, .int (r_12 + v3_10)]) (rest := []) ⟨hx, hb, hml, hown, hts⟩ (ok_X5_lay l D cI cJ a _ _ _ _ _ _ hw) (cwV 3 hts gX5_fishes_X5_lay rfl rfl rfl (by decide +kernel) ⟨Nat.le_of_ble_eq_true rfl, Nat.le_of_ble_eq_true rfl⟩) hK hW hA 0 rfl rfl rfl hl.1 rfl (Nat.le_of_ble_eq_true rfl) dX5_fishes_46 ⟨Nat.le_of_ble_eq_true rfl, Nat.le_of_ble_eq_true rfl⟩ (fun σ_13 H locs hw hW => ?_)
    refine lv_aload_n hx hb dX5_fishes_49 rfl (lv_at hl 2 rfl) ?_
    refine lv_aload_n hx hb dX5_fishes_50 rfl (lv_at hl 2 rfl) ?_
    refine lv_iload_n hx hb dX5_fishes_51 rfl (lv_at hl 3 rfl) ?_
    refine lv_iconst (v := 2) hx hb dX5_fishes_52 (by decide) ?_
    refine kV_Mi (As := [.int p1, .int 2]) (rest := [.ref (a 0)]) ⟨hx, hb, hml, hown, hts⟩ (ok_X5_of l D cI cJ a _ _ _ _ _ hw) (cwV 2 hts gX5_fishes_X5_of rfl rfl rfl (by decide +kernel) ⟨Nat.le_of_ble_eq_true rfl, Nat.le_of_ble_eq_true rfl⟩) hK hW hA 0 rfl rfl rfl hl.1 rfl (Nat.le_of_ble_eq_true rfl) dX5_fishes_53 ⟨Nat.le_of_ble_eq_true rfl, Nat.le_of_ble_eq_true rfl⟩ (fun r_14 _ H locs hw hW => ?_)
    refine lv_iconst (v := 1) hx hb dX5_fishes_56 (by decide) ?_
    refine lv_iload_n hx hb dX5_fishes_57 rfl (lv_at hl 0 rfl) ?_
    refine kV_Mv (As := [.int r_14, .int 1, .int v3_10]) (rest := []) ⟨hx, hb, hml, hown, hts⟩ (ok_X5_adds l D cI cJ a _ _ _ _ _ _ hw) (cwV 3 hts gX5_fishes_X5_adds rfl rfl rfl (by decide +kernel) ⟨Nat.le_of_ble_eq_true rfl, Nat.le_of_ble_eq_true rfl⟩) hK hW hA 0 rfl rfl rfl hl.1 rfl (Nat.le_of_ble_eq_true rfl) dX5_fishes_58 ⟨Nat.le_of_ble_eq_true rfl, Nat.le_of_ble_eq_true rfl⟩ (fun σ_15 H locs hw hW => ?_)
    refine lv_aload_n hx hb dX5_fishes_61 rfl (lv_at hl 2 rfl) ?_
    refine va_get (D := D) (ci := 5) (v := .ref (a 1)) (C := RX5) (T := TX5) (N := 18) hx hb hts hinX5 hown hK hW.1 0 rfl rfl 1 (by decide) (hts _ (List.mem_of_getElem? (i := 1) rfl)) (fun _ h9 => h9) rfl dX5_fishes_62 ?_
    refine lv_bipush (v := 8) hx hb dX5_fishes_65 (by decide) ?_
    refine lv_dup2_11 hx hb dX5_fishes_67 rfl rfl ?_
    refine va_iald hx hb hK hW.1 1 0 rfl rfl (by unfold vp_in; decide) dX5_fishes_68 ?_
    refine lv_iload_n hx hb dX5_fishes_69 rfl (lv_at hl 0 rfl) ?_
    refine lv_iadd hx hb dX5_fishes_70 ?_
    refine st_m_s hx hb hK hW (by unfold vp_in; decide) dX5_fishes_71 (fun σ_16 eσ_16 H locs hW => ?_)
    have hw := hw σ_16 eσ_16
    refine lv_aload_n hx hb dX5_fishes_72 rfl (lv_at hl 2 rfl) ?_
    refine lv_iload_n hx hb dX5_fishes_73 rfl (lv_at hl 3 rfl) ?_
    refine lv_iload_n hx hb dX5_fishes_74 rfl (lv_at hl 3 rfl) ?_
    refine lv_iconst (v := 1) hx hb dX5_fishes_75 (by decide) ?_
    refine lv_isub hx hb dX5_fishes_76 ?_
    refine kV_Mv (As := [.int p1, .int (p1 - 1)]) (rest := []) ⟨hx, hb, hml, hown, hts⟩ (ok_X5_spreads l D cI cJ a _ _ _ _ _ hw) (cwV 2 hts gX5_fishes_X5_spreads rfl rfl rfl (by decide +kernel) ⟨Nat.le_of_ble_eq_true rfl, Nat.le_of_ble_eq_true rfl⟩) hK hW hA 0 rfl rfl rfl hl.1 rfl (Nat.le_of_ble_eq_true rfl) dX5_fishes_77 ⟨Nat.le_of_ble_eq_true rfl, Nat.le_of_ble_eq_true rfl⟩ (fun σ_17 H locs hw hW => ?_)
    refine lv_aload_n hx hb dX5_fishes_80 rfl (lv_at hl 2 rfl) ?_
    refine lv_iload_n hx hb dX5_fishes_81 rfl (lv_at hl 3 rfl) ?_
    refine lv_iload_n hx hb dX5_fishes_82 rfl (lv_at hl 3 rfl) ?_
    refine lv_iconst (v := 1) hx hb dX5_fishes_83 (by decide) ?_
    refine lv_iadd hx hb dX5_fishes_84 ?_
    refine kV_Mv (As := [.int p1, .int (p1 + 1)]) (rest := []) ⟨hx, hb, hml, hown, hts⟩ (ok_X5_spreads l D cI cJ a _ _ _ _ _ hw) (cwV 2 hts gX5_fishes_X5_spreads rfl rfl rfl (by decide +kernel) ⟨Nat.le_of_ble_eq_true rfl, Nat.le_of_ble_eq_true rfl⟩) hK hW hA 0 rfl rfl rfl hl.1 rfl (Nat.le_of_ble_eq_true rfl) dX5_fishes_85 ⟨Nat.le_of_ble_eq_true rfl, Nat.le_of_ble_eq_true rfl⟩ (fun σ_18 H locs hw hW => ?_)
    refine lv_iload_n hx hb dX5_fishes_88 rfl (lv_at hl 0 rfl) ?_
    exact hret _ σ_18 _ _ _ _ hw hW dX5_fishes_89
def wp_X5_dawns (σ : MS) (post : Int32 → MS → Prop) : Prop := ∃ I1 : Nat → Int32 → Int32 → MS → Prop, (∃ n : Nat, I1 n 0 0 (σ)) ∧ ∀ (n1 : Nat) (v1_1 : Int32) (v2_1 : Int32) (σ_1 : MS), I1 n1 v1_1 v2_1 σ_1 → ((6 ≤ v2_1 → ∃ I2 : Nat → Int32 → MS → Prop, (∃ n : Nat, I2 n 0 (σ_1)) ∧ ∀ (n2 : Nat) (v2_2 : Int32) (σ_2 : MS), I2 n2 v2_2 σ_2 → ((36 ≤ v2_2 → ∀ σ_3 : MS, σ_3 = ms_s σ_2 (upd (m_s σ_2) (0 : Int32).toNatClampNeg (((m_s σ_2) (0 : Int32).toNatClampNeg) + 1)) → ∀ σ_4 : MS, σ_4 = ms_s σ_3 (upd (m_s σ_3) (1 : Int32).toNatClampNeg 0) → ∀ σ_5 : MS, σ_5 = ms_s σ_4 (upd (m_s σ_4) (2 : Int32).toNatClampNeg 0) → ∀ σ_6 : MS, σ_6 = ms_s σ_5 (upd (m_s σ_5) (11 : Int32).toNatClampNeg 0) → post v1_1 σ_6) ∧ (¬ 36 ≤ v2_2 → vp_in (69 + (3 * v2_2)) 1416 ∧ ∀ σ_7 : MS, σ_7 = ms_s σ_2 (upd (m_s σ_2) (69 + (3 * v2_2)).toNatClampNeg (-1)) → ∀ v2_8 : Int32, v2_8 = v2_2 + 1 → ∃ n' : Nat, n' < n2 ∧ I2 n' v2_8 (σ_7)))) ∧ (¬ 6 ≤ v2_1 → wp_X5_of σ_1 v2_1 1 (fun r_9 => ∀ v3_10 : Int32, v3_10 = (200 - r_9) → ((v3_10 ≤ ((m_s σ_1) (14 : Int32).toNatClampNeg) → wp_X5_of σ_1 v2_1 1 (fun r_11 => wp_X5_lay σ_1 v2_1 1 (r_11 + v3_10) (fun σ_12 => wp_X5_lay σ_12 v2_1 2 (-1) (fun σ_13 => wp_X5_lay σ_13 v2_1 3 (-1) (fun σ_14 => ∀ v1_15 : Int32, v1_15 = (v1_1 + v3_10) → ∀ v2_16 : Int32, v2_16 = v2_1 + 1 → ∃ n' : Nat, n' < n1 ∧ I1 n' v1_15 v2_16 (σ_14)))))) ∧ (¬ v3_10 ≤ ((m_s σ_1) (14 : Int32).toNatClampNeg) → ∀ v4_17 : Int32, v4_17 = ((m_s σ_1) (14 : Int32).toNatClampNeg) → wp_X5_of σ_1 v2_1 1 (fun r_18 => wp_X5_lay σ_1 v2_1 1 (r_18 + v4_17) (fun σ_19 => wp_X5_lay σ_19 v2_1 2 (-1) (fun σ_20 => wp_X5_lay σ_20 v2_1 3 (-1) (fun σ_21 => ∀ v1_22 : Int32, v1_22 = (v1_1 + v4_17) → ∀ v2_23 : Int32, v2_23 = v2_1 + 1 → ∃ n' : Nat, n' < n1 ∧ I1 n' v1_22 v2_23 (σ_21))))))))))
abbrev rm_X5_dawns : Room := { frames := 1, cells := 0, slots := 0, locals := 23 }
theorem in_X5_dawns_X5 : ∀ w ∈ wsX50, w ∈ wsX5_dawns := fun w h => List.mem_cons_of_mem _ (List.mem_append_right _ (h))
set_option maxHeartbeats 4000000 in
set_option maxRecDepth 100000 in
theorem ok_X5_dawns (l : Launch) (D : va_G) (cI cJ : ClassId) (a : Nat → Nat) (sz : Nat) (σ : MS) (post : Int32 → MS → Prop) (hw : wp_X5_dawns σ post) : Mi l yX5_dawns wsX5_dawns rm_X5_dawns [.ref (a 0)] D (tysIJ cI cJ) (mW cI cJ a σ) sz post (mW cI cJ a) := by
  refine s_Mi (by decide) rfl (Nat.le_of_ble_eq_true rfl) ?_
  intro p e s m args below meth c A Q hx hb hml hts hown hin hK hA hret H locs ls hW hl
  have hown : s.vm.findClass RX5 = some m.cls := hown
  have hl : lv_has ls 5 [(0, .ref (a 0))] := hl
  have hinX5 := in_X5_dawns_X5
  refine lv_iconst (v := 0) hx hb dX5_dawns_0 (by decide) ?_
  refine lv_istore_n (lv' := [(1, .int 0), (0, .ref (a 0))]) hx hb dX5_dawns_1 rfl hl (by decide) rfl (fun ls hl => ?_)
  refine lv_iconst (v := 0) hx hb dX5_dawns_2 (by decide) ?_
  refine lv_istore_n (lv' := [(2, .int 0), (1, .int 0), (0, .ref (a 0))]) hx hb dX5_dawns_3 rfl hl (by decide) rfl (fun ls hl => ?_)
  obtain ⟨I1, ⟨n1, hI1⟩, hJ1⟩ := hw
  have hl : lv_has ls 5 [(0, .ref (a 0)), (1, .int 0), (2, .int 0)] := lv_sub hl [2, 1, 0] rfl
  suffices LP1 : ∀ (n : Nat) (v1_1 : Int32) (v2_1 : Int32) (σ_1 : MS) (H : Heap) (locs : List Loc) (ls : Array Slot), I1 n v1_1 v2_1 σ_1 → Wd D A s.heap (mW cI cJ a σ_1) H locs → lv_has ls 5 [(0, .ref (a 0)), (1, .int v1_1), (2, .int v2_1)] → W p l e rm_X5_dawns s m args below meth c H locs 0 0 Q (F0 m 4 ls []) from LP1 n1 0 0 _ H locs ls hI1 hW hl
  intro n1
  induction n1 using Nat.strongRecOn with
  | ind n1 ih1 =>
    intro v1_1 v2_1 σ_1 H locs ls hIn hW hl
    have hw := hJ1 n1 v1_1 v2_1 σ_1 hIn
    refine lv_iload_n hx hb dX5_dawns_4 rfl (lv_at hl 2 rfl) ?_
    refine lv_bipush (v := 6) hx hb dX5_dawns_5 (by decide) ?_
    refine lv_icmp_ge (tgt := 85) hx hb dX5_dawns_7 (by decide) (fun hc => ?_) (fun hc => ?_)
    · have hw := hw.1 hc
      refine lv_iconst (v := 0) hx hb dX5_dawns_85 (by decide) ?_
      refine lv_istore_n (lv' := [(2, .int 0), (0, .ref (a 0)), (1, .int v1_1)]) hx hb dX5_dawns_86 rfl hl (by decide) rfl (fun ls hl => ?_)
      obtain ⟨I2, ⟨n2, hI2⟩, hJ2⟩ := hw
      have hl : lv_has ls 5 [(0, .ref (a 0)), (1, .int v1_1), (2, .int 0)] := lv_sub hl [1, 2, 0] rfl
      suffices LP2 : ∀ (n : Nat) (v2_2 : Int32) (σ_2 : MS) (H : Heap) (locs : List Loc) (ls : Array Slot), I2 n v2_2 σ_2 → Wd D A s.heap (mW cI cJ a σ_2) H locs → lv_has ls 5 [(0, .ref (a 0)), (1, .int v1_1), (2, .int v2_2)] → W p l e rm_X5_dawns s m args below meth c H locs 0 0 Q (F0 m 87 ls []) from LP2 n2 0 _ H locs ls hI2 hW hl
      intro n2
      induction n2 using Nat.strongRecOn with
      | ind n2 ih2 =>
        intro v2_2 σ_2 H locs ls hIn hW hl
        have hw := hJ2 n2 v2_2 σ_2 hIn
        refine lv_iload_n hx hb dX5_dawns_87 rfl (lv_at hl 2 rfl) ?_
        refine lv_bipush (v := 36) hx hb dX5_dawns_88 (by decide) ?_
        refine lv_icmp_ge (tgt := 111) hx hb dX5_dawns_90 (by decide) (fun hc => ?_) (fun hc => ?_)
        · have hw := hw.1 hc
          refine lv_aload_n hx hb dX5_dawns_111 rfl (lv_at hl 0 rfl) ?_
          refine va_get (D := D) (ci := 5) (v := .ref (a 1)) (C := RX5) (T := TX5) (N := 18) hx hb hts hinX5 hown hK hW.1 0 rfl rfl 1 (by decide) (hts _ (List.mem_of_getElem? (i := 1) rfl)) (fun _ h9 => h9) rfl dX5_dawns_112 ?_
          refine lv_iconst (v := 0) hx hb dX5_dawns_115 (by decide) ?_
          refine lv_dup2_11 hx hb dX5_dawns_116 rfl rfl ?_
          refine va_iald hx hb hK hW.1 1 0 rfl rfl (by unfold vp_in; decide) dX5_dawns_117 ?_
          refine lv_iconst (v := 1) hx hb dX5_dawns_118 (by decide) ?_
          refine lv_iadd hx hb dX5_dawns_119 ?_
          refine st_m_s hx hb hK hW (by unfold vp_in; decide) dX5_dawns_120 (fun σ_3 eσ_3 H locs hW => ?_)
          have hw := hw σ_3 eσ_3
          refine lv_aload_n hx hb dX5_dawns_121 rfl (lv_at hl 0 rfl) ?_
          refine va_get (D := D) (ci := 5) (v := .ref (a 1)) (C := RX5) (T := TX5) (N := 18) hx hb hts hinX5 hown hK hW.1 0 rfl rfl 1 (by decide) (hts _ (List.mem_of_getElem? (i := 1) rfl)) (fun _ h9 => h9) rfl dX5_dawns_122 ?_
          refine lv_iconst (v := 1) hx hb dX5_dawns_125 (by decide) ?_
          refine lv_iconst (v := 0) hx hb dX5_dawns_126 (by decide) ?_
          refine st_m_s hx hb hK hW (by unfold vp_in; decide) dX5_dawns_127 (fun σ_4 eσ_4 H locs hW => ?_)
          have hw := hw σ_4 eσ_4
          refine lv_aload_n hx hb dX5_dawns_128 rfl (lv_at hl 0 rfl) ?_
          refine va_get (D := D) (ci := 5) (v := .ref (a 1)) (C := RX5) (T := TX5) (N := 18) hx hb hts hinX5 hown hK hW.1 0 rfl rfl 1 (by decide) (hts _ (List.mem_of_getElem? (i := 1) rfl)) (fun _ h9 => h9) rfl dX5_dawns_129 ?_
          refine lv_iconst (v := 2) hx hb dX5_dawns_132 (by decide) ?_
          refine lv_iconst (v := 0) hx hb dX5_dawns_133 (by decide) ?_
          refine st_m_s hx hb hK hW (by unfold vp_in; decide) dX5_dawns_134 (fun σ_5 eσ_5 H locs hW => ?_)
          have hw := hw σ_5 eσ_5
          refine lv_aload_n hx hb dX5_dawns_135 rfl (lv_at hl 0 rfl) ?_
          refine va_get (D := D) (ci := 5) (v := .ref (a 1)) (C := RX5) (T := TX5) (N := 18) hx hb hts hinX5 hown hK hW.1 0 rfl rfl 1 (by decide) (hts _ (List.mem_of_getElem? (i := 1) rfl)) (fun _ h9 => h9) rfl dX5_dawns_136 ?_
          refine lv_bipush (v := 11) hx hb dX5_dawns_139 (by decide) ?_
          refine lv_iconst (v := 0) hx hb dX5_dawns_141 (by decide) ?_
          refine st_m_s hx hb hK hW (by unfold vp_in; decide) dX5_dawns_142 (fun σ_6 eσ_6 H locs hW => ?_)
          have hw := hw σ_6 eσ_6
          refine lv_iload_n hx hb dX5_dawns_143 rfl (lv_at hl 1 rfl) ?_
          exact hret _ σ_6 _ _ _ _ hw hW dX5_dawns_144
        · have hw := hw.2 hc
          refine lv_aload_n hx hb dX5_dawns_93 rfl (lv_at hl 0 rfl) ?_
          refine va_get (D := D) (ci := 5) (v := .ref (a 1)) (C := RX5) (T := TX5) (N := 18) hx hb hts hinX5 hown hK hW.1 0 rfl rfl 1 (by decide) (hts _ (List.mem_of_getElem? (i := 1) rfl)) (fun _ h9 => h9) rfl dX5_dawns_94 ?_
          refine lv_bipush (v := 69) hx hb dX5_dawns_97 (by decide) ?_
          refine lv_iconst (v := 3) hx hb dX5_dawns_99 (by decide) ?_
          refine lv_iload_n hx hb dX5_dawns_100 rfl (lv_at hl 2 rfl) ?_
          refine lv_imul hx hb dX5_dawns_101 ?_
          refine lv_iadd hx hb dX5_dawns_102 ?_
          refine lv_iconst (v := (-1)) hx hb dX5_dawns_103 (by decide) ?_
          refine st_m_s hx hb hK hW hw.1 dX5_dawns_104 (fun σ_7 eσ_7 H locs hW => ?_)
          have hw := hw.2
          have hw := hw σ_7 eσ_7
          obtain ⟨v2_8, ev2_8⟩ : ∃ y : Int32, y = v2_2 + 1 := ⟨_, rfl⟩
          have hw := hw v2_8 ev2_8
          refine lv_iinc (v := v2_8) (lv' := [(2, .int v2_8), (0, .ref (a 0)), (1, .int v1_1)]) hx hb dX5_dawns_105 hl (k := 2) rfl (by rw [ev2_8]; rfl) (by decide) rfl (fun ls hl => ?_)
          refine lv_goto (tgt := 87) hx hb dX5_dawns_108 (by decide) ?_
          obtain ⟨n9, hlt9, hI9⟩ := hw
          exact ih2 n9 hlt9 _ _ _ _ _ hI9 hW (lv_sub hl [1, 2, 0] rfl)
    · have hw := hw.2 hc
      refine lv_sipush (v := 200) hx hb dX5_dawns_10 (by decide) ?_
      refine lv_aload_n hx hb dX5_dawns_13 rfl (lv_at hl 0 rfl) ?_
      refine lv_iload_n hx hb dX5_dawns_14 rfl (lv_at hl 2 rfl) ?_
      refine lv_iconst (v := 1) hx hb dX5_dawns_15 (by decide) ?_
      refine kV_Mi (As := [.int v2_1, .int 1]) (rest := [.int 200]) ⟨hx, hb, hml, hown, hts⟩ (ok_X5_of l D cI cJ a _ _ _ _ _ hw) (cwV 2 hts gX5_dawns_X5_of rfl rfl rfl (by decide +kernel) ⟨Nat.le_of_ble_eq_true rfl, Nat.le_of_ble_eq_true rfl⟩) hK hW hA 0 rfl rfl rfl hl.1 rfl (Nat.le_of_ble_eq_true rfl) dX5_dawns_16 ⟨Nat.le_of_ble_eq_true rfl, Nat.le_of_ble_eq_true rfl⟩ (fun r_9 _ H locs hw hW => ?_)
      refine lv_isub hx hb dX5_dawns_19 ?_
      refine lv_topi (fun v3_10 ev3_10 => ?_)
      have hw := hw v3_10 ev3_10
      refine lv_istore_n (lv' := [(3, .int v3_10), (0, .ref (a 0)), (1, .int v1_1), (2, .int v2_1)]) hx hb dX5_dawns_20 rfl hl (by decide) rfl (fun ls hl => ?_)
      refine lv_aload_n hx hb dX5_dawns_21 rfl (lv_at hl 1 rfl) ?_
      refine va_get (D := D) (ci := 5) (v := .ref (a 1)) (C := RX5) (T := TX5) (N := 18) hx hb hts hinX5 hown hK hW.1 0 rfl rfl 1 (by decide) (hts _ (List.mem_of_getElem? (i := 1) rfl)) (fun _ h9 => h9) rfl dX5_dawns_22 ?_
      refine lv_bipush (v := 14) hx hb dX5_dawns_25 (by decide) ?_
      refine va_iald hx hb hK hW.1 1 0 rfl rfl (by unfold vp_in; decide) dX5_dawns_27 ?_
      refine lv_iload_n hx hb dX5_dawns_28 rfl (lv_at hl 0 rfl) ?_
      refine lv_icmp_ge (tgt := 42) hx hb dX5_dawns_29 (by decide) (fun hc => ?_) (fun hc => ?_)
      · have hw := hw.1 hc
        refine lv_iload_n hx hb dX5_dawns_42 rfl (lv_at hl 0 rfl) ?_
        refine lv_istore (lv' := [(4, .int v3_10), (3, .int v3_10), (0, .ref (a 0)), (1, .int v1_1), (2, .int v2_1)]) hx hb dX5_dawns_43 hl (by decide) rfl (fun ls hl => ?_)
        refine lv_aload_n hx hb dX5_dawns_45 rfl (lv_at hl 2 rfl) ?_
        refine lv_iload_n hx hb dX5_dawns_46 rfl (lv_at hl 4 rfl) ?_
        refine lv_iconst (v := 1) hx hb dX5_dawns_47 (by decide) ?_
        refine lv_aload_n hx hb dX5_dawns_48 rfl (lv_at hl 2 rfl) ?_
        refine lv_iload_n hx hb dX5_dawns_49 rfl (lv_at hl 4 rfl) ?_
        refine lv_iconst (v := 1) hx hb dX5_dawns_50 (by decide) ?_
        refine kV_Mi (As := [.int v2_1, .int 1]) (rest := [.int 1, .int v2_1, .ref (a 0)]) ⟨hx, hb, hml, hown, hts⟩ (ok_X5_of l D cI cJ a _ _ _ _ _ hw) (cwV 2 hts gX5_dawns_X5_of rfl rfl rfl (by decide +kernel) ⟨Nat.le_of_ble_eq_true rfl, Nat.le_of_ble_eq_true rfl⟩) hK hW hA 0 rfl rfl rfl hl.1 rfl (Nat.le_of_ble_eq_true rfl) dX5_dawns_51 ⟨Nat.le_of_ble_eq_true rfl, Nat.le_of_ble_eq_true rfl⟩ (fun r_11 _ H locs hw hW => ?_)
        refine lv_iload hx hb dX5_dawns_54 (lv_at hl 0 rfl) ?_
        refine lv_iadd hx hb dX5_dawns_56 ?_
        refine kV_Mv (As := [.int v2_1, .int 1, .int (r_11 + v3_10)]) (rest := []) ⟨hx, hb, hml, hown, hts⟩ (ok_X5_lay l D cI cJ a _ _ _ _ _ _ hw) (cwV 3 hts gX5_dawns_X5_lay rfl rfl rfl (by decide +kernel) ⟨Nat.le_of_ble_eq_true rfl, Nat.le_of_ble_eq_true rfl⟩) hK hW hA 0 rfl rfl rfl hl.1 rfl (Nat.le_of_ble_eq_true rfl) dX5_dawns_57 ⟨Nat.le_of_ble_eq_true rfl, Nat.le_of_ble_eq_true rfl⟩ (fun σ_12 H locs hw hW => ?_)
        refine lv_aload_n hx hb dX5_dawns_60 rfl (lv_at hl 2 rfl) ?_
        refine lv_iload_n hx hb dX5_dawns_61 rfl (lv_at hl 4 rfl) ?_
        refine lv_iconst (v := 2) hx hb dX5_dawns_62 (by decide) ?_
        refine lv_iconst (v := (-1)) hx hb dX5_dawns_63 (by decide) ?_
        refine kV_Mv (As := [.int v2_1, .int 2, .int (-1)]) (rest := []) ⟨hx, hb, hml, hown, hts⟩ (ok_X5_lay l D cI cJ a _ _ _ _ _ _ hw) (cwV 3 hts gX5_dawns_X5_lay rfl rfl rfl (by decide +kernel) ⟨Nat.le_of_ble_eq_true rfl, Nat.le_of_ble_eq_true rfl⟩) hK hW hA 0 rfl rfl rfl hl.1 rfl (Nat.le_of_ble_eq_true rfl) dX5_dawns_64 ⟨Nat.le_of_ble_eq_true rfl, Nat.le_of_ble_eq_true rfl⟩ (fun σ_13 H locs hw hW => ?_)
        refine lv_aload_n hx hb dX5_dawns_67 rfl (lv_at hl 2 rfl) ?_
        refine lv_iload_n hx hb dX5_dawns_68 rfl (lv_at hl 4 rfl) ?_
        refine lv_iconst (v := 3) hx hb dX5_dawns_69 (by decide) ?_
        refine lv_iconst (v := (-1)) hx hb dX5_dawns_70 (by decide) ?_
        refine kV_Mv (As := [.int v2_1, .int 3, .int (-1)]) (rest := []) ⟨hx, hb, hml, hown, hts⟩ (ok_X5_lay l D cI cJ a _ _ _ _ _ _ hw) (cwV 3 hts gX5_dawns_X5_lay rfl rfl rfl (by decide +kernel) ⟨Nat.le_of_ble_eq_true rfl, Nat.le_of_ble_eq_true rfl⟩) hK hW hA 0 rfl rfl rfl hl.1 rfl (Nat.le_of_ble_eq_true rfl) dX5_dawns_71 ⟨Nat.le_of_ble_eq_true rfl, Nat.le_of_ble_eq_true rfl⟩ (fun σ_14 H locs hw hW => ?_)
        refine lv_iload_n hx hb dX5_dawns_74 rfl (lv_at hl 3 rfl) ?_
        refine lv_iload hx hb dX5_dawns_75 (lv_at hl 0 rfl) ?_
        refine lv_iadd hx hb dX5_dawns_77 ?_
        refine lv_topi (fun v1_15 ev1_15 => ?_)
        have hw := hw v1_15 ev1_15
        refine lv_istore_n (lv' := [(1, .int v1_15), (4, .int v3_10), (3, .int v3_10), (0, .ref (a 0)), (2, .int v2_1)]) hx hb dX5_dawns_78 rfl hl (by decide) rfl (fun ls hl => ?_)
        obtain ⟨v2_16, ev2_16⟩ : ∃ y : Int32, y = v2_1 + 1 := ⟨_, rfl⟩
        have hw := hw v2_16 ev2_16
        refine lv_iinc (v := v2_16) (lv' := [(2, .int v2_16), (1, .int v1_15), (4, .int v3_10), (3, .int v3_10), (0, .ref (a 0))]) hx hb dX5_dawns_79 hl (k := 4) rfl (by rw [ev2_16]; rfl) (by decide) rfl (fun ls hl => ?_)
        refine lv_goto (tgt := 4) hx hb dX5_dawns_82 (by decide) ?_
        obtain ⟨n9, hlt9, hI9⟩ := hw
        exact ih1 n9 hlt9 _ _ _ _ _ _ hI9 hW (lv_sub hl [4, 1, 0] rfl)
      · have hw := hw.2 hc
        refine lv_aload_n hx hb dX5_dawns_32 rfl (lv_at hl 1 rfl) ?_
        refine va_get (D := D) (ci := 5) (v := .ref (a 1)) (C := RX5) (T := TX5) (N := 18) hx hb hts hinX5 hown hK hW.1 0 rfl rfl 1 (by decide) (hts _ (List.mem_of_getElem? (i := 1) rfl)) (fun _ h9 => h9) rfl dX5_dawns_33 ?_
        refine lv_bipush (v := 14) hx hb dX5_dawns_36 (by decide) ?_
        refine va_iald hx hb hK hW.1 1 0 rfl rfl (by unfold vp_in; decide) dX5_dawns_38 ?_
        refine lv_goto (tgt := 43) hx hb dX5_dawns_39 (by decide) ?_
        refine lv_topi (fun v4_17 ev4_17 => ?_)
        have hw := hw v4_17 ev4_17
        refine lv_istore (lv' := [(4, .int v4_17), (3, .int v3_10), (0, .ref (a 0)), (1, .int v1_1), (2, .int v2_1)]) hx hb dX5_dawns_43 hl (by decide) rfl (fun ls hl => ?_)
        refine lv_aload_n hx hb dX5_dawns_45 rfl (lv_at hl 2 rfl) ?_
        refine lv_iload_n hx hb dX5_dawns_46 rfl (lv_at hl 4 rfl) ?_
        refine lv_iconst (v := 1) hx hb dX5_dawns_47 (by decide) ?_
        refine lv_aload_n hx hb dX5_dawns_48 rfl (lv_at hl 2 rfl) ?_
        refine lv_iload_n hx hb dX5_dawns_49 rfl (lv_at hl 4 rfl) ?_
        refine lv_iconst (v := 1) hx hb dX5_dawns_50 (by decide) ?_
        refine kV_Mi (As := [.int v2_1, .int 1]) (rest := [.int 1, .int v2_1, .ref (a 0)]) ⟨hx, hb, hml, hown, hts⟩ (ok_X5_of l D cI cJ a _ _ _ _ _ hw) (cwV 2 hts gX5_dawns_X5_of rfl rfl rfl (by decide +kernel) ⟨Nat.le_of_ble_eq_true rfl, Nat.le_of_ble_eq_true rfl⟩) hK hW hA 0 rfl rfl rfl hl.1 rfl (Nat.le_of_ble_eq_true rfl) dX5_dawns_51 ⟨Nat.le_of_ble_eq_true rfl, Nat.le_of_ble_eq_true rfl⟩ (fun r_18 _ H locs hw hW => ?_)
        refine lv_iload hx hb dX5_dawns_54 (lv_at hl 0 rfl) ?_
        refine lv_iadd hx hb dX5_dawns_56 ?_
        refine kV_Mv (As := [.int v2_1, .int 1, .int (r_18 + v4_17)]) (rest := []) ⟨hx, hb, hml, hown, hts⟩ (ok_X5_lay l D cI cJ a _ _ _ _ _ _ hw) (cwV 3 hts gX5_dawns_X5_lay rfl rfl rfl (by decide +kernel) ⟨Nat.le_of_ble_eq_true rfl, Nat.le_of_ble_eq_true rfl⟩) hK hW hA 0 rfl rfl rfl hl.1 rfl (Nat.le_of_ble_eq_true rfl) dX5_dawns_57 ⟨Nat.le_of_ble_eq_true rfl, Nat.le_of_ble_eq_true rfl⟩ (fun σ_19 H locs hw hW => ?_)
        refine lv_aload_n hx hb dX5_dawns_60 rfl (lv_at hl 2 rfl) ?_
        refine lv_iload_n hx hb dX5_dawns_61 rfl (lv_at hl 4 rfl) ?_
        refine lv_iconst (v := 2) hx hb dX5_dawns_62 (by decide) ?_
        refine lv_iconst (v := (-1)) hx hb dX5_dawns_63 (by decide) ?_
        refine kV_Mv (As := [.int v2_1, .int 2, .int (-1)]) (rest := []) ⟨hx, hb, hml, hown, hts⟩ (ok_X5_lay l D cI cJ a _ _ _ _ _ _ hw) (cwV 3 hts gX5_dawns_X5_lay rfl rfl rfl (by decide +kernel) ⟨Nat.le_of_ble_eq_true rfl, Nat.le_of_ble_eq_true rfl⟩) hK hW hA 0 rfl rfl rfl hl.1 rfl (Nat.le_of_ble_eq_true rfl) dX5_dawns_64 ⟨Nat.le_of_ble_eq_true rfl, Nat.le_of_ble_eq_true rfl⟩ (fun σ_20 H locs hw hW => ?_)
        refine lv_aload_n hx hb dX5_dawns_67 rfl (lv_at hl 2 rfl) ?_
        refine lv_iload_n hx hb dX5_dawns_68 rfl (lv_at hl 4 rfl) ?_
        refine lv_iconst (v := 3) hx hb dX5_dawns_69 (by decide) ?_
        refine lv_iconst (v := (-1)) hx hb dX5_dawns_70 (by decide) ?_
        refine kV_Mv (As := [.int v2_1, .int 3, .int (-1)]) (rest := []) ⟨hx, hb, hml, hown, hts⟩ (ok_X5_lay l D cI cJ a _ _ _ _ _ _ hw) (cwV 3 hts gX5_dawns_X5_lay rfl rfl rfl (by decide +kernel) ⟨Nat.le_of_ble_eq_true rfl, Nat.le_of_ble_eq_true rfl⟩) hK hW hA 0 rfl rfl rfl hl.1 rfl (Nat.le_of_ble_eq_true rfl) dX5_dawns_71 ⟨Nat.le_of_ble_eq_true rfl, Nat.le_of_ble_eq_true rfl⟩ (fun σ_21 H locs hw hW => ?_)
        refine lv_iload_n hx hb dX5_dawns_74 rfl (lv_at hl 3 rfl) ?_
        refine lv_iload hx hb dX5_dawns_75 (lv_at hl 0 rfl) ?_
        refine lv_iadd hx hb dX5_dawns_77 ?_
        refine lv_topi (fun v1_22 ev1_22 => ?_)
        have hw := hw v1_22 ev1_22
        refine lv_istore_n (lv' := [(1, .int v1_22), (4, .int v4_17), (3, .int v3_10), (0, .ref (a 0)), (2, .int v2_1)]) hx hb dX5_dawns_78 rfl hl (by decide) rfl (fun ls hl => ?_)
        obtain ⟨v2_23, ev2_23⟩ : ∃ y : Int32, y = v2_1 + 1 := ⟨_, rfl⟩
        have hw := hw v2_23 ev2_23
        refine lv_iinc (v := v2_23) (lv' := [(2, .int v2_23), (1, .int v1_22), (4, .int v4_17), (3, .int v3_10), (0, .ref (a 0))]) hx hb dX5_dawns_79 hl (k := 4) rfl (by rw [ev2_23]; rfl) (by decide) rfl (fun ls hl => ?_)
        refine lv_goto (tgt := 4) hx hb dX5_dawns_82 (by decide) ?_
        obtain ⟨n9, hlt9, hI9⟩ := hw
        exact ih1 n9 hlt9 _ _ _ _ _ _ hI9 hW (lv_sub hl [4, 1, 0] rfl)
def wp_X5_canFish (σ : MS) (p1 : Int32) (post : Int32 → Prop) : Prop := ((¬ ((m_s σ) (2 : Int32).toNatClampNeg) = 1 → post 0) ∧ (((m_s σ) (2 : Int32).toNatClampNeg) = 1 → wp_X5_of σ p1 2 (fun r_1 => ((r_1 = (-1) → post 0) ∧ (¬ r_1 = (-1) → post 1)))))
abbrev rm_X5_canFish : Room := { frames := 1, cells := 0, slots := 0, locals := 22 }
theorem in_X5_canFish_X5 : ∀ w ∈ wsX50, w ∈ wsX5_canFish := fun w h => List.mem_cons_of_mem _ (List.mem_append_right _ (h))
set_option maxHeartbeats 4000000 in
set_option maxRecDepth 100000 in
theorem ok_X5_canFish (l : Launch) (D : va_G) (cI cJ : ClassId) (a : Nat → Nat) (sz : Nat) (σ : MS) (p1 : Int32) (post : Int32 → Prop) (hw : wp_X5_canFish σ p1 post) : Mi l yX5_canFish wsX5_canFish rm_X5_canFish [.ref (a 0), .int p1] D (tysIJ cI cJ) (mW cI cJ a σ) sz (fun r (_ : Unit) => post r) (fun _ => mW cI cJ a σ) := by
  refine s_Mz (by decide) rfl (Nat.le_of_ble_eq_true rfl) ?_
  intro p e s m args below meth c A Q hx hb hml hts hown hin hK hA hret H locs ls hW hl
  have hown : s.vm.findClass RX5 = some m.cls := hown
  have hl : lv_has ls 2 [(0, .ref (a 0)), (1, .int p1)] := hl
  have hinX5 := in_X5_canFish_X5
  refine lv_aload_n hx hb dX5_canFish_0 rfl (lv_at hl 0 rfl) ?_
  refine va_get (D := D) (ci := 5) (v := .ref (a 1)) (C := RX5) (T := TX5) (N := 18) hx hb hts hinX5 hown hK hW.1 0 rfl rfl 1 (by decide) (hts _ (List.mem_of_getElem? (i := 1) rfl)) (fun _ h9 => h9) rfl dX5_canFish_1 ?_
  refine lv_iconst (v := 2) hx hb dX5_canFish_4 (by decide) ?_
  refine va_iald hx hb hK hW.1 1 0 rfl rfl (by unfold vp_in; decide) dX5_canFish_5 ?_
  refine lv_iconst (v := 1) hx hb dX5_canFish_6 (by decide) ?_
  refine lv_icmp_ne (tgt := 24) hx hb dX5_canFish_7 (by decide) (fun hc => ?_) (fun hc => ?_)
  · have hw := hw.1 hc
    refine lv_iconst (v := 0) hx hb dX5_canFish_24 (by decide) ?_
    exact hret _ () _ _ _ _ (by decide) hw hW dX5_canFish_25
  · have hw := hw.2 hc
    refine lv_aload_n hx hb dX5_canFish_10 rfl (lv_at hl 0 rfl) ?_
    refine lv_iload_n hx hb dX5_canFish_11 rfl (lv_at hl 1 rfl) ?_
    refine lv_iconst (v := 2) hx hb dX5_canFish_12 (by decide) ?_
    refine kV_Mi (As := [.int p1, .int 2]) (rest := []) ⟨hx, hb, hml, hown, hts⟩ (ok_X5_of l D cI cJ a _ _ _ _ _ hw) (cwV 2 hts gX5_canFish_X5_of rfl rfl rfl (by decide +kernel) ⟨Nat.le_of_ble_eq_true rfl, Nat.le_of_ble_eq_true rfl⟩) hK hW hA 0 rfl rfl rfl hl.1 rfl (Nat.le_of_ble_eq_true rfl) dX5_canFish_13 ⟨Nat.le_of_ble_eq_true rfl, Nat.le_of_ble_eq_true rfl⟩ (fun r_1 _ H locs hw hW => ?_)
    refine lv_iconst (v := (-1)) hx hb dX5_canFish_16 (by decide) ?_
    refine lv_icmp_eq (tgt := 24) hx hb dX5_canFish_17 (by decide) (fun hc => ?_) (fun hc => ?_)
    · have hw := hw.1 hc
      refine lv_iconst (v := 0) hx hb dX5_canFish_24 (by decide) ?_
      exact hret _ () _ _ _ _ (by decide) hw hW dX5_canFish_25
    · have hw := hw.2 hc
      refine lv_iconst (v := 1) hx hb dX5_canFish_20 (by decide) ?_
      refine lv_goto (tgt := 25) hx hb dX5_canFish_21 (by decide) ?_
      exact hret _ () _ _ _ _ (by decide) hw hW dX5_canFish_25
def wp_X5_copies (σ : MS) (p1 : Int32) (p2 : Int32) (post : MS → Prop) : Prop := ∃ I1 : Nat → Int32 → MS → Prop, (∃ n : Nat, I1 n 0 (σ)) ∧ ∀ (n1 : Nat) (v3_1 : Int32) (σ_1 : MS), I1 n1 v3_1 σ_1 → ((177 ≤ v3_1 → post σ_1) ∧ (¬ 177 ≤ v3_1 → vp_in ((177 * p1) + v3_1) 1416 ∧ vp_in ((177 * p2) + v3_1) 1416 ∧ ∀ σ_2 : MS, σ_2 = ms_s σ_1 (upd (m_s σ_1) ((177 * p2) + v3_1).toNatClampNeg ((m_s σ_1) ((177 * p1) + v3_1).toNatClampNeg)) → ∀ v3_3 : Int32, v3_3 = v3_1 + 1 → ∃ n' : Nat, n' < n1 ∧ I1 n' v3_3 (σ_2)))
abbrev rm_X5_copies : Room := { frames := 0, cells := 0, slots := 0, locals := 0 }
theorem in_X5_copies_X5 : ∀ w ∈ wsX50, w ∈ wsX5_copies := fun w h => List.mem_cons_of_mem _ (List.mem_append_right _ (h))
set_option maxHeartbeats 4000000 in
set_option maxRecDepth 100000 in
theorem ok_X5_copies (l : Launch) (D : va_G) (cI cJ : ClassId) (a : Nat → Nat) (sz : Nat) (σ : MS) (p1 : Int32) (p2 : Int32) (post : MS → Prop) (hw : wp_X5_copies σ p1 p2 post) : Mv l yX5_copies wsX5_copies rm_X5_copies [.ref (a 0), .int p1, .int p2] D (tysIJ cI cJ) (mW cI cJ a σ) sz post (mW cI cJ a) := by
  refine s_Mv (by decide) rfl (Nat.le_of_ble_eq_true rfl) ?_
  intro p e s m args below meth c A Q hx hb hml hts hown hin hK hA hret H locs ls hW hl
  have hown : s.vm.findClass RX5 = some m.cls := hown
  have hl : lv_has ls 4 [(0, .ref (a 0)), (1, .int p1), (2, .int p2)] := hl
  have hinX5 := in_X5_copies_X5
  refine lv_iconst (v := 0) hx hb dX5_copies_0 (by decide) ?_
  refine lv_istore_n (lv' := [(3, .int 0), (0, .ref (a 0)), (1, .int p1), (2, .int p2)]) hx hb dX5_copies_1 rfl hl (by decide) rfl (fun ls hl => ?_)
  obtain ⟨I1, ⟨n1, hI1⟩, hJ1⟩ := hw
  have hl : lv_has ls 4 [(0, .ref (a 0)), (1, .int p1), (2, .int p2), (3, .int 0)] := lv_sub hl [1, 2, 3, 0] rfl
  suffices LP1 : ∀ (n : Nat) (v3_1 : Int32) (σ_1 : MS) (H : Heap) (locs : List Loc) (ls : Array Slot), I1 n v3_1 σ_1 → Wd D A s.heap (mW cI cJ a σ_1) H locs → lv_has ls 4 [(0, .ref (a 0)), (1, .int p1), (2, .int p2), (3, .int v3_1)] → W p l e rm_X5_copies s m args below meth c H locs 0 0 Q (F0 m 2 ls []) from LP1 n1 0 _ H locs ls hI1 hW hl
  intro n1
  induction n1 using Nat.strongRecOn with
  | ind n1 ih1 =>
    intro v3_1 σ_1 H locs ls hIn hW hl
    have hw := hJ1 n1 v3_1 σ_1 hIn
    refine lv_iload_n hx hb dX5_copies_2 rfl (lv_at hl 3 rfl) ?_
    refine lv_sipush (v := 177) hx hb dX5_copies_3 (by decide) ?_
    refine lv_icmp_ge (tgt := 39) hx hb dX5_copies_6 (by decide) (fun hc => ?_) (fun hc => ?_)
    · have hw := hw.1 hc
      exact hret σ_1 _ _ _ _ hw hW dX5_copies_39
    · have hw := hw.2 hc
      refine lv_aload_n hx hb dX5_copies_9 rfl (lv_at hl 0 rfl) ?_
      refine va_get (D := D) (ci := 5) (v := .ref (a 1)) (C := RX5) (T := TX5) (N := 18) hx hb hts hinX5 hown hK hW.1 0 rfl rfl 1 (by decide) (hts _ (List.mem_of_getElem? (i := 1) rfl)) (fun _ h9 => h9) rfl dX5_copies_10 ?_
      refine lv_sipush (v := 177) hx hb dX5_copies_13 (by decide) ?_
      refine lv_iload_n hx hb dX5_copies_16 rfl (lv_at hl 2 rfl) ?_
      refine lv_imul hx hb dX5_copies_17 ?_
      refine lv_iload_n hx hb dX5_copies_18 rfl (lv_at hl 3 rfl) ?_
      refine lv_iadd hx hb dX5_copies_19 ?_
      refine lv_aload_n hx hb dX5_copies_20 rfl (lv_at hl 0 rfl) ?_
      refine va_get (D := D) (ci := 5) (v := .ref (a 1)) (C := RX5) (T := TX5) (N := 18) hx hb hts hinX5 hown hK hW.1 0 rfl rfl 1 (by decide) (hts _ (List.mem_of_getElem? (i := 1) rfl)) (fun _ h9 => h9) rfl dX5_copies_21 ?_
      refine lv_sipush (v := 177) hx hb dX5_copies_24 (by decide) ?_
      refine lv_iload_n hx hb dX5_copies_27 rfl (lv_at hl 1 rfl) ?_
      refine lv_imul hx hb dX5_copies_28 ?_
      refine lv_iload_n hx hb dX5_copies_29 rfl (lv_at hl 3 rfl) ?_
      refine lv_iadd hx hb dX5_copies_30 ?_
      refine va_iald hx hb hK hW.1 1 0 rfl rfl hw.1 dX5_copies_31 ?_
      have hw := hw.2
      refine st_m_s hx hb hK hW hw.1 dX5_copies_32 (fun σ_2 eσ_2 H locs hW => ?_)
      have hw := hw.2
      have hw := hw σ_2 eσ_2
      obtain ⟨v3_3, ev3_3⟩ : ∃ y : Int32, y = v3_1 + 1 := ⟨_, rfl⟩
      have hw := hw v3_3 ev3_3
      refine lv_iinc (v := v3_3) (lv' := [(3, .int v3_3), (0, .ref (a 0)), (1, .int p1), (2, .int p2)]) hx hb dX5_copies_33 hl (k := 3) rfl (by rw [ev3_3]; rfl) (by decide) rfl (fun ls hl => ?_)
      refine lv_goto (tgt := 2) hx hb dX5_copies_36 (by decide) ?_
      obtain ⟨n9, hlt9, hI9⟩ := hw
      exact ih1 n9 hlt9 _ _ _ _ _ hI9 hW (lv_sub hl [1, 2, 3, 0] rfl)
def wp_X5_save (σ : MS) (post : MS → Prop) : Prop := ∃ I1 : Nat → Int32 → MS → Prop, (∃ n : Nat, I1 n 1 (σ)) ∧ ∀ (n1 : Nat) (v1_1 : Int32) (σ_1 : MS), I1 n1 v1_1 σ_1 → ((6 ≤ v1_1 → ((6 ≤ (m_saved σ_1) → ∀ σ_2 : MS, σ_2 = ms_saved σ_1 ((m_saved σ_1) + 0) → wp_X5_copies σ_2 0 (m_saved σ_2) (fun σ_3 => post σ_3)) ∧ (¬ 6 ≤ (m_saved σ_1) → ∀ σ_4 : MS, σ_4 = ms_saved σ_1 ((m_saved σ_1) + 1) → wp_X5_copies σ_4 0 (m_saved σ_4) (fun σ_5 => post σ_5)))) ∧ (¬ 6 ≤ v1_1 → ((¬ (m_saved σ_1) = 6 → ((6 ≤ (m_saved σ_1) → ∀ σ_6 : MS, σ_6 = ms_saved σ_1 ((m_saved σ_1) + 0) → wp_X5_copies σ_6 0 (m_saved σ_6) (fun σ_7 => post σ_7)) ∧ (¬ 6 ≤ (m_saved σ_1) → ∀ σ_8 : MS, σ_8 = ms_saved σ_1 ((m_saved σ_1) + 1) → wp_X5_copies σ_8 0 (m_saved σ_8) (fun σ_9 => post σ_9)))) ∧ ((m_saved σ_1) = 6 → wp_X5_copies σ_1 (v1_1 + 1) v1_1 (fun σ_10 => ∀ v1_11 : Int32, v1_11 = v1_1 + 1 → ∃ n' : Nat, n' < n1 ∧ I1 n' v1_11 (σ_10))))))
abbrev rm_X5_save : Room := { frames := 1, cells := 0, slots := 0, locals := 23 }
theorem in_X5_save_X5 : ∀ w ∈ wsX50, w ∈ wsX5_save := fun w h => List.mem_cons_of_mem _ (List.mem_append_right _ (h))
set_option maxHeartbeats 4000000 in
set_option maxRecDepth 100000 in
theorem ok_X5_save (l : Launch) (D : va_G) (cI cJ : ClassId) (a : Nat → Nat) (sz : Nat) (σ : MS) (post : MS → Prop) (hw : wp_X5_save σ post) : Mv l yX5_save wsX5_save rm_X5_save [.ref (a 0)] D (tysIJ cI cJ) (mW cI cJ a σ) sz post (mW cI cJ a) := by
  refine s_Mv (by decide) rfl (Nat.le_of_ble_eq_true rfl) ?_
  intro p e s m args below meth c A Q hx hb hml hts hown hin hK hA hret H locs ls hW hl
  have hown : s.vm.findClass RX5 = some m.cls := hown
  have hl : lv_has ls 2 [(0, .ref (a 0))] := hl
  have hinX5 := in_X5_save_X5
  refine lv_iconst (v := 1) hx hb dX5_save_0 (by decide) ?_
  refine lv_istore_n (lv' := [(1, .int 1), (0, .ref (a 0))]) hx hb dX5_save_1 rfl hl (by decide) rfl (fun ls hl => ?_)
  obtain ⟨I1, ⟨n1, hI1⟩, hJ1⟩ := hw
  have hl : lv_has ls 2 [(0, .ref (a 0)), (1, .int 1)] := lv_sub hl [1, 0] rfl
  suffices LP1 : ∀ (n : Nat) (v1_1 : Int32) (σ_1 : MS) (H : Heap) (locs : List Loc) (ls : Array Slot), I1 n v1_1 σ_1 → Wd D A s.heap (mW cI cJ a σ_1) H locs → lv_has ls 2 [(0, .ref (a 0)), (1, .int v1_1)] → W p l e rm_X5_save s m args below meth c H locs 0 0 Q (F0 m 2 ls []) from LP1 n1 1 _ H locs ls hI1 hW hl
  intro n1
  induction n1 using Nat.strongRecOn with
  | ind n1 ih1 =>
    intro v1_1 σ_1 H locs ls hIn hW hl
    have hw := hJ1 n1 v1_1 σ_1 hIn
    refine lv_iload_n hx hb dX5_save_2 rfl (lv_at hl 1 rfl) ?_
    refine lv_bipush (v := 6) hx hb dX5_save_3 (by decide) ?_
    refine lv_icmp_ge (tgt := 31) hx hb dX5_save_5 (by decide) (fun hc => ?_) (fun hc => ?_)
    · have hw := hw.1 hc
      refine lv_aload_n hx hb dX5_save_31 rfl (lv_at hl 0 rfl) ?_
      refine lv_dup hx hb dX5_save_32 rfl ?_
      refine va_get (D := D) (ci := 5) (v := .int (m_saved σ_1)) (C := RX5) (T := TX5) (N := 18) hx hb hts hinX5 hown hK hW.1 0 rfl rfl 2 (by decide) (hts _ (List.mem_of_getElem? (i := 1) rfl)) (fun _ h9 => h9) rfl dX5_save_33 ?_
      refine lv_aload_n hx hb dX5_save_36 rfl (lv_at hl 0 rfl) ?_
      refine va_get (D := D) (ci := 5) (v := .int (m_saved σ_1)) (C := RX5) (T := TX5) (N := 18) hx hb hts hinX5 hown hK hW.1 0 rfl rfl 2 (by decide) (hts _ (List.mem_of_getElem? (i := 1) rfl)) (fun _ h9 => h9) rfl dX5_save_37 ?_
      refine lv_bipush (v := 6) hx hb dX5_save_40 (by decide) ?_
      refine lv_icmp_ge (tgt := 49) hx hb dX5_save_42 (by decide) (fun hc => ?_) (fun hc => ?_)
      · have hw := hw.1 hc
        refine lv_iconst (v := 0) hx hb dX5_save_49 (by decide) ?_
        refine lv_iadd hx hb dX5_save_50 ?_
        refine pf_m_saved hx hb hts hinX5 hown hK hW (hts _ (List.mem_of_getElem? (i := 1) rfl)) dX5_save_51 (fun σ_2 eσ_2 H locs hW => ?_)
        have hw := hw σ_2 eσ_2
        refine lv_aload_n hx hb dX5_save_54 rfl (lv_at hl 0 rfl) ?_
        refine lv_iconst (v := 0) hx hb dX5_save_55 (by decide) ?_
        refine lv_aload_n hx hb dX5_save_56 rfl (lv_at hl 0 rfl) ?_
        refine va_get (D := D) (ci := 5) (v := .int (m_saved σ_2)) (C := RX5) (T := TX5) (N := 18) hx hb hts hinX5 hown hK hW.1 0 rfl rfl 2 (by decide) (hts _ (List.mem_of_getElem? (i := 1) rfl)) (fun _ h9 => h9) rfl dX5_save_57 ?_
        refine kV_Mv (As := [.int 0, .int (m_saved σ_2)]) (rest := []) ⟨hx, hb, hml, hown, hts⟩ (ok_X5_copies l D cI cJ a _ _ _ _ _ hw) (cwV 2 hts gX5_save_X5_copies rfl rfl rfl (by decide +kernel) ⟨Nat.le_of_ble_eq_true rfl, Nat.le_of_ble_eq_true rfl⟩) hK hW hA 0 rfl rfl rfl hl.1 rfl (Nat.le_of_ble_eq_true rfl) dX5_save_60 ⟨Nat.le_of_ble_eq_true rfl, Nat.le_of_ble_eq_true rfl⟩ (fun σ_3 H locs hw hW => ?_)
        exact hret σ_3 _ _ _ _ hw hW dX5_save_63
      · have hw := hw.2 hc
        refine lv_iconst (v := 1) hx hb dX5_save_45 (by decide) ?_
        refine lv_goto (tgt := 50) hx hb dX5_save_46 (by decide) ?_
        refine lv_iadd hx hb dX5_save_50 ?_
        refine pf_m_saved hx hb hts hinX5 hown hK hW (hts _ (List.mem_of_getElem? (i := 1) rfl)) dX5_save_51 (fun σ_4 eσ_4 H locs hW => ?_)
        have hw := hw σ_4 eσ_4
        refine lv_aload_n hx hb dX5_save_54 rfl (lv_at hl 0 rfl) ?_
        refine lv_iconst (v := 0) hx hb dX5_save_55 (by decide) ?_
        refine lv_aload_n hx hb dX5_save_56 rfl (lv_at hl 0 rfl) ?_
        refine va_get (D := D) (ci := 5) (v := .int (m_saved σ_4)) (C := RX5) (T := TX5) (N := 18) hx hb hts hinX5 hown hK hW.1 0 rfl rfl 2 (by decide) (hts _ (List.mem_of_getElem? (i := 1) rfl)) (fun _ h9 => h9) rfl dX5_save_57 ?_
        refine kV_Mv (As := [.int 0, .int (m_saved σ_4)]) (rest := []) ⟨hx, hb, hml, hown, hts⟩ (ok_X5_copies l D cI cJ a _ _ _ _ _ hw) (cwV 2 hts gX5_save_X5_copies rfl rfl rfl (by decide +kernel) ⟨Nat.le_of_ble_eq_true rfl, Nat.le_of_ble_eq_true rfl⟩) hK hW hA 0 rfl rfl rfl hl.1 rfl (Nat.le_of_ble_eq_true rfl) dX5_save_60 ⟨Nat.le_of_ble_eq_true rfl, Nat.le_of_ble_eq_true rfl⟩ (fun σ_5 H locs hw hW => ?_)
        exact hret σ_5 _ _ _ _ hw hW dX5_save_63
    · have hw := hw.2 hc
      refine lv_aload_n hx hb dX5_save_8 rfl (lv_at hl 0 rfl) ?_
      refine va_get (D := D) (ci := 5) (v := .int (m_saved σ_1)) (C := RX5) (T := TX5) (N := 18) hx hb hts hinX5 hown hK hW.1 0 rfl rfl 2 (by decide) (hts _ (List.mem_of_getElem? (i := 1) rfl)) (fun _ h9 => h9) rfl dX5_save_9 ?_
      refine lv_bipush (v := 6) hx hb dX5_save_12 (by decide) ?_
      refine lv_icmp_ne (tgt := 31) hx hb dX5_save_14 (by decide) (fun hc => ?_) (fun hc => ?_)
      · have hw := hw.1 hc
        refine lv_aload_n hx hb dX5_save_31 rfl (lv_at hl 0 rfl) ?_
        refine lv_dup hx hb dX5_save_32 rfl ?_
        refine va_get (D := D) (ci := 5) (v := .int (m_saved σ_1)) (C := RX5) (T := TX5) (N := 18) hx hb hts hinX5 hown hK hW.1 0 rfl rfl 2 (by decide) (hts _ (List.mem_of_getElem? (i := 1) rfl)) (fun _ h9 => h9) rfl dX5_save_33 ?_
        refine lv_aload_n hx hb dX5_save_36 rfl (lv_at hl 0 rfl) ?_
        refine va_get (D := D) (ci := 5) (v := .int (m_saved σ_1)) (C := RX5) (T := TX5) (N := 18) hx hb hts hinX5 hown hK hW.1 0 rfl rfl 2 (by decide) (hts _ (List.mem_of_getElem? (i := 1) rfl)) (fun _ h9 => h9) rfl dX5_save_37 ?_
        refine lv_bipush (v := 6) hx hb dX5_save_40 (by decide) ?_
        refine lv_icmp_ge (tgt := 49) hx hb dX5_save_42 (by decide) (fun hc => ?_) (fun hc => ?_)
        · have hw := hw.1 hc
          refine lv_iconst (v := 0) hx hb dX5_save_49 (by decide) ?_
          refine lv_iadd hx hb dX5_save_50 ?_
          refine pf_m_saved hx hb hts hinX5 hown hK hW (hts _ (List.mem_of_getElem? (i := 1) rfl)) dX5_save_51 (fun σ_6 eσ_6 H locs hW => ?_)
          have hw := hw σ_6 eσ_6
          refine lv_aload_n hx hb dX5_save_54 rfl (lv_at hl 0 rfl) ?_
          refine lv_iconst (v := 0) hx hb dX5_save_55 (by decide) ?_
          refine lv_aload_n hx hb dX5_save_56 rfl (lv_at hl 0 rfl) ?_
          refine va_get (D := D) (ci := 5) (v := .int (m_saved σ_6)) (C := RX5) (T := TX5) (N := 18) hx hb hts hinX5 hown hK hW.1 0 rfl rfl 2 (by decide) (hts _ (List.mem_of_getElem? (i := 1) rfl)) (fun _ h9 => h9) rfl dX5_save_57 ?_
          refine kV_Mv (As := [.int 0, .int (m_saved σ_6)]) (rest := []) ⟨hx, hb, hml, hown, hts⟩ (ok_X5_copies l D cI cJ a _ _ _ _ _ hw) (cwV 2 hts gX5_save_X5_copies rfl rfl rfl (by decide +kernel) ⟨Nat.le_of_ble_eq_true rfl, Nat.le_of_ble_eq_true rfl⟩) hK hW hA 0 rfl rfl rfl hl.1 rfl (Nat.le_of_ble_eq_true rfl) dX5_save_60 ⟨Nat.le_of_ble_eq_true rfl, Nat.le_of_ble_eq_true rfl⟩ (fun σ_7 H locs hw hW => ?_)
          exact hret σ_7 _ _ _ _ hw hW dX5_save_63
        · have hw := hw.2 hc
          refine lv_iconst (v := 1) hx hb dX5_save_45 (by decide) ?_
          refine lv_goto (tgt := 50) hx hb dX5_save_46 (by decide) ?_
          refine lv_iadd hx hb dX5_save_50 ?_
          refine pf_m_saved hx hb hts hinX5 hown hK hW (hts _ (List.mem_of_getElem? (i := 1) rfl)) dX5_save_51 (fun σ_8 eσ_8 H locs hW => ?_)
          have hw := hw σ_8 eσ_8
          refine lv_aload_n hx hb dX5_save_54 rfl (lv_at hl 0 rfl) ?_
          refine lv_iconst (v := 0) hx hb dX5_save_55 (by decide) ?_
          refine lv_aload_n hx hb dX5_save_56 rfl (lv_at hl 0 rfl) ?_
          refine va_get (D := D) (ci := 5) (v := .int (m_saved σ_8)) (C := RX5) (T := TX5) (N := 18) hx hb hts hinX5 hown hK hW.1 0 rfl rfl 2 (by decide) (hts _ (List.mem_of_getElem? (i := 1) rfl)) (fun _ h9 => h9) rfl dX5_save_57 ?_
          refine kV_Mv (As := [.int 0, .int (m_saved σ_8)]) (rest := []) ⟨hx, hb, hml, hown, hts⟩ (ok_X5_copies l D cI cJ a _ _ _ _ _ hw) (cwV 2 hts gX5_save_X5_copies rfl rfl rfl (by decide +kernel) ⟨Nat.le_of_ble_eq_true rfl, Nat.le_of_ble_eq_true rfl⟩) hK hW hA 0 rfl rfl rfl hl.1 rfl (Nat.le_of_ble_eq_true rfl) dX5_save_60 ⟨Nat.le_of_ble_eq_true rfl, Nat.le_of_ble_eq_true rfl⟩ (fun σ_9 H locs hw hW => ?_)
          exact hret σ_9 _ _ _ _ hw hW dX5_save_63
      · have hw := hw.2 hc
        refine lv_aload_n hx hb dX5_save_17 rfl (lv_at hl 0 rfl) ?_
        refine lv_iload_n hx hb dX5_save_18 rfl (lv_at hl 1 rfl) ?_
        refine lv_iconst (v := 1) hx hb dX5_save_19 (by decide) ?_
        refine lv_iadd hx hb dX5_save_20 ?_
        refine lv_iload_n hx hb dX5_save_21 rfl (lv_at hl 1 rfl) ?_
        refine kV_Mv (As := [.int (v1_1 + 1), .int v1_1]) (rest := []) ⟨hx, hb, hml, hown, hts⟩ (ok_X5_copies l D cI cJ a _ _ _ _ _ hw) (cwV 2 hts gX5_save_X5_copies rfl rfl rfl (by decide +kernel) ⟨Nat.le_of_ble_eq_true rfl, Nat.le_of_ble_eq_true rfl⟩) hK hW hA 0 rfl rfl rfl hl.1 rfl (Nat.le_of_ble_eq_true rfl) dX5_save_22 ⟨Nat.le_of_ble_eq_true rfl, Nat.le_of_ble_eq_true rfl⟩ (fun σ_10 H locs hw hW => ?_)
        obtain ⟨v1_11, ev1_11⟩ : ∃ y : Int32, y = v1_1 + 1 := ⟨_, rfl⟩
        have hw := hw v1_11 ev1_11
        refine lv_iinc (v := v1_11) (lv' := [(1, .int v1_11), (0, .ref (a 0))]) hx hb dX5_save_25 hl (k := 1) rfl (by rw [ev1_11]; rfl) (by decide) rfl (fun ls hl => ?_)
        refine lv_goto (tgt := 2) hx hb dX5_save_28 (by decide) ?_
        obtain ⟨n9, hlt9, hI9⟩ := hw
        exact ih1 n9 hlt9 _ _ _ _ _ hI9 hW (lv_sub hl [1, 0] rfl)
def wp_X5_changed (σ : MS) (p1 : Int32) (p2 : Int32) (post : Int32 → MS → Prop) : Prop := wp_X5_save σ (fun σ_1 => vp_in p1 1416 ∧ ∀ v3_2 : Int32, v3_2 = ((m_s σ_1) (p1).toNatClampNeg) → vp_in p1 1416 ∧ ∀ σ_3 : MS, σ_3 = ms_s σ_1 (upd (m_s σ_1) (p1).toNatClampNeg p2) → post v3_2 σ_3)
abbrev rm_X5_changed : Room := { frames := 2, cells := 0, slots := 0, locals := 44 }
theorem in_X5_changed_X5 : ∀ w ∈ wsX50, w ∈ wsX5_changed := fun w h => List.mem_cons_of_mem _ (List.mem_append_right _ (h))
set_option maxHeartbeats 4000000 in
set_option maxRecDepth 100000 in
theorem ok_X5_changed (l : Launch) (D : va_G) (cI cJ : ClassId) (a : Nat → Nat) (sz : Nat) (σ : MS) (p1 : Int32) (p2 : Int32) (post : Int32 → MS → Prop) (hw : wp_X5_changed σ p1 p2 post) : Mi l yX5_changed wsX5_changed rm_X5_changed [.ref (a 0), .int p1, .int p2] D (tysIJ cI cJ) (mW cI cJ a σ) sz post (mW cI cJ a) := by
  refine s_Mi (by decide) rfl (Nat.le_of_ble_eq_true rfl) ?_
  intro p e s m args below meth c A Q hx hb hml hts hown hin hK hA hret H locs ls hW hl
  have hown : s.vm.findClass RX5 = some m.cls := hown
  have hl : lv_has ls 4 [(0, .ref (a 0)), (1, .int p1), (2, .int p2)] := hl
  have hinX5 := in_X5_changed_X5
  refine lv_aload_n hx hb dX5_changed_0 rfl (lv_at hl 0 rfl) ?_
  refine kV_Mv (As := []) (rest := []) ⟨hx, hb, hml, hown, hts⟩ (ok_X5_save l D cI cJ a _ _ _ hw) (cwV 0 hts gX5_changed_X5_save rfl rfl rfl (by decide +kernel) ⟨Nat.le_of_ble_eq_true rfl, Nat.le_of_ble_eq_true rfl⟩) hK hW hA 0 rfl rfl rfl hl.1 rfl (Nat.le_of_ble_eq_true rfl) dX5_changed_1 ⟨Nat.le_of_ble_eq_true rfl, Nat.le_of_ble_eq_true rfl⟩ (fun σ_1 H locs hw hW => ?_)
  refine lv_aload_n hx hb dX5_changed_4 rfl (lv_at hl 0 rfl) ?_
  refine va_get (D := D) (ci := 5) (v := .ref (a 1)) (C := RX5) (T := TX5) (N := 18) hx hb hts hinX5 hown hK hW.1 0 rfl rfl 1 (by decide) (hts _ (List.mem_of_getElem? (i := 1) rfl)) (fun _ h9 => h9) rfl dX5_changed_5 ?_
  refine lv_iload_n hx hb dX5_changed_8 rfl (lv_at hl 1 rfl) ?_
  refine va_iald hx hb hK hW.1 1 0 rfl rfl hw.1 dX5_changed_9 ?_
  have hw := hw.2
  refine lv_topi (fun v3_2 ev3_2 => ?_)
  have hw := hw v3_2 ev3_2
  refine lv_istore_n (lv' := [(3, .int v3_2), (0, .ref (a 0)), (1, .int p1), (2, .int p2)]) hx hb dX5_changed_10 rfl hl (by decide) rfl (fun ls hl => ?_)
  refine lv_aload_n hx hb dX5_changed_11 rfl (lv_at hl 1 rfl) ?_
  refine va_get (D := D) (ci := 5) (v := .ref (a 1)) (C := RX5) (T := TX5) (N := 18) hx hb hts hinX5 hown hK hW.1 0 rfl rfl 1 (by decide) (hts _ (List.mem_of_getElem? (i := 1) rfl)) (fun _ h9 => h9) rfl dX5_changed_12 ?_
  refine lv_iload_n hx hb dX5_changed_15 rfl (lv_at hl 2 rfl) ?_
  refine lv_iload_n hx hb dX5_changed_16 rfl (lv_at hl 3 rfl) ?_
  refine st_m_s hx hb hK hW hw.1 dX5_changed_17 (fun σ_3 eσ_3 H locs hW => ?_)
  have hw := hw.2
  have hw := hw σ_3 eσ_3
  refine lv_iload_n hx hb dX5_changed_18 rfl (lv_at hl 0 rfl) ?_
  exact hret _ σ_3 _ _ _ _ hw hW dX5_changed_19
def wp_X5_price (σ : MS) (p1 : Int32) (p2 : Int32) (post : Int32 → MS → Prop) : Prop := wp_X5_isOne p1 (fun r_1 => ((¬ r_1 = 0 → wp_X5_in p2 0 99 (fun r_2 => ((¬ r_2 = 0 → wp_X5_holds σ 0 (fun r_3 σ_4 => ((r_3 = 0 → post 0 σ_4) ∧ (¬ r_3 = 0 → wp_X5_changed σ_4 ((15 + (5 * p1)) + 0) p2 (fun r_5 σ_6 => post r_5 σ_6))))) ∧ (r_2 = 0 → wp_X5_holds σ 2 (fun r_7 σ_8 => ((r_7 = 0 → post 0 σ_8) ∧ (¬ r_7 = 0 → wp_X5_changed σ_8 ((15 + (5 * p1)) + 0) p2 (fun r_9 σ_10 => post r_9 σ_10)))))))) ∧ (r_1 = 0 → wp_X5_holds σ 1 (fun r_11 σ_12 => ((r_11 = 0 → post 0 σ_12) ∧ (¬ r_11 = 0 → wp_X5_changed σ_12 ((15 + (5 * p1)) + 0) p2 (fun r_13 σ_14 => post r_13 σ_14)))))))
abbrev rm_X5_price : Room := { frames := 3, cells := 0, slots := 0, locals := 67 }
set_option maxHeartbeats 4000000 in
set_option maxRecDepth 100000 in
theorem ok_X5_price (l : Launch) (D : va_G) (cI cJ : ClassId) (a : Nat → Nat) (sz : Nat) (σ : MS) (p1 : Int32) (p2 : Int32) (post : Int32 → MS → Prop) (hw : wp_X5_price σ p1 p2 post) : Mi l yX5_price wsX5_price rm_X5_price [.ref (a 0), .int p1, .int p2] D (tysIJ cI cJ) (mW cI cJ a σ) sz post (mW cI cJ a) := by
  refine s_Mi (by decide) rfl (Nat.le_of_ble_eq_true rfl) ?_
  intro p e s m args below meth c A Q hx hb hml hts hown hin hK hA hret H locs ls hW hl
  have hown : s.vm.findClass RX5 = some m.cls := hown
  have hl : lv_has ls 3 [(0, .ref (a 0)), (1, .int p1), (2, .int p2)] := hl
  refine lv_aload_n hx hb dX5_price_0 rfl (lv_at hl 0 rfl) ?_
  refine lv_iload_n hx hb dX5_price_1 rfl (lv_at hl 1 rfl) ?_
  refine kS_Pi (As := [.int p1]) (rest := [.ref (a 0)]) ⟨hx, hb, hml, hown, hts⟩ (ok_X5_isOne l _ _ hw) (va_cwS 1 hts gX5_price_X5_isOne rfl rfl rfl (by decide +kernel) ⟨Nat.le_of_ble_eq_true rfl, Nat.le_of_ble_eq_true rfl⟩) hW.2.2 rfl hl.1 rfl (Nat.le_of_ble_eq_true rfl) dX5_price_2 ⟨Nat.le_of_ble_eq_true rfl, Nat.le_of_ble_eq_true rfl⟩ (fun r_1 H locs hw hk hS => ?_)
  have hW := hW.kept hk hS
  refine lv_if_ne (tgt := 12) hx hb dX5_price_5 (by decide) (fun hc => ?_) (fun hc => ?_)
  · have hw := hw.1 hc
    refine lv_iload_n hx hb dX5_price_12 rfl (lv_at hl 2 rfl) ?_
    refine lv_iconst (v := 0) hx hb dX5_price_13 (by decide) ?_
    refine lv_bipush (v := 99) hx hb dX5_price_14 (by decide) ?_
    refine kS_Pi (As := [.int p2, .int 0, .int 99]) (rest := [.ref (a 0)]) ⟨hx, hb, hml, hown, hts⟩ (ok_X5_in l _ _ _ _ hw) (va_cwS 3 hts gX5_price_X5_in rfl rfl rfl (by decide +kernel) ⟨Nat.le_of_ble_eq_true rfl, Nat.le_of_ble_eq_true rfl⟩) hW.2.2 rfl hl.1 rfl (Nat.le_of_ble_eq_true rfl) dX5_price_16 ⟨Nat.le_of_ble_eq_true rfl, Nat.le_of_ble_eq_true rfl⟩ (fun r_2 H locs hw hk hS => ?_)
    have hW := hW.kept hk hS
    refine lv_if_ne (tgt := 26) hx hb dX5_price_19 (by decide) (fun hc => ?_) (fun hc => ?_)
    · have hw := hw.1 hc
      refine lv_iconst (v := 0) hx hb dX5_price_26 (by decide) ?_
      refine kV_Mi (As := [.int 0]) (rest := []) ⟨hx, hb, hml, hown, hts⟩ (ok_X5_holds l D cI cJ a _ _ _ _ hw) (cwV 1 hts gX5_price_X5_holds rfl rfl rfl (by decide +kernel) ⟨Nat.le_of_ble_eq_true rfl, Nat.le_of_ble_eq_true rfl⟩) hK hW hA 0 rfl rfl rfl hl.1 rfl (Nat.le_of_ble_eq_true rfl) dX5_price_27 ⟨Nat.le_of_ble_eq_true rfl, Nat.le_of_ble_eq_true rfl⟩ (fun r_3 σ_4 H locs hw hW => ?_)
      refine lv_if_eq (tgt := 49) hx hb dX5_price_30 (by decide) (fun hc => ?_) (fun hc => ?_)
      · have hw := hw.1 hc
        refine lv_iconst (v := 0) hx hb dX5_price_49 (by decide) ?_
        exact hret _ σ_4 _ _ _ _ hw hW dX5_price_50
      · have hw := hw.2 hc
        refine lv_aload_n hx hb dX5_price_33 rfl (lv_at hl 0 rfl) ?_
        refine lv_bipush (v := 15) hx hb dX5_price_34 (by decide) ?_
        refine lv_iconst (v := 5) hx hb dX5_price_36 (by decide) ?_
        refine lv_iload_n hx hb dX5_price_37 rfl (lv_at hl 1 rfl) ?_
        refine lv_imul hx hb dX5_price_38 ?_
        refine lv_iadd hx hb dX5_price_39 ?_
        refine lv_iconst (v := 0) hx hb dX5_price_40 (by decide) ?_
        refine lv_iadd hx hb dX5_price_41 ?_
        refine lv_iload_n hx hb dX5_price_42 rfl (lv_at hl 2 rfl) ?_
        refine kV_Mi (As := [.int ((15 + (5 * p1)) + 0), .int p2]) (rest := []) ⟨hx, hb, hml, hown, hts⟩ (ok_X5_changed l D cI cJ a _ _ _ _ _ hw) (cwV 2 hts gX5_price_X5_changed rfl rfl rfl (by decide +kernel) ⟨Nat.le_of_ble_eq_true rfl, Nat.le_of_ble_eq_true rfl⟩) hK hW hA 0 rfl rfl rfl hl.1 rfl (Nat.le_of_ble_eq_true rfl) dX5_price_43 ⟨Nat.le_of_ble_eq_true rfl, Nat.le_of_ble_eq_true rfl⟩ (fun r_5 σ_6 H locs hw hW => ?_)
        refine lv_goto (tgt := 50) hx hb dX5_price_46 (by decide) ?_
        exact hret _ σ_6 _ _ _ _ hw hW dX5_price_50
    · have hw := hw.2 hc
      refine lv_iconst (v := 2) hx hb dX5_price_22 (by decide) ?_
      refine lv_goto (tgt := 27) hx hb dX5_price_23 (by decide) ?_
      refine kV_Mi (As := [.int 2]) (rest := []) ⟨hx, hb, hml, hown, hts⟩ (ok_X5_holds l D cI cJ a _ _ _ _ hw) (cwV 1 hts gX5_price_X5_holds rfl rfl rfl (by decide +kernel) ⟨Nat.le_of_ble_eq_true rfl, Nat.le_of_ble_eq_true rfl⟩) hK hW hA 0 rfl rfl rfl hl.1 rfl (Nat.le_of_ble_eq_true rfl) dX5_price_27 ⟨Nat.le_of_ble_eq_true rfl, Nat.le_of_ble_eq_true rfl⟩ (fun r_7 σ_8 H locs hw hW => ?_)
      refine lv_if_eq (tgt := 49) hx hb dX5_price_30 (by decide) (fun hc => ?_) (fun hc => ?_)
      · have hw := hw.1 hc
        refine lv_iconst (v := 0) hx hb dX5_price_49 (by decide) ?_
        exact hret _ σ_8 _ _ _ _ hw hW dX5_price_50
      · have hw := hw.2 hc
        refine lv_aload_n hx hb dX5_price_33 rfl (lv_at hl 0 rfl) ?_
        refine lv_bipush (v := 15) hx hb dX5_price_34 (by decide) ?_
        refine lv_iconst (v := 5) hx hb dX5_price_36 (by decide) ?_
        refine lv_iload_n hx hb dX5_price_37 rfl (lv_at hl 1 rfl) ?_
        refine lv_imul hx hb dX5_price_38 ?_
        refine lv_iadd hx hb dX5_price_39 ?_
        refine lv_iconst (v := 0) hx hb dX5_price_40 (by decide) ?_
        refine lv_iadd hx hb dX5_price_41 ?_
        refine lv_iload_n hx hb dX5_price_42 rfl (lv_at hl 2 rfl) ?_
        refine kV_Mi (As := [.int ((15 + (5 * p1)) + 0), .int p2]) (rest := []) ⟨hx, hb, hml, hown, hts⟩ (ok_X5_changed l D cI cJ a _ _ _ _ _ hw) (cwV 2 hts gX5_price_X5_changed rfl rfl rfl (by decide +kernel) ⟨Nat.le_of_ble_eq_true rfl, Nat.le_of_ble_eq_true rfl⟩) hK hW hA 0 rfl rfl rfl hl.1 rfl (Nat.le_of_ble_eq_true rfl) dX5_price_43 ⟨Nat.le_of_ble_eq_true rfl, Nat.le_of_ble_eq_true rfl⟩ (fun r_9 σ_10 H locs hw hW => ?_)
        refine lv_goto (tgt := 50) hx hb dX5_price_46 (by decide) ?_
        exact hret _ σ_10 _ _ _ _ hw hW dX5_price_50
  · have hw := hw.2 hc
    refine lv_iconst (v := 1) hx hb dX5_price_8 (by decide) ?_
    refine lv_goto (tgt := 27) hx hb dX5_price_9 (by decide) ?_
    refine kV_Mi (As := [.int 1]) (rest := []) ⟨hx, hb, hml, hown, hts⟩ (ok_X5_holds l D cI cJ a _ _ _ _ hw) (cwV 1 hts gX5_price_X5_holds rfl rfl rfl (by decide +kernel) ⟨Nat.le_of_ble_eq_true rfl, Nat.le_of_ble_eq_true rfl⟩) hK hW hA 0 rfl rfl rfl hl.1 rfl (Nat.le_of_ble_eq_true rfl) dX5_price_27 ⟨Nat.le_of_ble_eq_true rfl, Nat.le_of_ble_eq_true rfl⟩ (fun r_11 σ_12 H locs hw hW => ?_)
    refine lv_if_eq (tgt := 49) hx hb dX5_price_30 (by decide) (fun hc => ?_) (fun hc => ?_)
    · have hw := hw.1 hc
      refine lv_iconst (v := 0) hx hb dX5_price_49 (by decide) ?_
      exact hret _ σ_12 _ _ _ _ hw hW dX5_price_50
    · have hw := hw.2 hc
      refine lv_aload_n hx hb dX5_price_33 rfl (lv_at hl 0 rfl) ?_
      refine lv_bipush (v := 15) hx hb dX5_price_34 (by decide) ?_
      refine lv_iconst (v := 5) hx hb dX5_price_36 (by decide) ?_
      refine lv_iload_n hx hb dX5_price_37 rfl (lv_at hl 1 rfl) ?_
      refine lv_imul hx hb dX5_price_38 ?_
      refine lv_iadd hx hb dX5_price_39 ?_
      refine lv_iconst (v := 0) hx hb dX5_price_40 (by decide) ?_
      refine lv_iadd hx hb dX5_price_41 ?_
      refine lv_iload_n hx hb dX5_price_42 rfl (lv_at hl 2 rfl) ?_
      refine kV_Mi (As := [.int ((15 + (5 * p1)) + 0), .int p2]) (rest := []) ⟨hx, hb, hml, hown, hts⟩ (ok_X5_changed l D cI cJ a _ _ _ _ _ hw) (cwV 2 hts gX5_price_X5_changed rfl rfl rfl (by decide +kernel) ⟨Nat.le_of_ble_eq_true rfl, Nat.le_of_ble_eq_true rfl⟩) hK hW hA 0 rfl rfl rfl hl.1 rfl (Nat.le_of_ble_eq_true rfl) dX5_price_43 ⟨Nat.le_of_ble_eq_true rfl, Nat.le_of_ble_eq_true rfl⟩ (fun r_13 σ_14 H locs hw hW => ?_)
      refine lv_goto (tgt := 50) hx hb dX5_price_46 (by decide) ?_
      exact hret _ σ_14 _ _ _ _ hw hW dX5_price_50
def wp_X5_pay (σ : MS) (p1 : Int32) (p2 : Int32) (post : Int32 → MS → Prop) : Prop := wp_X5_isOne p1 (fun r_1 => ((¬ r_1 = 0 → wp_X5_in p2 1 99 (fun r_2 => ((¬ r_2 = 0 → (((((m_s σ) (4 : Int32).toNatClampNeg) + p2) ≤ 9999 → wp_X5_holds σ 0 (fun r_3 σ_4 => ((¬ r_3 = 0 → wp_X5_save σ_4 (fun σ_5 => wp_X5_adds σ_5 p1 0 p2 (fun σ_6 => ∀ σ_7 : MS, σ_7 = ms_s σ_6 (upd (m_s σ_6) (4 : Int32).toNatClampNeg (((m_s σ_6) (4 : Int32).toNatClampNeg) + p2)) → wp_X5_has σ_7 p1 0 (fun r_8 => post r_8 σ_7)))) ∧ (r_3 = 0 → post 0 σ_4)))) ∧ (¬ (((m_s σ) (4 : Int32).toNatClampNeg) + p2) ≤ 9999 → wp_X5_holds σ 3 (fun r_9 σ_10 => ((¬ r_9 = 0 → wp_X5_save σ_10 (fun σ_11 => wp_X5_adds σ_11 p1 0 p2 (fun σ_12 => ∀ σ_13 : MS, σ_13 = ms_s σ_12 (upd (m_s σ_12) (4 : Int32).toNatClampNeg (((m_s σ_12) (4 : Int32).toNatClampNeg) + p2)) → wp_X5_has σ_13 p1 0 (fun r_14 => post r_14 σ_13)))) ∧ (r_9 = 0 → post 0 σ_10)))))) ∧ (r_2 = 0 → wp_X5_holds σ 2 (fun r_15 σ_16 => ((¬ r_15 = 0 → wp_X5_save σ_16 (fun σ_17 => wp_X5_adds σ_17 p1 0 p2 (fun σ_18 => ∀ σ_19 : MS, σ_19 = ms_s σ_18 (upd (m_s σ_18) (4 : Int32).toNatClampNeg (((m_s σ_18) (4 : Int32).toNatClampNeg) + p2)) → wp_X5_has σ_19 p1 0 (fun r_20 => post r_20 σ_19)))) ∧ (r_15 = 0 → post 0 σ_16))))))) ∧ (r_1 = 0 → wp_X5_holds σ 1 (fun r_21 σ_22 => ((¬ r_21 = 0 → wp_X5_save σ_22 (fun σ_23 => wp_X5_adds σ_23 p1 0 p2 (fun σ_24 => ∀ σ_25 : MS, σ_25 = ms_s σ_24 (upd (m_s σ_24) (4 : Int32).toNatClampNeg (((m_s σ_24) (4 : Int32).toNatClampNeg) + p2)) → wp_X5_has σ_25 p1 0 (fun r_26 => post r_26 σ_25)))) ∧ (r_21 = 0 → post 0 σ_22))))))
abbrev rm_X5_pay : Room := { frames := 2, cells := 0, slots := 0, locals := 44 }
theorem in_X5_pay_X5 : ∀ w ∈ wsX50, w ∈ wsX5_pay := fun w h => List.mem_cons_of_mem _ (List.mem_append_right _ (h))
set_option maxHeartbeats 4000000 in
set_option maxRecDepth 100000 in
theorem ok_X5_pay (l : Launch) (D : va_G) (cI cJ : ClassId) (a : Nat → Nat) (sz : Nat) (σ : MS) (p1 : Int32) (p2 : Int32) (post : Int32 → MS → Prop) (hw : wp_X5_pay σ p1 p2 post) : Mi l yX5_pay wsX5_pay rm_X5_pay [.ref (a 0), .int p1, .int p2] D (tysIJ cI cJ) (mW cI cJ a σ) sz post (mW cI cJ a) := by
  refine s_Mi (by decide) rfl (Nat.le_of_ble_eq_true rfl) ?_
  intro p e s m args below meth c A Q hx hb hml hts hown hin hK hA hret H locs ls hW hl
  have hown : s.vm.findClass RX5 = some m.cls := hown
  have hl : lv_has ls 3 [(0, .ref (a 0)), (1, .int p1), (2, .int p2)] := hl
  have hinX5 := in_X5_pay_X5
  refine lv_aload_n hx hb dX5_pay_0 rfl (lv_at hl 0 rfl) ?_
  refine lv_iload_n hx hb dX5_pay_1 rfl (lv_at hl 1 rfl) ?_
  refine kS_Pi (As := [.int p1]) (rest := [.ref (a 0)]) ⟨hx, hb, hml, hown, hts⟩ (ok_X5_isOne l _ _ hw) (va_cwS 1 hts gX5_pay_X5_isOne rfl rfl rfl (by decide +kernel) ⟨Nat.le_of_ble_eq_true rfl, Nat.le_of_ble_eq_true rfl⟩) hW.2.2 rfl hl.1 rfl (Nat.le_of_ble_eq_true rfl) dX5_pay_2 ⟨Nat.le_of_ble_eq_true rfl, Nat.le_of_ble_eq_true rfl⟩ (fun r_1 H locs hw hk hS => ?_)
  have hW := hW.kept hk hS
  refine lv_if_ne (tgt := 12) hx hb dX5_pay_5 (by decide) (fun hc => ?_) (fun hc => ?_)
  · have hw := hw.1 hc
    refine lv_iload_n hx hb dX5_pay_12 rfl (lv_at hl 2 rfl) ?_
    refine lv_iconst (v := 1) hx hb dX5_pay_13 (by decide) ?_
    refine lv_bipush (v := 99) hx hb dX5_pay_14 (by decide) ?_
    refine kS_Pi (As := [.int p2, .int 1, .int 99]) (rest := [.ref (a 0)]) ⟨hx, hb, hml, hown, hts⟩ (ok_X5_in l _ _ _ _ hw) (va_cwS 3 hts gX5_pay_X5_in rfl rfl rfl (by decide +kernel) ⟨Nat.le_of_ble_eq_true rfl, Nat.le_of_ble_eq_true rfl⟩) hW.2.2 rfl hl.1 rfl (Nat.le_of_ble_eq_true rfl) dX5_pay_16 ⟨Nat.le_of_ble_eq_true rfl, Nat.le_of_ble_eq_true rfl⟩ (fun r_2 H locs hw hk hS => ?_)
    have hW := hW.kept hk hS
    refine lv_if_ne (tgt := 26) hx hb dX5_pay_19 (by decide) (fun hc => ?_) (fun hc => ?_)
    · have hw := hw.1 hc
      refine lv_aload_n hx hb dX5_pay_26 rfl (lv_at hl 0 rfl) ?_
      refine va_get (D := D) (ci := 5) (v := .ref (a 1)) (C := RX5) (T := TX5) (N := 18) hx hb hts hinX5 hown hK hW.1 0 rfl rfl 1 (by decide) (hts _ (List.mem_of_getElem? (i := 1) rfl)) (fun _ h9 => h9) rfl dX5_pay_27 ?_
      refine lv_iconst (v := 4) hx hb dX5_pay_30 (by decide) ?_
      refine va_iald hx hb hK hW.1 1 0 rfl rfl (by unfold vp_in; decide) dX5_pay_31 ?_
      refine lv_iload_n hx hb dX5_pay_32 rfl (lv_at hl 2 rfl) ?_
      refine lv_iadd hx hb dX5_pay_33 ?_
      refine lv_sipush (v := 9999) hx hb dX5_pay_34 (by decide) ?_
      refine lv_icmp_le (tgt := 44) hx hb dX5_pay_37 (by decide) (fun hc => ?_) (fun hc => ?_)
      · have hw := hw.1 hc
        refine lv_iconst (v := 0) hx hb dX5_pay_44 (by decide) ?_
        refine kV_Mi (As := [.int 0]) (rest := []) ⟨hx, hb, hml, hown, hts⟩ (ok_X5_holds l D cI cJ a _ _ _ _ hw) (cwV 1 hts gX5_pay_X5_holds rfl rfl rfl (by decide +kernel) ⟨Nat.le_of_ble_eq_true rfl, Nat.le_of_ble_eq_true rfl⟩) hK hW hA 0 rfl rfl rfl hl.1 rfl (Nat.le_of_ble_eq_true rfl) dX5_pay_45 ⟨Nat.le_of_ble_eq_true rfl, Nat.le_of_ble_eq_true rfl⟩ (fun r_3 σ_4 H locs hw hW => ?_)
        refine lv_if_ne (tgt := 53) hx hb dX5_pay_48 (by decide) (fun hc => ?_) (fun hc => ?_)
        · have hw := hw.1 hc
          refine lv_aload_n hx hb dX5_pay_53 rfl (lv_at hl 0 rfl) ?_
          refine kV_Mv (As := []) (rest := []) ⟨hx, hb, hml, hown, hts⟩ (ok_X5_save l D cI cJ a _ _ _ hw) (cwV 0 hts gX5_pay_X5_save rfl rfl rfl (by decide +kernel) ⟨Nat.le_of_ble_eq_true rfl, Nat.le_of_ble_eq_true rfl⟩) hK hW hA 0 rfl rfl rfl hl.1 rfl (Nat.le_of_ble_eq_true rfl) dX5_pay_54 ⟨Nat.le_of_ble_eq_true rfl, Nat.le_of_ble_eq_true rfl⟩ (fun σ_5 H locs hw hW => ?_)
          refine lv_aload_n hx hb dX5_pay_57 rfl (lv_at hl 0 rfl) ?_
          refine lv_iload_n hx hb dX5_pay_58 rfl (lv_at hl 1 rfl) ?_
          refine lv_iconst (v := 0) hx hb dX5_pay_59 (by decide) ?_
          refine lv_iload_n hx hb dX5_pay_60 rfl (lv_at hl 2 rfl) ?_
          refine kV_Mv (As := [.int p1, .int 0, .int p2]) (rest := []) ⟨hx, hb, hml, hown, hts⟩ (ok_X5_adds l D cI cJ a _ _ _ _ _ _ hw) (cwV 3 hts gX5_pay_X5_adds rfl rfl rfl (by decide +kernel) ⟨Nat.le_of_ble_eq_true rfl, Nat.le_of_ble_eq_true rfl⟩) hK hW hA 0 rfl rfl rfl hl.1 rfl (Nat.le_of_ble_eq_true rfl) dX5_pay_61 ⟨Nat.le_of_ble_eq_true rfl, Nat.le_of_ble_eq_true rfl⟩ (fun σ_6 H locs hw hW => ?_)
          refine lv_aload_n hx hb dX5_pay_64 rfl (lv_at hl 0 rfl) ?_
          refine va_get (D := D) (ci := 5) (v := .ref (a 1)) (C := RX5) (T := TX5) (N := 18) hx hb hts hinX5 hown hK hW.1 0 rfl rfl 1 (by decide) (hts _ (List.mem_of_getElem? (i := 1) rfl)) (fun _ h9 => h9) rfl dX5_pay_65 ?_
          refine lv_iconst (v := 4) hx hb dX5_pay_68 (by decide) ?_
          refine lv_dup2_11 hx hb dX5_pay_69 rfl rfl ?_
          refine va_iald hx hb hK hW.1 1 0 rfl rfl (by unfold vp_in; decide) dX5_pay_70 ?_
          refine lv_iload_n hx hb dX5_pay_71 rfl (lv_at hl 2 rfl) ?_
          refine lv_iadd hx hb dX5_pay_72 ?_
          refine st_m_s hx hb hK hW (by unfold vp_in; decide) dX5_pay_73 (fun σ_7 eσ_7 H locs hW => ?_)
          have hw := hw σ_7 eσ_7
          refine lv_aload_n hx hb dX5_pay_74 rfl (lv_at hl 0 rfl) ?_
          refine lv_iload_n hx hb dX5_pay_75 rfl (lv_at hl 1 rfl) ?_
          refine lv_iconst (v := 0) hx hb dX5_pay_76 (by decide) ?_
          refine kV_Mi (As := [.int p1, .int 0]) (rest := []) ⟨hx, hb, hml, hown, hts⟩ (ok_X5_has l D cI cJ a _ _ _ _ _ hw) (cwV 2 hts gX5_pay_X5_has rfl rfl rfl (by decide +kernel) ⟨Nat.le_of_ble_eq_true rfl, Nat.le_of_ble_eq_true rfl⟩) hK hW hA 0 rfl rfl rfl hl.1 rfl (Nat.le_of_ble_eq_true rfl) dX5_pay_77 ⟨Nat.le_of_ble_eq_true rfl, Nat.le_of_ble_eq_true rfl⟩ (fun r_8 _ H locs hw hW => ?_)
          exact hret _ σ_7 _ _ _ _ hw hW dX5_pay_80
        · have hw := hw.2 hc
          refine lv_iconst (v := 0) hx hb dX5_pay_51 (by decide) ?_
          exact hret _ σ_4 _ _ _ _ hw hW dX5_pay_52
      · have hw := hw.2 hc
        refine lv_iconst (v := 3) hx hb dX5_pay_40 (by decide) ?_
        refine lv_goto (tgt := 45) hx hb dX5_pay_41 (by decide) ?_
        refine kV_Mi (As := [.int 3]) (rest := []) ⟨hx, hb, hml, hown, hts⟩ (ok_X5_holds l D cI cJ a _ _ _ _ hw) (cwV 1 hts gX5_pay_X5_holds rfl rfl rfl (by decide +kernel) ⟨Nat.le_of_ble_eq_true rfl, Nat.le_of_ble_eq_true rfl⟩) hK hW hA 0 rfl rfl rfl hl.1 rfl (Nat.le_of_ble_eq_true rfl) dX5_pay_45 ⟨Nat.le_of_ble_eq_true rfl, Nat.le_of_ble_eq_true rfl⟩ (fun r_9 σ_10 H locs hw hW => ?_)
        refine lv_if_ne (tgt := 53) hx hb dX5_pay_48 (by decide) (fun hc => ?_) (fun hc => ?_)
        · have hw := hw.1 hc
          refine lv_aload_n hx hb dX5_pay_53 rfl (lv_at hl 0 rfl) ?_
          refine kV_Mv (As := []) (rest := []) ⟨hx, hb, hml, hown, hts⟩ (ok_X5_save l D cI cJ a _ _ _ hw) (cwV 0 hts gX5_pay_X5_save rfl rfl rfl (by decide +kernel) ⟨Nat.le_of_ble_eq_true rfl, Nat.le_of_ble_eq_true rfl⟩) hK hW hA 0 rfl rfl rfl hl.1 rfl (Nat.le_of_ble_eq_true rfl) dX5_pay_54 ⟨Nat.le_of_ble_eq_true rfl, Nat.le_of_ble_eq_true rfl⟩ (fun σ_11 H locs hw hW => ?_)
          refine lv_aload_n hx hb dX5_pay_57 rfl (lv_at hl 0 rfl) ?_
          refine lv_iload_n hx hb dX5_pay_58 rfl (lv_at hl 1 rfl) ?_
          refine lv_iconst (v := 0) hx hb dX5_pay_59 (by decide) ?_
          refine lv_iload_n hx hb dX5_pay_60 rfl (lv_at hl 2 rfl) ?_
          refine kV_Mv (As := [.int p1, .int 0, .int p2]) (rest := []) ⟨hx, hb, hml, hown, hts⟩ (ok_X5_adds l D cI cJ a _ _ _ _ _ _ hw) (cwV 3 hts gX5_pay_X5_adds rfl rfl rfl (by decide +kernel) ⟨Nat.le_of_ble_eq_true rfl, Nat.le_of_ble_eq_true rfl⟩) hK hW hA 0 rfl rfl rfl hl.1 rfl (Nat.le_of_ble_eq_true rfl) dX5_pay_61 ⟨Nat.le_of_ble_eq_true rfl, Nat.le_of_ble_eq_true rfl⟩ (fun σ_12 H locs hw hW => ?_)
          refine lv_aload_n hx hb dX5_pay_64 rfl (lv_at hl 0 rfl) ?_
          refine va_get (D := D) (ci := 5) (v := .ref (a 1)) (C := RX5) (T := TX5) (N := 18) hx hb hts hinX5 hown hK hW.1 0 rfl rfl 1 (by decide) (hts _ (List.mem_of_getElem? (i := 1) rfl)) (fun _ h9 => h9) rfl dX5_pay_65 ?_
          refine lv_iconst (v := 4) hx hb dX5_pay_68 (by decide) ?_
          refine lv_dup2_11 hx hb dX5_pay_69 rfl rfl ?_
          refine va_iald hx hb hK hW.1 1 0 rfl rfl (by unfold vp_in; decide) dX5_pay_70 ?_
          refine lv_iload_n hx hb dX5_pay_71 rfl (lv_at hl 2 rfl) ?_
          refine lv_iadd hx hb dX5_pay_72 ?_
          refine st_m_s hx hb hK hW (by unfold vp_in; decide) dX5_pay_73 (fun σ_13 eσ_13 H locs hW => ?_)
          have hw := hw σ_13 eσ_13
          refine lv_aload_n hx hb dX5_pay_74 rfl (lv_at hl 0 rfl) ?_
          refine lv_iload_n hx hb dX5_pay_75 rfl (lv_at hl 1 rfl) ?_
          refine lv_iconst (v := 0) hx hb dX5_pay_76 (by decide) ?_
          refine kV_Mi (As := [.int p1, .int 0]) (rest := []) ⟨hx, hb, hml, hown, hts⟩ (ok_X5_has l D cI cJ a _ _ _ _ _ hw) (cwV 2 hts gX5_pay_X5_has rfl rfl rfl (by decide +kernel) ⟨Nat.le_of_ble_eq_true rfl, Nat.le_of_ble_eq_true rfl⟩) hK hW hA 0 rfl rfl rfl hl.1 rfl (Nat.le_of_ble_eq_true rfl) dX5_pay_77 ⟨Nat.le_of_ble_eq_true rfl, Nat.le_of_ble_eq_true rfl⟩ (fun r_14 _ H locs hw hW => ?_)
          exact hret _ σ_13 _ _ _ _ hw hW dX5_pay_80
        · have hw := hw.2 hc
          refine lv_iconst (v := 0) hx hb dX5_pay_51 (by decide) ?_
          exact hret _ σ_10 _ _ _ _ hw hW dX5_pay_52
    · have hw := hw.2 hc
      refine lv_iconst (v := 2) hx hb dX5_pay_22 (by decide) ?_
      refine lv_goto (tgt := 45) hx hb dX5_pay_23 (by decide) ?_
      refine kV_Mi (As := [.int 2]) (rest := []) ⟨hx, hb, hml, hown, hts⟩ (ok_X5_holds l D cI cJ a _ _ _ _ hw) (cwV 1 hts gX5_pay_X5_holds rfl rfl rfl (by decide +kernel) ⟨Nat.le_of_ble_eq_true rfl, Nat.le_of_ble_eq_true rfl⟩) hK hW hA 0 rfl rfl rfl hl.1 rfl (Nat.le_of_ble_eq_true rfl) dX5_pay_45 ⟨Nat.le_of_ble_eq_true rfl, Nat.le_of_ble_eq_true rfl⟩ (fun r_15 σ_16 H locs hw hW => ?_)
      refine lv_if_ne (tgt := 53) hx hb dX5_pay_48 (by decide) (fun hc => ?_) (fun hc => ?_)
      · have hw := hw.1 hc
        refine lv_aload_n hx hb dX5_pay_53 rfl (lv_at hl 0 rfl) ?_
        refine kV_Mv (As := []) (rest := []) ⟨hx, hb, hml, hown, hts⟩ (ok_X5_save l D cI cJ a _ _ _ hw) (cwV 0 hts gX5_pay_X5_save rfl rfl rfl (by decide +kernel) ⟨Nat.le_of_ble_eq_true rfl, Nat.le_of_ble_eq_true rfl⟩) hK hW hA 0 rfl rfl rfl hl.1 rfl (Nat.le_of_ble_eq_true rfl) dX5_pay_54 ⟨Nat.le_of_ble_eq_true rfl, Nat.le_of_ble_eq_true rfl⟩ (fun σ_17 H locs hw hW => ?_)
        refine lv_aload_n hx hb dX5_pay_57 rfl (lv_at hl 0 rfl) ?_
        refine lv_iload_n hx hb dX5_pay_58 rfl (lv_at hl 1 rfl) ?_
        refine lv_iconst (v := 0) hx hb dX5_pay_59 (by decide) ?_
        refine lv_iload_n hx hb dX5_pay_60 rfl (lv_at hl 2 rfl) ?_
        refine kV_Mv (As := [.int p1, .int 0, .int p2]) (rest := []) ⟨hx, hb, hml, hown, hts⟩ (ok_X5_adds l D cI cJ a _ _ _ _ _ _ hw) (cwV 3 hts gX5_pay_X5_adds rfl rfl rfl (by decide +kernel) ⟨Nat.le_of_ble_eq_true rfl, Nat.le_of_ble_eq_true rfl⟩) hK hW hA 0 rfl rfl rfl hl.1 rfl (Nat.le_of_ble_eq_true rfl) dX5_pay_61 ⟨Nat.le_of_ble_eq_true rfl, Nat.le_of_ble_eq_true rfl⟩ (fun σ_18 H locs hw hW => ?_)
        refine lv_aload_n hx hb dX5_pay_64 rfl (lv_at hl 0 rfl) ?_
        refine va_get (D := D) (ci := 5) (v := .ref (a 1)) (C := RX5) (T := TX5) (N := 18) hx hb hts hinX5 hown hK hW.1 0 rfl rfl 1 (by decide) (hts _ (List.mem_of_getElem? (i := 1) rfl)) (fun _ h9 => h9) rfl dX5_pay_65 ?_
        refine lv_iconst (v := 4) hx hb dX5_pay_68 (by decide) ?_
        refine lv_dup2_11 hx hb dX5_pay_69 rfl rfl ?_
        refine va_iald hx hb hK hW.1 1 0 rfl rfl (by unfold vp_in; decide) dX5_pay_70 ?_
        refine lv_iload_n hx hb dX5_pay_71 rfl (lv_at hl 2 rfl) ?_
        refine lv_iadd hx hb dX5_pay_72 ?_
        refine st_m_s hx hb hK hW (by unfold vp_in; decide) dX5_pay_73 (fun σ_19 eσ_19 H locs hW => ?_)
        have hw := hw σ_19 eσ_19
        refine lv_aload_n hx hb dX5_pay_74 rfl (lv_at hl 0 rfl) ?_
        refine lv_iload_n hx hb dX5_pay_75 rfl (lv_at hl 1 rfl) ?_
        refine lv_iconst (v := 0) hx hb dX5_pay_76 (by decide) ?_
        refine kV_Mi (As := [.int p1, .int 0]) (rest := []) ⟨hx, hb, hml, hown, hts⟩ (ok_X5_has l D cI cJ a _ _ _ _ _ hw) (cwV 2 hts gX5_pay_X5_has rfl rfl rfl (by decide +kernel) ⟨Nat.le_of_ble_eq_true rfl, Nat.le_of_ble_eq_true rfl⟩) hK hW hA 0 rfl rfl rfl hl.1 rfl (Nat.le_of_ble_eq_true rfl) dX5_pay_77 ⟨Nat.le_of_ble_eq_true rfl, Nat.le_of_ble_eq_true rfl⟩ (fun r_20 _ H locs hw hW => ?_)
        exact hret _ σ_19 _ _ _ _ hw hW dX5_pay_80
      · have hw := hw.2 hc
        refine lv_iconst (v := 0) hx hb dX5_pay_51 (by decide) ?_
        exact hret _ σ_16 _ _ _ _ hw hW dX5_pay_52
  · have hw := hw.2 hc
    refine lv_iconst (v := 1) hx hb dX5_pay_8 (by decide) ?_
    refine lv_goto (tgt := 45) hx hb dX5_pay_9 (by decide) ?_
    refine kV_Mi (As := [.int 1]) (rest := []) ⟨hx, hb, hml, hown, hts⟩ (ok_X5_holds l D cI cJ a _ _ _ _ hw) (cwV 1 hts gX5_pay_X5_holds rfl rfl rfl (by decide +kernel) ⟨Nat.le_of_ble_eq_true rfl, Nat.le_of_ble_eq_true rfl⟩) hK hW hA 0 rfl rfl rfl hl.1 rfl (Nat.le_of_ble_eq_true rfl) dX5_pay_45 ⟨Nat.le_of_ble_eq_true rfl, Nat.le_of_ble_eq_true rfl⟩ (fun r_21 σ_22 H locs hw hW => ?_)
    refine lv_if_ne (tgt := 53) hx hb dX5_pay_48 (by decide) (fun hc => ?_) (fun hc => ?_)
    · have hw := hw.1 hc
      refine lv_aload_n hx hb dX5_pay_53 rfl (lv_at hl 0 rfl) ?_
      refine kV_Mv (As := []) (rest := []) ⟨hx, hb, hml, hown, hts⟩ (ok_X5_save l D cI cJ a _ _ _ hw) (cwV 0 hts gX5_pay_X5_save rfl rfl rfl (by decide +kernel) ⟨Nat.le_of_ble_eq_true rfl, Nat.le_of_ble_eq_true rfl⟩) hK hW hA 0 rfl rfl rfl hl.1 rfl (Nat.le_of_ble_eq_true rfl) dX5_pay_54 ⟨Nat.le_of_ble_eq_true rfl, Nat.le_of_ble_eq_true rfl⟩ (fun σ_23 H locs hw hW => ?_)
      refine lv_aload_n hx hb dX5_pay_57 rfl (lv_at hl 0 rfl) ?_
      refine lv_iload_n hx hb dX5_pay_58 rfl (lv_at hl 1 rfl) ?_
      refine lv_iconst (v := 0) hx hb dX5_pay_59 (by decide) ?_
      refine lv_iload_n hx hb dX5_pay_60 rfl (lv_at hl 2 rfl) ?_
      refine kV_Mv (As := [.int p1, .int 0, .int p2]) (rest := []) ⟨hx, hb, hml, hown, hts⟩ (ok_X5_adds l D cI cJ a _ _ _ _ _ _ hw) (cwV 3 hts gX5_pay_X5_adds rfl rfl rfl (by decide +kernel) ⟨Nat.le_of_ble_eq_true rfl, Nat.le_of_ble_eq_true rfl⟩) hK hW hA 0 rfl rfl rfl hl.1 rfl (Nat.le_of_ble_eq_true rfl) dX5_pay_61 ⟨Nat.le_of_ble_eq_true rfl, Nat.le_of_ble_eq_true rfl⟩ (fun σ_24 H locs hw hW => ?_)
      refine lv_aload_n hx hb dX5_pay_64 rfl (lv_at hl 0 rfl) ?_
      refine va_get (D := D) (ci := 5) (v := .ref (a 1)) (C := RX5) (T := TX5) (N := 18) hx hb hts hinX5 hown hK hW.1 0 rfl rfl 1 (by decide) (hts _ (List.mem_of_getElem? (i := 1) rfl)) (fun _ h9 => h9) rfl dX5_pay_65 ?_
      refine lv_iconst (v := 4) hx hb dX5_pay_68 (by decide) ?_
      refine lv_dup2_11 hx hb dX5_pay_69 rfl rfl ?_
      refine va_iald hx hb hK hW.1 1 0 rfl rfl (by unfold vp_in; decide) dX5_pay_70 ?_
      refine lv_iload_n hx hb dX5_pay_71 rfl (lv_at hl 2 rfl) ?_
      refine lv_iadd hx hb dX5_pay_72 ?_
      refine st_m_s hx hb hK hW (by unfold vp_in; decide) dX5_pay_73 (fun σ_25 eσ_25 H locs hW => ?_)
      have hw := hw σ_25 eσ_25
      refine lv_aload_n hx hb dX5_pay_74 rfl (lv_at hl 0 rfl) ?_
      refine lv_iload_n hx hb dX5_pay_75 rfl (lv_at hl 1 rfl) ?_
      refine lv_iconst (v := 0) hx hb dX5_pay_76 (by decide) ?_
      refine kV_Mi (As := [.int p1, .int 0]) (rest := []) ⟨hx, hb, hml, hown, hts⟩ (ok_X5_has l D cI cJ a _ _ _ _ _ hw) (cwV 2 hts gX5_pay_X5_has rfl rfl rfl (by decide +kernel) ⟨Nat.le_of_ble_eq_true rfl, Nat.le_of_ble_eq_true rfl⟩) hK hW hA 0 rfl rfl rfl hl.1 rfl (Nat.le_of_ble_eq_true rfl) dX5_pay_77 ⟨Nat.le_of_ble_eq_true rfl, Nat.le_of_ble_eq_true rfl⟩ (fun r_26 _ H locs hw hW => ?_)
      exact hret _ σ_25 _ _ _ _ hw hW dX5_pay_80
    · have hw := hw.2 hc
      refine lv_iconst (v := 0) hx hb dX5_pay_51 (by decide) ?_
      exact hret _ σ_22 _ _ _ _ hw hW dX5_pay_52
def wp_X5_set (σ : MS) (p1 : Int32) (p2 : Int32) (post : Int32 → MS → Prop) : Prop := wp_X5_in p1 0 2 (fun r_1 => ((¬ r_1 = 0 → ((¬ p1 = 0 → ((¬ p1 = 1 → wp_X5_in p2 0 50 (fun r_2 => ((¬ r_2 = 0 → wp_X5_holds σ 0 (fun r_3 σ_4 => ((r_3 = 0 → post 0 σ_4) ∧ (¬ r_3 = 0 → wp_X5_changed σ_4 (12 + p1) p2 (fun r_5 σ_6 => post r_5 σ_6))))) ∧ (r_2 = 0 → wp_X5_holds σ 2 (fun r_7 σ_8 => ((r_7 = 0 → post 0 σ_8) ∧ (¬ r_7 = 0 → wp_X5_changed σ_8 (12 + p1) p2 (fun r_9 σ_10 => post r_9 σ_10)))))))) ∧ (p1 = 1 → wp_X5_in p2 0 9 (fun r_11 => ((¬ r_11 = 0 → wp_X5_holds σ 0 (fun r_12 σ_13 => ((r_12 = 0 → post 0 σ_13) ∧ (¬ r_12 = 0 → wp_X5_changed σ_13 (12 + p1) p2 (fun r_14 σ_15 => post r_14 σ_15))))) ∧ (r_11 = 0 → wp_X5_holds σ 2 (fun r_16 σ_17 => ((r_16 = 0 → post 0 σ_17) ∧ (¬ r_16 = 0 → wp_X5_changed σ_17 (12 + p1) p2 (fun r_18 σ_19 => post r_18 σ_19)))))))))) ∧ (p1 = 0 → wp_X5_in p2 0 20 (fun r_20 => ((¬ r_20 = 0 → wp_X5_holds σ 0 (fun r_21 σ_22 => ((r_21 = 0 → post 0 σ_22) ∧ (¬ r_21 = 0 → wp_X5_changed σ_22 (12 + p1) p2 (fun r_23 σ_24 => post r_23 σ_24))))) ∧ (r_20 = 0 → wp_X5_holds σ 2 (fun r_25 σ_26 => ((r_25 = 0 → post 0 σ_26) ∧ (¬ r_25 = 0 → wp_X5_changed σ_26 (12 + p1) p2 (fun r_27 σ_28 => post r_27 σ_28)))))))))) ∧ (r_1 = 0 → wp_X5_holds σ 1 (fun r_29 σ_30 => ((r_29 = 0 → post 0 σ_30) ∧ (¬ r_29 = 0 → wp_X5_changed σ_30 (12 + p1) p2 (fun r_31 σ_32 => post r_31 σ_32)))))))
abbrev rm_X5_set : Room := { frames := 3, cells := 0, slots := 0, locals := 67 }
set_option maxHeartbeats 4000000 in
set_option maxRecDepth 100000 in
theorem ok_X5_set (l : Launch) (D : va_G) (cI cJ : ClassId) (a : Nat → Nat) (sz : Nat) (σ : MS) (p1 : Int32) (p2 : Int32) (post : Int32 → MS → Prop) (hw : wp_X5_set σ p1 p2 post) : Mi l yX5_set wsX5_set rm_X5_set [.ref (a 0), .int p1, .int p2] D (tysIJ cI cJ) (mW cI cJ a σ) sz post (mW cI cJ a) := by
  refine s_Mi (by decide) rfl (Nat.le_of_ble_eq_true rfl) ?_
  intro p e s m args below meth c A Q hx hb hml hts hown hin hK hA hret H locs ls hW hl
  have hown : s.vm.findClass RX5 = some m.cls := hown
  have hl : lv_has ls 4 [(0, .ref (a 0)), (1, .int p1), (2, .int p2)] := hl
  refine lv_iload_n hx hb dX5_set_0 rfl (lv_at hl 1 rfl) ?_
  refine lv_iconst (v := 0) hx hb dX5_set_1 (by decide) ?_
  refine lv_iconst (v := 2) hx hb dX5_set_2 (by decide) ?_
  refine kS_Pi (As := [.int p1, .int 0, .int 2]) (rest := []) ⟨hx, hb, hml, hown, hts⟩ (ok_X5_in l _ _ _ _ hw) (va_cwS 3 hts gX5_set_X5_in rfl rfl rfl (by decide +kernel) ⟨Nat.le_of_ble_eq_true rfl, Nat.le_of_ble_eq_true rfl⟩) hW.2.2 rfl hl.1 rfl (Nat.le_of_ble_eq_true rfl) dX5_set_3 ⟨Nat.le_of_ble_eq_true rfl, Nat.le_of_ble_eq_true rfl⟩ (fun r_1 H locs hw hk hS => ?_)
  have hW := hW.kept hk hS
  refine lv_istore_n (lv' := [(3, .int r_1), (0, .ref (a 0)), (1, .int p1), (2, .int p2)]) hx hb dX5_set_6 rfl hl (by decide) rfl (fun ls hl => ?_)
  refine lv_aload_n hx hb dX5_set_7 rfl (lv_at hl 1 rfl) ?_
  refine lv_iload_n hx hb dX5_set_8 rfl (lv_at hl 0 rfl) ?_
  refine lv_if_ne (tgt := 16) hx hb dX5_set_9 (by decide) (fun hc => ?_) (fun hc => ?_)
  · have hw := hw.1 hc
    refine lv_iload_n hx hb dX5_set_16 rfl (lv_at hl 3 rfl) ?_
    refine lv_iconst (v := 0) hx hb dX5_set_17 (by decide) ?_
    refine lv_iload_n hx hb dX5_set_18 rfl (lv_at hl 2 rfl) ?_
    refine lv_if_ne (tgt := 27) hx hb dX5_set_19 (by decide) (fun hc => ?_) (fun hc => ?_)
    · have hw := hw.1 hc
      refine lv_iload_n hx hb dX5_set_27 rfl (lv_at hl 2 rfl) ?_
      refine lv_iconst (v := 1) hx hb dX5_set_28 (by decide) ?_
      refine lv_icmp_ne (tgt := 37) hx hb dX5_set_29 (by decide) (fun hc => ?_) (fun hc => ?_)
      · have hw := hw.1 hc
        refine lv_bipush (v := 50) hx hb dX5_set_37 (by decide) ?_
        refine kS_Pi (As := [.int p2, .int 0, .int 50]) (rest := [.ref (a 0)]) ⟨hx, hb, hml, hown, hts⟩ (ok_X5_in l _ _ _ _ hw) (va_cwS 3 hts gX5_set_X5_in rfl rfl rfl (by decide +kernel) ⟨Nat.le_of_ble_eq_true rfl, Nat.le_of_ble_eq_true rfl⟩) hW.2.2 rfl hl.1 rfl (Nat.le_of_ble_eq_true rfl) dX5_set_39 ⟨Nat.le_of_ble_eq_true rfl, Nat.le_of_ble_eq_true rfl⟩ (fun r_2 H locs hw hk hS => ?_)
        have hW := hW.kept hk hS
        refine lv_if_ne (tgt := 49) hx hb dX5_set_42 (by decide) (fun hc => ?_) (fun hc => ?_)
        · have hw := hw.1 hc
          refine lv_iconst (v := 0) hx hb dX5_set_49 (by decide) ?_
          refine kV_Mi (As := [.int 0]) (rest := []) ⟨hx, hb, hml, hown, hts⟩ (ok_X5_holds l D cI cJ a _ _ _ _ hw) (cwV 1 hts gX5_set_X5_holds rfl rfl rfl (by decide +kernel) ⟨Nat.le_of_ble_eq_true rfl, Nat.le_of_ble_eq_true rfl⟩) hK hW hA 0 rfl rfl rfl hl.1 rfl (Nat.le_of_ble_eq_true rfl) dX5_set_50 ⟨Nat.le_of_ble_eq_true rfl, Nat.le_of_ble_eq_true rfl⟩ (fun r_3 σ_4 H locs hw hW => ?_)
          refine lv_if_eq (tgt := 68) hx hb dX5_set_53 (by decide) (fun hc => ?_) (fun hc => ?_)
          · have hw := hw.1 hc
            refine lv_iconst (v := 0) hx hb dX5_set_68 (by decide) ?_
            exact hret _ σ_4 _ _ _ _ hw hW dX5_set_69
          · have hw := hw.2 hc
            refine lv_aload_n hx hb dX5_set_56 rfl (lv_at hl 1 rfl) ?_
            refine lv_bipush (v := 12) hx hb dX5_set_57 (by decide) ?_
            refine lv_iload_n hx hb dX5_set_59 rfl (lv_at hl 2 rfl) ?_
            refine lv_iadd hx hb dX5_set_60 ?_
            refine lv_iload_n hx hb dX5_set_61 rfl (lv_at hl 3 rfl) ?_
            refine kV_Mi (As := [.int (12 + p1), .int p2]) (rest := []) ⟨hx, hb, hml, hown, hts⟩ (ok_X5_changed l D cI cJ a _ _ _ _ _ hw) (cwV 2 hts gX5_set_X5_changed rfl rfl rfl (by decide +kernel) ⟨Nat.le_of_ble_eq_true rfl, Nat.le_of_ble_eq_true rfl⟩) hK hW hA 0 rfl rfl rfl hl.1 rfl (Nat.le_of_ble_eq_true rfl) dX5_set_62 ⟨Nat.le_of_ble_eq_true rfl, Nat.le_of_ble_eq_true rfl⟩ (fun r_5 σ_6 H locs hw hW => ?_)
            refine lv_goto (tgt := 69) hx hb dX5_set_65 (by decide) ?_
            exact hret _ σ_6 _ _ _ _ hw hW dX5_set_69
        · have hw := hw.2 hc
          refine lv_iconst (v := 2) hx hb dX5_set_45 (by decide) ?_
          refine lv_goto (tgt := 50) hx hb dX5_set_46 (by decide) ?_
          refine kV_Mi (As := [.int 2]) (rest := []) ⟨hx, hb, hml, hown, hts⟩ (ok_X5_holds l D cI cJ a _ _ _ _ hw) (cwV 1 hts gX5_set_X5_holds rfl rfl rfl (by decide +kernel) ⟨Nat.le_of_ble_eq_true rfl, Nat.le_of_ble_eq_true rfl⟩) hK hW hA 0 rfl rfl rfl hl.1 rfl (Nat.le_of_ble_eq_true rfl) dX5_set_50 ⟨Nat.le_of_ble_eq_true rfl, Nat.le_of_ble_eq_true rfl⟩ (fun r_7 σ_8 H locs hw hW => ?_)
          refine lv_if_eq (tgt := 68) hx hb dX5_set_53 (by decide) (fun hc => ?_) (fun hc => ?_)
          · have hw := hw.1 hc
            refine lv_iconst (v := 0) hx hb dX5_set_68 (by decide) ?_
            exact hret _ σ_8 _ _ _ _ hw hW dX5_set_69
          · have hw := hw.2 hc
            refine lv_aload_n hx hb dX5_set_56 rfl (lv_at hl 1 rfl) ?_
            refine lv_bipush (v := 12) hx hb dX5_set_57 (by decide) ?_
            refine lv_iload_n hx hb dX5_set_59 rfl (lv_at hl 2 rfl) ?_
            refine lv_iadd hx hb dX5_set_60 ?_
            refine lv_iload_n hx hb dX5_set_61 rfl (lv_at hl 3 rfl) ?_
            refine kV_Mi (As := [.int (12 + p1), .int p2]) (rest := []) ⟨hx, hb, hml, hown, hts⟩ (ok_X5_changed l D cI cJ a _ _ _ _ _ hw) (cwV 2 hts gX5_set_X5_changed rfl rfl rfl (by decide +kernel) ⟨Nat.le_of_ble_eq_true rfl, Nat.le_of_ble_eq_true rfl⟩) hK hW hA 0 rfl rfl rfl hl.1 rfl (Nat.le_of_ble_eq_true rfl) dX5_set_62 ⟨Nat.le_of_ble_eq_true rfl, Nat.le_of_ble_eq_true rfl⟩ (fun r_9 σ_10 H locs hw hW => ?_)
            refine lv_goto (tgt := 69) hx hb dX5_set_65 (by decide) ?_
            exact hret _ σ_10 _ _ _ _ hw hW dX5_set_69
      · have hw := hw.2 hc
        refine lv_bipush (v := 9) hx hb dX5_set_32 (by decide) ?_
        refine lv_goto (tgt := 39) hx hb dX5_set_34 (by decide) ?_
        refine kS_Pi (As := [.int p2, .int 0, .int 9]) (rest := [.ref (a 0)]) ⟨hx, hb, hml, hown, hts⟩ (ok_X5_in l _ _ _ _ hw) (va_cwS 3 hts gX5_set_X5_in rfl rfl rfl (by decide +kernel) ⟨Nat.le_of_ble_eq_true rfl, Nat.le_of_ble_eq_true rfl⟩) hW.2.2 rfl hl.1 rfl (Nat.le_of_ble_eq_true rfl) dX5_set_39 ⟨Nat.le_of_ble_eq_true rfl, Nat.le_of_ble_eq_true rfl⟩ (fun r_11 H locs hw hk hS => ?_)
        have hW := hW.kept hk hS
        refine lv_if_ne (tgt := 49) hx hb dX5_set_42 (by decide) (fun hc => ?_) (fun hc => ?_)
        · have hw := hw.1 hc
          refine lv_iconst (v := 0) hx hb dX5_set_49 (by decide) ?_
          refine kV_Mi (As := [.int 0]) (rest := []) ⟨hx, hb, hml, hown, hts⟩ (ok_X5_holds l D cI cJ a _ _ _ _ hw) (cwV 1 hts gX5_set_X5_holds rfl rfl rfl (by decide +kernel) ⟨Nat.le_of_ble_eq_true rfl, Nat.le_of_ble_eq_true rfl⟩) hK hW hA 0 rfl rfl rfl hl.1 rfl (Nat.le_of_ble_eq_true rfl) dX5_set_50 ⟨Nat.le_of_ble_eq_true rfl, Nat.le_of_ble_eq_true rfl⟩ (fun r_12 σ_13 H locs hw hW => ?_)
          refine lv_if_eq (tgt := 68) hx hb dX5_set_53 (by decide) (fun hc => ?_) (fun hc => ?_)
          · have hw := hw.1 hc
            refine lv_iconst (v := 0) hx hb dX5_set_68 (by decide) ?_
            exact hret _ σ_13 _ _ _ _ hw hW dX5_set_69
          · have hw := hw.2 hc
            refine lv_aload_n hx hb dX5_set_56 rfl (lv_at hl 1 rfl) ?_
            refine lv_bipush (v := 12) hx hb dX5_set_57 (by decide) ?_
            refine lv_iload_n hx hb dX5_set_59 rfl (lv_at hl 2 rfl) ?_
            refine lv_iadd hx hb dX5_set_60 ?_
            refine lv_iload_n hx hb dX5_set_61 rfl (lv_at hl 3 rfl) ?_
            refine kV_Mi (As := [.int (12 + p1), .int p2]) (rest := []) ⟨hx, hb, hml, hown, hts⟩ (ok_X5_changed l D cI cJ a _ _ _ _ _ hw) (cwV 2 hts gX5_set_X5_changed rfl rfl rfl (by decide +kernel) ⟨Nat.le_of_ble_eq_true rfl, Nat.le_of_ble_eq_true rfl⟩) hK hW hA 0 rfl rfl rfl hl.1 rfl (Nat.le_of_ble_eq_true rfl) dX5_set_62 ⟨Nat.le_of_ble_eq_true rfl, Nat.le_of_ble_eq_true rfl⟩ (fun r_14 σ_15 H locs hw hW => ?_)
            refine lv_goto (tgt := 69) hx hb dX5_set_65 (by decide) ?_
            exact hret _ σ_15 _ _ _ _ hw hW dX5_set_69
        · have hw := hw.2 hc
          refine lv_iconst (v := 2) hx hb dX5_set_45 (by decide) ?_
          refine lv_goto (tgt := 50) hx hb dX5_set_46 (by decide) ?_
          refine kV_Mi (As := [.int 2]) (rest := []) ⟨hx, hb, hml, hown, hts⟩ (ok_X5_holds l D cI cJ a _ _ _ _ hw) (cwV 1 hts gX5_set_X5_holds rfl rfl rfl (by decide +kernel) ⟨Nat.le_of_ble_eq_true rfl, Nat.le_of_ble_eq_true rfl⟩) hK hW hA 0 rfl rfl rfl hl.1 rfl (Nat.le_of_ble_eq_true rfl) dX5_set_50 ⟨Nat.le_of_ble_eq_true rfl, Nat.le_of_ble_eq_true rfl⟩ (fun r_16 σ_17 H locs hw hW => ?_)
          refine lv_if_eq (tgt := 68) hx hb dX5_set_53 (by decide) (fun hc => ?_) (fun hc => ?_)
          · have hw := hw.1 hc
            refine lv_iconst (v := 0) hx hb dX5_set_68 (by decide) ?_
            exact hret _ σ_17 _ _ _ _ hw hW dX5_set_69
          · have hw := hw.2 hc
            refine lv_aload_n hx hb dX5_set_56 rfl (lv_at hl 1 rfl) ?_
            refine lv_bipush (v := 12) hx hb dX5_set_57 (by decide) ?_
            refine lv_iload_n hx hb dX5_set_59 rfl (lv_at hl 2 rfl) ?_
            refine lv_iadd hx hb dX5_set_60 ?_
            refine lv_iload_n hx hb dX5_set_61 rfl (lv_at hl 3 rfl) ?_
            refine kV_Mi (As := [.int (12 + p1), .int p2]) (rest := []) ⟨hx, hb, hml, hown, hts⟩ (ok_X5_changed l D cI cJ a _ _ _ _ _ hw) (cwV 2 hts gX5_set_X5_changed rfl rfl rfl (by decide +kernel) ⟨Nat.le_of_ble_eq_true rfl, Nat.le_of_ble_eq_true rfl⟩) hK hW hA 0 rfl rfl rfl hl.1 rfl (Nat.le_of_ble_eq_true rfl) dX5_set_62 ⟨Nat.le_of_ble_eq_true rfl, Nat.le_of_ble_eq_true rfl⟩ (fun r_18 σ_19 H locs hw hW => ?_)
            refine lv_goto (tgt := 69) hx hb dX5_set_65 (by decide) ?_
            exact hret _ σ_19 _ _ _ _ hw hW dX5_set_69
    · have hw := hw.2 hc
      refine lv_bipush (v := 20) hx hb dX5_set_22 (by decide) ?_
      refine lv_goto (tgt := 39) hx hb dX5_set_24 (by decide) ?_
      refine kS_Pi (As := [.int p2, .int 0, .int 20]) (rest := [.ref (a 0)]) ⟨hx, hb, hml, hown, hts⟩ (ok_X5_in l _ _ _ _ hw) (va_cwS 3 hts gX5_set_X5_in rfl rfl rfl (by decide +kernel) ⟨Nat.le_of_ble_eq_true rfl, Nat.le_of_ble_eq_true rfl⟩) hW.2.2 rfl hl.1 rfl (Nat.le_of_ble_eq_true rfl) dX5_set_39 ⟨Nat.le_of_ble_eq_true rfl, Nat.le_of_ble_eq_true rfl⟩ (fun r_20 H locs hw hk hS => ?_)
      have hW := hW.kept hk hS
      refine lv_if_ne (tgt := 49) hx hb dX5_set_42 (by decide) (fun hc => ?_) (fun hc => ?_)
      · have hw := hw.1 hc
        refine lv_iconst (v := 0) hx hb dX5_set_49 (by decide) ?_
        refine kV_Mi (As := [.int 0]) (rest := []) ⟨hx, hb, hml, hown, hts⟩ (ok_X5_holds l D cI cJ a _ _ _ _ hw) (cwV 1 hts gX5_set_X5_holds rfl rfl rfl (by decide +kernel) ⟨Nat.le_of_ble_eq_true rfl, Nat.le_of_ble_eq_true rfl⟩) hK hW hA 0 rfl rfl rfl hl.1 rfl (Nat.le_of_ble_eq_true rfl) dX5_set_50 ⟨Nat.le_of_ble_eq_true rfl, Nat.le_of_ble_eq_true rfl⟩ (fun r_21 σ_22 H locs hw hW => ?_)
        refine lv_if_eq (tgt := 68) hx hb dX5_set_53 (by decide) (fun hc => ?_) (fun hc => ?_)
        · have hw := hw.1 hc
          refine lv_iconst (v := 0) hx hb dX5_set_68 (by decide) ?_
          exact hret _ σ_22 _ _ _ _ hw hW dX5_set_69
        · have hw := hw.2 hc
          refine lv_aload_n hx hb dX5_set_56 rfl (lv_at hl 1 rfl) ?_
          refine lv_bipush (v := 12) hx hb dX5_set_57 (by decide) ?_
          refine lv_iload_n hx hb dX5_set_59 rfl (lv_at hl 2 rfl) ?_
          refine lv_iadd hx hb dX5_set_60 ?_
          refine lv_iload_n hx hb dX5_set_61 rfl (lv_at hl 3 rfl) ?_
          refine kV_Mi (As := [.int (12 + p1), .int p2]) (rest := []) ⟨hx, hb, hml, hown, hts⟩ (ok_X5_changed l D cI cJ a _ _ _ _ _ hw) (cwV 2 hts gX5_set_X5_changed rfl rfl rfl (by decide +kernel) ⟨Nat.le_of_ble_eq_true rfl, Nat.le_of_ble_eq_true rfl⟩) hK hW hA 0 rfl rfl rfl hl.1 rfl (Nat.le_of_ble_eq_true rfl) dX5_set_62 ⟨Nat.le_of_ble_eq_true rfl, Nat.le_of_ble_eq_true rfl⟩ (fun r_23 σ_24 H locs hw hW => ?_)
          refine lv_goto (tgt := 69) hx hb dX5_set_65 (by decide) ?_
          exact hret _ σ_24 _ _ _ _ hw hW dX5_set_69
      · have hw := hw.2 hc
        refine lv_iconst (v := 2) hx hb dX5_set_45 (by decide) ?_
        refine lv_goto (tgt := 50) hx hb dX5_set_46 (by decide) ?_
        refine kV_Mi (As := [.int 2]) (rest := []) ⟨hx, hb, hml, hown, hts⟩ (ok_X5_holds l D cI cJ a _ _ _ _ hw) (cwV 1 hts gX5_set_X5_holds rfl rfl rfl (by decide +kernel) ⟨Nat.le_of_ble_eq_true rfl, Nat.le_of_ble_eq_true rfl⟩) hK hW hA 0 rfl rfl rfl hl.1 rfl (Nat.le_of_ble_eq_true rfl) dX5_set_50 ⟨Nat.le_of_ble_eq_true rfl, Nat.le_of_ble_eq_true rfl⟩ (fun r_25 σ_26 H locs hw hW => ?_)
        refine lv_if_eq (tgt := 68) hx hb dX5_set_53 (by decide) (fun hc => ?_) (fun hc => ?_)
        · have hw := hw.1 hc
          refine lv_iconst (v := 0) hx hb dX5_set_68 (by decide) ?_
          exact hret _ σ_26 _ _ _ _ hw hW dX5_set_69
        · have hw := hw.2 hc
          refine lv_aload_n hx hb dX5_set_56 rfl (lv_at hl 1 rfl) ?_
          refine lv_bipush (v := 12) hx hb dX5_set_57 (by decide) ?_
          refine lv_iload_n hx hb dX5_set_59 rfl (lv_at hl 2 rfl) ?_
          refine lv_iadd hx hb dX5_set_60 ?_
          refine lv_iload_n hx hb dX5_set_61 rfl (lv_at hl 3 rfl) ?_
          refine kV_Mi (As := [.int (12 + p1), .int p2]) (rest := []) ⟨hx, hb, hml, hown, hts⟩ (ok_X5_changed l D cI cJ a _ _ _ _ _ hw) (cwV 2 hts gX5_set_X5_changed rfl rfl rfl (by decide +kernel) ⟨Nat.le_of_ble_eq_true rfl, Nat.le_of_ble_eq_true rfl⟩) hK hW hA 0 rfl rfl rfl hl.1 rfl (Nat.le_of_ble_eq_true rfl) dX5_set_62 ⟨Nat.le_of_ble_eq_true rfl, Nat.le_of_ble_eq_true rfl⟩ (fun r_27 σ_28 H locs hw hW => ?_)
          refine lv_goto (tgt := 69) hx hb dX5_set_65 (by decide) ?_
          exact hret _ σ_28 _ _ _ _ hw hW dX5_set_69
  · have hw := hw.2 hc
    refine lv_iconst (v := 1) hx hb dX5_set_12 (by decide) ?_
    refine lv_goto (tgt := 50) hx hb dX5_set_13 (by decide) ?_
    refine kV_Mi (As := [.int 1]) (rest := []) ⟨hx, hb, hml, hown, hts⟩ (ok_X5_holds l D cI cJ a _ _ _ _ hw) (cwV 1 hts gX5_set_X5_holds rfl rfl rfl (by decide +kernel) ⟨Nat.le_of_ble_eq_true rfl, Nat.le_of_ble_eq_true rfl⟩) hK hW hA 0 rfl rfl rfl hl.1 rfl (Nat.le_of_ble_eq_true rfl) dX5_set_50 ⟨Nat.le_of_ble_eq_true rfl, Nat.le_of_ble_eq_true rfl⟩ (fun r_29 σ_30 H locs hw hW => ?_)
    refine lv_if_eq (tgt := 68) hx hb dX5_set_53 (by decide) (fun hc => ?_) (fun hc => ?_)
    · have hw := hw.1 hc
      refine lv_iconst (v := 0) hx hb dX5_set_68 (by decide) ?_
      exact hret _ σ_30 _ _ _ _ hw hW dX5_set_69
    · have hw := hw.2 hc
      refine lv_aload_n hx hb dX5_set_56 rfl (lv_at hl 1 rfl) ?_
      refine lv_bipush (v := 12) hx hb dX5_set_57 (by decide) ?_
      refine lv_iload_n hx hb dX5_set_59 rfl (lv_at hl 2 rfl) ?_
      refine lv_iadd hx hb dX5_set_60 ?_
      refine lv_iload_n hx hb dX5_set_61 rfl (lv_at hl 3 rfl) ?_
      refine kV_Mi (As := [.int (12 + p1), .int p2]) (rest := []) ⟨hx, hb, hml, hown, hts⟩ (ok_X5_changed l D cI cJ a _ _ _ _ _ hw) (cwV 2 hts gX5_set_X5_changed rfl rfl rfl (by decide +kernel) ⟨Nat.le_of_ble_eq_true rfl, Nat.le_of_ble_eq_true rfl⟩) hK hW hA 0 rfl rfl rfl hl.1 rfl (Nat.le_of_ble_eq_true rfl) dX5_set_62 ⟨Nat.le_of_ble_eq_true rfl, Nat.le_of_ble_eq_true rfl⟩ (fun r_31 σ_32 H locs hw hW => ?_)
      refine lv_goto (tgt := 69) hx hb dX5_set_65 (by decide) ?_
      exact hret _ σ_32 _ _ _ _ hw hW dX5_set_69
def wp_X5_bid (σ : MS) (p1 : Int32) (p2 : Int32) (p3 : Int32) (post : Int32 → MS → Prop) : Prop := wp_X5_isOne p1 (fun r_1 => ((r_1 = 0 → wp_X5_holds σ 1 (fun r_2 σ_3 => ((¬ r_2 = 0 → wp_X5_save σ_3 (fun σ_4 => wp_X5_seals σ_4 p1 p2 p3 (fun r_5 σ_6 => post r_5 σ_6))) ∧ (r_2 = 0 → post 0 σ_3)))) ∧ (¬ r_1 = 0 → wp_X5_isOne p2 (fun r_7 => ((r_7 = 0 → wp_X5_holds σ 1 (fun r_8 σ_9 => ((¬ r_8 = 0 → wp_X5_save σ_9 (fun σ_10 => wp_X5_seals σ_10 p1 p2 p3 (fun r_11 σ_12 => post r_11 σ_12))) ∧ (r_8 = 0 → post 0 σ_9)))) ∧ (¬ r_7 = 0 → wp_X5_isAmount p3 (fun r_13 => ((¬ r_13 = 0 → wp_X5_reason σ p1 p2 p3 (fun r_14 => ((r_14 ≤ 0 → wp_X5_holds σ 0 (fun r_15 σ_16 => ((¬ r_15 = 0 → wp_X5_save σ_16 (fun σ_17 => wp_X5_seals σ_17 p1 p2 p3 (fun r_18 σ_19 => post r_18 σ_19))) ∧ (r_15 = 0 → post 0 σ_16)))) ∧ (¬ r_14 ≤ 0 → wp_X5_holds σ 3 (fun r_20 σ_21 => ((¬ r_20 = 0 → wp_X5_save σ_21 (fun σ_22 => wp_X5_seals σ_22 p1 p2 p3 (fun r_23 σ_24 => post r_23 σ_24))) ∧ (r_20 = 0 → post 0 σ_21))))))) ∧ (r_13 = 0 → wp_X5_holds σ 2 (fun r_25 σ_26 => ((¬ r_25 = 0 → wp_X5_save σ_26 (fun σ_27 => wp_X5_seals σ_27 p1 p2 p3 (fun r_28 σ_29 => post r_28 σ_29))) ∧ (r_25 = 0 → post 0 σ_26))))))))))))
abbrev rm_X5_bid : Room := { frames := 3, cells := 0, slots := 0, locals := 67 }
set_option maxHeartbeats 4000000 in
set_option maxRecDepth 100000 in
theorem ok_X5_bid (l : Launch) (D : va_G) (cI cJ : ClassId) (a : Nat → Nat) (sz : Nat) (σ : MS) (p1 : Int32) (p2 : Int32) (p3 : Int32) (post : Int32 → MS → Prop) (hw : wp_X5_bid σ p1 p2 p3 post) : Mi l yX5_bid wsX5_bid rm_X5_bid [.ref (a 0), .int p1, .int p2, .int p3] D (tysIJ cI cJ) (mW cI cJ a σ) sz post (mW cI cJ a) := by
  refine s_Mi (by decide) rfl (Nat.le_of_ble_eq_true rfl) ?_
  intro p e s m args below meth c A Q hx hb hml hts hown hin hK hA hret H locs ls hW hl
  have hown : s.vm.findClass RX5 = some m.cls := hown
  have hl : lv_has ls 5 [(0, .ref (a 0)), (1, .int p1), (2, .int p2), (3, .int p3)] := hl
  refine lv_iload_n hx hb dX5_bid_0 rfl (lv_at hl 1 rfl) ?_
  refine kS_Pi (As := [.int p1]) (rest := []) ⟨hx, hb, hml, hown, hts⟩ (ok_X5_isOne l _ _ hw) (va_cwS 1 hts gX5_bid_X5_isOne rfl rfl rfl (by decide +kernel) ⟨Nat.le_of_ble_eq_true rfl, Nat.le_of_ble_eq_true rfl⟩) hW.2.2 rfl hl.1 rfl (Nat.le_of_ble_eq_true rfl) dX5_bid_1 ⟨Nat.le_of_ble_eq_true rfl, Nat.le_of_ble_eq_true rfl⟩ (fun r_1 H locs hw hk hS => ?_)
  have hW := hW.kept hk hS
  refine lv_if_eq (tgt := 18) hx hb dX5_bid_4 (by decide) (fun hc => ?_) (fun hc => ?_)
  · have hw := hw.1 hc
    refine lv_iconst (v := 0) hx hb dX5_bid_18 (by decide) ?_
    refine lv_istore (lv' := [(4, .int 0), (0, .ref (a 0)), (1, .int p1), (2, .int p2), (3, .int p3)]) hx hb dX5_bid_19 hl (by decide) rfl (fun ls hl => ?_)
    refine lv_aload_n hx hb dX5_bid_21 rfl (lv_at hl 1 rfl) ?_
    refine lv_iload hx hb dX5_bid_22 (lv_at hl 0 rfl) ?_
    refine lv_if_ne (tgt := 31) hx hb dX5_bid_24 (by decide) (fun hc => absurd hc (by decide)) (fun _ => ?_)
    refine lv_iconst (v := 1) hx hb dX5_bid_27 (by decide) ?_
    refine lv_goto (tgt := 57) hx hb dX5_bid_28 (by decide) ?_
    refine kV_Mi (As := [.int 1]) (rest := []) ⟨hx, hb, hml, hown, hts⟩ (ok_X5_holds l D cI cJ a _ _ _ _ hw) (cwV 1 hts gX5_bid_X5_holds rfl rfl rfl (by decide +kernel) ⟨Nat.le_of_ble_eq_true rfl, Nat.le_of_ble_eq_true rfl⟩) hK hW hA 0 rfl rfl rfl hl.1 rfl (Nat.le_of_ble_eq_true rfl) dX5_bid_57 ⟨Nat.le_of_ble_eq_true rfl, Nat.le_of_ble_eq_true rfl⟩ (fun r_2 σ_3 H locs hw hW => ?_)
    refine lv_if_ne (tgt := 65) hx hb dX5_bid_60 (by decide) (fun hc => ?_) (fun hc => ?_)
    · have hw := hw.1 hc
      refine lv_aload_n hx hb dX5_bid_65 rfl (lv_at hl 1 rfl) ?_
      refine kV_Mv (As := []) (rest := []) ⟨hx, hb, hml, hown, hts⟩ (ok_X5_save l D cI cJ a _ _ _ hw) (cwV 0 hts gX5_bid_X5_save rfl rfl rfl (by decide +kernel) ⟨Nat.le_of_ble_eq_true rfl, Nat.le_of_ble_eq_true rfl⟩) hK hW hA 0 rfl rfl rfl hl.1 rfl (Nat.le_of_ble_eq_true rfl) dX5_bid_66 ⟨Nat.le_of_ble_eq_true rfl, Nat.le_of_ble_eq_true rfl⟩ (fun σ_4 H locs hw hW => ?_)
      refine lv_aload_n hx hb dX5_bid_69 rfl (lv_at hl 1 rfl) ?_
      refine lv_iload_n hx hb dX5_bid_70 rfl (lv_at hl 2 rfl) ?_
      refine lv_iload_n hx hb dX5_bid_71 rfl (lv_at hl 3 rfl) ?_
      refine lv_iload_n hx hb dX5_bid_72 rfl (lv_at hl 4 rfl) ?_
      refine kV_Mi (As := [.int p1, .int p2, .int p3]) (rest := []) ⟨hx, hb, hml, hown, hts⟩ (ok_X5_seals l D cI cJ a _ _ _ _ _ _ hw) (cwV 3 hts gX5_bid_X5_seals rfl rfl rfl (by decide +kernel) ⟨Nat.le_of_ble_eq_true rfl, Nat.le_of_ble_eq_true rfl⟩) hK hW hA 0 rfl rfl rfl hl.1 rfl (Nat.le_of_ble_eq_true rfl) dX5_bid_73 ⟨Nat.le_of_ble_eq_true rfl, Nat.le_of_ble_eq_true rfl⟩ (fun r_5 σ_6 H locs hw hW => ?_)
      exact hret _ σ_6 _ _ _ _ hw hW dX5_bid_76
    · have hw := hw.2 hc
      refine lv_iconst (v := 0) hx hb dX5_bid_63 (by decide) ?_
      exact hret _ σ_3 _ _ _ _ hw hW dX5_bid_64
  · have hw := hw.2 hc
    refine lv_iload_n hx hb dX5_bid_7 rfl (lv_at hl 2 rfl) ?_
    refine kS_Pi (As := [.int p2]) (rest := []) ⟨hx, hb, hml, hown, hts⟩ (ok_X5_isOne l _ _ hw) (va_cwS 1 hts gX5_bid_X5_isOne rfl rfl rfl (by decide +kernel) ⟨Nat.le_of_ble_eq_true rfl, Nat.le_of_ble_eq_true rfl⟩) hW.2.2 rfl hl.1 rfl (Nat.le_of_ble_eq_true rfl) dX5_bid_8 ⟨Nat.le_of_ble_eq_true rfl, Nat.le_of_ble_eq_true rfl⟩ (fun r_7 H locs hw hk hS => ?_)
    have hW := hW.kept hk hS
    refine lv_if_eq (tgt := 18) hx hb dX5_bid_11 (by decide) (fun hc => ?_) (fun hc => ?_)
    · have hw := hw.1 hc
      refine lv_iconst (v := 0) hx hb dX5_bid_18 (by decide) ?_
      refine lv_istore (lv' := [(4, .int 0), (0, .ref (a 0)), (1, .int p1), (2, .int p2), (3, .int p3)]) hx hb dX5_bid_19 hl (by decide) rfl (fun ls hl => ?_)
      refine lv_aload_n hx hb dX5_bid_21 rfl (lv_at hl 1 rfl) ?_
      refine lv_iload hx hb dX5_bid_22 (lv_at hl 0 rfl) ?_
      refine lv_if_ne (tgt := 31) hx hb dX5_bid_24 (by decide) (fun hc => absurd hc (by decide)) (fun _ => ?_)
      refine lv_iconst (v := 1) hx hb dX5_bid_27 (by decide) ?_
      refine lv_goto (tgt := 57) hx hb dX5_bid_28 (by decide) ?_
      refine kV_Mi (As := [.int 1]) (rest := []) ⟨hx, hb, hml, hown, hts⟩ (ok_X5_holds l D cI cJ a _ _ _ _ hw) (cwV 1 hts gX5_bid_X5_holds rfl rfl rfl (by decide +kernel) ⟨Nat.le_of_ble_eq_true rfl, Nat.le_of_ble_eq_true rfl⟩) hK hW hA 0 rfl rfl rfl hl.1 rfl (Nat.le_of_ble_eq_true rfl) dX5_bid_57 ⟨Nat.le_of_ble_eq_true rfl, Nat.le_of_ble_eq_true rfl⟩ (fun r_8 σ_9 H locs hw hW => ?_)
      refine lv_if_ne (tgt := 65) hx hb dX5_bid_60 (by decide) (fun hc => ?_) (fun hc => ?_)
      · have hw := hw.1 hc
        refine lv_aload_n hx hb dX5_bid_65 rfl (lv_at hl 1 rfl) ?_
        refine kV_Mv (As := []) (rest := []) ⟨hx, hb, hml, hown, hts⟩ (ok_X5_save l D cI cJ a _ _ _ hw) (cwV 0 hts gX5_bid_X5_save rfl rfl rfl (by decide +kernel) ⟨Nat.le_of_ble_eq_true rfl, Nat.le_of_ble_eq_true rfl⟩) hK hW hA 0 rfl rfl rfl hl.1 rfl (Nat.le_of_ble_eq_true rfl) dX5_bid_66 ⟨Nat.le_of_ble_eq_true rfl, Nat.le_of_ble_eq_true rfl⟩ (fun σ_10 H locs hw hW => ?_)
        refine lv_aload_n hx hb dX5_bid_69 rfl (lv_at hl 1 rfl) ?_
        refine lv_iload_n hx hb dX5_bid_70 rfl (lv_at hl 2 rfl) ?_
        refine lv_iload_n hx hb dX5_bid_71 rfl (lv_at hl 3 rfl) ?_
        refine lv_iload_n hx hb dX5_bid_72 rfl (lv_at hl 4 rfl) ?_
        refine kV_Mi (As := [.int p1, .int p2, .int p3]) (rest := []) ⟨hx, hb, hml, hown, hts⟩ (ok_X5_seals l D cI cJ a _ _ _ _ _ _ hw) (cwV 3 hts gX5_bid_X5_seals rfl rfl rfl (by decide +kernel) ⟨Nat.le_of_ble_eq_true rfl, Nat.le_of_ble_eq_true rfl⟩) hK hW hA 0 rfl rfl rfl hl.1 rfl (Nat.le_of_ble_eq_true rfl) dX5_bid_73 ⟨Nat.le_of_ble_eq_true rfl, Nat.le_of_ble_eq_true rfl⟩ (fun r_11 σ_12 H locs hw hW => ?_)
        exact hret _ σ_12 _ _ _ _ hw hW dX5_bid_76
      · have hw := hw.2 hc
        refine lv_iconst (v := 0) hx hb dX5_bid_63 (by decide) ?_
        exact hret _ σ_9 _ _ _ _ hw hW dX5_bid_64
    · have hw := hw.2 hc
      refine lv_iconst (v := 1) hx hb dX5_bid_14 (by decide) ?_
      refine lv_goto (tgt := 19) hx hb dX5_bid_15 (by decide) ?_
      refine lv_istore (lv' := [(4, .int 1), (0, .ref (a 0)), (1, .int p1), (2, .int p2), (3, .int p3)]) hx hb dX5_bid_19 hl (by decide) rfl (fun ls hl => ?_)
      refine lv_aload_n hx hb dX5_bid_21 rfl (lv_at hl 1 rfl) ?_
      refine lv_iload hx hb dX5_bid_22 (lv_at hl 0 rfl) ?_
      refine lv_if_ne (tgt := 31) hx hb dX5_bid_24 (by decide) (fun _ => ?_) (fun hc => absurd hc (by decide))
      refine lv_iload_n hx hb dX5_bid_31 rfl (lv_at hl 4 rfl) ?_
      refine kS_Pi (As := [.int p3]) (rest := [.ref (a 0)]) ⟨hx, hb, hml, hown, hts⟩ (ok_X5_isAmount l _ _ hw) (va_cwS 1 hts gX5_bid_X5_isAmount rfl rfl rfl (by decide +kernel) ⟨Nat.le_of_ble_eq_true rfl, Nat.le_of_ble_eq_true rfl⟩) hW.2.2 rfl hl.1 rfl (Nat.le_of_ble_eq_true rfl) dX5_bid_32 ⟨Nat.le_of_ble_eq_true rfl, Nat.le_of_ble_eq_true rfl⟩ (fun r_13 H locs hw hk hS => ?_)
      have hW := hW.kept hk hS
      refine lv_if_ne (tgt := 42) hx hb dX5_bid_35 (by decide) (fun hc => ?_) (fun hc => ?_)
      · have hw := hw.1 hc
        refine lv_aload_n hx hb dX5_bid_42 rfl (lv_at hl 1 rfl) ?_
        refine lv_iload_n hx hb dX5_bid_43 rfl (lv_at hl 2 rfl) ?_
        refine lv_iload_n hx hb dX5_bid_44 rfl (lv_at hl 3 rfl) ?_
        refine lv_iload_n hx hb dX5_bid_45 rfl (lv_at hl 4 rfl) ?_
        refine kV_Mi (As := [.int p1, .int p2, .int p3]) (rest := [.ref (a 0)]) ⟨hx, hb, hml, hown, hts⟩ (ok_X5_reason l D cI cJ a _ _ _ _ _ _ hw) (cwV 3 hts gX5_bid_X5_reason rfl rfl rfl (by decide +kernel) ⟨Nat.le_of_ble_eq_true rfl, Nat.le_of_ble_eq_true rfl⟩) hK hW hA 0 rfl rfl rfl hl.1 rfl (Nat.le_of_ble_eq_true rfl) dX5_bid_46 ⟨Nat.le_of_ble_eq_true rfl, Nat.le_of_ble_eq_true rfl⟩ (fun r_14 _ H locs hw hW => ?_)
        refine lv_if_le (tgt := 56) hx hb dX5_bid_49 (by decide) (fun hc => ?_) (fun hc => ?_)
        · have hw := hw.1 hc
          refine lv_iconst (v := 0) hx hb dX5_bid_56 (by decide) ?_
          refine kV_Mi (As := [.int 0]) (rest := []) ⟨hx, hb, hml, hown, hts⟩ (ok_X5_holds l D cI cJ a _ _ _ _ hw) (cwV 1 hts gX5_bid_X5_holds rfl rfl rfl (by decide +kernel) ⟨Nat.le_of_ble_eq_true rfl, Nat.le_of_ble_eq_true rfl⟩) hK hW hA 0 rfl rfl rfl hl.1 rfl (Nat.le_of_ble_eq_true rfl) dX5_bid_57 ⟨Nat.le_of_ble_eq_true rfl, Nat.le_of_ble_eq_true rfl⟩ (fun r_15 σ_16 H locs hw hW => ?_)
          refine lv_if_ne (tgt := 65) hx hb dX5_bid_60 (by decide) (fun hc => ?_) (fun hc => ?_)
          · have hw := hw.1 hc
            refine lv_aload_n hx hb dX5_bid_65 rfl (lv_at hl 1 rfl) ?_
            refine kV_Mv (As := []) (rest := []) ⟨hx, hb, hml, hown, hts⟩ (ok_X5_save l D cI cJ a _ _ _ hw) (cwV 0 hts gX5_bid_X5_save rfl rfl rfl (by decide +kernel) ⟨Nat.le_of_ble_eq_true rfl, Nat.le_of_ble_eq_true rfl⟩) hK hW hA 0 rfl rfl rfl hl.1 rfl (Nat.le_of_ble_eq_true rfl) dX5_bid_66 ⟨Nat.le_of_ble_eq_true rfl, Nat.le_of_ble_eq_true rfl⟩ (fun σ_17 H locs hw hW => ?_)
            refine lv_aload_n hx hb dX5_bid_69 rfl (lv_at hl 1 rfl) ?_
            refine lv_iload_n hx hb dX5_bid_70 rfl (lv_at hl 2 rfl) ?_
            refine lv_iload_n hx hb dX5_bid_71 rfl (lv_at hl 3 rfl) ?_
            refine lv_iload_n hx hb dX5_bid_72 rfl (lv_at hl 4 rfl) ?_
            refine kV_Mi (As := [.int p1, .int p2, .int p3]) (rest := []) ⟨hx, hb, hml, hown, hts⟩ (ok_X5_seals l D cI cJ a _ _ _ _ _ _ hw) (cwV 3 hts gX5_bid_X5_seals rfl rfl rfl (by decide +kernel) ⟨Nat.le_of_ble_eq_true rfl, Nat.le_of_ble_eq_true rfl⟩) hK hW hA 0 rfl rfl rfl hl.1 rfl (Nat.le_of_ble_eq_true rfl) dX5_bid_73 ⟨Nat.le_of_ble_eq_true rfl, Nat.le_of_ble_eq_true rfl⟩ (fun r_18 σ_19 H locs hw hW => ?_)
            exact hret _ σ_19 _ _ _ _ hw hW dX5_bid_76
          · have hw := hw.2 hc
            refine lv_iconst (v := 0) hx hb dX5_bid_63 (by decide) ?_
            exact hret _ σ_16 _ _ _ _ hw hW dX5_bid_64
        · have hw := hw.2 hc
          refine lv_iconst (v := 3) hx hb dX5_bid_52 (by decide) ?_
          refine lv_goto (tgt := 57) hx hb dX5_bid_53 (by decide) ?_
          refine kV_Mi (As := [.int 3]) (rest := []) ⟨hx, hb, hml, hown, hts⟩ (ok_X5_holds l D cI cJ a _ _ _ _ hw) (cwV 1 hts gX5_bid_X5_holds rfl rfl rfl (by decide +kernel) ⟨Nat.le_of_ble_eq_true rfl, Nat.le_of_ble_eq_true rfl⟩) hK hW hA 0 rfl rfl rfl hl.1 rfl (Nat.le_of_ble_eq_true rfl) dX5_bid_57 ⟨Nat.le_of_ble_eq_true rfl, Nat.le_of_ble_eq_true rfl⟩ (fun r_20 σ_21 H locs hw hW => ?_)
          refine lv_if_ne (tgt := 65) hx hb dX5_bid_60 (by decide) (fun hc => ?_) (fun hc => ?_)
          · have hw := hw.1 hc
            refine lv_aload_n hx hb dX5_bid_65 rfl (lv_at hl 1 rfl) ?_
            refine kV_Mv (As := []) (rest := []) ⟨hx, hb, hml, hown, hts⟩ (ok_X5_save l D cI cJ a _ _ _ hw) (cwV 0 hts gX5_bid_X5_save rfl rfl rfl (by decide +kernel) ⟨Nat.le_of_ble_eq_true rfl, Nat.le_of_ble_eq_true rfl⟩) hK hW hA 0 rfl rfl rfl hl.1 rfl (Nat.le_of_ble_eq_true rfl) dX5_bid_66 ⟨Nat.le_of_ble_eq_true rfl, Nat.le_of_ble_eq_true rfl⟩ (fun σ_22 H locs hw hW => ?_)
            refine lv_aload_n hx hb dX5_bid_69 rfl (lv_at hl 1 rfl) ?_
            refine lv_iload_n hx hb dX5_bid_70 rfl (lv_at hl 2 rfl) ?_
            refine lv_iload_n hx hb dX5_bid_71 rfl (lv_at hl 3 rfl) ?_
            refine lv_iload_n hx hb dX5_bid_72 rfl (lv_at hl 4 rfl) ?_
            refine kV_Mi (As := [.int p1, .int p2, .int p3]) (rest := []) ⟨hx, hb, hml, hown, hts⟩ (ok_X5_seals l D cI cJ a _ _ _ _ _ _ hw) (cwV 3 hts gX5_bid_X5_seals rfl rfl rfl (by decide +kernel) ⟨Nat.le_of_ble_eq_true rfl, Nat.le_of_ble_eq_true rfl⟩) hK hW hA 0 rfl rfl rfl hl.1 rfl (Nat.le_of_ble_eq_true rfl) dX5_bid_73 ⟨Nat.le_of_ble_eq_true rfl, Nat.le_of_ble_eq_true rfl⟩ (fun r_23 σ_24 H locs hw hW => ?_)
            exact hret _ σ_24 _ _ _ _ hw hW dX5_bid_76
          · have hw := hw.2 hc
            refine lv_iconst (v := 0) hx hb dX5_bid_63 (by decide) ?_
            exact hret _ σ_21 _ _ _ _ hw hW dX5_bid_64
      · have hw := hw.2 hc
        refine lv_iconst (v := 2) hx hb dX5_bid_38 (by decide) ?_
        refine lv_goto (tgt := 57) hx hb dX5_bid_39 (by decide) ?_
        refine kV_Mi (As := [.int 2]) (rest := []) ⟨hx, hb, hml, hown, hts⟩ (ok_X5_holds l D cI cJ a _ _ _ _ hw) (cwV 1 hts gX5_bid_X5_holds rfl rfl rfl (by decide +kernel) ⟨Nat.le_of_ble_eq_true rfl, Nat.le_of_ble_eq_true rfl⟩) hK hW hA 0 rfl rfl rfl hl.1 rfl (Nat.le_of_ble_eq_true rfl) dX5_bid_57 ⟨Nat.le_of_ble_eq_true rfl, Nat.le_of_ble_eq_true rfl⟩ (fun r_25 σ_26 H locs hw hW => ?_)
        refine lv_if_ne (tgt := 65) hx hb dX5_bid_60 (by decide) (fun hc => ?_) (fun hc => ?_)
        · have hw := hw.1 hc
          refine lv_aload_n hx hb dX5_bid_65 rfl (lv_at hl 1 rfl) ?_
          refine kV_Mv (As := []) (rest := []) ⟨hx, hb, hml, hown, hts⟩ (ok_X5_save l D cI cJ a _ _ _ hw) (cwV 0 hts gX5_bid_X5_save rfl rfl rfl (by decide +kernel) ⟨Nat.le_of_ble_eq_true rfl, Nat.le_of_ble_eq_true rfl⟩) hK hW hA 0 rfl rfl rfl hl.1 rfl (Nat.le_of_ble_eq_true rfl) dX5_bid_66 ⟨Nat.le_of_ble_eq_true rfl, Nat.le_of_ble_eq_true rfl⟩ (fun σ_27 H locs hw hW => ?_)
          refine lv_aload_n hx hb dX5_bid_69 rfl (lv_at hl 1 rfl) ?_
          refine lv_iload_n hx hb dX5_bid_70 rfl (lv_at hl 2 rfl) ?_
          refine lv_iload_n hx hb dX5_bid_71 rfl (lv_at hl 3 rfl) ?_
          refine lv_iload_n hx hb dX5_bid_72 rfl (lv_at hl 4 rfl) ?_
          refine kV_Mi (As := [.int p1, .int p2, .int p3]) (rest := []) ⟨hx, hb, hml, hown, hts⟩ (ok_X5_seals l D cI cJ a _ _ _ _ _ _ hw) (cwV 3 hts gX5_bid_X5_seals rfl rfl rfl (by decide +kernel) ⟨Nat.le_of_ble_eq_true rfl, Nat.le_of_ble_eq_true rfl⟩) hK hW hA 0 rfl rfl rfl hl.1 rfl (Nat.le_of_ble_eq_true rfl) dX5_bid_73 ⟨Nat.le_of_ble_eq_true rfl, Nat.le_of_ble_eq_true rfl⟩ (fun r_28 σ_29 H locs hw hW => ?_)
          exact hret _ σ_29 _ _ _ _ hw hW dX5_bid_76
        · have hw := hw.2 hc
          refine lv_iconst (v := 0) hx hb dX5_bid_63 (by decide) ?_
          exact hret _ σ_26 _ _ _ _ hw hW dX5_bid_64
def wp_X5_withdraw (σ : MS) (p1 : Int32) (p2 : Int32) (post : Int32 → MS → Prop) : Prop := wp_X5_isOne p1 (fun r_1 => ((r_1 = 0 → wp_X5_holds σ 1 (fun r_2 σ_3 => ((¬ r_2 = 0 → wp_X5_save σ_3 (fun σ_4 => wp_X5_withdraws σ_4 p1 p2 (fun r_5 σ_6 => post r_5 σ_6))) ∧ (r_2 = 0 → post 0 σ_3)))) ∧ (¬ r_1 = 0 → wp_X5_isOne p2 (fun r_7 => ((r_7 = 0 → wp_X5_holds σ 1 (fun r_8 σ_9 => ((¬ r_8 = 0 → wp_X5_save σ_9 (fun σ_10 => wp_X5_withdraws σ_10 p1 p2 (fun r_11 σ_12 => post r_11 σ_12))) ∧ (r_8 = 0 → post 0 σ_9)))) ∧ (¬ r_7 = 0 → wp_X5_whyKept σ p1 p2 (fun r_13 => ((r_13 ≤ 0 → wp_X5_holds σ 0 (fun r_14 σ_15 => ((¬ r_14 = 0 → wp_X5_save σ_15 (fun σ_16 => wp_X5_withdraws σ_16 p1 p2 (fun r_17 σ_18 => post r_17 σ_18))) ∧ (r_14 = 0 → post 0 σ_15)))) ∧ (¬ r_13 ≤ 0 → wp_X5_holds σ 2 (fun r_19 σ_20 => ((¬ r_19 = 0 → wp_X5_save σ_20 (fun σ_21 => wp_X5_withdraws σ_21 p1 p2 (fun r_22 σ_23 => post r_22 σ_23))) ∧ (r_19 = 0 → post 0 σ_20))))))))))))
abbrev rm_X5_withdraw : Room := { frames := 3, cells := 0, slots := 0, locals := 67 }
set_option maxHeartbeats 4000000 in
set_option maxRecDepth 100000 in
theorem ok_X5_withdraw (l : Launch) (D : va_G) (cI cJ : ClassId) (a : Nat → Nat) (sz : Nat) (σ : MS) (p1 : Int32) (p2 : Int32) (post : Int32 → MS → Prop) (hw : wp_X5_withdraw σ p1 p2 post) : Mi l yX5_withdraw wsX5_withdraw rm_X5_withdraw [.ref (a 0), .int p1, .int p2] D (tysIJ cI cJ) (mW cI cJ a σ) sz post (mW cI cJ a) := by
  refine s_Mi (by decide) rfl (Nat.le_of_ble_eq_true rfl) ?_
  intro p e s m args below meth c A Q hx hb hml hts hown hin hK hA hret H locs ls hW hl
  have hown : s.vm.findClass RX5 = some m.cls := hown
  have hl : lv_has ls 4 [(0, .ref (a 0)), (1, .int p1), (2, .int p2)] := hl
  refine lv_iload_n hx hb dX5_withdraw_0 rfl (lv_at hl 1 rfl) ?_
  refine kS_Pi (As := [.int p1]) (rest := []) ⟨hx, hb, hml, hown, hts⟩ (ok_X5_isOne l _ _ hw) (va_cwS 1 hts gX5_withdraw_X5_isOne rfl rfl rfl (by decide +kernel) ⟨Nat.le_of_ble_eq_true rfl, Nat.le_of_ble_eq_true rfl⟩) hW.2.2 rfl hl.1 rfl (Nat.le_of_ble_eq_true rfl) dX5_withdraw_1 ⟨Nat.le_of_ble_eq_true rfl, Nat.le_of_ble_eq_true rfl⟩ (fun r_1 H locs hw hk hS => ?_)
  have hW := hW.kept hk hS
  refine lv_if_eq (tgt := 18) hx hb dX5_withdraw_4 (by decide) (fun hc => ?_) (fun hc => ?_)
  · have hw := hw.1 hc
    refine lv_iconst (v := 0) hx hb dX5_withdraw_18 (by decide) ?_
    refine lv_istore_n (lv' := [(3, .int 0), (0, .ref (a 0)), (1, .int p1), (2, .int p2)]) hx hb dX5_withdraw_19 rfl hl (by decide) rfl (fun ls hl => ?_)
    refine lv_aload_n hx hb dX5_withdraw_20 rfl (lv_at hl 1 rfl) ?_
    refine lv_iload_n hx hb dX5_withdraw_21 rfl (lv_at hl 0 rfl) ?_
    refine lv_if_ne (tgt := 29) hx hb dX5_withdraw_22 (by decide) (fun hc => absurd hc (by decide)) (fun _ => ?_)
    refine lv_iconst (v := 1) hx hb dX5_withdraw_25 (by decide) ?_
    refine lv_goto (tgt := 43) hx hb dX5_withdraw_26 (by decide) ?_
    refine kV_Mi (As := [.int 1]) (rest := []) ⟨hx, hb, hml, hown, hts⟩ (ok_X5_holds l D cI cJ a _ _ _ _ hw) (cwV 1 hts gX5_withdraw_X5_holds rfl rfl rfl (by decide +kernel) ⟨Nat.le_of_ble_eq_true rfl, Nat.le_of_ble_eq_true rfl⟩) hK hW hA 0 rfl rfl rfl hl.1 rfl (Nat.le_of_ble_eq_true rfl) dX5_withdraw_43 ⟨Nat.le_of_ble_eq_true rfl, Nat.le_of_ble_eq_true rfl⟩ (fun r_2 σ_3 H locs hw hW => ?_)
    refine lv_if_ne (tgt := 51) hx hb dX5_withdraw_46 (by decide) (fun hc => ?_) (fun hc => ?_)
    · have hw := hw.1 hc
      refine lv_aload_n hx hb dX5_withdraw_51 rfl (lv_at hl 1 rfl) ?_
      refine kV_Mv (As := []) (rest := []) ⟨hx, hb, hml, hown, hts⟩ (ok_X5_save l D cI cJ a _ _ _ hw) (cwV 0 hts gX5_withdraw_X5_save rfl rfl rfl (by decide +kernel) ⟨Nat.le_of_ble_eq_true rfl, Nat.le_of_ble_eq_true rfl⟩) hK hW hA 0 rfl rfl rfl hl.1 rfl (Nat.le_of_ble_eq_true rfl) dX5_withdraw_52 ⟨Nat.le_of_ble_eq_true rfl, Nat.le_of_ble_eq_true rfl⟩ (fun σ_4 H locs hw hW => ?_)
      refine lv_aload_n hx hb dX5_withdraw_55 rfl (lv_at hl 1 rfl) ?_
      refine lv_iload_n hx hb dX5_withdraw_56 rfl (lv_at hl 2 rfl) ?_
      refine lv_iload_n hx hb dX5_withdraw_57 rfl (lv_at hl 3 rfl) ?_
      refine kV_Mi (As := [.int p1, .int p2]) (rest := []) ⟨hx, hb, hml, hown, hts⟩ (ok_X5_withdraws l D cI cJ a _ _ _ _ _ hw) (cwV 2 hts gX5_withdraw_X5_withdraws rfl rfl rfl (by decide +kernel) ⟨Nat.le_of_ble_eq_true rfl, Nat.le_of_ble_eq_true rfl⟩) hK hW hA 0 rfl rfl rfl hl.1 rfl (Nat.le_of_ble_eq_true rfl) dX5_withdraw_58 ⟨Nat.le_of_ble_eq_true rfl, Nat.le_of_ble_eq_true rfl⟩ (fun r_5 σ_6 H locs hw hW => ?_)
      exact hret _ σ_6 _ _ _ _ hw hW dX5_withdraw_61
    · have hw := hw.2 hc
      refine lv_iconst (v := 0) hx hb dX5_withdraw_49 (by decide) ?_
      exact hret _ σ_3 _ _ _ _ hw hW dX5_withdraw_50
  · have hw := hw.2 hc
    refine lv_iload_n hx hb dX5_withdraw_7 rfl (lv_at hl 2 rfl) ?_
    refine kS_Pi (As := [.int p2]) (rest := []) ⟨hx, hb, hml, hown, hts⟩ (ok_X5_isOne l _ _ hw) (va_cwS 1 hts gX5_withdraw_X5_isOne rfl rfl rfl (by decide +kernel) ⟨Nat.le_of_ble_eq_true rfl, Nat.le_of_ble_eq_true rfl⟩) hW.2.2 rfl hl.1 rfl (Nat.le_of_ble_eq_true rfl) dX5_withdraw_8 ⟨Nat.le_of_ble_eq_true rfl, Nat.le_of_ble_eq_true rfl⟩ (fun r_7 H locs hw hk hS => ?_)
    have hW := hW.kept hk hS
    refine lv_if_eq (tgt := 18) hx hb dX5_withdraw_11 (by decide) (fun hc => ?_) (fun hc => ?_)
    · have hw := hw.1 hc
      refine lv_iconst (v := 0) hx hb dX5_withdraw_18 (by decide) ?_
      refine lv_istore_n (lv' := [(3, .int 0), (0, .ref (a 0)), (1, .int p1), (2, .int p2)]) hx hb dX5_withdraw_19 rfl hl (by decide) rfl (fun ls hl => ?_)
      refine lv_aload_n hx hb dX5_withdraw_20 rfl (lv_at hl 1 rfl) ?_
      refine lv_iload_n hx hb dX5_withdraw_21 rfl (lv_at hl 0 rfl) ?_
      refine lv_if_ne (tgt := 29) hx hb dX5_withdraw_22 (by decide) (fun hc => absurd hc (by decide)) (fun _ => ?_)
      refine lv_iconst (v := 1) hx hb dX5_withdraw_25 (by decide) ?_
      refine lv_goto (tgt := 43) hx hb dX5_withdraw_26 (by decide) ?_
      refine kV_Mi (As := [.int 1]) (rest := []) ⟨hx, hb, hml, hown, hts⟩ (ok_X5_holds l D cI cJ a _ _ _ _ hw) (cwV 1 hts gX5_withdraw_X5_holds rfl rfl rfl (by decide +kernel) ⟨Nat.le_of_ble_eq_true rfl, Nat.le_of_ble_eq_true rfl⟩) hK hW hA 0 rfl rfl rfl hl.1 rfl (Nat.le_of_ble_eq_true rfl) dX5_withdraw_43 ⟨Nat.le_of_ble_eq_true rfl, Nat.le_of_ble_eq_true rfl⟩ (fun r_8 σ_9 H locs hw hW => ?_)
      refine lv_if_ne (tgt := 51) hx hb dX5_withdraw_46 (by decide) (fun hc => ?_) (fun hc => ?_)
      · have hw := hw.1 hc
        refine lv_aload_n hx hb dX5_withdraw_51 rfl (lv_at hl 1 rfl) ?_
        refine kV_Mv (As := []) (rest := []) ⟨hx, hb, hml, hown, hts⟩ (ok_X5_save l D cI cJ a _ _ _ hw) (cwV 0 hts gX5_withdraw_X5_save rfl rfl rfl (by decide +kernel) ⟨Nat.le_of_ble_eq_true rfl, Nat.le_of_ble_eq_true rfl⟩) hK hW hA 0 rfl rfl rfl hl.1 rfl (Nat.le_of_ble_eq_true rfl) dX5_withdraw_52 ⟨Nat.le_of_ble_eq_true rfl, Nat.le_of_ble_eq_true rfl⟩ (fun σ_10 H locs hw hW => ?_)
        refine lv_aload_n hx hb dX5_withdraw_55 rfl (lv_at hl 1 rfl) ?_
        refine lv_iload_n hx hb dX5_withdraw_56 rfl (lv_at hl 2 rfl) ?_
        refine lv_iload_n hx hb dX5_withdraw_57 rfl (lv_at hl 3 rfl) ?_
        refine kV_Mi (As := [.int p1, .int p2]) (rest := []) ⟨hx, hb, hml, hown, hts⟩ (ok_X5_withdraws l D cI cJ a _ _ _ _ _ hw) (cwV 2 hts gX5_withdraw_X5_withdraws rfl rfl rfl (by decide +kernel) ⟨Nat.le_of_ble_eq_true rfl, Nat.le_of_ble_eq_true rfl⟩) hK hW hA 0 rfl rfl rfl hl.1 rfl (Nat.le_of_ble_eq_true rfl) dX5_withdraw_58 ⟨Nat.le_of_ble_eq_true rfl, Nat.le_of_ble_eq_true rfl⟩ (fun r_11 σ_12 H locs hw hW => ?_)
        exact hret _ σ_12 _ _ _ _ hw hW dX5_withdraw_61
      · have hw := hw.2 hc
        refine lv_iconst (v := 0) hx hb dX5_withdraw_49 (by decide) ?_
        exact hret _ σ_9 _ _ _ _ hw hW dX5_withdraw_50
    · have hw := hw.2 hc
      refine lv_iconst (v := 1) hx hb dX5_withdraw_14 (by decide) ?_
      refine lv_goto (tgt := 19) hx hb dX5_withdraw_15 (by decide) ?_
      refine lv_istore_n (lv' := [(3, .int 1), (0, .ref (a 0)), (1, .int p1), (2, .int p2)]) hx hb dX5_withdraw_19 rfl hl (by decide) rfl (fun ls hl => ?_)
      refine lv_aload_n hx hb dX5_withdraw_20 rfl (lv_at hl 1 rfl) ?_
      refine lv_iload_n hx hb dX5_withdraw_21 rfl (lv_at hl 0 rfl) ?_
      refine lv_if_ne (tgt := 29) hx hb dX5_withdraw_22 (by decide) (fun _ => ?_) (fun hc => absurd hc (by decide))
      refine lv_aload_n hx hb dX5_withdraw_29 rfl (lv_at hl 1 rfl) ?_
      refine lv_iload_n hx hb dX5_withdraw_30 rfl (lv_at hl 2 rfl) ?_
      refine lv_iload_n hx hb dX5_withdraw_31 rfl (lv_at hl 3 rfl) ?_
      refine kV_Mi (As := [.int p1, .int p2]) (rest := [.ref (a 0)]) ⟨hx, hb, hml, hown, hts⟩ (ok_X5_whyKept l D cI cJ a _ _ _ _ _ hw) (cwV 2 hts gX5_withdraw_X5_whyKept rfl rfl rfl (by decide +kernel) ⟨Nat.le_of_ble_eq_true rfl, Nat.le_of_ble_eq_true rfl⟩) hK hW hA 0 rfl rfl rfl hl.1 rfl (Nat.le_of_ble_eq_true rfl) dX5_withdraw_32 ⟨Nat.le_of_ble_eq_true rfl, Nat.le_of_ble_eq_true rfl⟩ (fun r_13 _ H locs hw hW => ?_)
      refine lv_if_le (tgt := 42) hx hb dX5_withdraw_35 (by decide) (fun hc => ?_) (fun hc => ?_)
      · have hw := hw.1 hc
        refine lv_iconst (v := 0) hx hb dX5_withdraw_42 (by decide) ?_
        refine kV_Mi (As := [.int 0]) (rest := []) ⟨hx, hb, hml, hown, hts⟩ (ok_X5_holds l D cI cJ a _ _ _ _ hw) (cwV 1 hts gX5_withdraw_X5_holds rfl rfl rfl (by decide +kernel) ⟨Nat.le_of_ble_eq_true rfl, Nat.le_of_ble_eq_true rfl⟩) hK hW hA 0 rfl rfl rfl hl.1 rfl (Nat.le_of_ble_eq_true rfl) dX5_withdraw_43 ⟨Nat.le_of_ble_eq_true rfl, Nat.le_of_ble_eq_true rfl⟩ (fun r_14 σ_15 H locs hw hW => ?_)
        refine lv_if_ne (tgt := 51) hx hb dX5_withdraw_46 (by decide) (fun hc => ?_) (fun hc => ?_)
        · have hw := hw.1 hc
          refine lv_aload_n hx hb dX5_withdraw_51 rfl (lv_at hl 1 rfl) ?_
          refine kV_Mv (As := []) (rest := []) ⟨hx, hb, hml, hown, hts⟩ (ok_X5_save l D cI cJ a _ _ _ hw) (cwV 0 hts gX5_withdraw_X5_save rfl rfl rfl (by decide +kernel) ⟨Nat.le_of_ble_eq_true rfl, Nat.le_of_ble_eq_true rfl⟩) hK hW hA 0 rfl rfl rfl hl.1 rfl (Nat.le_of_ble_eq_true rfl) dX5_withdraw_52 ⟨Nat.le_of_ble_eq_true rfl, Nat.le_of_ble_eq_true rfl⟩ (fun σ_16 H locs hw hW => ?_)
          refine lv_aload_n hx hb dX5_withdraw_55 rfl (lv_at hl 1 rfl) ?_
          refine lv_iload_n hx hb dX5_withdraw_56 rfl (lv_at hl 2 rfl) ?_
          refine lv_iload_n hx hb dX5_withdraw_57 rfl (lv_at hl 3 rfl) ?_
          refine kV_Mi (As := [.int p1, .int p2]) (rest := []) ⟨hx, hb, hml, hown, hts⟩ (ok_X5_withdraws l D cI cJ a _ _ _ _ _ hw) (cwV 2 hts gX5_withdraw_X5_withdraws rfl rfl rfl (by decide +kernel) ⟨Nat.le_of_ble_eq_true rfl, Nat.le_of_ble_eq_true rfl⟩) hK hW hA 0 rfl rfl rfl hl.1 rfl (Nat.le_of_ble_eq_true rfl) dX5_withdraw_58 ⟨Nat.le_of_ble_eq_true rfl, Nat.le_of_ble_eq_true rfl⟩ (fun r_17 σ_18 H locs hw hW => ?_)
          exact hret _ σ_18 _ _ _ _ hw hW dX5_withdraw_61
        · have hw := hw.2 hc
          refine lv_iconst (v := 0) hx hb dX5_withdraw_49 (by decide) ?_
          exact hret _ σ_15 _ _ _ _ hw hW dX5_withdraw_50
      · have hw := hw.2 hc
        refine lv_iconst (v := 2) hx hb dX5_withdraw_38 (by decide) ?_
        refine lv_goto (tgt := 43) hx hb dX5_withdraw_39 (by decide) ?_
        refine kV_Mi (As := [.int 2]) (rest := []) ⟨hx, hb, hml, hown, hts⟩ (ok_X5_holds l D cI cJ a _ _ _ _ hw) (cwV 1 hts gX5_withdraw_X5_holds rfl rfl rfl (by decide +kernel) ⟨Nat.le_of_ble_eq_true rfl, Nat.le_of_ble_eq_true rfl⟩) hK hW hA 0 rfl rfl rfl hl.1 rfl (Nat.le_of_ble_eq_true rfl) dX5_withdraw_43 ⟨Nat.le_of_ble_eq_true rfl, Nat.le_of_ble_eq_true rfl⟩ (fun r_19 σ_20 H locs hw hW => ?_)
        refine lv_if_ne (tgt := 51) hx hb dX5_withdraw_46 (by decide) (fun hc => ?_) (fun hc => ?_)
        · have hw := hw.1 hc
          refine lv_aload_n hx hb dX5_withdraw_51 rfl (lv_at hl 1 rfl) ?_
          refine kV_Mv (As := []) (rest := []) ⟨hx, hb, hml, hown, hts⟩ (ok_X5_save l D cI cJ a _ _ _ hw) (cwV 0 hts gX5_withdraw_X5_save rfl rfl rfl (by decide +kernel) ⟨Nat.le_of_ble_eq_true rfl, Nat.le_of_ble_eq_true rfl⟩) hK hW hA 0 rfl rfl rfl hl.1 rfl (Nat.le_of_ble_eq_true rfl) dX5_withdraw_52 ⟨Nat.le_of_ble_eq_true rfl, Nat.le_of_ble_eq_true rfl⟩ (fun σ_21 H locs hw hW => ?_)
          refine lv_aload_n hx hb dX5_withdraw_55 rfl (lv_at hl 1 rfl) ?_
          refine lv_iload_n hx hb dX5_withdraw_56 rfl (lv_at hl 2 rfl) ?_
          refine lv_iload_n hx hb dX5_withdraw_57 rfl (lv_at hl 3 rfl) ?_
          refine kV_Mi (As := [.int p1, .int p2]) (rest := []) ⟨hx, hb, hml, hown, hts⟩ (ok_X5_withdraws l D cI cJ a _ _ _ _ _ hw) (cwV 2 hts gX5_withdraw_X5_withdraws rfl rfl rfl (by decide +kernel) ⟨Nat.le_of_ble_eq_true rfl, Nat.le_of_ble_eq_true rfl⟩) hK hW hA 0 rfl rfl rfl hl.1 rfl (Nat.le_of_ble_eq_true rfl) dX5_withdraw_58 ⟨Nat.le_of_ble_eq_true rfl, Nat.le_of_ble_eq_true rfl⟩ (fun r_22 σ_23 H locs hw hW => ?_)
          exact hret _ σ_23 _ _ _ _ hw hW dX5_withdraw_61
        · have hw := hw.2 hc
          refine lv_iconst (v := 0) hx hb dX5_withdraw_49 (by decide) ?_
          exact hret _ σ_20 _ _ _ _ hw hW dX5_withdraw_50
def wp_X5_pause (σ : MS) (p1 : Int32) (post : Int32 → MS → Prop) : Prop := wp_X5_in p1 1 23 (fun r_1 => ((r_1 = 0 → wp_X5_holds σ 1 (fun r_2 σ_3 => ((¬ r_2 = 0 → wp_X5_save σ_3 (fun σ_4 => wp_X5_pauses σ_4 p1 (fun r_5 σ_6 => post r_5 σ_6))) ∧ (r_2 = 0 → post 0 σ_3)))) ∧ (¬ r_1 = 0 → wp_X5_holds σ 0 (fun r_7 σ_8 => ((¬ r_7 = 0 → wp_X5_save σ_8 (fun σ_9 => wp_X5_pauses σ_9 p1 (fun r_10 σ_11 => post r_10 σ_11))) ∧ (r_7 = 0 → post 0 σ_8))))))
abbrev rm_X5_pause : Room := { frames := 2, cells := 0, slots := 0, locals := 44 }
set_option maxHeartbeats 4000000 in
set_option maxRecDepth 100000 in
theorem ok_X5_pause (l : Launch) (D : va_G) (cI cJ : ClassId) (a : Nat → Nat) (sz : Nat) (σ : MS) (p1 : Int32) (post : Int32 → MS → Prop) (hw : wp_X5_pause σ p1 post) : Mi l yX5_pause wsX5_pause rm_X5_pause [.ref (a 0), .int p1] D (tysIJ cI cJ) (mW cI cJ a σ) sz post (mW cI cJ a) := by
  refine s_Mi (by decide) rfl (Nat.le_of_ble_eq_true rfl) ?_
  intro p e s m args below meth c A Q hx hb hml hts hown hin hK hA hret H locs ls hW hl
  have hown : s.vm.findClass RX5 = some m.cls := hown
  have hl : lv_has ls 2 [(0, .ref (a 0)), (1, .int p1)] := hl
  refine lv_aload_n hx hb dX5_pause_0 rfl (lv_at hl 0 rfl) ?_
  refine lv_iload_n hx hb dX5_pause_1 rfl (lv_at hl 1 rfl) ?_
  refine lv_iconst (v := 1) hx hb dX5_pause_2 (by decide) ?_
  refine lv_bipush (v := 23) hx hb dX5_pause_3 (by decide) ?_
  refine kS_Pi (As := [.int p1, .int 1, .int 23]) (rest := [.ref (a 0)]) ⟨hx, hb, hml, hown, hts⟩ (ok_X5_in l _ _ _ _ hw) (va_cwS 3 hts gX5_pause_X5_in rfl rfl rfl (by decide +kernel) ⟨Nat.le_of_ble_eq_true rfl, Nat.le_of_ble_eq_true rfl⟩) hW.2.2 rfl hl.1 rfl (Nat.le_of_ble_eq_true rfl) dX5_pause_5 ⟨Nat.le_of_ble_eq_true rfl, Nat.le_of_ble_eq_true rfl⟩ (fun r_1 H locs hw hk hS => ?_)
  have hW := hW.kept hk hS
  refine lv_if_eq (tgt := 15) hx hb dX5_pause_8 (by decide) (fun hc => ?_) (fun hc => ?_)
  · have hw := hw.1 hc
    refine lv_iconst (v := 1) hx hb dX5_pause_15 (by decide) ?_
    refine kV_Mi (As := [.int 1]) (rest := []) ⟨hx, hb, hml, hown, hts⟩ (ok_X5_holds l D cI cJ a _ _ _ _ hw) (cwV 1 hts gX5_pause_X5_holds rfl rfl rfl (by decide +kernel) ⟨Nat.le_of_ble_eq_true rfl, Nat.le_of_ble_eq_true rfl⟩) hK hW hA 0 rfl rfl rfl hl.1 rfl (Nat.le_of_ble_eq_true rfl) dX5_pause_16 ⟨Nat.le_of_ble_eq_true rfl, Nat.le_of_ble_eq_true rfl⟩ (fun r_2 σ_3 H locs hw hW => ?_)
    refine lv_if_ne (tgt := 24) hx hb dX5_pause_19 (by decide) (fun hc => ?_) (fun hc => ?_)
    · have hw := hw.1 hc
      refine lv_aload_n hx hb dX5_pause_24 rfl (lv_at hl 0 rfl) ?_
      refine kV_Mv (As := []) (rest := []) ⟨hx, hb, hml, hown, hts⟩ (ok_X5_save l D cI cJ a _ _ _ hw) (cwV 0 hts gX5_pause_X5_save rfl rfl rfl (by decide +kernel) ⟨Nat.le_of_ble_eq_true rfl, Nat.le_of_ble_eq_true rfl⟩) hK hW hA 0 rfl rfl rfl hl.1 rfl (Nat.le_of_ble_eq_true rfl) dX5_pause_25 ⟨Nat.le_of_ble_eq_true rfl, Nat.le_of_ble_eq_true rfl⟩ (fun σ_4 H locs hw hW => ?_)
      refine lv_aload_n hx hb dX5_pause_28 rfl (lv_at hl 0 rfl) ?_
      refine lv_iload_n hx hb dX5_pause_29 rfl (lv_at hl 1 rfl) ?_
      refine kV_Mi (As := [.int p1]) (rest := []) ⟨hx, hb, hml, hown, hts⟩ (ok_X5_pauses l D cI cJ a _ _ _ _ hw) (cwV 1 hts gX5_pause_X5_pauses rfl rfl rfl (by decide +kernel) ⟨Nat.le_of_ble_eq_true rfl, Nat.le_of_ble_eq_true rfl⟩) hK hW hA 0 rfl rfl rfl hl.1 rfl (Nat.le_of_ble_eq_true rfl) dX5_pause_30 ⟨Nat.le_of_ble_eq_true rfl, Nat.le_of_ble_eq_true rfl⟩ (fun r_5 σ_6 H locs hw hW => ?_)
      exact hret _ σ_6 _ _ _ _ hw hW dX5_pause_33
    · have hw := hw.2 hc
      refine lv_iconst (v := 0) hx hb dX5_pause_22 (by decide) ?_
      exact hret _ σ_3 _ _ _ _ hw hW dX5_pause_23
  · have hw := hw.2 hc
    refine lv_iconst (v := 0) hx hb dX5_pause_11 (by decide) ?_
    refine lv_goto (tgt := 16) hx hb dX5_pause_12 (by decide) ?_
    refine kV_Mi (As := [.int 0]) (rest := []) ⟨hx, hb, hml, hown, hts⟩ (ok_X5_holds l D cI cJ a _ _ _ _ hw) (cwV 1 hts gX5_pause_X5_holds rfl rfl rfl (by decide +kernel) ⟨Nat.le_of_ble_eq_true rfl, Nat.le_of_ble_eq_true rfl⟩) hK hW hA 0 rfl rfl rfl hl.1 rfl (Nat.le_of_ble_eq_true rfl) dX5_pause_16 ⟨Nat.le_of_ble_eq_true rfl, Nat.le_of_ble_eq_true rfl⟩ (fun r_7 σ_8 H locs hw hW => ?_)
    refine lv_if_ne (tgt := 24) hx hb dX5_pause_19 (by decide) (fun hc => ?_) (fun hc => ?_)
    · have hw := hw.1 hc
      refine lv_aload_n hx hb dX5_pause_24 rfl (lv_at hl 0 rfl) ?_
      refine kV_Mv (As := []) (rest := []) ⟨hx, hb, hml, hown, hts⟩ (ok_X5_save l D cI cJ a _ _ _ hw) (cwV 0 hts gX5_pause_X5_save rfl rfl rfl (by decide +kernel) ⟨Nat.le_of_ble_eq_true rfl, Nat.le_of_ble_eq_true rfl⟩) hK hW hA 0 rfl rfl rfl hl.1 rfl (Nat.le_of_ble_eq_true rfl) dX5_pause_25 ⟨Nat.le_of_ble_eq_true rfl, Nat.le_of_ble_eq_true rfl⟩ (fun σ_9 H locs hw hW => ?_)
      refine lv_aload_n hx hb dX5_pause_28 rfl (lv_at hl 0 rfl) ?_
      refine lv_iload_n hx hb dX5_pause_29 rfl (lv_at hl 1 rfl) ?_
      refine kV_Mi (As := [.int p1]) (rest := []) ⟨hx, hb, hml, hown, hts⟩ (ok_X5_pauses l D cI cJ a _ _ _ _ hw) (cwV 1 hts gX5_pause_X5_pauses rfl rfl rfl (by decide +kernel) ⟨Nat.le_of_ble_eq_true rfl, Nat.le_of_ble_eq_true rfl⟩) hK hW hA 0 rfl rfl rfl hl.1 rfl (Nat.le_of_ble_eq_true rfl) dX5_pause_30 ⟨Nat.le_of_ble_eq_true rfl, Nat.le_of_ble_eq_true rfl⟩ (fun r_10 σ_11 H locs hw hW => ?_)
      exact hret _ σ_11 _ _ _ _ hw hW dX5_pause_33
    · have hw := hw.2 hc
      refine lv_iconst (v := 0) hx hb dX5_pause_22 (by decide) ?_
      exact hret _ σ_8 _ _ _ _ hw hW dX5_pause_23
def wp_X5_open (σ : MS) (post : Int32 → MS → Prop) : Prop := ((¬ ((m_s σ) (2 : Int32).toNatClampNeg) = 1 → wp_X5_holds σ 0 (fun r_1 σ_2 => ((¬ r_1 = 0 → wp_X5_save σ_2 (fun σ_3 => wp_X5_opens σ_3 (fun r_4 σ_5 => post r_4 σ_5))) ∧ (r_1 = 0 → post 0 σ_2)))) ∧ (((m_s σ) (2 : Int32).toNatClampNeg) = 1 → wp_X5_holds σ 1 (fun r_6 σ_7 => ((¬ r_6 = 0 → wp_X5_save σ_7 (fun σ_8 => wp_X5_opens σ_8 (fun r_9 σ_10 => post r_9 σ_10))) ∧ (r_6 = 0 → post 0 σ_7)))))
abbrev rm_X5_open : Room := { frames := 8, cells := 0, slots := 0, locals := 184 }
theorem in_X5_open_X5 : ∀ w ∈ wsX50, w ∈ wsX5_open := fun w h => List.mem_cons_of_mem _ (List.mem_append_right _ (h))
set_option maxHeartbeats 4000000 in
set_option maxRecDepth 100000 in
theorem ok_X5_open (l : Launch) (D : va_G) (cI cJ : ClassId) (a : Nat → Nat) (sz : Nat) (σ : MS) (post : Int32 → MS → Prop) (hw : wp_X5_open σ post) : Mi l yX5_open wsX5_open rm_X5_open [.ref (a 0)] D (tysIJ cI cJ) (mW cI cJ a σ) sz post (mW cI cJ a) := by
  refine s_Mi (by decide) rfl (Nat.le_of_ble_eq_true rfl) ?_
  intro p e s m args below meth c A Q hx hb hml hts hown hin hK hA hret H locs ls hW hl
  have hown : s.vm.findClass RX5 = some m.cls := hown
  have hl : lv_has ls 1 [(0, .ref (a 0))] := hl
  have hinX5 := in_X5_open_X5
  refine lv_aload_n hx hb dX5_open_0 rfl (lv_at hl 0 rfl) ?_
  refine lv_aload_n hx hb dX5_open_1 rfl (lv_at hl 0 rfl) ?_
  refine va_get (D := D) (ci := 5) (v := .ref (a 1)) (C := RX5) (T := TX5) (N := 18) hx hb hts hinX5 hown hK hW.1 0 rfl rfl 1 (by decide) (hts _ (List.mem_of_getElem? (i := 1) rfl)) (fun _ h9 => h9) rfl dX5_open_2 ?_
  refine lv_iconst (v := 2) hx hb dX5_open_5 (by decide) ?_
  refine va_iald hx hb hK hW.1 1 0 rfl rfl (by unfold vp_in; decide) dX5_open_6 ?_
  refine lv_iconst (v := 1) hx hb dX5_open_7 (by decide) ?_
  refine lv_icmp_ne (tgt := 15) hx hb dX5_open_8 (by decide) (fun hc => ?_) (fun hc => ?_)
  · have hw := hw.1 hc
    refine lv_iconst (v := 0) hx hb dX5_open_15 (by decide) ?_
    refine kV_Mi (As := [.int 0]) (rest := []) ⟨hx, hb, hml, hown, hts⟩ (ok_X5_holds l D cI cJ a _ _ _ _ hw) (cwV 1 hts gX5_open_X5_holds rfl rfl rfl (by decide +kernel) ⟨Nat.le_of_ble_eq_true rfl, Nat.le_of_ble_eq_true rfl⟩) hK hW hA 0 rfl rfl rfl hl.1 rfl (Nat.le_of_ble_eq_true rfl) dX5_open_16 ⟨Nat.le_of_ble_eq_true rfl, Nat.le_of_ble_eq_true rfl⟩ (fun r_1 σ_2 H locs hw hW => ?_)
    refine lv_if_ne (tgt := 24) hx hb dX5_open_19 (by decide) (fun hc => ?_) (fun hc => ?_)
    · have hw := hw.1 hc
      refine lv_aload_n hx hb dX5_open_24 rfl (lv_at hl 0 rfl) ?_
      refine kV_Mv (As := []) (rest := []) ⟨hx, hb, hml, hown, hts⟩ (ok_X5_save l D cI cJ a _ _ _ hw) (cwV 0 hts gX5_open_X5_save rfl rfl rfl (by decide +kernel) ⟨Nat.le_of_ble_eq_true rfl, Nat.le_of_ble_eq_true rfl⟩) hK hW hA 0 rfl rfl rfl hl.1 rfl (Nat.le_of_ble_eq_true rfl) dX5_open_25 ⟨Nat.le_of_ble_eq_true rfl, Nat.le_of_ble_eq_true rfl⟩ (fun σ_3 H locs hw hW => ?_)
      refine lv_aload_n hx hb dX5_open_28 rfl (lv_at hl 0 rfl) ?_
      refine kV_Mi (As := []) (rest := []) ⟨hx, hb, hml, hown, hts⟩ (ok_X5_opens l D cI cJ a _ _ _ hw) (cwV 0 hts gX5_open_X5_opens rfl rfl rfl (by decide +kernel) ⟨Nat.le_of_ble_eq_true rfl, Nat.le_of_ble_eq_true rfl⟩) hK hW hA 0 rfl rfl rfl hl.1 rfl (Nat.le_of_ble_eq_true rfl) dX5_open_29 ⟨Nat.le_of_ble_eq_true rfl, Nat.le_of_ble_eq_true rfl⟩ (fun r_4 σ_5 H locs hw hW => ?_)
      exact hret _ σ_5 _ _ _ _ hw hW dX5_open_32
    · have hw := hw.2 hc
      refine lv_iconst (v := 0) hx hb dX5_open_22 (by decide) ?_
      exact hret _ σ_2 _ _ _ _ hw hW dX5_open_23
  · have hw := hw.2 hc
    refine lv_iconst (v := 1) hx hb dX5_open_11 (by decide) ?_
    refine lv_goto (tgt := 16) hx hb dX5_open_12 (by decide) ?_
    refine kV_Mi (As := [.int 1]) (rest := []) ⟨hx, hb, hml, hown, hts⟩ (ok_X5_holds l D cI cJ a _ _ _ _ hw) (cwV 1 hts gX5_open_X5_holds rfl rfl rfl (by decide +kernel) ⟨Nat.le_of_ble_eq_true rfl, Nat.le_of_ble_eq_true rfl⟩) hK hW hA 0 rfl rfl rfl hl.1 rfl (Nat.le_of_ble_eq_true rfl) dX5_open_16 ⟨Nat.le_of_ble_eq_true rfl, Nat.le_of_ble_eq_true rfl⟩ (fun r_6 σ_7 H locs hw hW => ?_)
    refine lv_if_ne (tgt := 24) hx hb dX5_open_19 (by decide) (fun hc => ?_) (fun hc => ?_)
    · have hw := hw.1 hc
      refine lv_aload_n hx hb dX5_open_24 rfl (lv_at hl 0 rfl) ?_
      refine kV_Mv (As := []) (rest := []) ⟨hx, hb, hml, hown, hts⟩ (ok_X5_save l D cI cJ a _ _ _ hw) (cwV 0 hts gX5_open_X5_save rfl rfl rfl (by decide +kernel) ⟨Nat.le_of_ble_eq_true rfl, Nat.le_of_ble_eq_true rfl⟩) hK hW hA 0 rfl rfl rfl hl.1 rfl (Nat.le_of_ble_eq_true rfl) dX5_open_25 ⟨Nat.le_of_ble_eq_true rfl, Nat.le_of_ble_eq_true rfl⟩ (fun σ_8 H locs hw hW => ?_)
      refine lv_aload_n hx hb dX5_open_28 rfl (lv_at hl 0 rfl) ?_
      refine kV_Mi (As := []) (rest := []) ⟨hx, hb, hml, hown, hts⟩ (ok_X5_opens l D cI cJ a _ _ _ hw) (cwV 0 hts gX5_open_X5_opens rfl rfl rfl (by decide +kernel) ⟨Nat.le_of_ble_eq_true rfl, Nat.le_of_ble_eq_true rfl⟩) hK hW hA 0 rfl rfl rfl hl.1 rfl (Nat.le_of_ble_eq_true rfl) dX5_open_29 ⟨Nat.le_of_ble_eq_true rfl, Nat.le_of_ble_eq_true rfl⟩ (fun r_9 σ_10 H locs hw hW => ?_)
      exact hret _ σ_10 _ _ _ _ hw hW dX5_open_32
    · have hw := hw.2 hc
      refine lv_iconst (v := 0) hx hb dX5_open_22 (by decide) ?_
      exact hret _ σ_7 _ _ _ _ hw hW dX5_open_23
def wp_X5_fish (σ : MS) (p1 : Int32) (post : Int32 → MS → Prop) : Prop := wp_X5_isOne p1 (fun r_1 => ((¬ r_1 = 0 → wp_X5_canFish σ p1 (fun r_2 => ((¬ r_2 = 0 → wp_X5_holds σ 0 (fun r_3 σ_4 => ((¬ r_3 = 0 → wp_X5_save σ_4 (fun σ_5 => wp_X5_fishes σ_5 p1 (fun r_6 σ_7 => post r_6 σ_7))) ∧ (r_3 = 0 → post 0 σ_4)))) ∧ (r_2 = 0 → wp_X5_holds σ 2 (fun r_8 σ_9 => ((¬ r_8 = 0 → wp_X5_save σ_9 (fun σ_10 => wp_X5_fishes σ_10 p1 (fun r_11 σ_12 => post r_11 σ_12))) ∧ (r_8 = 0 → post 0 σ_9))))))) ∧ (r_1 = 0 → wp_X5_holds σ 1 (fun r_13 σ_14 => ((¬ r_13 = 0 → wp_X5_save σ_14 (fun σ_15 => wp_X5_fishes σ_15 p1 (fun r_16 σ_17 => post r_16 σ_17))) ∧ (r_13 = 0 → post 0 σ_14))))))
abbrev rm_X5_fish : Room := { frames := 4, cells := 0, slots := 0, locals := 90 }
set_option maxHeartbeats 4000000 in
set_option maxRecDepth 100000 in
theorem ok_X5_fish (l : Launch) (D : va_G) (cI cJ : ClassId) (a : Nat → Nat) (sz : Nat) (σ : MS) (p1 : Int32) (post : Int32 → MS → Prop) (hw : wp_X5_fish σ p1 post) : Mi l yX5_fish wsX5_fish rm_X5_fish [.ref (a 0), .int p1] D (tysIJ cI cJ) (mW cI cJ a σ) sz post (mW cI cJ a) := by
  refine s_Mi (by decide) rfl (Nat.le_of_ble_eq_true rfl) ?_
  intro p e s m args below meth c A Q hx hb hml hts hown hin hK hA hret H locs ls hW hl
  have hown : s.vm.findClass RX5 = some m.cls := hown
  have hl : lv_has ls 3 [(0, .ref (a 0)), (1, .int p1)] := hl
  refine lv_iload_n hx hb dX5_fish_0 rfl (lv_at hl 1 rfl) ?_
  refine kS_Pi (As := [.int p1]) (rest := []) ⟨hx, hb, hml, hown, hts⟩ (ok_X5_isOne l _ _ hw) (va_cwS 1 hts gX5_fish_X5_isOne rfl rfl rfl (by decide +kernel) ⟨Nat.le_of_ble_eq_true rfl, Nat.le_of_ble_eq_true rfl⟩) hW.2.2 rfl hl.1 rfl (Nat.le_of_ble_eq_true rfl) dX5_fish_1 ⟨Nat.le_of_ble_eq_true rfl, Nat.le_of_ble_eq_true rfl⟩ (fun r_1 H locs hw hk hS => ?_)
  have hW := hW.kept hk hS
  refine lv_istore_n (lv' := [(2, .int r_1), (0, .ref (a 0)), (1, .int p1)]) hx hb dX5_fish_4 rfl hl (by decide) rfl (fun ls hl => ?_)
  refine lv_aload_n hx hb dX5_fish_5 rfl (lv_at hl 1 rfl) ?_
  refine lv_iload_n hx hb dX5_fish_6 rfl (lv_at hl 0 rfl) ?_
  refine lv_if_ne (tgt := 14) hx hb dX5_fish_7 (by decide) (fun hc => ?_) (fun hc => ?_)
  · have hw := hw.1 hc
    refine lv_aload_n hx hb dX5_fish_14 rfl (lv_at hl 1 rfl) ?_
    refine lv_iload_n hx hb dX5_fish_15 rfl (lv_at hl 2 rfl) ?_
    refine kV_Mi (As := [.int p1]) (rest := [.ref (a 0)]) ⟨hx, hb, hml, hown, hts⟩ (ok_X5_canFish l D cI cJ a _ _ _ _ hw) (cwV 1 hts gX5_fish_X5_canFish rfl rfl rfl (by decide +kernel) ⟨Nat.le_of_ble_eq_true rfl, Nat.le_of_ble_eq_true rfl⟩) hK hW hA 0 rfl rfl rfl hl.1 rfl (Nat.le_of_ble_eq_true rfl) dX5_fish_16 ⟨Nat.le_of_ble_eq_true rfl, Nat.le_of_ble_eq_true rfl⟩ (fun r_2 _ H locs hw hW => ?_)
    refine lv_if_ne (tgt := 26) hx hb dX5_fish_19 (by decide) (fun hc => ?_) (fun hc => ?_)
    · have hw := hw.1 hc
      refine lv_iconst (v := 0) hx hb dX5_fish_26 (by decide) ?_
      refine kV_Mi (As := [.int 0]) (rest := []) ⟨hx, hb, hml, hown, hts⟩ (ok_X5_holds l D cI cJ a _ _ _ _ hw) (cwV 1 hts gX5_fish_X5_holds rfl rfl rfl (by decide +kernel) ⟨Nat.le_of_ble_eq_true rfl, Nat.le_of_ble_eq_true rfl⟩) hK hW hA 0 rfl rfl rfl hl.1 rfl (Nat.le_of_ble_eq_true rfl) dX5_fish_27 ⟨Nat.le_of_ble_eq_true rfl, Nat.le_of_ble_eq_true rfl⟩ (fun r_3 σ_4 H locs hw hW => ?_)
      refine lv_if_ne (tgt := 35) hx hb dX5_fish_30 (by decide) (fun hc => ?_) (fun hc => ?_)
      · have hw := hw.1 hc
        refine lv_aload_n hx hb dX5_fish_35 rfl (lv_at hl 1 rfl) ?_
        refine kV_Mv (As := []) (rest := []) ⟨hx, hb, hml, hown, hts⟩ (ok_X5_save l D cI cJ a _ _ _ hw) (cwV 0 hts gX5_fish_X5_save rfl rfl rfl (by decide +kernel) ⟨Nat.le_of_ble_eq_true rfl, Nat.le_of_ble_eq_true rfl⟩) hK hW hA 0 rfl rfl rfl hl.1 rfl (Nat.le_of_ble_eq_true rfl) dX5_fish_36 ⟨Nat.le_of_ble_eq_true rfl, Nat.le_of_ble_eq_true rfl⟩ (fun σ_5 H locs hw hW => ?_)
        refine lv_aload_n hx hb dX5_fish_39 rfl (lv_at hl 1 rfl) ?_
        refine lv_iload_n hx hb dX5_fish_40 rfl (lv_at hl 2 rfl) ?_
        refine kV_Mi (As := [.int p1]) (rest := []) ⟨hx, hb, hml, hown, hts⟩ (ok_X5_fishes l D cI cJ a _ _ _ _ hw) (cwV 1 hts gX5_fish_X5_fishes rfl rfl rfl (by decide +kernel) ⟨Nat.le_of_ble_eq_true rfl, Nat.le_of_ble_eq_true rfl⟩) hK hW hA 0 rfl rfl rfl hl.1 rfl (Nat.le_of_ble_eq_true rfl) dX5_fish_41 ⟨Nat.le_of_ble_eq_true rfl, Nat.le_of_ble_eq_true rfl⟩ (fun r_6 σ_7 H locs hw hW => ?_)
        exact hret _ σ_7 _ _ _ _ hw hW dX5_fish_44
      · have hw := hw.2 hc
        refine lv_iconst (v := 0) hx hb dX5_fish_33 (by decide) ?_
        exact hret _ σ_4 _ _ _ _ hw hW dX5_fish_34
    · have hw := hw.2 hc
      refine lv_iconst (v := 2) hx hb dX5_fish_22 (by decide) ?_
      refine lv_goto (tgt := 27) hx hb dX5_fish_23 (by decide) ?_
      refine kV_Mi (As := [.int 2]) (rest := []) ⟨hx, hb, hml, hown, hts⟩ (ok_X5_holds l D cI cJ a _ _ _ _ hw) (cwV 1 hts gX5_fish_X5_holds rfl rfl rfl (by decide +kernel) ⟨Nat.le_of_ble_eq_true rfl, Nat.le_of_ble_eq_true rfl⟩) hK hW hA 0 rfl rfl rfl hl.1 rfl (Nat.le_of_ble_eq_true rfl) dX5_fish_27 ⟨Nat.le_of_ble_eq_true rfl, Nat.le_of_ble_eq_true rfl⟩ (fun r_8 σ_9 H locs hw hW => ?_)
      refine lv_if_ne (tgt := 35) hx hb dX5_fish_30 (by decide) (fun hc => ?_) (fun hc => ?_)
      · have hw := hw.1 hc
        refine lv_aload_n hx hb dX5_fish_35 rfl (lv_at hl 1 rfl) ?_
        refine kV_Mv (As := []) (rest := []) ⟨hx, hb, hml, hown, hts⟩ (ok_X5_save l D cI cJ a _ _ _ hw) (cwV 0 hts gX5_fish_X5_save rfl rfl rfl (by decide +kernel) ⟨Nat.le_of_ble_eq_true rfl, Nat.le_of_ble_eq_true rfl⟩) hK hW hA 0 rfl rfl rfl hl.1 rfl (Nat.le_of_ble_eq_true rfl) dX5_fish_36 ⟨Nat.le_of_ble_eq_true rfl, Nat.le_of_ble_eq_true rfl⟩ (fun σ_10 H locs hw hW => ?_)
        refine lv_aload_n hx hb dX5_fish_39 rfl (lv_at hl 1 rfl) ?_
        refine lv_iload_n hx hb dX5_fish_40 rfl (lv_at hl 2 rfl) ?_
        refine kV_Mi (As := [.int p1]) (rest := []) ⟨hx, hb, hml, hown, hts⟩ (ok_X5_fishes l D cI cJ a _ _ _ _ hw) (cwV 1 hts gX5_fish_X5_fishes rfl rfl rfl (by decide +kernel) ⟨Nat.le_of_ble_eq_true rfl, Nat.le_of_ble_eq_true rfl⟩) hK hW hA 0 rfl rfl rfl hl.1 rfl (Nat.le_of_ble_eq_true rfl) dX5_fish_41 ⟨Nat.le_of_ble_eq_true rfl, Nat.le_of_ble_eq_true rfl⟩ (fun r_11 σ_12 H locs hw hW => ?_)
        exact hret _ σ_12 _ _ _ _ hw hW dX5_fish_44
      · have hw := hw.2 hc
        refine lv_iconst (v := 0) hx hb dX5_fish_33 (by decide) ?_
        exact hret _ σ_9 _ _ _ _ hw hW dX5_fish_34
  · have hw := hw.2 hc
    refine lv_iconst (v := 1) hx hb dX5_fish_10 (by decide) ?_
    refine lv_goto (tgt := 27) hx hb dX5_fish_11 (by decide) ?_
    refine kV_Mi (As := [.int 1]) (rest := []) ⟨hx, hb, hml, hown, hts⟩ (ok_X5_holds l D cI cJ a _ _ _ _ hw) (cwV 1 hts gX5_fish_X5_holds rfl rfl rfl (by decide +kernel) ⟨Nat.le_of_ble_eq_true rfl, Nat.le_of_ble_eq_true rfl⟩) hK hW hA 0 rfl rfl rfl hl.1 rfl (Nat.le_of_ble_eq_true rfl) dX5_fish_27 ⟨Nat.le_of_ble_eq_true rfl, Nat.le_of_ble_eq_true rfl⟩ (fun r_13 σ_14 H locs hw hW => ?_)
    refine lv_if_ne (tgt := 35) hx hb dX5_fish_30 (by decide) (fun hc => ?_) (fun hc => ?_)
    · have hw := hw.1 hc
      refine lv_aload_n hx hb dX5_fish_35 rfl (lv_at hl 1 rfl) ?_
      refine kV_Mv (As := []) (rest := []) ⟨hx, hb, hml, hown, hts⟩ (ok_X5_save l D cI cJ a _ _ _ hw) (cwV 0 hts gX5_fish_X5_save rfl rfl rfl (by decide +kernel) ⟨Nat.le_of_ble_eq_true rfl, Nat.le_of_ble_eq_true rfl⟩) hK hW hA 0 rfl rfl rfl hl.1 rfl (Nat.le_of_ble_eq_true rfl) dX5_fish_36 ⟨Nat.le_of_ble_eq_true rfl, Nat.le_of_ble_eq_true rfl⟩ (fun σ_15 H locs hw hW => ?_)
      refine lv_aload_n hx hb dX5_fish_39 rfl (lv_at hl 1 rfl) ?_
      refine lv_iload_n hx hb dX5_fish_40 rfl (lv_at hl 2 rfl) ?_
      refine kV_Mi (As := [.int p1]) (rest := []) ⟨hx, hb, hml, hown, hts⟩ (ok_X5_fishes l D cI cJ a _ _ _ _ hw) (cwV 1 hts gX5_fish_X5_fishes rfl rfl rfl (by decide +kernel) ⟨Nat.le_of_ble_eq_true rfl, Nat.le_of_ble_eq_true rfl⟩) hK hW hA 0 rfl rfl rfl hl.1 rfl (Nat.le_of_ble_eq_true rfl) dX5_fish_41 ⟨Nat.le_of_ble_eq_true rfl, Nat.le_of_ble_eq_true rfl⟩ (fun r_16 σ_17 H locs hw hW => ?_)
      exact hret _ σ_17 _ _ _ _ hw hW dX5_fish_44
    · have hw := hw.2 hc
      refine lv_iconst (v := 0) hx hb dX5_fish_33 (by decide) ?_
      exact hret _ σ_14 _ _ _ _ hw hW dX5_fish_34
def wp_X5_nextDay (σ : MS) (post : Int32 → MS → Prop) : Prop := ∀ σ_1 : MS, σ_1 = ms_thrown σ 0 → wp_X5_save σ_1 (fun σ_2 => wp_X5_dawns σ_2 (fun r_3 σ_4 => post r_3 σ_4))
abbrev rm_X5_nextDay : Room := { frames := 2, cells := 0, slots := 0, locals := 47 }
theorem in_X5_nextDay_X5 : ∀ w ∈ wsX50, w ∈ wsX5_nextDay := fun w h => List.mem_cons_of_mem _ (List.mem_append_right _ (h))
set_option maxHeartbeats 4000000 in
set_option maxRecDepth 100000 in
theorem ok_X5_nextDay (l : Launch) (D : va_G) (cI cJ : ClassId) (a : Nat → Nat) (sz : Nat) (σ : MS) (post : Int32 → MS → Prop) (hw : wp_X5_nextDay σ post) : Mi l yX5_nextDay wsX5_nextDay rm_X5_nextDay [.ref (a 0)] D (tysIJ cI cJ) (mW cI cJ a σ) sz post (mW cI cJ a) := by
  refine s_Mi (by decide) rfl (Nat.le_of_ble_eq_true rfl) ?_
  intro p e s m args below meth c A Q hx hb hml hts hown hin hK hA hret H locs ls hW hl
  have hown : s.vm.findClass RX5 = some m.cls := hown
  have hl : lv_has ls 1 [(0, .ref (a 0))] := hl
  have hinX5 := in_X5_nextDay_X5
  refine lv_aload_n hx hb dX5_nextDay_0 rfl (lv_at hl 0 rfl) ?_
  refine lv_iconst (v := 0) hx hb dX5_nextDay_1 (by decide) ?_
  refine pf_m_thrown hx hb hts hinX5 hown hK hW (hts _ (List.mem_of_getElem? (i := 1) rfl)) dX5_nextDay_2 (fun σ_1 eσ_1 H locs hW => ?_)
  have hw := hw σ_1 eσ_1
  refine lv_aload_n hx hb dX5_nextDay_5 rfl (lv_at hl 0 rfl) ?_
  refine kV_Mv (As := []) (rest := []) ⟨hx, hb, hml, hown, hts⟩ (ok_X5_save l D cI cJ a _ _ _ hw) (cwV 0 hts gX5_nextDay_X5_save rfl rfl rfl (by decide +kernel) ⟨Nat.le_of_ble_eq_true rfl, Nat.le_of_ble_eq_true rfl⟩) hK hW hA 0 rfl rfl rfl hl.1 rfl (Nat.le_of_ble_eq_true rfl) dX5_nextDay_6 ⟨Nat.le_of_ble_eq_true rfl, Nat.le_of_ble_eq_true rfl⟩ (fun σ_2 H locs hw hW => ?_)
  refine lv_aload_n hx hb dX5_nextDay_9 rfl (lv_at hl 0 rfl) ?_
  refine kV_Mi (As := []) (rest := []) ⟨hx, hb, hml, hown, hts⟩ (ok_X5_dawns l D cI cJ a _ _ _ hw) (cwV 0 hts gX5_nextDay_X5_dawns rfl rfl rfl (by decide +kernel) ⟨Nat.le_of_ble_eq_true rfl, Nat.le_of_ble_eq_true rfl⟩) hK hW hA 0 rfl rfl rfl hl.1 rfl (Nat.le_of_ble_eq_true rfl) dX5_nextDay_10 ⟨Nat.le_of_ble_eq_true rfl, Nat.le_of_ble_eq_true rfl⟩ (fun r_3 σ_4 H locs hw hW => ?_)
  exact hret _ σ_4 _ _ _ _ hw hW dX5_nextDay_13
def wp_X5_append (σ : MS) (p1 : Int32) (post : Int32 → MS → Prop) : Prop := wp_X5_in p1 33 126 (fun r_1 => ((¬ r_1 = 0 → ((¬ (m_length σ) = 60 → wp_X5_holds σ 0 (fun r_2 σ_3 => ((¬ r_2 = 0 → vp_in (m_length σ_3) 60 ∧ ∀ σ_4 : MS, σ_4 = ms_text σ_3 (upd (m_text σ_3) (m_length σ_3).toNatClampNeg p1) → ∀ σ_5 : MS, σ_5 = ms_length σ_4 ((m_length σ_4) + 1) → post (m_length σ_5) σ_5) ∧ (r_2 = 0 → post 0 σ_3)))) ∧ ((m_length σ) = 60 → wp_X5_holds σ 2 (fun r_6 σ_7 => ((¬ r_6 = 0 → vp_in (m_length σ_7) 60 ∧ ∀ σ_8 : MS, σ_8 = ms_text σ_7 (upd (m_text σ_7) (m_length σ_7).toNatClampNeg p1) → ∀ σ_9 : MS, σ_9 = ms_length σ_8 ((m_length σ_8) + 1) → post (m_length σ_9) σ_9) ∧ (r_6 = 0 → post 0 σ_7)))))) ∧ (r_1 = 0 → wp_X5_holds σ 1 (fun r_10 σ_11 => ((¬ r_10 = 0 → vp_in (m_length σ_11) 60 ∧ ∀ σ_12 : MS, σ_12 = ms_text σ_11 (upd (m_text σ_11) (m_length σ_11).toNatClampNeg p1) → ∀ σ_13 : MS, σ_13 = ms_length σ_12 ((m_length σ_12) + 1) → post (m_length σ_13) σ_13) ∧ (r_10 = 0 → post 0 σ_11))))))
abbrev rm_X5_append : Room := { frames := 1, cells := 0, slots := 0, locals := 22 }
theorem in_X5_append_X5 : ∀ w ∈ wsX50, w ∈ wsX5_append := fun w h => List.mem_cons_of_mem _ (List.mem_append_right _ (h))
set_option maxHeartbeats 4000000 in
set_option maxRecDepth 100000 in
theorem ok_X5_append (l : Launch) (D : va_G) (cI cJ : ClassId) (a : Nat → Nat) (sz : Nat) (σ : MS) (p1 : Int32) (post : Int32 → MS → Prop) (hw : wp_X5_append σ p1 post) : Mi l yX5_append wsX5_append rm_X5_append [.ref (a 0), .int p1] D (tysIJ cI cJ) (mW cI cJ a σ) sz post (mW cI cJ a) := by
  refine s_Mi (by decide) rfl (Nat.le_of_ble_eq_true rfl) ?_
  intro p e s m args below meth c A Q hx hb hml hts hown hin hK hA hret H locs ls hW hl
  have hown : s.vm.findClass RX5 = some m.cls := hown
  have hl : lv_has ls 2 [(0, .ref (a 0)), (1, .int p1)] := hl
  have hinX5 := in_X5_append_X5
  refine lv_aload_n hx hb dX5_append_0 rfl (lv_at hl 0 rfl) ?_
  refine lv_iload_n hx hb dX5_append_1 rfl (lv_at hl 1 rfl) ?_
  refine lv_bipush (v := 33) hx hb dX5_append_2 (by decide) ?_
  refine lv_bipush (v := 126) hx hb dX5_append_4 (by decide) ?_
  refine kS_Pi (As := [.int p1, .int 33, .int 126]) (rest := [.ref (a 0)]) ⟨hx, hb, hml, hown, hts⟩ (ok_X5_in l _ _ _ _ hw) (va_cwS 3 hts gX5_append_X5_in rfl rfl rfl (by decide +kernel) ⟨Nat.le_of_ble_eq_true rfl, Nat.le_of_ble_eq_true rfl⟩) hW.2.2 rfl hl.1 rfl (Nat.le_of_ble_eq_true rfl) dX5_append_6 ⟨Nat.le_of_ble_eq_true rfl, Nat.le_of_ble_eq_true rfl⟩ (fun r_1 H locs hw hk hS => ?_)
  have hW := hW.kept hk hS
  refine lv_if_ne (tgt := 16) hx hb dX5_append_9 (by decide) (fun hc => ?_) (fun hc => ?_)
  · have hw := hw.1 hc
    refine lv_aload_n hx hb dX5_append_16 rfl (lv_at hl 0 rfl) ?_
    refine va_get (D := D) (ci := 5) (v := .int (m_length σ)) (C := RX5) (T := TX5) (N := 18) hx hb hts hinX5 hown hK hW.1 0 rfl rfl 5 (by decide) (hts _ (List.mem_of_getElem? (i := 1) rfl)) (fun _ h9 => h9) rfl dX5_append_17 ?_
    refine lv_bipush (v := 60) hx hb dX5_append_20 (by decide) ?_
    refine lv_icmp_ne (tgt := 29) hx hb dX5_append_22 (by decide) (fun hc => ?_) (fun hc => ?_)
    · have hw := hw.1 hc
      refine lv_iconst (v := 0) hx hb dX5_append_29 (by decide) ?_
      refine kV_Mi (As := [.int 0]) (rest := []) ⟨hx, hb, hml, hown, hts⟩ (ok_X5_holds l D cI cJ a _ _ _ _ hw) (cwV 1 hts gX5_append_X5_holds rfl rfl rfl (by decide +kernel) ⟨Nat.le_of_ble_eq_true rfl, Nat.le_of_ble_eq_true rfl⟩) hK hW hA 0 rfl rfl rfl hl.1 rfl (Nat.le_of_ble_eq_true rfl) dX5_append_30 ⟨Nat.le_of_ble_eq_true rfl, Nat.le_of_ble_eq_true rfl⟩ (fun r_2 σ_3 H locs hw hW => ?_)
      refine lv_if_ne (tgt := 38) hx hb dX5_append_33 (by decide) (fun hc => ?_) (fun hc => ?_)
      · have hw := hw.1 hc
        refine lv_aload_n hx hb dX5_append_38 rfl (lv_at hl 0 rfl) ?_
        refine va_get (D := D) (ci := 5) (v := .ref (a 2)) (C := RX5) (T := TX5) (N := 18) hx hb hts hinX5 hown hK hW.1 0 rfl rfl 4 (by decide) (hts _ (List.mem_of_getElem? (i := 2) rfl)) (fun _ h9 => h9) rfl dX5_append_39 ?_
        refine lv_aload_n hx hb dX5_append_42 rfl (lv_at hl 0 rfl) ?_
        refine va_get (D := D) (ci := 5) (v := .int (m_length σ_3)) (C := RX5) (T := TX5) (N := 18) hx hb hts hinX5 hown hK hW.1 0 rfl rfl 5 (by decide) (hts _ (List.mem_of_getElem? (i := 1) rfl)) (fun _ h9 => h9) rfl dX5_append_43 ?_
        refine lv_iload_n hx hb dX5_append_46 rfl (lv_at hl 1 rfl) ?_
        refine st_m_text hx hb hK hW hw.1 dX5_append_47 (fun σ_4 eσ_4 H locs hW => ?_)
        have hw := hw.2
        have hw := hw σ_4 eσ_4
        refine lv_aload_n hx hb dX5_append_48 rfl (lv_at hl 0 rfl) ?_
        refine lv_dup hx hb dX5_append_49 rfl ?_
        refine va_get (D := D) (ci := 5) (v := .int (m_length σ_4)) (C := RX5) (T := TX5) (N := 18) hx hb hts hinX5 hown hK hW.1 0 rfl rfl 5 (by decide) (hts _ (List.mem_of_getElem? (i := 1) rfl)) (fun _ h9 => h9) rfl dX5_append_50 ?_
        refine lv_iconst (v := 1) hx hb dX5_append_53 (by decide) ?_
        refine lv_iadd hx hb dX5_append_54 ?_
        refine pf_m_length hx hb hts hinX5 hown hK hW (hts _ (List.mem_of_getElem? (i := 1) rfl)) dX5_append_55 (fun σ_5 eσ_5 H locs hW => ?_)
        have hw := hw σ_5 eσ_5
        refine lv_aload_n hx hb dX5_append_58 rfl (lv_at hl 0 rfl) ?_
        refine va_get (D := D) (ci := 5) (v := .int (m_length σ_5)) (C := RX5) (T := TX5) (N := 18) hx hb hts hinX5 hown hK hW.1 0 rfl rfl 5 (by decide) (hts _ (List.mem_of_getElem? (i := 1) rfl)) (fun _ h9 => h9) rfl dX5_append_59 ?_
        exact hret _ σ_5 _ _ _ _ hw hW dX5_append_62
      · have hw := hw.2 hc
        refine lv_iconst (v := 0) hx hb dX5_append_36 (by decide) ?_
        exact hret _ σ_3 _ _ _ _ hw hW dX5_append_37
    · have hw := hw.2 hc
      refine lv_iconst (v := 2) hx hb dX5_append_25 (by decide) ?_
      refine lv_goto (tgt := 30) hx hb dX5_append_26 (by decide) ?_
      refine kV_Mi (As := [.int 2]) (rest := []) ⟨hx, hb, hml, hown, hts⟩ (ok_X5_holds l D cI cJ a _ _ _ _ hw) (cwV 1 hts gX5_append_X5_holds rfl rfl rfl (by decide +kernel) ⟨Nat.le_of_ble_eq_true rfl, Nat.le_of_ble_eq_true rfl⟩) hK hW hA 0 rfl rfl rfl hl.1 rfl (Nat.le_of_ble_eq_true rfl) dX5_append_30 ⟨Nat.le_of_ble_eq_true rfl, Nat.le_of_ble_eq_true rfl⟩ (fun r_6 σ_7 H locs hw hW => ?_)
      refine lv_if_ne (tgt := 38) hx hb dX5_append_33 (by decide) (fun hc => ?_) (fun hc => ?_)
      · have hw := hw.1 hc
        refine lv_aload_n hx hb dX5_append_38 rfl (lv_at hl 0 rfl) ?_
        refine va_get (D := D) (ci := 5) (v := .ref (a 2)) (C := RX5) (T := TX5) (N := 18) hx hb hts hinX5 hown hK hW.1 0 rfl rfl 4 (by decide) (hts _ (List.mem_of_getElem? (i := 2) rfl)) (fun _ h9 => h9) rfl dX5_append_39 ?_
        refine lv_aload_n hx hb dX5_append_42 rfl (lv_at hl 0 rfl) ?_
        refine va_get (D := D) (ci := 5) (v := .int (m_length σ_7)) (C := RX5) (T := TX5) (N := 18) hx hb hts hinX5 hown hK hW.1 0 rfl rfl 5 (by decide) (hts _ (List.mem_of_getElem? (i := 1) rfl)) (fun _ h9 => h9) rfl dX5_append_43 ?_
        refine lv_iload_n hx hb dX5_append_46 rfl (lv_at hl 1 rfl) ?_
        refine st_m_text hx hb hK hW hw.1 dX5_append_47 (fun σ_8 eσ_8 H locs hW => ?_)
        have hw := hw.2
        have hw := hw σ_8 eσ_8
        refine lv_aload_n hx hb dX5_append_48 rfl (lv_at hl 0 rfl) ?_
        refine lv_dup hx hb dX5_append_49 rfl ?_
        refine va_get (D := D) (ci := 5) (v := .int (m_length σ_8)) (C := RX5) (T := TX5) (N := 18) hx hb hts hinX5 hown hK hW.1 0 rfl rfl 5 (by decide) (hts _ (List.mem_of_getElem? (i := 1) rfl)) (fun _ h9 => h9) rfl dX5_append_50 ?_
        refine lv_iconst (v := 1) hx hb dX5_append_53 (by decide) ?_
        refine lv_iadd hx hb dX5_append_54 ?_
        refine pf_m_length hx hb hts hinX5 hown hK hW (hts _ (List.mem_of_getElem? (i := 1) rfl)) dX5_append_55 (fun σ_9 eσ_9 H locs hW => ?_)
        have hw := hw σ_9 eσ_9
        refine lv_aload_n hx hb dX5_append_58 rfl (lv_at hl 0 rfl) ?_
        refine va_get (D := D) (ci := 5) (v := .int (m_length σ_9)) (C := RX5) (T := TX5) (N := 18) hx hb hts hinX5 hown hK hW.1 0 rfl rfl 5 (by decide) (hts _ (List.mem_of_getElem? (i := 1) rfl)) (fun _ h9 => h9) rfl dX5_append_59 ?_
        exact hret _ σ_9 _ _ _ _ hw hW dX5_append_62
      · have hw := hw.2 hc
        refine lv_iconst (v := 0) hx hb dX5_append_36 (by decide) ?_
        exact hret _ σ_7 _ _ _ _ hw hW dX5_append_37
  · have hw := hw.2 hc
    refine lv_iconst (v := 1) hx hb dX5_append_12 (by decide) ?_
    refine lv_goto (tgt := 30) hx hb dX5_append_13 (by decide) ?_
    refine kV_Mi (As := [.int 1]) (rest := []) ⟨hx, hb, hml, hown, hts⟩ (ok_X5_holds l D cI cJ a _ _ _ _ hw) (cwV 1 hts gX5_append_X5_holds rfl rfl rfl (by decide +kernel) ⟨Nat.le_of_ble_eq_true rfl, Nat.le_of_ble_eq_true rfl⟩) hK hW hA 0 rfl rfl rfl hl.1 rfl (Nat.le_of_ble_eq_true rfl) dX5_append_30 ⟨Nat.le_of_ble_eq_true rfl, Nat.le_of_ble_eq_true rfl⟩ (fun r_10 σ_11 H locs hw hW => ?_)
    refine lv_if_ne (tgt := 38) hx hb dX5_append_33 (by decide) (fun hc => ?_) (fun hc => ?_)
    · have hw := hw.1 hc
      refine lv_aload_n hx hb dX5_append_38 rfl (lv_at hl 0 rfl) ?_
      refine va_get (D := D) (ci := 5) (v := .ref (a 2)) (C := RX5) (T := TX5) (N := 18) hx hb hts hinX5 hown hK hW.1 0 rfl rfl 4 (by decide) (hts _ (List.mem_of_getElem? (i := 2) rfl)) (fun _ h9 => h9) rfl dX5_append_39 ?_
      refine lv_aload_n hx hb dX5_append_42 rfl (lv_at hl 0 rfl) ?_
      refine va_get (D := D) (ci := 5) (v := .int (m_length σ_11)) (C := RX5) (T := TX5) (N := 18) hx hb hts hinX5 hown hK hW.1 0 rfl rfl 5 (by decide) (hts _ (List.mem_of_getElem? (i := 1) rfl)) (fun _ h9 => h9) rfl dX5_append_43 ?_
      refine lv_iload_n hx hb dX5_append_46 rfl (lv_at hl 1 rfl) ?_
      refine st_m_text hx hb hK hW hw.1 dX5_append_47 (fun σ_12 eσ_12 H locs hW => ?_)
      have hw := hw.2
      have hw := hw σ_12 eσ_12
      refine lv_aload_n hx hb dX5_append_48 rfl (lv_at hl 0 rfl) ?_
      refine lv_dup hx hb dX5_append_49 rfl ?_
      refine va_get (D := D) (ci := 5) (v := .int (m_length σ_12)) (C := RX5) (T := TX5) (N := 18) hx hb hts hinX5 hown hK hW.1 0 rfl rfl 5 (by decide) (hts _ (List.mem_of_getElem? (i := 1) rfl)) (fun _ h9 => h9) rfl dX5_append_50 ?_
      refine lv_iconst (v := 1) hx hb dX5_append_53 (by decide) ?_
      refine lv_iadd hx hb dX5_append_54 ?_
      refine pf_m_length hx hb hts hinX5 hown hK hW (hts _ (List.mem_of_getElem? (i := 1) rfl)) dX5_append_55 (fun σ_13 eσ_13 H locs hW => ?_)
      have hw := hw σ_13 eσ_13
      refine lv_aload_n hx hb dX5_append_58 rfl (lv_at hl 0 rfl) ?_
      refine va_get (D := D) (ci := 5) (v := .int (m_length σ_13)) (C := RX5) (T := TX5) (N := 18) hx hb hts hinX5 hown hK hW.1 0 rfl rfl 5 (by decide) (hts _ (List.mem_of_getElem? (i := 1) rfl)) (fun _ h9 => h9) rfl dX5_append_59 ?_
      exact hret _ σ_13 _ _ _ _ hw hW dX5_append_62
    · have hw := hw.2 hc
      refine lv_iconst (v := 0) hx hb dX5_append_36 (by decide) ?_
      exact hret _ σ_11 _ _ _ _ hw hW dX5_append_37
def wp_X5_clearBuffer (σ : MS) (post : Int32 → MS → Prop) : Prop := ∀ σ_1 : MS, σ_1 = ms_thrown σ 0 → ∀ v1_2 : Int32, v1_2 = (m_length σ_1) → ∀ σ_3 : MS, σ_3 = ms_length σ_1 0 → post v1_2 σ_3
abbrev rm_X5_clearBuffer : Room := { frames := 0, cells := 0, slots := 0, locals := 0 }
theorem in_X5_clearBuffer_X5 : ∀ w ∈ wsX50, w ∈ wsX5_clearBuffer := fun w h => List.mem_cons_of_mem _ (List.mem_append_right _ (h))
set_option maxHeartbeats 4000000 in
set_option maxRecDepth 100000 in
theorem ok_X5_clearBuffer (l : Launch) (D : va_G) (cI cJ : ClassId) (a : Nat → Nat) (sz : Nat) (σ : MS) (post : Int32 → MS → Prop) (hw : wp_X5_clearBuffer σ post) : Mi l yX5_clearBuffer wsX5_clearBuffer rm_X5_clearBuffer [.ref (a 0)] D (tysIJ cI cJ) (mW cI cJ a σ) sz post (mW cI cJ a) := by
  refine s_Mi (by decide) rfl (Nat.le_of_ble_eq_true rfl) ?_
  intro p e s m args below meth c A Q hx hb hml hts hown hin hK hA hret H locs ls hW hl
  have hown : s.vm.findClass RX5 = some m.cls := hown
  have hl : lv_has ls 2 [(0, .ref (a 0))] := hl
  have hinX5 := in_X5_clearBuffer_X5
  refine lv_aload_n hx hb dX5_clearBuffer_0 rfl (lv_at hl 0 rfl) ?_
  refine lv_iconst (v := 0) hx hb dX5_clearBuffer_1 (by decide) ?_
  refine pf_m_thrown hx hb hts hinX5 hown hK hW (hts _ (List.mem_of_getElem? (i := 1) rfl)) dX5_clearBuffer_2 (fun σ_1 eσ_1 H locs hW => ?_)
  have hw := hw σ_1 eσ_1
  refine lv_aload_n hx hb dX5_clearBuffer_5 rfl (lv_at hl 0 rfl) ?_
  refine va_get (D := D) (ci := 5) (v := .int (m_length σ_1)) (C := RX5) (T := TX5) (N := 18) hx hb hts hinX5 hown hK hW.1 0 rfl rfl 5 (by decide) (hts _ (List.mem_of_getElem? (i := 2) rfl)) (fun _ h9 => h9) rfl dX5_clearBuffer_6 ?_
  refine lv_topi (fun v1_2 ev1_2 => ?_)
  have hw := hw v1_2 ev1_2
  refine lv_istore_n (lv' := [(1, .int v1_2), (0, .ref (a 0))]) hx hb dX5_clearBuffer_9 rfl hl (by decide) rfl (fun ls hl => ?_)
  refine lv_aload_n hx hb dX5_clearBuffer_10 rfl (lv_at hl 1 rfl) ?_
  refine lv_iconst (v := 0) hx hb dX5_clearBuffer_11 (by decide) ?_
  refine pf_m_length hx hb hts hinX5 hown hK hW (hts _ (List.mem_of_getElem? (i := 2) rfl)) dX5_clearBuffer_12 (fun σ_3 eσ_3 H locs hW => ?_)
  have hw := hw σ_3 eσ_3
  refine lv_iload_n hx hb dX5_clearBuffer_15 rfl (lv_at hl 0 rfl) ?_
  exact hret _ σ_3 _ _ _ _ hw hW dX5_clearBuffer_16
def wp_X5_sign (σ : MS) (post : Int32 → Prop) : Prop := (((m_length σ) ≤ (m_at σ) → post 0) ∧ (¬ (m_length σ) ≤ (m_at σ) → vp_in (m_at σ) 60 ∧ post ((m_text σ) (m_at σ).toNatClampNeg)))
abbrev rm_X5_sign : Room := { frames := 0, cells := 0, slots := 0, locals := 0 }
theorem in_X5_sign_X5 : ∀ w ∈ wsX50, w ∈ wsX5_sign := fun w h => List.mem_cons_of_mem _ (List.mem_append_right _ (h))
set_option maxHeartbeats 4000000 in
set_option maxRecDepth 100000 in
theorem ok_X5_sign (l : Launch) (D : va_G) (cI cJ : ClassId) (a : Nat → Nat) (sz : Nat) (σ : MS) (post : Int32 → Prop) (hw : wp_X5_sign σ post) : Mi l yX5_sign wsX5_sign rm_X5_sign [.ref (a 0)] D (tysIJ cI cJ) (mW cI cJ a σ) sz (fun r (_ : Unit) => post r) (fun _ => mW cI cJ a σ) := by
  refine s_Mi (by decide) rfl (Nat.le_of_ble_eq_true rfl) ?_
  intro p e s m args below meth c A Q hx hb hml hts hown hin hK hA hret H locs ls hW hl
  have hown : s.vm.findClass RX5 = some m.cls := hown
  have hl : lv_has ls 1 [(0, .ref (a 0))] := hl
  have hinX5 := in_X5_sign_X5
  refine lv_aload_n hx hb dX5_sign_0 rfl (lv_at hl 0 rfl) ?_
  refine va_get (D := D) (ci := 5) (v := .int (m_at σ)) (C := RX5) (T := TX5) (N := 18) hx hb hts hinX5 hown hK hW.1 0 rfl rfl 6 (by decide) (hts _ (List.mem_of_getElem? (i := 1) rfl)) (fun _ h9 => h9) rfl dX5_sign_1 ?_
  refine lv_aload_n hx hb dX5_sign_4 rfl (lv_at hl 0 rfl) ?_
  refine va_get (D := D) (ci := 5) (v := .int (m_length σ)) (C := RX5) (T := TX5) (N := 18) hx hb hts hinX5 hown hK hW.1 0 rfl rfl 5 (by decide) (hts _ (List.mem_of_getElem? (i := 2) rfl)) (fun _ h9 => h9) rfl dX5_sign_5 ?_
  refine lv_icmp_ge (tgt := 23) hx hb dX5_sign_8 (by decide) (fun hc => ?_) (fun hc => ?_)
  · have hw := hw.1 hc
    refine lv_iconst (v := 0) hx hb dX5_sign_23 (by decide) ?_
    exact hret _ () _ _ _ _ hw hW dX5_sign_24
  · have hw := hw.2 hc
    refine lv_aload_n hx hb dX5_sign_11 rfl (lv_at hl 0 rfl) ?_
    refine va_get (D := D) (ci := 5) (v := .ref (a 2)) (C := RX5) (T := TX5) (N := 18) hx hb hts hinX5 hown hK hW.1 0 rfl rfl 4 (by decide) (hts _ (List.mem_of_getElem? (i := 3) rfl)) (fun _ h9 => h9) rfl dX5_sign_12 ?_
    refine lv_aload_n hx hb dX5_sign_15 rfl (lv_at hl 0 rfl) ?_
    refine va_get (D := D) (ci := 5) (v := .int (m_at σ)) (C := RX5) (T := TX5) (N := 18) hx hb hts hinX5 hown hK hW.1 0 rfl rfl 6 (by decide) (hts _ (List.mem_of_getElem? (i := 1) rfl)) (fun _ h9 => h9) rfl dX5_sign_16 ?_
    refine va_iald hx hb hK hW.1 2 0 rfl rfl hw.1 dX5_sign_19 ?_
    have hw := hw.2
    refine lv_goto (tgt := 24) hx hb dX5_sign_20 (by decide) ?_
    exact hret _ () _ _ _ _ hw hW dX5_sign_24
def wp_X5_takes (σ : MS) (p1 : Int32) (post : Int32 → MS → Prop) : Prop := wp_X5_sign σ (fun r_1 => ((¬ r_1 = p1 → ∀ σ_2 : MS, σ_2 = ms_at σ ((m_at σ) + 0) → post 0 σ_2) ∧ (r_1 = p1 → ∀ σ_3 : MS, σ_3 = ms_at σ ((m_at σ) + 1) → post 1 σ_3)))
abbrev rm_X5_takes : Room := { frames := 1, cells := 0, slots := 0, locals := 20 }
theorem in_X5_takes_X5 : ∀ w ∈ wsX50, w ∈ wsX5_takes := fun w h => List.mem_cons_of_mem _ (List.mem_append_right _ (h))
set_option maxHeartbeats 4000000 in
set_option maxRecDepth 100000 in
theorem ok_X5_takes (l : Launch) (D : va_G) (cI cJ : ClassId) (a : Nat → Nat) (sz : Nat) (σ : MS) (p1 : Int32) (post : Int32 → MS → Prop) (hw : wp_X5_takes σ p1 post) : Mi l yX5_takes wsX5_takes rm_X5_takes [.ref (a 0), .int p1] D (tysIJ cI cJ) (mW cI cJ a σ) sz post (mW cI cJ a) := by
  refine s_Mz (by decide) rfl (Nat.le_of_ble_eq_true rfl) ?_
  intro p e s m args below meth c A Q hx hb hml hts hown hin hK hA hret H locs ls hW hl
  have hown : s.vm.findClass RX5 = some m.cls := hown
  have hl : lv_has ls 3 [(0, .ref (a 0)), (1, .int p1)] := hl
  have hinX5 := in_X5_takes_X5
  refine lv_aload_n hx hb dX5_takes_0 rfl (lv_at hl 0 rfl) ?_
  refine kV_Mi (As := []) (rest := []) ⟨hx, hb, hml, hown, hts⟩ (ok_X5_sign l D cI cJ a _ _ _ hw) (cwV 0 hts gX5_takes_X5_sign rfl rfl rfl (by decide +kernel) ⟨Nat.le_of_ble_eq_true rfl, Nat.le_of_ble_eq_true rfl⟩) hK hW hA 0 rfl rfl rfl hl.1 rfl (Nat.le_of_ble_eq_true rfl) dX5_takes_1 ⟨Nat.le_of_ble_eq_true rfl, Nat.le_of_ble_eq_true rfl⟩ (fun r_1 _ H locs hw hW => ?_)
  refine lv_iload_n hx hb dX5_takes_4 rfl (lv_at hl 1 rfl) ?_
  refine lv_icmp_ne (tgt := 12) hx hb dX5_takes_5 (by decide) (fun hc => ?_) (fun hc => ?_)
  · have hw := hw.1 hc
    refine lv_iconst (v := 0) hx hb dX5_takes_12 (by decide) ?_
    refine lv_istore_n (lv' := [(2, .int 0), (0, .ref (a 0)), (1, .int p1)]) hx hb dX5_takes_13 rfl hl (by decide) rfl (fun ls hl => ?_)
    refine lv_aload_n hx hb dX5_takes_14 rfl (lv_at hl 1 rfl) ?_
    refine lv_dup hx hb dX5_takes_15 rfl ?_
    refine va_get (D := D) (ci := 5) (v := .int (m_at σ)) (C := RX5) (T := TX5) (N := 18) hx hb hts hinX5 hown hK hW.1 0 rfl rfl 6 (by decide) (hts _ (List.mem_of_getElem? (i := 1) rfl)) (fun _ h9 => h9) rfl dX5_takes_16 ?_
    refine lv_iload_n hx hb dX5_takes_19 rfl (lv_at hl 0 rfl) ?_
    refine lv_if_eq (tgt := 27) hx hb dX5_takes_20 (by decide) (fun _ => ?_) (fun hc => absurd (by decide) hc)
    refine lv_iconst (v := 0) hx hb dX5_takes_27 (by decide) ?_
    refine lv_iadd hx hb dX5_takes_28 ?_
    refine pf_m_at hx hb hts hinX5 hown hK hW (hts _ (List.mem_of_getElem? (i := 1) rfl)) dX5_takes_29 (fun σ_2 eσ_2 H locs hW => ?_)
    have hw := hw σ_2 eσ_2
    refine lv_iload_n hx hb dX5_takes_32 rfl (lv_at hl 0 rfl) ?_
    exact hret _ σ_2 _ _ _ _ (by decide) hw hW dX5_takes_33
  · have hw := hw.2 hc
    refine lv_iconst (v := 1) hx hb dX5_takes_8 (by decide) ?_
    refine lv_goto (tgt := 13) hx hb dX5_takes_9 (by decide) ?_
    refine lv_istore_n (lv' := [(2, .int 1), (0, .ref (a 0)), (1, .int p1)]) hx hb dX5_takes_13 rfl hl (by decide) rfl (fun ls hl => ?_)
    refine lv_aload_n hx hb dX5_takes_14 rfl (lv_at hl 1 rfl) ?_
    refine lv_dup hx hb dX5_takes_15 rfl ?_
    refine va_get (D := D) (ci := 5) (v := .int (m_at σ)) (C := RX5) (T := TX5) (N := 18) hx hb hts hinX5 hown hK hW.1 0 rfl rfl 6 (by decide) (hts _ (List.mem_of_getElem? (i := 1) rfl)) (fun _ h9 => h9) rfl dX5_takes_16 ?_
    refine lv_iload_n hx hb dX5_takes_19 rfl (lv_at hl 0 rfl) ?_
    refine lv_if_eq (tgt := 27) hx hb dX5_takes_20 (by decide) (fun hc => absurd hc (by decide)) (fun _ => ?_)
    refine lv_iconst (v := 1) hx hb dX5_takes_23 (by decide) ?_
    refine lv_goto (tgt := 28) hx hb dX5_takes_24 (by decide) ?_
    refine lv_iadd hx hb dX5_takes_28 ?_
    refine pf_m_at hx hb hts hinX5 hown hK hW (hts _ (List.mem_of_getElem? (i := 1) rfl)) dX5_takes_29 (fun σ_3 eσ_3 H locs hW => ?_)
    have hw := hw σ_3 eσ_3
    refine lv_iload_n hx hb dX5_takes_32 rfl (lv_at hl 0 rfl) ?_
    exact hret _ σ_3 _ _ _ _ (by decide) hw hW dX5_takes_33
def wp_X5_figure (σ : MS) (p1 : Int32) (p2 : Int32) (post : Int32 → MS → Prop) : Prop := wp_X5_sign σ (fun r_1 => wp_X5_in r_1 (48 + p1) (48 + p2) (fun r_2 => ((r_2 = 0 → ∀ σ_3 : MS, σ_3 = ms_at σ ((m_at σ) + 0) → post (-1) σ_3) ∧ (¬ r_2 = 0 → wp_X5_sign σ (fun r_4 => ∀ v3_5 : Int32, v3_5 = (r_4 - 48) → ((¬ v3_5 = (-1) → ∀ σ_6 : MS, σ_6 = ms_at σ ((m_at σ) + 1) → post v3_5 σ_6) ∧ (v3_5 = (-1) → ∀ σ_7 : MS, σ_7 = ms_at σ ((m_at σ) + 0) → post v3_5 σ_7)))))))
abbrev rm_X5_figure : Room := { frames := 1, cells := 0, slots := 0, locals := 22 }
theorem in_X5_figure_X5 : ∀ w ∈ wsX50, w ∈ wsX5_figure := fun w h => List.mem_cons_of_mem _ (List.mem_append_right _ (h))
set_option maxHeartbeats 4000000 in
set_option maxRecDepth 100000 in
theorem ok_X5_figure (l : Launch) (D : va_G) (cI cJ : ClassId) (a : Nat → Nat) (sz : Nat) (σ : MS) (p1 : Int32) (p2 : Int32) (post : Int32 → MS → Prop) (hw : wp_X5_figure σ p1 p2 post) : Mi l yX5_figure wsX5_figure rm_X5_figure [.ref (a 0), .int p1, .int p2] D (tysIJ cI cJ) (mW cI cJ a σ) sz post (mW cI cJ a) := by
  refine s_Mi (by decide) rfl (Nat.le_of_ble_eq_true rfl) ?_
  intro p e s m args below meth c A Q hx hb hml hts hown hin hK hA hret H locs ls hW hl
  have hown : s.vm.findClass RX5 = some m.cls := hown
  have hl : lv_has ls 4 [(0, .ref (a 0)), (1, .int p1), (2, .int p2)] := hl
  have hinX5 := in_X5_figure_X5
  refine lv_aload_n hx hb dX5_figure_0 rfl (lv_at hl 0 rfl) ?_
  refine kV_Mi (As := []) (rest := []) ⟨hx, hb, hml, hown, hts⟩ (ok_X5_sign l D cI cJ a _ _ _ hw) (cwV 0 hts gX5_figure_X5_sign rfl rfl rfl (by decide +kernel) ⟨Nat.le_of_ble_eq_true rfl, Nat.le_of_ble_eq_true rfl⟩) hK hW hA 0 rfl rfl rfl hl.1 rfl (Nat.le_of_ble_eq_true rfl) dX5_figure_1 ⟨Nat.le_of_ble_eq_true rfl, Nat.le_of_ble_eq_true rfl⟩ (fun r_1 _ H locs hw hW => ?_)
  refine lv_bipush (v := 48) hx hb dX5_figure_4 (by decide) ?_
  refine lv_iload_n hx hb dX5_figure_6 rfl (lv_at hl 1 rfl) ?_
  refine lv_iadd hx hb dX5_figure_7 ?_
  refine lv_bipush (v := 48) hx hb dX5_figure_8 (by decide) ?_
  refine lv_iload_n hx hb dX5_figure_10 rfl (lv_at hl 2 rfl) ?_
  refine lv_iadd hx hb dX5_figure_11 ?_
  refine kS_Pi (As := [.int r_1, .int (48 + p1), .int (48 + p2)]) (rest := []) ⟨hx, hb, hml, hown, hts⟩ (ok_X5_in l _ _ _ _ hw) (va_cwS 3 hts gX5_figure_X5_in rfl rfl rfl (by decide +kernel) ⟨Nat.le_of_ble_eq_true rfl, Nat.le_of_ble_eq_true rfl⟩) hW.2.2 rfl hl.1 rfl (Nat.le_of_ble_eq_true rfl) dX5_figure_12 ⟨Nat.le_of_ble_eq_true rfl, Nat.le_of_ble_eq_true rfl⟩ (fun r_2 H locs hw hk hS => ?_)
  have hW := hW.kept hk hS
  refine lv_if_eq (tgt := 28) hx hb dX5_figure_15 (by decide) (fun hc => ?_) (fun hc => ?_)
  · have hw := hw.1 hc
    refine lv_iconst (v := (-1)) hx hb dX5_figure_28 (by decide) ?_
    refine lv_istore_n (lv' := [(3, .int (-1)), (0, .ref (a 0)), (1, .int p1), (2, .int p2)]) hx hb dX5_figure_29 rfl hl (by decide) rfl (fun ls hl => ?_)
    refine lv_aload_n hx hb dX5_figure_30 rfl (lv_at hl 1 rfl) ?_
    refine lv_dup hx hb dX5_figure_31 rfl ?_
    refine va_get (D := D) (ci := 5) (v := .int (m_at σ)) (C := RX5) (T := TX5) (N := 18) hx hb hts hinX5 hown hK hW.1 0 rfl rfl 6 (by decide) (hts _ (List.mem_of_getElem? (i := 1) rfl)) (fun _ h9 => h9) rfl dX5_figure_32 ?_
    refine lv_iload_n hx hb dX5_figure_35 rfl (lv_at hl 0 rfl) ?_
    refine lv_iconst (v := (-1)) hx hb dX5_figure_36 (by decide) ?_
    refine lv_icmp_ne (tgt := 44) hx hb dX5_figure_37 (by decide) (fun hc => absurd hc (by decide)) (fun _ => ?_)
    refine lv_iconst (v := 0) hx hb dX5_figure_40 (by decide) ?_
    refine lv_goto (tgt := 45) hx hb dX5_figure_41 (by decide) ?_
    refine lv_iadd hx hb dX5_figure_45 ?_
    refine pf_m_at hx hb hts hinX5 hown hK hW (hts _ (List.mem_of_getElem? (i := 1) rfl)) dX5_figure_46 (fun σ_3 eσ_3 H locs hW => ?_)
    have hw := hw σ_3 eσ_3
    refine lv_iload_n hx hb dX5_figure_49 rfl (lv_at hl 0 rfl) ?_
    exact hret _ σ_3 _ _ _ _ hw hW dX5_figure_50
  · have hw := hw.2 hc
    refine lv_aload_n hx hb dX5_figure_18 rfl (lv_at hl 0 rfl) ?_
    refine kV_Mi (As := []) (rest := []) ⟨hx, hb, hml, hown, hts⟩ (ok_X5_sign l D cI cJ a _ _ _ hw) (cwV 0 hts gX5_figure_X5_sign rfl rfl rfl (by decide +kernel) ⟨Nat.le_of_ble_eq_true rfl, Nat.le_of_ble_eq_true rfl⟩) hK hW hA 0 rfl rfl rfl hl.1 rfl (Nat.le_of_ble_eq_true rfl) dX5_figure_19 ⟨Nat.le_of_ble_eq_true rfl, Nat.le_of_ble_eq_true rfl⟩ (fun r_4 _ H locs hw hW => ?_)
    refine lv_bipush (v := 48) hx hb dX5_figure_22 (by decide) ?_
    refine lv_isub hx hb dX5_figure_24 ?_
    refine lv_goto (tgt := 29) hx hb dX5_figure_25 (by decide) ?_
    refine lv_topi (fun v3_5 ev3_5 => ?_)
    have hw := hw v3_5 ev3_5
    refine lv_istore_n (lv' := [(3, .int v3_5), (0, .ref (a 0)), (1, .int p1), (2, .int p2)]) hx hb dX5_figure_29 rfl hl (by decide) rfl (fun ls hl => ?_)
    refine lv_aload_n hx hb dX5_figure_30 rfl (lv_at hl 1 rfl) ?_
    refine lv_dup hx hb dX5_figure_31 rfl ?_
    refine va_get (D := D) (ci := 5) (v := .int (m_at σ)) (C := RX5) (T := TX5) (N := 18) hx hb hts hinX5 hown hK hW.1 0 rfl rfl 6 (by decide) (hts _ (List.mem_of_getElem? (i := 1) rfl)) (fun _ h9 => h9) rfl dX5_figure_32 ?_
    refine lv_iload_n hx hb dX5_figure_35 rfl (lv_at hl 0 rfl) ?_
    refine lv_iconst (v := (-1)) hx hb dX5_figure_36 (by decide) ?_
    refine lv_icmp_ne (tgt := 44) hx hb dX5_figure_37 (by decide) (fun hc => ?_) (fun hc => ?_)
    · have hw := hw.1 hc
      refine lv_iconst (v := 1) hx hb dX5_figure_44 (by decide) ?_
      refine lv_iadd hx hb dX5_figure_45 ?_
      refine pf_m_at hx hb hts hinX5 hown hK hW (hts _ (List.mem_of_getElem? (i := 1) rfl)) dX5_figure_46 (fun σ_6 eσ_6 H locs hW => ?_)
      have hw := hw σ_6 eσ_6
      refine lv_iload_n hx hb dX5_figure_49 rfl (lv_at hl 0 rfl) ?_
      exact hret _ σ_6 _ _ _ _ hw hW dX5_figure_50
    · have hw := hw.2 hc
      refine lv_iconst (v := 0) hx hb dX5_figure_40 (by decide) ?_
      refine lv_goto (tgt := 45) hx hb dX5_figure_41 (by decide) ?_
      refine lv_iadd hx hb dX5_figure_45 ?_
      refine pf_m_at hx hb hts hinX5 hown hK hW (hts _ (List.mem_of_getElem? (i := 1) rfl)) dX5_figure_46 (fun σ_7 eσ_7 H locs hW => ?_)
      have hw := hw σ_7 eσ_7
      refine lv_iload_n hx hb dX5_figure_49 rfl (lv_at hl 0 rfl) ?_
      exact hret _ σ_7 _ _ _ _ hw hW dX5_figure_50
def wp_X5_readsNumber (σ : MS) (p1 : Int32) (post : Int32 → MS → Prop) : Prop := wp_X5_figure σ 1 9 (fun r_1 σ_2 => ((r_1 = (-1) → post r_1 σ_2) ∧ (¬ r_1 = (-1) → wp_X5_sign σ_2 (fun r_3 => wp_X5_in r_3 48 57 (fun r_4 => ((r_4 = 0 → post r_1 σ_2) ∧ (¬ r_4 = 0 → wp_X5_sign σ_2 (fun r_5 => ((p1 < (((10 * r_1) + r_5) - 48) → post r_1 σ_2) ∧ (¬ p1 < (((10 * r_1) + r_5) - 48) → wp_X5_figure σ_2 0 9 (fun r_6 σ_7 => ∀ v2_8 : Int32, v2_8 = ((10 * r_1) + r_6) → post v2_8 σ_7)))))))))))
abbrev rm_X5_readsNumber : Room := { frames := 2, cells := 0, slots := 0, locals := 45 }
set_option maxHeartbeats 4000000 in
set_option maxRecDepth 100000 in
theorem ok_X5_readsNumber (l : Launch) (D : va_G) (cI cJ : ClassId) (a : Nat → Nat) (sz : Nat) (σ : MS) (p1 : Int32) (post : Int32 → MS → Prop) (hw : wp_X5_readsNumber σ p1 post) : Mi l yX5_readsNumber wsX5_readsNumber rm_X5_readsNumber [.ref (a 0), .int p1] D (tysIJ cI cJ) (mW cI cJ a σ) sz post (mW cI cJ a) := by
  refine s_Mi (by decide) rfl (Nat.le_of_ble_eq_true rfl) ?_
  intro p e s m args below meth c A Q hx hb hml hts hown hin hK hA hret H locs ls hW hl
  have hown : s.vm.findClass RX5 = some m.cls := hown
  have hl : lv_has ls 3 [(0, .ref (a 0)), (1, .int p1)] := hl
  refine lv_aload_n hx hb dX5_readsNumber_0 rfl (lv_at hl 0 rfl) ?_
  refine lv_iconst (v := 1) hx hb dX5_readsNumber_1 (by decide) ?_
  refine lv_bipush (v := 9) hx hb dX5_readsNumber_2 (by decide) ?_
  refine kV_Mi (As := [.int 1, .int 9]) (rest := []) ⟨hx, hb, hml, hown, hts⟩ (ok_X5_figure l D cI cJ a _ _ _ _ _ hw) (cwV 2 hts gX5_readsNumber_X5_figure rfl rfl rfl (by decide +kernel) ⟨Nat.le_of_ble_eq_true rfl, Nat.le_of_ble_eq_true rfl⟩) hK hW hA 0 rfl rfl rfl hl.1 rfl (Nat.le_of_ble_eq_true rfl) dX5_readsNumber_4 ⟨Nat.le_of_ble_eq_true rfl, Nat.le_of_ble_eq_true rfl⟩ (fun r_1 σ_2 H locs hw hW => ?_)
  refine lv_istore_n (lv' := [(2, .int r_1), (0, .ref (a 0)), (1, .int p1)]) hx hb dX5_readsNumber_7 rfl hl (by decide) rfl (fun ls hl => ?_)
  refine lv_iload_n hx hb dX5_readsNumber_8 rfl (lv_at hl 0 rfl) ?_
  refine lv_iconst (v := (-1)) hx hb dX5_readsNumber_9 (by decide) ?_
  refine lv_icmp_eq (tgt := 56) hx hb dX5_readsNumber_10 (by decide) (fun hc => ?_) (fun hc => ?_)
  · have hw := hw.1 hc
    refine lv_iload_n hx hb dX5_readsNumber_56 rfl (lv_at hl 0 rfl) ?_
    exact hret _ σ_2 _ _ _ _ hw hW dX5_readsNumber_57
  · have hw := hw.2 hc
    refine lv_aload_n hx hb dX5_readsNumber_13 rfl (lv_at hl 1 rfl) ?_
    refine kV_Mi (As := []) (rest := []) ⟨hx, hb, hml, hown, hts⟩ (ok_X5_sign l D cI cJ a _ _ _ hw) (cwV 0 hts gX5_readsNumber_X5_sign rfl rfl rfl (by decide +kernel) ⟨Nat.le_of_ble_eq_true rfl, Nat.le_of_ble_eq_true rfl⟩) hK hW hA 0 rfl rfl rfl hl.1 rfl (Nat.le_of_ble_eq_true rfl) dX5_readsNumber_14 ⟨Nat.le_of_ble_eq_true rfl, Nat.le_of_ble_eq_true rfl⟩ (fun r_3 _ H locs hw hW => ?_)
    refine lv_bipush (v := 48) hx hb dX5_readsNumber_17 (by decide) ?_
    refine lv_bipush (v := 57) hx hb dX5_readsNumber_19 (by decide) ?_
    refine kS_Pi (As := [.int r_3, .int 48, .int 57]) (rest := []) ⟨hx, hb, hml, hown, hts⟩ (ok_X5_in l _ _ _ _ hw) (va_cwS 3 hts gX5_readsNumber_X5_in rfl rfl rfl (by decide +kernel) ⟨Nat.le_of_ble_eq_true rfl, Nat.le_of_ble_eq_true rfl⟩) hW.2.2 rfl hl.1 rfl (Nat.le_of_ble_eq_true rfl) dX5_readsNumber_21 ⟨Nat.le_of_ble_eq_true rfl, Nat.le_of_ble_eq_true rfl⟩ (fun r_4 H locs hw hk hS => ?_)
    have hW := hW.kept hk hS
    refine lv_if_eq (tgt := 56) hx hb dX5_readsNumber_24 (by decide) (fun hc => ?_) (fun hc => ?_)
    · have hw := hw.1 hc
      refine lv_iload_n hx hb dX5_readsNumber_56 rfl (lv_at hl 0 rfl) ?_
      exact hret _ σ_2 _ _ _ _ hw hW dX5_readsNumber_57
    · have hw := hw.2 hc
      refine lv_bipush (v := 10) hx hb dX5_readsNumber_27 (by decide) ?_
      refine lv_iload_n hx hb dX5_readsNumber_29 rfl (lv_at hl 0 rfl) ?_
      refine lv_imul hx hb dX5_readsNumber_30 ?_
      refine lv_aload_n hx hb dX5_readsNumber_31 rfl (lv_at hl 1 rfl) ?_
      refine kV_Mi (As := []) (rest := [.int (10 * r_1)]) ⟨hx, hb, hml, hown, hts⟩ (ok_X5_sign l D cI cJ a _ _ _ hw) (cwV 0 hts gX5_readsNumber_X5_sign rfl rfl rfl (by decide +kernel) ⟨Nat.le_of_ble_eq_true rfl, Nat.le_of_ble_eq_true rfl⟩) hK hW hA 0 rfl rfl rfl hl.1 rfl (Nat.le_of_ble_eq_true rfl) dX5_readsNumber_32 ⟨Nat.le_of_ble_eq_true rfl, Nat.le_of_ble_eq_true rfl⟩ (fun r_5 _ H locs hw hW => ?_)
      refine lv_iadd hx hb dX5_readsNumber_35 ?_
      refine lv_bipush (v := 48) hx hb dX5_readsNumber_36 (by decide) ?_
      refine lv_isub hx hb dX5_readsNumber_38 ?_
      refine lv_iload_n hx hb dX5_readsNumber_39 rfl (lv_at hl 2 rfl) ?_
      refine lv_icmp_gt (tgt := 56) hx hb dX5_readsNumber_40 (by decide) (fun hc => ?_) (fun hc => ?_)
      · have hw := hw.1 hc
        refine lv_iload_n hx hb dX5_readsNumber_56 rfl (lv_at hl 0 rfl) ?_
        exact hret _ σ_2 _ _ _ _ hw hW dX5_readsNumber_57
      · have hw := hw.2 hc
        refine lv_bipush (v := 10) hx hb dX5_readsNumber_43 (by decide) ?_
        refine lv_iload_n hx hb dX5_readsNumber_45 rfl (lv_at hl 0 rfl) ?_
        refine lv_imul hx hb dX5_readsNumber_46 ?_
        refine lv_aload_n hx hb dX5_readsNumber_47 rfl (lv_at hl 1 rfl) ?_
        refine lv_iconst (v := 0) hx hb dX5_readsNumber_48 (by decide) ?_
        refine lv_bipush (v := 9) hx hb dX5_readsNumber_49 (by decide) ?_
        refine kV_Mi (As := [.int 0, .int 9]) (rest := [.int (10 * r_1)]) ⟨hx, hb, hml, hown, hts⟩ (ok_X5_figure l D cI cJ a _ _ _ _ _ hw) (cwV 2 hts gX5_readsNumber_X5_figure rfl rfl rfl (by decide +kernel) ⟨Nat.le_of_ble_eq_true rfl, Nat.le_of_ble_eq_true rfl⟩) hK hW hA 0 rfl rfl rfl hl.1 rfl (Nat.le_of_ble_eq_true rfl) dX5_readsNumber_51 ⟨Nat.le_of_ble_eq_true rfl, Nat.le_of_ble_eq_true rfl⟩ (fun r_6 σ_7 H locs hw hW => ?_)
        refine lv_iadd hx hb dX5_readsNumber_54 ?_
        refine lv_topi (fun v2_8 ev2_8 => ?_)
        have hw := hw v2_8 ev2_8
        refine lv_istore_n (lv' := [(2, .int v2_8), (0, .ref (a 0)), (1, .int p1)]) hx hb dX5_readsNumber_55 rfl hl (by decide) rfl (fun ls hl => ?_)
        refine lv_iload_n hx hb dX5_readsNumber_56 rfl (lv_at hl 0 rfl) ?_
        exact hret _ σ_7 _ _ _ _ hw hW dX5_readsNumber_57
def wp_X5_readsPart (σ : MS) (post : Int32 → MS → Prop) : Prop := wp_X5_sign σ (fun r_1 => ∀ σ_2 : MS, σ_2 = ms_part σ r_1 → wp_X5_takes σ_2 111 (fun r_3 σ_4 => ((¬ r_3 = 0 → post 1 σ_4) ∧ (r_3 = 0 → wp_X5_takes σ_4 110 (fun r_5 σ_6 => ((r_5 = 0 → wp_X5_takes σ_6 104 (fun r_7 σ_8 => ((r_7 = 0 → wp_X5_takes σ_8 102 (fun r_9 σ_10 => ((r_9 = 0 → wp_X5_takes σ_10 98 (fun r_11 σ_12 => ((¬ r_11 = 0 → wp_X5_figure σ_12 0 5 (fun r_13 σ_14 => ∀ σ_15 : MS, σ_15 = ms_first σ_14 r_13 → ((¬ (m_first σ_15) = (-1) → wp_X5_figure σ_15 0 5 (fun r_16 σ_17 => ∀ σ_18 : MS, σ_18 = ms_second σ_17 r_16 → (((m_second σ_18) = (-1) → ∀ σ_19 : MS, σ_19 = ms_third σ_18 (m_second σ_18) → (((m_third σ_19) = (-1) → post 0 σ_19) ∧ (¬ (m_third σ_19) = (-1) → post 1 σ_19))) ∧ (¬ (m_second σ_18) = (-1) → ((¬ (m_part σ_18) = 98 → ∀ σ_20 : MS, σ_20 = ms_third σ_18 (m_second σ_18) → (((m_third σ_20) = (-1) → post 0 σ_20) ∧ (¬ (m_third σ_20) = (-1) → post 1 σ_20))) ∧ ((m_part σ_18) = 98 → wp_X5_readsNumber σ_18 99 (fun r_21 σ_22 => ∀ σ_23 : MS, σ_23 = ms_third σ_22 r_21 → (((m_third σ_23) = (-1) → post 0 σ_23) ∧ (¬ (m_third σ_23) = (-1) → post 1 σ_23))))))))) ∧ ((m_first σ_15) = (-1) → ∀ σ_24 : MS, σ_24 = ms_second σ_15 (-1) → (((m_second σ_24) = (-1) → ∀ σ_25 : MS, σ_25 = ms_third σ_24 (m_second σ_24) → (((m_third σ_25) = (-1) → post 0 σ_25) ∧ (¬ (m_third σ_25) = (-1) → post 1 σ_25))) ∧ (¬ (m_second σ_24) = (-1) → ((¬ (m_part σ_24) = 98 → ∀ σ_26 : MS, σ_26 = ms_third σ_24 (m_second σ_24) → (((m_third σ_26) = (-1) → post 0 σ_26) ∧ (¬ (m_third σ_26) = (-1) → post 1 σ_26))) ∧ ((m_part σ_24) = 98 → wp_X5_readsNumber σ_24 99 (fun r_27 σ_28 => ∀ σ_29 : MS, σ_29 = ms_third σ_28 r_27 → (((m_third σ_29) = (-1) → post 0 σ_29) ∧ (¬ (m_third σ_29) = (-1) → post 1 σ_29))))))))))) ∧ (r_11 = 0 → wp_X5_takes σ_12 119 (fun r_30 σ_31 => ((r_30 = 0 → ∀ σ_32 : MS, σ_32 = ms_first σ_31 (-1) → ((¬ (m_first σ_32) = (-1) → wp_X5_figure σ_32 0 5 (fun r_33 σ_34 => ∀ σ_35 : MS, σ_35 = ms_second σ_34 r_33 → (((m_second σ_35) = (-1) → ∀ σ_36 : MS, σ_36 = ms_third σ_35 (m_second σ_35) → (((m_third σ_36) = (-1) → post 0 σ_36) ∧ (¬ (m_third σ_36) = (-1) → post 1 σ_36))) ∧ (¬ (m_second σ_35) = (-1) → ((¬ (m_part σ_35) = 98 → ∀ σ_37 : MS, σ_37 = ms_third σ_35 (m_second σ_35) → (((m_third σ_37) = (-1) → post 0 σ_37) ∧ (¬ (m_third σ_37) = (-1) → post 1 σ_37))) ∧ ((m_part σ_35) = 98 → wp_X5_readsNumber σ_35 99 (fun r_38 σ_39 => ∀ σ_40 : MS, σ_40 = ms_third σ_39 r_38 → (((m_third σ_40) = (-1) → post 0 σ_40) ∧ (¬ (m_third σ_40) = (-1) → post 1 σ_40))))))))) ∧ ((m_first σ_32) = (-1) → ∀ σ_41 : MS, σ_41 = ms_second σ_32 (-1) → (((m_second σ_41) = (-1) → ∀ σ_42 : MS, σ_42 = ms_third σ_41 (m_second σ_41) → (((m_third σ_42) = (-1) → post 0 σ_42) ∧ (¬ (m_third σ_42) = (-1) → post 1 σ_42))) ∧ (¬ (m_second σ_41) = (-1) → ((¬ (m_part σ_41) = 98 → ∀ σ_43 : MS, σ_43 = ms_third σ_41 (m_second σ_41) → (((m_third σ_43) = (-1) → post 0 σ_43) ∧ (¬ (m_third σ_43) = (-1) → post 1 σ_43))) ∧ ((m_part σ_41) = 98 → wp_X5_readsNumber σ_41 99 (fun r_44 σ_45 => ∀ σ_46 : MS, σ_46 = ms_third σ_45 r_44 → (((m_third σ_46) = (-1) → post 0 σ_46) ∧ (¬ (m_third σ_46) = (-1) → post 1 σ_46)))))))))) ∧ (¬ r_30 = 0 → wp_X5_figure σ_31 0 5 (fun r_47 σ_48 => ∀ σ_49 : MS, σ_49 = ms_first σ_48 r_47 → ((¬ (m_first σ_49) = (-1) → wp_X5_figure σ_49 0 5 (fun r_50 σ_51 => ∀ σ_52 : MS, σ_52 = ms_second σ_51 r_50 → (((m_second σ_52) = (-1) → ∀ σ_53 : MS, σ_53 = ms_third σ_52 (m_second σ_52) → (((m_third σ_53) = (-1) → post 0 σ_53) ∧ (¬ (m_third σ_53) = (-1) → post 1 σ_53))) ∧ (¬ (m_second σ_52) = (-1) → ((¬ (m_part σ_52) = 98 → ∀ σ_54 : MS, σ_54 = ms_third σ_52 (m_second σ_52) → (((m_third σ_54) = (-1) → post 0 σ_54) ∧ (¬ (m_third σ_54) = (-1) → post 1 σ_54))) ∧ ((m_part σ_52) = 98 → wp_X5_readsNumber σ_52 99 (fun r_55 σ_56 => ∀ σ_57 : MS, σ_57 = ms_third σ_56 r_55 → (((m_third σ_57) = (-1) → post 0 σ_57) ∧ (¬ (m_third σ_57) = (-1) → post 1 σ_57))))))))) ∧ ((m_first σ_49) = (-1) → ∀ σ_58 : MS, σ_58 = ms_second σ_49 (-1) → (((m_second σ_58) = (-1) → ∀ σ_59 : MS, σ_59 = ms_third σ_58 (m_second σ_58) → (((m_third σ_59) = (-1) → post 0 σ_59) ∧ (¬ (m_third σ_59) = (-1) → post 1 σ_59))) ∧ (¬ (m_second σ_58) = (-1) → ((¬ (m_part σ_58) = 98 → ∀ σ_60 : MS, σ_60 = ms_third σ_58 (m_second σ_58) → (((m_third σ_60) = (-1) → post 0 σ_60) ∧ (¬ (m_third σ_60) = (-1) → post 1 σ_60))) ∧ ((m_part σ_58) = 98 → wp_X5_readsNumber σ_58 99 (fun r_61 σ_62 => ∀ σ_63 : MS, σ_63 = ms_third σ_62 r_61 → (((m_third σ_63) = (-1) → post 0 σ_63) ∧ (¬ (m_third σ_63) = (-1) → post 1 σ_63))))))))))))))))) ∧ (¬ r_9 = 0 → wp_X5_figure σ_10 0 5 (fun r_64 σ_65 => ∀ σ_66 : MS, σ_66 = ms_first σ_65 r_64 → (((m_first σ_66) = (-1) → post 0 σ_66) ∧ (¬ (m_first σ_66) = (-1) → post 1 σ_66))))))) ∧ (¬ r_7 = 0 → wp_X5_readsNumber σ_8 23 (fun r_67 σ_68 => ∀ σ_69 : MS, σ_69 = ms_first σ_68 r_67 → (((m_first σ_69) = (-1) → post 0 σ_69) ∧ (¬ (m_first σ_69) = (-1) → post 1 σ_69))))))) ∧ (¬ r_5 = 0 → post 1 σ_6)))))))
abbrev rm_X5_readsPart : Room := { frames := 3, cells := 0, slots := 0, locals := 67 }
theorem in_X5_readsPart_X5 : ∀ w ∈ wsX50, w ∈ wsX5_readsPart := fun w h => List.mem_cons_of_mem _ (List.mem_append_right _ (h))
set_option maxHeartbeats 4000000 in
set_option maxRecDepth 100000 in
theorem ok_X5_readsPart (l : Launch) (D : va_G) (cI cJ : ClassId) (a : Nat → Nat) (sz : Nat) (σ : MS) (post : Int32 → MS → Prop) (hw : wp_X5_readsPart σ post) : Mi l yX5_readsPart wsX5_readsPart rm_X5_readsPart [.ref (a 0)] D (tysIJ cI cJ) (mW cI cJ a σ) sz post (mW cI cJ a) := by
  refine s_Mz (by decide) rfl (Nat.le_of_ble_eq_true rfl) ?_
  intro p e s m args below meth c A Q hx hb hml hts hown hin hK hA hret H locs ls hW hl
  have hown : s.vm.findClass RX5 = some m.cls := hown
  have hl : lv_has ls 1 [(0, .ref (a 0))] := hl
  have hinX5 := in_X5_readsPart_X5
  refine lv_aload_n hx hb dX5_readsPart_0 rfl (lv_at hl 0 rfl) ?_
  refine lv_aload_n hx hb dX5_readsPart_1 rfl (lv_at hl 0 rfl) ?_
  refine kV_Mi (As := []) (rest := [.ref (a 0)]) ⟨hx, hb, hml, hown, hts⟩ (ok_X5_sign l D cI cJ a _ _ _ hw) (cwV 0 hts gX5_readsPart_X5_sign rfl rfl rfl (by decide +kernel) ⟨Nat.le_of_ble_eq_true rfl, Nat.le_of_ble_eq_true rfl⟩) hK hW hA 0 rfl rfl rfl hl.1 rfl (Nat.le_of_ble_eq_true rfl) dX5_readsPart_2 ⟨Nat.le_of_ble_eq_true rfl, Nat.le_of_ble_eq_true rfl⟩ (fun r_1 _ H locs hw hW => ?_)
  refine pf_m_part hx hb hts hinX5 hown hK hW (hts _ (List.mem_of_getElem? (i := 1) rfl)) dX5_readsPart_5 (fun σ_2 eσ_2 H locs hW => ?_)
  have hw := hw σ_2 eσ_2
  refine lv_aload_n hx hb dX5_readsPart_8 rfl (lv_at hl 0 rfl) ?_
  refine lv_bipush (v := 111) hx hb dX5_readsPart_9 (by decide) ?_
  refine kV_Mi (As := [.int 111]) (rest := []) ⟨hx, hb, hml, hown, hts⟩ (ok_X5_takes l D cI cJ a _ _ _ _ hw) (cwV 1 hts gX5_readsPart_X5_takes rfl rfl rfl (by decide +kernel) ⟨Nat.le_of_ble_eq_true rfl, Nat.le_of_ble_eq_true rfl⟩) hK hW hA 0 rfl rfl rfl hl.1 rfl (Nat.le_of_ble_eq_true rfl) dX5_readsPart_11 ⟨Nat.le_of_ble_eq_true rfl, Nat.le_of_ble_eq_true rfl⟩ (fun r_3 σ_4 H locs hw hW => ?_)
  refine lv_if_ne (tgt := 26) hx hb dX5_readsPart_14 (by decide) (fun hc => ?_) (fun hc => ?_)
  · have hw := hw.1 hc
    refine lv_iconst (v := 1) hx hb dX5_readsPart_26 (by decide) ?_
    exact hret _ σ_4 _ _ _ _ (by decide) hw hW dX5_readsPart_27
  · have hw := hw.2 hc
    refine lv_aload_n hx hb dX5_readsPart_17 rfl (lv_at hl 0 rfl) ?_
    refine lv_bipush (v := 110) hx hb dX5_readsPart_18 (by decide) ?_
    refine kV_Mi (As := [.int 110]) (rest := []) ⟨hx, hb, hml, hown, hts⟩ (ok_X5_takes l D cI cJ a _ _ _ _ hw) (cwV 1 hts gX5_readsPart_X5_takes rfl rfl rfl (by decide +kernel) ⟨Nat.le_of_ble_eq_true rfl, Nat.le_of_ble_eq_true rfl⟩) hK hW hA 0 rfl rfl rfl hl.1 rfl (Nat.le_of_ble_eq_true rfl) dX5_readsPart_20 ⟨Nat.le_of_ble_eq_true rfl, Nat.le_of_ble_eq_true rfl⟩ (fun r_5 σ_6 H locs hw hW => ?_)
    refine lv_if_eq (tgt := 28) hx hb dX5_readsPart_23 (by decide) (fun hc => ?_) (fun hc => ?_)
    · have hw := hw.1 hc
      refine lv_aload_n hx hb dX5_readsPart_28 rfl (lv_at hl 0 rfl) ?_
      refine lv_bipush (v := 104) hx hb dX5_readsPart_29 (by decide) ?_
      refine kV_Mi (As := [.int 104]) (rest := []) ⟨hx, hb, hml, hown, hts⟩ (ok_X5_takes l D cI cJ a _ _ _ _ hw) (cwV 1 hts gX5_readsPart_X5_takes rfl rfl rfl (by decide +kernel) ⟨Nat.le_of_ble_eq_true rfl, Nat.le_of_ble_eq_true rfl⟩) hK hW hA 0 rfl rfl rfl hl.1 rfl (Nat.le_of_ble_eq_true rfl) dX5_readsPart_31 ⟨Nat.le_of_ble_eq_true rfl, Nat.le_of_ble_eq_true rfl⟩ (fun r_7 σ_8 H locs hw hW => ?_)
      refine lv_if_eq (tgt := 61) hx hb dX5_readsPart_34 (by decide) (fun hc => ?_) (fun hc => ?_)
      · have hw := hw.1 hc
        refine lv_aload_n hx hb dX5_readsPart_61 rfl (lv_at hl 0 rfl) ?_
        refine lv_bipush (v := 102) hx hb dX5_readsPart_62 (by decide) ?_
        refine kV_Mi (As := [.int 102]) (rest := []) ⟨hx, hb, hml, hown, hts⟩ (ok_X5_takes l D cI cJ a _ _ _ _ hw) (cwV 1 hts gX5_readsPart_X5_takes rfl rfl rfl (by decide +kernel) ⟨Nat.le_of_ble_eq_true rfl, Nat.le_of_ble_eq_true rfl⟩) hK hW hA 0 rfl rfl rfl hl.1 rfl (Nat.le_of_ble_eq_true rfl) dX5_readsPart_64 ⟨Nat.le_of_ble_eq_true rfl, Nat.le_of_ble_eq_true rfl⟩ (fun r_9 σ_10 H locs hw hW => ?_)
        refine lv_if_eq (tgt := 94) hx hb dX5_readsPart_67 (by decide) (fun hc => ?_) (fun hc => ?_)
        · have hw := hw.1 hc
          refine lv_aload_n hx hb dX5_readsPart_94 rfl (lv_at hl 0 rfl) ?_
          refine lv_aload_n hx hb dX5_readsPart_95 rfl (lv_at hl 0 rfl) ?_
          refine lv_bipush (v := 98) hx hb dX5_readsPart_96 (by decide) ?_
          refine kV_Mi (As := [.int 98]) (rest := [.ref (a 0)]) ⟨hx, hb, hml, hown, hts⟩ (ok_X5_takes l D cI cJ a _ _ _ _ hw) (cwV 1 hts gX5_readsPart_X5_takes rfl rfl rfl (by decide +kernel) ⟨Nat.le_of_ble_eq_true rfl, Nat.le_of_ble_eq_true rfl⟩) hK hW hA 0 rfl rfl rfl hl.1 rfl (Nat.le_of_ble_eq_true rfl) dX5_readsPart_98 ⟨Nat.le_of_ble_eq_true rfl, Nat.le_of_ble_eq_true rfl⟩ (fun r_11 σ_12 H locs hw hW => ?_)
          refine lv_if_ne (tgt := 113) hx hb dX5_readsPart_101 (by decide) (fun hc => ?_) (fun hc => ?_)
          · have hw := hw.1 hc
            refine lv_aload_n hx hb dX5_readsPart_113 rfl (lv_at hl 0 rfl) ?_
            refine lv_iconst (v := 0) hx hb dX5_readsPart_114 (by decide) ?_
            refine lv_iconst (v := 5) hx hb dX5_readsPart_115 (by decide) ?_
            refine kV_Mi (As := [.int 0, .int 5]) (rest := [.ref (a 0)]) ⟨hx, hb, hml, hown, hts⟩ (ok_X5_figure l D cI cJ a _ _ _ _ _ hw) (cwV 2 hts gX5_readsPart_X5_figure rfl rfl rfl (by decide +kernel) ⟨Nat.le_of_ble_eq_true rfl, Nat.le_of_ble_eq_true rfl⟩) hK hW hA 0 rfl rfl rfl hl.1 rfl (Nat.le_of_ble_eq_true rfl) dX5_readsPart_116 ⟨Nat.le_of_ble_eq_true rfl, Nat.le_of_ble_eq_true rfl⟩ (fun r_13 σ_14 H locs hw hW => ?_)
            refine lv_goto (tgt := 123) hx hb dX5_readsPart_119 (by decide) ?_
            refine pf_m_first hx hb hts hinX5 hown hK hW (hts _ (List.mem_of_getElem? (i := 2) rfl)) dX5_readsPart_123 (fun σ_15 eσ_15 H locs hW => ?_)
            have hw := hw σ_15 eσ_15
            refine lv_aload_n hx hb dX5_readsPart_126 rfl (lv_at hl 0 rfl) ?_
            refine lv_aload_n hx hb dX5_readsPart_127 rfl (lv_at hl 0 rfl) ?_
            refine va_get (D := D) (ci := 5) (v := .int (m_first σ_15)) (C := RX5) (T := TX5) (N := 18) hx hb hts hinX5 hown hK hW.1 0 rfl rfl 8 (by decide) (hts _ (List.mem_of_getElem? (i := 2) rfl)) (fun _ h9 => h9) rfl dX5_readsPart_128 ?_
            refine lv_iconst (v := (-1)) hx hb dX5_readsPart_131 (by decide) ?_
            refine lv_icmp_ne (tgt := 139) hx hb dX5_readsPart_132 (by decide) (fun hc => ?_) (fun hc => ?_)
            · have hw := hw.1 hc
              refine lv_aload_n hx hb dX5_readsPart_139 rfl (lv_at hl 0 rfl) ?_
              refine lv_iconst (v := 0) hx hb dX5_readsPart_140 (by decide) ?_
              refine lv_iconst (v := 5) hx hb dX5_readsPart_141 (by decide) ?_
              refine kV_Mi (As := [.int 0, .int 5]) (rest := [.ref (a 0)]) ⟨hx, hb, hml, hown, hts⟩ (ok_X5_figure l D cI cJ a _ _ _ _ _ hw) (cwV 2 hts gX5_readsPart_X5_figure rfl rfl rfl (by decide +kernel) ⟨Nat.le_of_ble_eq_true rfl, Nat.le_of_ble_eq_true rfl⟩) hK hW hA 0 rfl rfl rfl hl.1 rfl (Nat.le_of_ble_eq_true rfl) dX5_readsPart_142 ⟨Nat.le_of_ble_eq_true rfl, Nat.le_of_ble_eq_true rfl⟩ (fun r_16 σ_17 H locs hw hW => ?_)
              refine pf_m_second hx hb hts hinX5 hown hK hW (hts _ (List.mem_of_getElem? (i := 3) rfl)) dX5_readsPart_145 (fun σ_18 eσ_18 H locs hW => ?_)
              have hw := hw σ_18 eσ_18
              refine lv_aload_n hx hb dX5_readsPart_148 rfl (lv_at hl 0 rfl) ?_
              refine lv_aload_n hx hb dX5_readsPart_149 rfl (lv_at hl 0 rfl) ?_
              refine va_get (D := D) (ci := 5) (v := .int (m_second σ_18)) (C := RX5) (T := TX5) (N := 18) hx hb hts hinX5 hown hK hW.1 0 rfl rfl 9 (by decide) (hts _ (List.mem_of_getElem? (i := 3) rfl)) (fun _ h9 => h9) rfl dX5_readsPart_150 ?_
              refine lv_iconst (v := (-1)) hx hb dX5_readsPart_153 (by decide) ?_
              refine lv_icmp_eq (tgt := 175) hx hb dX5_readsPart_154 (by decide) (fun hc => ?_) (fun hc => ?_)
              · have hw := hw.1 hc
                refine lv_aload_n hx hb dX5_readsPart_175 rfl (lv_at hl 0 rfl) ?_
                refine va_get (D := D) (ci := 5) (v := .int (m_second σ_18)) (C := RX5) (T := TX5) (N := 18) hx hb hts hinX5 hown hK hW.1 0 rfl rfl 9 (by decide) (hts _ (List.mem_of_getElem? (i := 3) rfl)) (fun _ h9 => h9) rfl dX5_readsPart_176 ?_
                refine pf_m_third hx hb hts hinX5 hown hK hW (hts _ (List.mem_of_getElem? (i := 4) rfl)) dX5_readsPart_179 (fun σ_19 eσ_19 H locs hW => ?_)
                have hw := hw σ_19 eσ_19
                refine lv_aload_n hx hb dX5_readsPart_182 rfl (lv_at hl 0 rfl) ?_
                refine va_get (D := D) (ci := 5) (v := .int (m_third σ_19)) (C := RX5) (T := TX5) (N := 18) hx hb hts hinX5 hown hK hW.1 0 rfl rfl 10 (by decide) (hts _ (List.mem_of_getElem? (i := 4) rfl)) (fun _ h9 => h9) rfl dX5_readsPart_183 ?_
                refine lv_iconst (v := (-1)) hx hb dX5_readsPart_186 (by decide) ?_
                refine lv_icmp_eq (tgt := 194) hx hb dX5_readsPart_187 (by decide) (fun hc => ?_) (fun hc => ?_)
                · have hw := hw.1 hc
                  refine lv_iconst (v := 0) hx hb dX5_readsPart_194 (by decide) ?_
                  exact hret _ σ_19 _ _ _ _ (by decide) hw hW dX5_readsPart_195
                · have hw := hw.2 hc
                  refine lv_iconst (v := 1) hx hb dX5_readsPart_190 (by decide) ?_
                  refine lv_goto (tgt := 195) hx hb dX5_readsPart_191 (by decide) ?_
                  exact hret _ σ_19 _ _ _ _ (by decide) hw hW dX5_readsPart_195
              · have hw := hw.2 hc
                refine lv_aload_n hx hb dX5_readsPart_157 rfl (lv_at hl 0 rfl) ?_
                refine va_get (D := D) (ci := 5) (v := .int (m_part σ_18)) (C := RX5) (T := TX5) (N := 18) hx hb hts hinX5 hown hK hW.1 0 rfl rfl 7 (by decide) (hts _ (List.mem_of_getElem? (i := 1) rfl)) (fun _ h9 => h9) rfl dX5_readsPart_158 ?_
                refine lv_bipush (v := 98) hx hb dX5_readsPart_161 (by decide) ?_
                refine lv_icmp_ne (tgt := 175) hx hb dX5_readsPart_163 (by decide) (fun hc => ?_) (fun hc => ?_)
                · have hw := hw.1 hc
                  refine lv_aload_n hx hb dX5_readsPart_175 rfl (lv_at hl 0 rfl) ?_
                  refine va_get (D := D) (ci := 5) (v := .int (m_second σ_18)) (C := RX5) (T := TX5) (N := 18) hx hb hts hinX5 hown hK hW.1 0 rfl rfl 9 (by decide) (hts _ (List.mem_of_getElem? (i := 3) rfl)) (fun _ h9 => h9) rfl dX5_readsPart_176 ?_
                  refine pf_m_third hx hb hts hinX5 hown hK hW (hts _ (List.mem_of_getElem? (i := 4) rfl)) dX5_readsPart_179 (fun σ_20 eσ_20 H locs hW => ?_)
                  have hw := hw σ_20 eσ_20
                  refine lv_aload_n hx hb dX5_readsPart_182 rfl (lv_at hl 0 rfl) ?_
                  refine va_get (D := D) (ci := 5) (v := .int (m_third σ_20)) (C := RX5) (T := TX5) (N := 18) hx hb hts hinX5 hown hK hW.1 0 rfl rfl 10 (by decide) (hts _ (List.mem_of_getElem? (i := 4) rfl)) (fun _ h9 => h9) rfl dX5_readsPart_183 ?_
                  refine lv_iconst (v := (-1)) hx hb dX5_readsPart_186 (by decide) ?_
                  refine lv_icmp_eq (tgt := 194) hx hb dX5_readsPart_187 (by decide) (fun hc => ?_) (fun hc => ?_)
                  · have hw := hw.1 hc
                    refine lv_iconst (v := 0) hx hb dX5_readsPart_194 (by decide) ?_
                    exact hret _ σ_20 _ _ _ _ (by decide) hw hW dX5_readsPart_195
                  · have hw := hw.2 hc
                    refine lv_iconst (v := 1) hx hb dX5_readsPart_190 (by decide) ?_
                    refine lv_goto (tgt := 195) hx hb dX5_readsPart_191 (by decide) ?_
                    exact hret _ σ_20 _ _ _ _ (by decide) hw hW dX5_readsPart_195
                · have hw := hw.2 hc
                  refine lv_aload_n hx hb dX5_readsPart_166 rfl (lv_at hl 0 rfl) ?_
                  refine lv_bipush (v := 99) hx hb dX5_readsPart_167 (by decide) ?_
                  refine kV_Mi (As := [.int 99]) (rest := [.ref (a 0)]) ⟨hx, hb, hml, hown, hts⟩ (ok_X5_readsNumber l D cI cJ a _ _ _ _ hw) (cwV 1 hts gX5_readsPart_X5_readsNumber rfl rfl rfl (by decide +kernel) ⟨Nat.le_of_ble_eq_true rfl, Nat.le_of_ble_eq_true rfl⟩) hK hW hA 0 rfl rfl rfl hl.1 rfl (Nat.le_of_ble_eq_true rfl) dX5_readsPart_169 ⟨Nat.le_of_ble_eq_true rfl, Nat.le_of_ble_eq_true rfl⟩ (fun r_21 σ_22 H locs hw hW => ?_)
                  refine lv_goto (tgt := 179) hx hb dX5_readsPart_172 (by decide) ?_
                  refine pf_m_third hx hb hts hinX5 hown hK hW (hts _ (List.mem_of_getElem? (i := 4) rfl)) dX5_readsPart_179 (fun σ_23 eσ_23 H locs hW => ?_)
                  have hw := hw σ_23 eσ_23
                  refine lv_aload_n hx hb dX5_readsPart_182 rfl (lv_at hl 0 rfl) ?_
                  refine va_get (D := D) (ci := 5) (v := .int (m_third σ_23)) (C := RX5) (T := TX5) (N := 18) hx hb hts hinX5 hown hK hW.1 0 rfl rfl 10 (by decide) (hts _ (List.mem_of_getElem? (i := 4) rfl)) (fun _ h9 => h9) rfl dX5_readsPart_183 ?_
                  refine lv_iconst (v := (-1)) hx hb dX5_readsPart_186 (by decide) ?_
                  refine lv_icmp_eq (tgt := 194) hx hb dX5_readsPart_187 (by decide) (fun hc => ?_) (fun hc => ?_)
                  · have hw := hw.1 hc
                    refine lv_iconst (v := 0) hx hb dX5_readsPart_194 (by decide) ?_
                    exact hret _ σ_23 _ _ _ _ (by decide) hw hW dX5_readsPart_195
                  · have hw := hw.2 hc
                    refine lv_iconst (v := 1) hx hb dX5_readsPart_190 (by decide) ?_
                    refine lv_goto (tgt := 195) hx hb dX5_readsPart_191 (by decide) ?_
                    exact hret _ σ_23 _ _ _ _ (by decide) hw hW dX5_readsPart_195
            · have hw := hw.2 hc
              refine lv_iconst (v := (-1)) hx hb dX5_readsPart_135 (by decide) ?_
              refine lv_goto (tgt := 145) hx hb dX5_readsPart_136 (by decide) ?_
              refine pf_m_second hx hb hts hinX5 hown hK hW (hts _ (List.mem_of_getElem? (i := 3) rfl)) dX5_readsPart_145 (fun σ_24 eσ_24 H locs hW => ?_)
              have hw := hw σ_24 eσ_24
              refine lv_aload_n hx hb dX5_readsPart_148 rfl (lv_at hl 0 rfl) ?_
              refine lv_aload_n hx hb dX5_readsPart_149 rfl (lv_at hl 0 rfl) ?_
              refine va_get (D := D) (ci := 5) (v := .int (m_second σ_24)) (C := RX5) (T := TX5) (N := 18) hx hb hts hinX5 hown hK hW.1 0 rfl rfl 9 (by decide) (hts _ (List.mem_of_getElem? (i := 3) rfl)) (fun _ h9 => h9) rfl dX5_readsPart_150 ?_
              refine lv_iconst (v := (-1)) hx hb dX5_readsPart_153 (by decide) ?_
              refine lv_icmp_eq (tgt := 175) hx hb dX5_readsPart_154 (by decide) (fun hc => ?_) (fun hc => ?_)
              · have hw := hw.1 hc
                refine lv_aload_n hx hb dX5_readsPart_175 rfl (lv_at hl 0 rfl) ?_
                refine va_get (D := D) (ci := 5) (v := .int (m_second σ_24)) (C := RX5) (T := TX5) (N := 18) hx hb hts hinX5 hown hK hW.1 0 rfl rfl 9 (by decide) (hts _ (List.mem_of_getElem? (i := 3) rfl)) (fun _ h9 => h9) rfl dX5_readsPart_176 ?_
                refine pf_m_third hx hb hts hinX5 hown hK hW (hts _ (List.mem_of_getElem? (i := 4) rfl)) dX5_readsPart_179 (fun σ_25 eσ_25 H locs hW => ?_)
                have hw := hw σ_25 eσ_25
                refine lv_aload_n hx hb dX5_readsPart_182 rfl (lv_at hl 0 rfl) ?_
                refine va_get (D := D) (ci := 5) (v := .int (m_third σ_25)) (C := RX5) (T := TX5) (N := 18) hx hb hts hinX5 hown hK hW.1 0 rfl rfl 10 (by decide) (hts _ (List.mem_of_getElem? (i := 4) rfl)) (fun _ h9 => h9) rfl dX5_readsPart_183 ?_
                refine lv_iconst (v := (-1)) hx hb dX5_readsPart_186 (by decide) ?_
                refine lv_icmp_eq (tgt := 194) hx hb dX5_readsPart_187 (by decide) (fun hc => ?_) (fun hc => ?_)
                · have hw := hw.1 hc
                  refine lv_iconst (v := 0) hx hb dX5_readsPart_194 (by decide) ?_
                  exact hret _ σ_25 _ _ _ _ (by decide) hw hW dX5_readsPart_195
                · have hw := hw.2 hc
                  refine lv_iconst (v := 1) hx hb dX5_readsPart_190 (by decide) ?_
                  refine lv_goto (tgt := 195) hx hb dX5_readsPart_191 (by decide) ?_
                  exact hret _ σ_25 _ _ _ _ (by decide) hw hW dX5_readsPart_195
              · have hw := hw.2 hc
                refine lv_aload_n hx hb dX5_readsPart_157 rfl (lv_at hl 0 rfl) ?_
                refine va_get (D := D) (ci := 5) (v := .int (m_part σ_24)) (C := RX5) (T := TX5) (N := 18) hx hb hts hinX5 hown hK hW.1 0 rfl rfl 7 (by decide) (hts _ (List.mem_of_getElem? (i := 1) rfl)) (fun _ h9 => h9) rfl dX5_readsPart_158 ?_
                refine lv_bipush (v := 98) hx hb dX5_readsPart_161 (by decide) ?_
                refine lv_icmp_ne (tgt := 175) hx hb dX5_readsPart_163 (by decide) (fun hc => ?_) (fun hc => ?_)
                · have hw := hw.1 hc
                  refine lv_aload_n hx hb dX5_readsPart_175 rfl (lv_at hl 0 rfl) ?_
                  refine va_get (D := D) (ci := 5) (v := .int (m_second σ_24)) (C := RX5) (T := TX5) (N := 18) hx hb hts hinX5 hown hK hW.1 0 rfl rfl 9 (by decide) (hts _ (List.mem_of_getElem? (i := 3) rfl)) (fun _ h9 => h9) rfl dX5_readsPart_176 ?_
                  refine pf_m_third hx hb hts hinX5 hown hK hW (hts _ (List.mem_of_getElem? (i := 4) rfl)) dX5_readsPart_179 (fun σ_26 eσ_26 H locs hW => ?_)
                  have hw := hw σ_26 eσ_26
                  refine lv_aload_n hx hb dX5_readsPart_182 rfl (lv_at hl 0 rfl) ?_
                  refine va_get (D := D) (ci := 5) (v := .int (m_third σ_26)) (C := RX5) (T := TX5) (N := 18) hx hb hts hinX5 hown hK hW.1 0 rfl rfl 10 (by decide) (hts _ (List.mem_of_getElem? (i := 4) rfl)) (fun _ h9 => h9) rfl dX5_readsPart_183 ?_
                  refine lv_iconst (v := (-1)) hx hb dX5_readsPart_186 (by decide) ?_
                  refine lv_icmp_eq (tgt := 194) hx hb dX5_readsPart_187 (by decide) (fun hc => ?_) (fun hc => ?_)
                  · have hw := hw.1 hc
                    refine lv_iconst (v := 0) hx hb dX5_readsPart_194 (by decide) ?_
                    exact hret _ σ_26 _ _ _ _ (by decide) hw hW dX5_readsPart_195
                  · have hw := hw.2 hc
                    refine lv_iconst (v := 1) hx hb dX5_readsPart_190 (by decide) ?_
                    refine lv_goto (tgt := 195) hx hb dX5_readsPart_191 (by decide) ?_
                    exact hret _ σ_26 _ _ _ _ (by decide) hw hW dX5_readsPart_195
                · have hw := hw.2 hc
                  refine lv_aload_n hx hb dX5_readsPart_166 rfl (lv_at hl 0 rfl) ?_
                  refine lv_bipush (v := 99) hx hb dX5_readsPart_167 (by decide) ?_
                  refine kV_Mi (As := [.int 99]) (rest := [.ref (a 0)]) ⟨hx, hb, hml, hown, hts⟩ (ok_X5_readsNumber l D cI cJ a _ _ _ _ hw) (cwV 1 hts gX5_readsPart_X5_readsNumber rfl rfl rfl (by decide +kernel) ⟨Nat.le_of_ble_eq_true rfl, Nat.le_of_ble_eq_true rfl⟩) hK hW hA 0 rfl rfl rfl hl.1 rfl (Nat.le_of_ble_eq_true rfl) dX5_readsPart_169 ⟨Nat.le_of_ble_eq_true rfl, Nat.le_of_ble_eq_true rfl⟩ (fun r_27 σ_28 H locs hw hW => ?_)
                  refine lv_goto (tgt := 179) hx hb dX5_readsPart_172 (by decide) ?_
                  refine pf_m_third hx hb hts hinX5 hown hK hW (hts _ (List.mem_of_getElem? (i := 4) rfl)) dX5_readsPart_179 (fun σ_29 eσ_29 H locs hW => ?_)
                  have hw := hw σ_29 eσ_29
                  refine lv_aload_n hx hb dX5_readsPart_182 rfl (lv_at hl 0 rfl) ?_
                  refine va_get (D := D) (ci := 5) (v := .int (m_third σ_29)) (C := RX5) (T := TX5) (N := 18) hx hb hts hinX5 hown hK hW.1 0 rfl rfl 10 (by decide) (hts _ (List.mem_of_getElem? (i := 4) rfl)) (fun _ h9 => h9) rfl dX5_readsPart_183 ?_
                  refine lv_iconst (v := (-1)) hx hb dX5_readsPart_186 (by decide) ?_
                  refine lv_icmp_eq (tgt := 194) hx hb dX5_readsPart_187 (by decide) (fun hc => ?_) (fun hc => ?_)
                  · have hw := hw.1 hc
                    refine lv_iconst (v := 0) hx hb dX5_readsPart_194 (by decide) ?_
                    exact hret _ σ_29 _ _ _ _ (by decide) hw hW dX5_readsPart_195
                  · have hw := hw.2 hc
                    refine lv_iconst (v := 1) hx hb dX5_readsPart_190 (by decide) ?_
                    refine lv_goto (tgt := 195) hx hb dX5_readsPart_191 (by decide) ?_
                    exact hret _ σ_29 _ _ _ _ (by decide) hw hW dX5_readsPart_195
          · have hw := hw.2 hc
            refine lv_aload_n hx hb dX5_readsPart_104 rfl (lv_at hl 0 rfl) ?_
            refine lv_bipush (v := 119) hx hb dX5_readsPart_105 (by decide) ?_
            refine kV_Mi (As := [.int 119]) (rest := [.ref (a 0)]) ⟨hx, hb, hml, hown, hts⟩ (ok_X5_takes l D cI cJ a _ _ _ _ hw) (cwV 1 hts gX5_readsPart_X5_takes rfl rfl rfl (by decide +kernel) ⟨Nat.le_of_ble_eq_true rfl, Nat.le_of_ble_eq_true rfl⟩) hK hW hA 0 rfl rfl rfl hl.1 rfl (Nat.le_of_ble_eq_true rfl) dX5_readsPart_107 ⟨Nat.le_of_ble_eq_true rfl, Nat.le_of_ble_eq_true rfl⟩ (fun r_30 σ_31 H locs hw hW => ?_)
            refine lv_if_eq (tgt := 122) hx hb dX5_readsPart_110 (by decide) (fun hc => ?_) (fun hc => ?_)
            · have hw := hw.1 hc
              refine lv_iconst (v := (-1)) hx hb dX5_readsPart_122 (by decide) ?_
              refine pf_m_first hx hb hts hinX5 hown hK hW (hts _ (List.mem_of_getElem? (i := 2) rfl)) dX5_readsPart_123 (fun σ_32 eσ_32 H locs hW => ?_)
              have hw := hw σ_32 eσ_32
              refine lv_aload_n hx hb dX5_readsPart_126 rfl (lv_at hl 0 rfl) ?_
              refine lv_aload_n hx hb dX5_readsPart_127 rfl (lv_at hl 0 rfl) ?_
              refine va_get (D := D) (ci := 5) (v := .int (m_first σ_32)) (C := RX5) (T := TX5) (N := 18) hx hb hts hinX5 hown hK hW.1 0 rfl rfl 8 (by decide) (hts _ (List.mem_of_getElem? (i := 2) rfl)) (fun _ h9 => h9) rfl dX5_readsPart_128 ?_
              refine lv_iconst (v := (-1)) hx hb dX5_readsPart_131 (by decide) ?_
              refine lv_icmp_ne (tgt := 139) hx hb dX5_readsPart_132 (by decide) (fun hc => ?_) (fun hc => ?_)
              · have hw := hw.1 hc
                refine lv_aload_n hx hb dX5_readsPart_139 rfl (lv_at hl 0 rfl) ?_
                refine lv_iconst (v := 0) hx hb dX5_readsPart_140 (by decide) ?_
                refine lv_iconst (v := 5) hx hb dX5_readsPart_141 (by decide) ?_
                refine kV_Mi (As := [.int 0, .int 5]) (rest := [.ref (a 0)]) ⟨hx, hb, hml, hown, hts⟩ (ok_X5_figure l D cI cJ a _ _ _ _ _ hw) (cwV 2 hts gX5_readsPart_X5_figure rfl rfl rfl (by decide +kernel) ⟨Nat.le_of_ble_eq_true rfl, Nat.le_of_ble_eq_true rfl⟩) hK hW hA 0 rfl rfl rfl hl.1 rfl (Nat.le_of_ble_eq_true rfl) dX5_readsPart_142 ⟨Nat.le_of_ble_eq_true rfl, Nat.le_of_ble_eq_true rfl⟩ (fun r_33 σ_34 H locs hw hW => ?_)
                refine pf_m_second hx hb hts hinX5 hown hK hW (hts _ (List.mem_of_getElem? (i := 3) rfl)) dX5_readsPart_145 (fun σ_35 eσ_35 H locs hW => ?_)
                have hw := hw σ_35 eσ_35
                refine lv_aload_n hx hb dX5_readsPart_148 rfl (lv_at hl 0 rfl) ?_
                refine lv_aload_n hx hb dX5_readsPart_149 rfl (lv_at hl 0 rfl) ?_
                refine va_get (D := D) (ci := 5) (v := .int (m_second σ_35)) (C := RX5) (T := TX5) (N := 18) hx hb hts hinX5 hown hK hW.1 0 rfl rfl 9 (by decide) (hts _ (List.mem_of_getElem? (i := 3) rfl)) (fun _ h9 => h9) rfl dX5_readsPart_150 ?_
                refine lv_iconst (v := (-1)) hx hb dX5_readsPart_153 (by decide) ?_
                refine lv_icmp_eq (tgt := 175) hx hb dX5_readsPart_154 (by decide) (fun hc => ?_) (fun hc => ?_)
                · have hw := hw.1 hc
                  refine lv_aload_n hx hb dX5_readsPart_175 rfl (lv_at hl 0 rfl) ?_
                  refine va_get (D := D) (ci := 5) (v := .int (m_second σ_35)) (C := RX5) (T := TX5) (N := 18) hx hb hts hinX5 hown hK hW.1 0 rfl rfl 9 (by decide) (hts _ (List.mem_of_getElem? (i := 3) rfl)) (fun _ h9 => h9) rfl dX5_readsPart_176 ?_
                  refine pf_m_third hx hb hts hinX5 hown hK hW (hts _ (List.mem_of_getElem? (i := 4) rfl)) dX5_readsPart_179 (fun σ_36 eσ_36 H locs hW => ?_)
                  have hw := hw σ_36 eσ_36
                  refine lv_aload_n hx hb dX5_readsPart_182 rfl (lv_at hl 0 rfl) ?_
                  refine va_get (D := D) (ci := 5) (v := .int (m_third σ_36)) (C := RX5) (T := TX5) (N := 18) hx hb hts hinX5 hown hK hW.1 0 rfl rfl 10 (by decide) (hts _ (List.mem_of_getElem? (i := 4) rfl)) (fun _ h9 => h9) rfl dX5_readsPart_183 ?_
                  refine lv_iconst (v := (-1)) hx hb dX5_readsPart_186 (by decide) ?_
                  refine lv_icmp_eq (tgt := 194) hx hb dX5_readsPart_187 (by decide) (fun hc => ?_) (fun hc => ?_)
                  · have hw := hw.1 hc
                    refine lv_iconst (v := 0) hx hb dX5_readsPart_194 (by decide) ?_
                    exact hret _ σ_36 _ _ _ _ (by decide) hw hW dX5_readsPart_195
                  · have hw := hw.2 hc
                    refine lv_iconst (v := 1) hx hb dX5_readsPart_190 (by decide) ?_
                    refine lv_goto (tgt := 195) hx hb dX5_readsPart_191 (by decide) ?_
                    exact hret _ σ_36 _ _ _ _ (by decide) hw hW dX5_readsPart_195
                · have hw := hw.2 hc
                  refine lv_aload_n hx hb dX5_readsPart_157 rfl (lv_at hl 0 rfl) ?_
                  refine va_get (D := D) (ci := 5) (v := .int (m_part σ_35)) (C := RX5) (T := TX5) (N := 18) hx hb hts hinX5 hown hK hW.1 0 rfl rfl 7 (by decide) (hts _ (List.mem_of_getElem? (i := 1) rfl)) (fun _ h9 => h9) rfl dX5_readsPart_158 ?_
                  refine lv_bipush (v := 98) hx hb dX5_readsPart_161 (by decide) ?_
                  refine lv_icmp_ne (tgt := 175) hx hb dX5_readsPart_163 (by decide) (fun hc => ?_) (fun hc => ?_)
                  · have hw := hw.1 hc
                    refine lv_aload_n hx hb dX5_readsPart_175 rfl (lv_at hl 0 rfl) ?_
                    refine va_get (D := D) (ci := 5) (v := .int (m_second σ_35)) (C := RX5) (T := TX5) (N := 18) hx hb hts hinX5 hown hK hW.1 0 rfl rfl 9 (by decide) (hts _ (List.mem_of_getElem? (i := 3) rfl)) (fun _ h9 => h9) rfl dX5_readsPart_176 ?_
                    refine pf_m_third hx hb hts hinX5 hown hK hW (hts _ (List.mem_of_getElem? (i := 4) rfl)) dX5_readsPart_179 (fun σ_37 eσ_37 H locs hW => ?_)
                    have hw := hw σ_37 eσ_37
                    refine lv_aload_n hx hb dX5_readsPart_182 rfl (lv_at hl 0 rfl) ?_
                    refine va_get (D := D) (ci := 5) (v := .int (m_third σ_37)) (C := RX5) (T := TX5) (N := 18) hx hb hts hinX5 hown hK hW.1 0 rfl rfl 10 (by decide) (hts _ (List.mem_of_getElem? (i := 4) rfl)) (fun _ h9 => h9) rfl dX5_readsPart_183 ?_
                    refine lv_iconst (v := (-1)) hx hb dX5_readsPart_186 (by decide) ?_
                    refine lv_icmp_eq (tgt := 194) hx hb dX5_readsPart_187 (by decide) (fun hc => ?_) (fun hc => ?_)
                    · have hw := hw.1 hc
                      refine lv_iconst (v := 0) hx hb dX5_readsPart_194 (by decide) ?_
                      exact hret _ σ_37 _ _ _ _ (by decide) hw hW dX5_readsPart_195
                    · have hw := hw.2 hc
                      refine lv_iconst (v := 1) hx hb dX5_readsPart_190 (by decide) ?_
                      refine lv_goto (tgt := 195) hx hb dX5_readsPart_191 (by decide) ?_
                      exact hret _ σ_37 _ _ _ _ (by decide) hw hW dX5_readsPart_195
                  · have hw := hw.2 hc
                    refine lv_aload_n hx hb dX5_readsPart_166 rfl (lv_at hl 0 rfl) ?_
                    refine lv_bipush (v := 99) hx hb dX5_readsPart_167 (by decide) ?_
                    refine kV_Mi (As := [.int 99]) (rest := [.ref (a 0)]) ⟨hx, hb, hml, hown, hts⟩ (ok_X5_readsNumber l D cI cJ a _ _ _ _ hw) (cwV 1 hts gX5_readsPart_X5_readsNumber rfl rfl rfl (by decide +kernel) ⟨Nat.le_of_ble_eq_true rfl, Nat.le_of_ble_eq_true rfl⟩) hK hW hA 0 rfl rfl rfl hl.1 rfl (Nat.le_of_ble_eq_true rfl) dX5_readsPart_169 ⟨Nat.le_of_ble_eq_true rfl, Nat.le_of_ble_eq_true rfl⟩ (fun r_38 σ_39 H locs hw hW => ?_)
                    refine lv_goto (tgt := 179) hx hb dX5_readsPart_172 (by decide) ?_
                    refine pf_m_third hx hb hts hinX5 hown hK hW (hts _ (List.mem_of_getElem? (i := 4) rfl)) dX5_readsPart_179 (fun σ_40 eσ_40 H locs hW => ?_)
                    have hw := hw σ_40 eσ_40
                    refine lv_aload_n hx hb dX5_readsPart_182 rfl (lv_at hl 0 rfl) ?_
                    refine va_get (D := D) (ci := 5) (v := .int (m_third σ_40)) (C := RX5) (T := TX5) (N := 18) hx hb hts hinX5 hown hK hW.1 0 rfl rfl 10 (by decide) (hts _ (List.mem_of_getElem? (i := 4) rfl)) (fun _ h9 => h9) rfl dX5_readsPart_183 ?_
                    refine lv_iconst (v := (-1)) hx hb dX5_readsPart_186 (by decide) ?_
                    refine lv_icmp_eq (tgt := 194) hx hb dX5_readsPart_187 (by decide) (fun hc => ?_) (fun hc => ?_)
                    · have hw := hw.1 hc
                      refine lv_iconst (v := 0) hx hb dX5_readsPart_194 (by decide) ?_
                      exact hret _ σ_40 _ _ _ _ (by decide) hw hW dX5_readsPart_195
                    · have hw := hw.2 hc
                      refine lv_iconst (v := 1) hx hb dX5_readsPart_190 (by decide) ?_
                      refine lv_goto (tgt := 195) hx hb dX5_readsPart_191 (by decide) ?_
                      exact hret _ σ_40 _ _ _ _ (by decide) hw hW dX5_readsPart_195
              · have hw := hw.2 hc
                refine lv_iconst (v := (-1)) hx hb dX5_readsPart_135 (by decide) ?_
                refine lv_goto (tgt := 145) hx hb dX5_readsPart_136 (by decide) ?_
                refine pf_m_second hx hb hts hinX5 hown hK hW (hts _ (List.mem_of_getElem? (i := 3) rfl)) dX5_readsPart_145 (fun σ_41 eσ_41 H locs hW => ?_)
                have hw := hw σ_41 eσ_41
                refine lv_aload_n hx hb dX5_readsPart_148 rfl (lv_at hl 0 rfl) ?_
                refine lv_aload_n hx hb dX5_readsPart_149 rfl (lv_at hl 0 rfl) ?_
                refine va_get (D := D) (ci := 5) (v := .int (m_second σ_41)) (C := RX5) (T := TX5) (N := 18) hx hb hts hinX5 hown hK hW.1 0 rfl rfl 9 (by decide) (hts _ (List.mem_of_getElem? (i := 3) rfl)) (fun _ h9 => h9) rfl dX5_readsPart_150 ?_
                refine lv_iconst (v := (-1)) hx hb dX5_readsPart_153 (by decide) ?_
                refine lv_icmp_eq (tgt := 175) hx hb dX5_readsPart_154 (by decide) (fun hc => ?_) (fun hc => ?_)
                · have hw := hw.1 hc
                  refine lv_aload_n hx hb dX5_readsPart_175 rfl (lv_at hl 0 rfl) ?_
                  refine va_get (D := D) (ci := 5) (v := .int (m_second σ_41)) (C := RX5) (T := TX5) (N := 18) hx hb hts hinX5 hown hK hW.1 0 rfl rfl 9 (by decide) (hts _ (List.mem_of_getElem? (i := 3) rfl)) (fun _ h9 => h9) rfl dX5_readsPart_176 ?_
                  refine pf_m_third hx hb hts hinX5 hown hK hW (hts _ (List.mem_of_getElem? (i := 4) rfl)) dX5_readsPart_179 (fun σ_42 eσ_42 H locs hW => ?_)
                  have hw := hw σ_42 eσ_42
                  refine lv_aload_n hx hb dX5_readsPart_182 rfl (lv_at hl 0 rfl) ?_
                  refine va_get (D := D) (ci := 5) (v := .int (m_third σ_42)) (C := RX5) (T := TX5) (N := 18) hx hb hts hinX5 hown hK hW.1 0 rfl rfl 10 (by decide) (hts _ (List.mem_of_getElem? (i := 4) rfl)) (fun _ h9 => h9) rfl dX5_readsPart_183 ?_
                  refine lv_iconst (v := (-1)) hx hb dX5_readsPart_186 (by decide) ?_
                  refine lv_icmp_eq (tgt := 194) hx hb dX5_readsPart_187 (by decide) (fun hc => ?_) (fun hc => ?_)
                  · have hw := hw.1 hc
                    refine lv_iconst (v := 0) hx hb dX5_readsPart_194 (by decide) ?_
                    exact hret _ σ_42 _ _ _ _ (by decide) hw hW dX5_readsPart_195
                  · have hw := hw.2 hc
                    refine lv_iconst (v := 1) hx hb dX5_readsPart_190 (by decide) ?_
                    refine lv_goto (tgt := 195) hx hb dX5_readsPart_191 (by decide) ?_
                    exact hret _ σ_42 _ _ _ _ (by decide) hw hW dX5_readsPart_195
                · have hw := hw.2 hc
                  refine lv_aload_n hx hb dX5_readsPart_157 rfl (lv_at hl 0 rfl) ?_
                  refine va_get (D := D) (ci := 5) (v := .int (m_part σ_41)) (C := RX5) (T := TX5) (N := 18) hx hb hts hinX5 hown hK hW.1 0 rfl rfl 7 (by decide) (hts _ (List.mem_of_getElem? (i := 1) rfl)) (fun _ h9 => h9) rfl dX5_readsPart_158 ?_
                  refine lv_bipush (v := 98) hx hb dX5_readsPart_161 (by decide) ?_
                  refine lv_icmp_ne (tgt := 175) hx hb dX5_readsPart_163 (by decide) (fun hc => ?_) (fun hc => ?_)
                  · have hw := hw.1 hc
                    refine lv_aload_n hx hb dX5_readsPart_175 rfl (lv_at hl 0 rfl) ?_
                    refine va_get (D := D) (ci := 5) (v := .int (m_second σ_41)) (C := RX5) (T := TX5) (N := 18) hx hb hts hinX5 hown hK hW.1 0 rfl rfl 9 (by decide) (hts _ (List.mem_of_getElem? (i := 3) rfl)) (fun _ h9 => h9) rfl dX5_readsPart_176 ?_
                    refine pf_m_third hx hb hts hinX5 hown hK hW (hts _ (List.mem_of_getElem? (i := 4) rfl)) dX5_readsPart_179 (fun σ_43 eσ_43 H locs hW => ?_)
                    have hw := hw σ_43 eσ_43
                    refine lv_aload_n hx hb dX5_readsPart_182 rfl (lv_at hl 0 rfl) ?_
                    refine va_get (D := D) (ci := 5) (v := .int (m_third σ_43)) (C := RX5) (T := TX5) (N := 18) hx hb hts hinX5 hown hK hW.1 0 rfl rfl 10 (by decide) (hts _ (List.mem_of_getElem? (i := 4) rfl)) (fun _ h9 => h9) rfl dX5_readsPart_183 ?_
                    refine lv_iconst (v := (-1)) hx hb dX5_readsPart_186 (by decide) ?_
                    refine lv_icmp_eq (tgt := 194) hx hb dX5_readsPart_187 (by decide) (fun hc => ?_) (fun hc => ?_)
                    · have hw := hw.1 hc
                      refine lv_iconst (v := 0) hx hb dX5_readsPart_194 (by decide) ?_
                      exact hret _ σ_43 _ _ _ _ (by decide) hw hW dX5_readsPart_195
                    · have hw := hw.2 hc
                      refine lv_iconst (v := 1) hx hb dX5_readsPart_190 (by decide) ?_
                      refine lv_goto (tgt := 195) hx hb dX5_readsPart_191 (by decide) ?_
                      exact hret _ σ_43 _ _ _ _ (by decide) hw hW dX5_readsPart_195
                  · have hw := hw.2 hc
                    refine lv_aload_n hx hb dX5_readsPart_166 rfl (lv_at hl 0 rfl) ?_
                    refine lv_bipush (v := 99) hx hb dX5_readsPart_167 (by decide) ?_
                    refine kV_Mi (As := [.int 99]) (rest := [.ref (a 0)]) ⟨hx, hb, hml, hown, hts⟩ (ok_X5_readsNumber l D cI cJ a _ _ _ _ hw) (cwV 1 hts gX5_readsPart_X5_readsNumber rfl rfl rfl (by decide +kernel) ⟨Nat.le_of_ble_eq_true rfl, Nat.le_of_ble_eq_true rfl⟩) hK hW hA 0 rfl rfl rfl hl.1 rfl (Nat.le_of_ble_eq_true rfl) dX5_readsPart_169 ⟨Nat.le_of_ble_eq_true rfl, Nat.le_of_ble_eq_true rfl⟩ (fun r_44 σ_45 H locs hw hW => ?_)
                    refine lv_goto (tgt := 179) hx hb dX5_readsPart_172 (by decide) ?_
                    refine pf_m_third hx hb hts hinX5 hown hK hW (hts _ (List.mem_of_getElem? (i := 4) rfl)) dX5_readsPart_179 (fun σ_46 eσ_46 H locs hW => ?_)
                    have hw := hw σ_46 eσ_46
                    refine lv_aload_n hx hb dX5_readsPart_182 rfl (lv_at hl 0 rfl) ?_
                    refine va_get (D := D) (ci := 5) (v := .int (m_third σ_46)) (C := RX5) (T := TX5) (N := 18) hx hb hts hinX5 hown hK hW.1 0 rfl rfl 10 (by decide) (hts _ (List.mem_of_getElem? (i := 4) rfl)) (fun _ h9 => h9) rfl dX5_readsPart_183 ?_
                    refine lv_iconst (v := (-1)) hx hb dX5_readsPart_186 (by decide) ?_
                    refine lv_icmp_eq (tgt := 194) hx hb dX5_readsPart_187 (by decide) (fun hc => ?_) (fun hc => ?_)
                    · have hw := hw.1 hc
                      refine lv_iconst (v := 0) hx hb dX5_readsPart_194 (by decide) ?_
                      exact hret _ σ_46 _ _ _ _ (by decide) hw hW dX5_readsPart_195
                    · have hw := hw.2 hc
                      refine lv_iconst (v := 1) hx hb dX5_readsPart_190 (by decide) ?_
                      refine lv_goto (tgt := 195) hx hb dX5_readsPart_191 (by decide) ?_
                      exact hret _ σ_46 _ _ _ _ (by decide) hw hW dX5_readsPart_195
            · have hw := hw.2 hc
              refine lv_aload_n hx hb dX5_readsPart_113 rfl (lv_at hl 0 rfl) ?_
              refine lv_iconst (v := 0) hx hb dX5_readsPart_114 (by decide) ?_
              refine lv_iconst (v := 5) hx hb dX5_readsPart_115 (by decide) ?_
              refine kV_Mi (As := [.int 0, .int 5]) (rest := [.ref (a 0)]) ⟨hx, hb, hml, hown, hts⟩ (ok_X5_figure l D cI cJ a _ _ _ _ _ hw) (cwV 2 hts gX5_readsPart_X5_figure rfl rfl rfl (by decide +kernel) ⟨Nat.le_of_ble_eq_true rfl, Nat.le_of_ble_eq_true rfl⟩) hK hW hA 0 rfl rfl rfl hl.1 rfl (Nat.le_of_ble_eq_true rfl) dX5_readsPart_116 ⟨Nat.le_of_ble_eq_true rfl, Nat.le_of_ble_eq_true rfl⟩ (fun r_47 σ_48 H locs hw hW => ?_)
              refine lv_goto (tgt := 123) hx hb dX5_readsPart_119 (by decide) ?_
              refine pf_m_first hx hb hts hinX5 hown hK hW (hts _ (List.mem_of_getElem? (i := 2) rfl)) dX5_readsPart_123 (fun σ_49 eσ_49 H locs hW => ?_)
              have hw := hw σ_49 eσ_49
              refine lv_aload_n hx hb dX5_readsPart_126 rfl (lv_at hl 0 rfl) ?_
              refine lv_aload_n hx hb dX5_readsPart_127 rfl (lv_at hl 0 rfl) ?_
              refine va_get (D := D) (ci := 5) (v := .int (m_first σ_49)) (C := RX5) (T := TX5) (N := 18) hx hb hts hinX5 hown hK hW.1 0 rfl rfl 8 (by decide) (hts _ (List.mem_of_getElem? (i := 2) rfl)) (fun _ h9 => h9) rfl dX5_readsPart_128 ?_
              refine lv_iconst (v := (-1)) hx hb dX5_readsPart_131 (by decide) ?_
              refine lv_icmp_ne (tgt := 139) hx hb dX5_readsPart_132 (by decide) (fun hc => ?_) (fun hc => ?_)
              · have hw := hw.1 hc
                refine lv_aload_n hx hb dX5_readsPart_139 rfl (lv_at hl 0 rfl) ?_
                refine lv_iconst (v := 0) hx hb dX5_readsPart_140 (by decide) ?_
                refine lv_iconst (v := 5) hx hb dX5_readsPart_141 (by decide) ?_
                refine kV_Mi (As := [.int 0, .int 5]) (rest := [.ref (a 0)]) ⟨hx, hb, hml, hown, hts⟩ (ok_X5_figure l D cI cJ a _ _ _ _ _ hw) (cwV 2 hts gX5_readsPart_X5_figure rfl rfl rfl (by decide +kernel) ⟨Nat.le_of_ble_eq_true rfl, Nat.le_of_ble_eq_true rfl⟩) hK hW hA 0 rfl rfl rfl hl.1 rfl (Nat.le_of_ble_eq_true rfl) dX5_readsPart_142 ⟨Nat.le_of_ble_eq_true rfl, Nat.le_of_ble_eq_true rfl⟩ (fun r_50 σ_51 H locs hw hW => ?_)
                refine pf_m_second hx hb hts hinX5 hown hK hW (hts _ (List.mem_of_getElem? (i := 3) rfl)) dX5_readsPart_145 (fun σ_52 eσ_52 H locs hW => ?_)
                have hw := hw σ_52 eσ_52
                refine lv_aload_n hx hb dX5_readsPart_148 rfl (lv_at hl 0 rfl) ?_
                refine lv_aload_n hx hb dX5_readsPart_149 rfl (lv_at hl 0 rfl) ?_
                refine va_get (D := D) (ci := 5) (v := .int (m_second σ_52)) (C := RX5) (T := TX5) (N := 18) hx hb hts hinX5 hown hK hW.1 0 rfl rfl 9 (by decide) (hts _ (List.mem_of_getElem? (i := 3) rfl)) (fun _ h9 => h9) rfl dX5_readsPart_150 ?_
                refine lv_iconst (v := (-1)) hx hb dX5_readsPart_153 (by decide) ?_
                refine lv_icmp_eq (tgt := 175) hx hb dX5_readsPart_154 (by decide) (fun hc => ?_) (fun hc => ?_)
                · have hw := hw.1 hc
                  refine lv_aload_n hx hb dX5_readsPart_175 rfl (lv_at hl 0 rfl) ?_
                  refine va_get (D := D) (ci := 5) (v := .int (m_second σ_52)) (C := RX5) (T := TX5) (N := 18) hx hb hts hinX5 hown hK hW.1 0 rfl rfl 9 (by decide) (hts _ (List.mem_of_getElem? (i := 3) rfl)) (fun _ h9 => h9) rfl dX5_readsPart_176 ?_
                  refine pf_m_third hx hb hts hinX5 hown hK hW (hts _ (List.mem_of_getElem? (i := 4) rfl)) dX5_readsPart_179 (fun σ_53 eσ_53 H locs hW => ?_)
                  have hw := hw σ_53 eσ_53
                  refine lv_aload_n hx hb dX5_readsPart_182 rfl (lv_at hl 0 rfl) ?_
                  refine va_get (D := D) (ci := 5) (v := .int (m_third σ_53)) (C := RX5) (T := TX5) (N := 18) hx hb hts hinX5 hown hK hW.1 0 rfl rfl 10 (by decide) (hts _ (List.mem_of_getElem? (i := 4) rfl)) (fun _ h9 => h9) rfl dX5_readsPart_183 ?_
                  refine lv_iconst (v := (-1)) hx hb dX5_readsPart_186 (by decide) ?_
                  refine lv_icmp_eq (tgt := 194) hx hb dX5_readsPart_187 (by decide) (fun hc => ?_) (fun hc => ?_)
                  · have hw := hw.1 hc
                    refine lv_iconst (v := 0) hx hb dX5_readsPart_194 (by decide) ?_
                    exact hret _ σ_53 _ _ _ _ (by decide) hw hW dX5_readsPart_195
                  · have hw := hw.2 hc
                    refine lv_iconst (v := 1) hx hb dX5_readsPart_190 (by decide) ?_
                    refine lv_goto (tgt := 195) hx hb dX5_readsPart_191 (by decide) ?_
                    exact hret _ σ_53 _ _ _ _ (by decide) hw hW dX5_readsPart_195
                · have hw := hw.2 hc
                  refine lv_aload_n hx hb dX5_readsPart_157 rfl (lv_at hl 0 rfl) ?_
                  refine va_get (D := D) (ci := 5) (v := .int (m_part σ_52)) (C := RX5) (T := TX5) (N := 18) hx hb hts hinX5 hown hK hW.1 0 rfl rfl 7 (by decide) (hts _ (List.mem_of_getElem? (i := 1) rfl)) (fun _ h9 => h9) rfl dX5_readsPart_158 ?_
                  refine lv_bipush (v := 98) hx hb dX5_readsPart_161 (by decide) ?_
                  refine lv_icmp_ne (tgt := 175) hx hb dX5_readsPart_163 (by decide) (fun hc => ?_) (fun hc => ?_)
                  · have hw := hw.1 hc
                    refine lv_aload_n hx hb dX5_readsPart_175 rfl (lv_at hl 0 rfl) ?_
                    refine va_get (D := D) (ci := 5) (v := .int (m_second σ_52)) (C := RX5) (T := TX5) (N := 18) hx hb hts hinX5 hown hK hW.1 0 rfl rfl 9 (by decide) (hts _ (List.mem_of_getElem? (i := 3) rfl)) (fun _ h9 => h9) rfl dX5_readsPart_176 ?_
                    refine pf_m_third hx hb hts hinX5 hown hK hW (hts _ (List.mem_of_getElem? (i := 4) rfl)) dX5_readsPart_179 (fun σ_54 eσ_54 H locs hW => ?_)
                    have hw := hw σ_54 eσ_54
                    refine lv_aload_n hx hb dX5_readsPart_182 rfl (lv_at hl 0 rfl) ?_
                    refine va_get (D := D) (ci := 5) (v := .int (m_third σ_54)) (C := RX5) (T := TX5) (N := 18) hx hb hts hinX5 hown hK hW.1 0 rfl rfl 10 (by decide) (hts _ (List.mem_of_getElem? (i := 4) rfl)) (fun _ h9 => h9) rfl dX5_readsPart_183 ?_
                    refine lv_iconst (v := (-1)) hx hb dX5_readsPart_186 (by decide) ?_
                    refine lv_icmp_eq (tgt := 194) hx hb dX5_readsPart_187 (by decide) (fun hc => ?_) (fun hc => ?_)
                    · have hw := hw.1 hc
                      refine lv_iconst (v := 0) hx hb dX5_readsPart_194 (by decide) ?_
                      exact hret _ σ_54 _ _ _ _ (by decide) hw hW dX5_readsPart_195
                    · have hw := hw.2 hc
                      refine lv_iconst (v := 1) hx hb dX5_readsPart_190 (by decide) ?_
                      refine lv_goto (tgt := 195) hx hb dX5_readsPart_191 (by decide) ?_
                      exact hret _ σ_54 _ _ _ _ (by decide) hw hW dX5_readsPart_195
                  · have hw := hw.2 hc
                    refine lv_aload_n hx hb dX5_readsPart_166 rfl (lv_at hl 0 rfl) ?_
                    refine lv_bipush (v := 99) hx hb dX5_readsPart_167 (by decide) ?_
                    refine kV_Mi (As := [.int 99]) (rest := [.ref (a 0)]) ⟨hx, hb, hml, hown, hts⟩ (ok_X5_readsNumber l D cI cJ a _ _ _ _ hw) (cwV 1 hts gX5_readsPart_X5_readsNumber rfl rfl rfl (by decide +kernel) ⟨Nat.le_of_ble_eq_true rfl, Nat.le_of_ble_eq_true rfl⟩) hK hW hA 0 rfl rfl rfl hl.1 rfl (Nat.le_of_ble_eq_true rfl) dX5_readsPart_169 ⟨Nat.le_of_ble_eq_true rfl, Nat.le_of_ble_eq_true rfl⟩ (fun r_55 σ_56 H locs hw hW => ?_)
                    refine lv_goto (tgt := 179) hx hb dX5_readsPart_172 (by decide) ?_
                    refine pf_m_third hx hb hts hinX5 hown hK hW (hts _ (List.mem_of_getElem? (i := 4) rfl)) dX5_readsPart_179 (fun σ_57 eσ_57 H locs hW => ?_)
                    have hw := hw σ_57 eσ_57
                    refine lv_aload_n hx hb dX5_readsPart_182 rfl (lv_at hl 0 rfl) ?_
                    refine va_get (D := D) (ci := 5) (v := .int (m_third σ_57)) (C := RX5) (T := TX5) (N := 18) hx hb hts hinX5 hown hK hW.1 0 rfl rfl 10 (by decide) (hts _ (List.mem_of_getElem? (i := 4) rfl)) (fun _ h9 => h9) rfl dX5_readsPart_183 ?_
                    refine lv_iconst (v := (-1)) hx hb dX5_readsPart_186 (by decide) ?_
                    refine lv_icmp_eq (tgt := 194) hx hb dX5_readsPart_187 (by decide) (fun hc => ?_) (fun hc => ?_)
                    · have hw := hw.1 hc
                      refine lv_iconst (v := 0) hx hb dX5_readsPart_194 (by decide) ?_
                      exact hret _ σ_57 _ _ _ _ (by decide) hw hW dX5_readsPart_195
                    · have hw := hw.2 hc
                      refine lv_iconst (v := 1) hx hb dX5_readsPart_190 (by decide) ?_
                      refine lv_goto (tgt := 195) hx hb dX5_readsPart_191 (by decide) ?_
                      exact hret _ σ_57 _ _ _ _ (by decide) hw hW dX5_readsPart_195
              · have hw := hw.2 hc
                refine lv_iconst (v := (-1)) hx hb dX5_readsPart_135 (by decide) ?_
                refine lv_goto (tgt := 145) hx hb dX5_readsPart_136 (by decide) ?_
                refine pf_m_second hx hb hts hinX5 hown hK hW (hts _ (List.mem_of_getElem? (i := 3) rfl)) dX5_readsPart_145 (fun σ_58 eσ_58 H locs hW => ?_)
                have hw := hw σ_58 eσ_58
                refine lv_aload_n hx hb dX5_readsPart_148 rfl (lv_at hl 0 rfl) ?_
                refine lv_aload_n hx hb dX5_readsPart_149 rfl (lv_at hl 0 rfl) ?_
                refine va_get (D := D) (ci := 5) (v := .int (m_second σ_58)) (C := RX5) (T := TX5) (N := 18) hx hb hts hinX5 hown hK hW.1 0 rfl rfl 9 (by decide) (hts _ (List.mem_of_getElem? (i := 3) rfl)) (fun _ h9 => h9) rfl dX5_readsPart_150 ?_
                refine lv_iconst (v := (-1)) hx hb dX5_readsPart_153 (by decide) ?_
                refine lv_icmp_eq (tgt := 175) hx hb dX5_readsPart_154 (by decide) (fun hc => ?_) (fun hc => ?_)
                · have hw := hw.1 hc
                  refine lv_aload_n hx hb dX5_readsPart_175 rfl (lv_at hl 0 rfl) ?_
                  refine va_get (D := D) (ci := 5) (v := .int (m_second σ_58)) (C := RX5) (T := TX5) (N := 18) hx hb hts hinX5 hown hK hW.1 0 rfl rfl 9 (by decide) (hts _ (List.mem_of_getElem? (i := 3) rfl)) (fun _ h9 => h9) rfl dX5_readsPart_176 ?_
                  refine pf_m_third hx hb hts hinX5 hown hK hW (hts _ (List.mem_of_getElem? (i := 4) rfl)) dX5_readsPart_179 (fun σ_59 eσ_59 H locs hW => ?_)
                  have hw := hw σ_59 eσ_59
                  refine lv_aload_n hx hb dX5_readsPart_182 rfl (lv_at hl 0 rfl) ?_
                  refine va_get (D := D) (ci := 5) (v := .int (m_third σ_59)) (C := RX5) (T := TX5) (N := 18) hx hb hts hinX5 hown hK hW.1 0 rfl rfl 10 (by decide) (hts _ (List.mem_of_getElem? (i := 4) rfl)) (fun _ h9 => h9) rfl dX5_readsPart_183 ?_
                  refine lv_iconst (v := (-1)) hx hb dX5_readsPart_186 (by decide) ?_
                  refine lv_icmp_eq (tgt := 194) hx hb dX5_readsPart_187 (by decide) (fun hc => ?_) (fun hc => ?_)
                  · have hw := hw.1 hc
                    refine lv_iconst (v := 0) hx hb dX5_readsPart_194 (by decide) ?_
                    exact hret _ σ_59 _ _ _ _ (by decide) hw hW dX5_readsPart_195
                  · have hw := hw.2 hc
                    refine lv_iconst (v := 1) hx hb dX5_readsPart_190 (by decide) ?_
                    refine lv_goto (tgt := 195) hx hb dX5_readsPart_191 (by decide) ?_
                    exact hret _ σ_59 _ _ _ _ (by decide) hw hW dX5_readsPart_195
                · have hw := hw.2 hc
                  refine lv_aload_n hx hb dX5_readsPart_157 rfl (lv_at hl 0 rfl) ?_
                  refine va_get (D := D) (ci := 5) (v := .int (m_part σ_58)) (C := RX5) (T := TX5) (N := 18) hx hb hts hinX5 hown hK hW.1 0 rfl rfl 7 (by decide) (hts _ (List.mem_of_getElem? (i := 1) rfl)) (fun _ h9 => h9) rfl dX5_readsPart_158 ?_
                  refine lv_bipush (v := 98) hx hb dX5_readsPart_161 (by decide) ?_
                  refine lv_icmp_ne (tgt := 175) hx hb dX5_readsPart_163 (by decide) (fun hc => ?_) (fun hc => ?_)
                  · have hw := hw.1 hc
                    refine lv_aload_n hx hb dX5_readsPart_175 rfl (lv_at hl 0 rfl) ?_
                    refine va_get (D := D) (ci := 5) (v := .int (m_second σ_58)) (C := RX5) (T := TX5) (N := 18) hx hb hts hinX5 hown hK hW.1 0 rfl rfl 9 (by decide) (hts _ (List.mem_of_getElem? (i := 3) rfl)) (fun _ h9 => h9) rfl dX5_readsPart_176 ?_
                    refine pf_m_third hx hb hts hinX5 hown hK hW (hts _ (List.mem_of_getElem? (i := 4) rfl)) dX5_readsPart_179 (fun σ_60 eσ_60 H locs hW => ?_)
                    have hw := hw σ_60 eσ_60
                    refine lv_aload_n hx hb dX5_readsPart_182 rfl (lv_at hl 0 rfl) ?_
                    refine va_get (D := D) (ci := 5) (v := .int (m_third σ_60)) (C := RX5) (T := TX5) (N := 18) hx hb hts hinX5 hown hK hW.1 0 rfl rfl 10 (by decide) (hts _ (List.mem_of_getElem? (i := 4) rfl)) (fun _ h9 => h9) rfl dX5_readsPart_183 ?_
                    refine lv_iconst (v := (-1)) hx hb dX5_readsPart_186 (by decide) ?_
                    refine lv_icmp_eq (tgt := 194) hx hb dX5_readsPart_187 (by decide) (fun hc => ?_) (fun hc => ?_)
                    · have hw := hw.1 hc
                      refine lv_iconst (v := 0) hx hb dX5_readsPart_194 (by decide) ?_
                      exact hret _ σ_60 _ _ _ _ (by decide) hw hW dX5_readsPart_195
                    · have hw := hw.2 hc
                      refine lv_iconst (v := 1) hx hb dX5_readsPart_190 (by decide) ?_
                      refine lv_goto (tgt := 195) hx hb dX5_readsPart_191 (by decide) ?_
                      exact hret _ σ_60 _ _ _ _ (by decide) hw hW dX5_readsPart_195
                  · have hw := hw.2 hc
                    refine lv_aload_n hx hb dX5_readsPart_166 rfl (lv_at hl 0 rfl) ?_
                    refine lv_bipush (v := 99) hx hb dX5_readsPart_167 (by decide) ?_
                    refine kV_Mi (As := [.int 99]) (rest := [.ref (a 0)]) ⟨hx, hb, hml, hown, hts⟩ (ok_X5_readsNumber l D cI cJ a _ _ _ _ hw) (cwV 1 hts gX5_readsPart_X5_readsNumber rfl rfl rfl (by decide +kernel) ⟨Nat.le_of_ble_eq_true rfl, Nat.le_of_ble_eq_true rfl⟩) hK hW hA 0 rfl rfl rfl hl.1 rfl (Nat.le_of_ble_eq_true rfl) dX5_readsPart_169 ⟨Nat.le_of_ble_eq_true rfl, Nat.le_of_ble_eq_true rfl⟩ (fun r_61 σ_62 H locs hw hW => ?_)
                    refine lv_goto (tgt := 179) hx hb dX5_readsPart_172 (by decide) ?_
                    refine pf_m_third hx hb hts hinX5 hown hK hW (hts _ (List.mem_of_getElem? (i := 4) rfl)) dX5_readsPart_179 (fun σ_63 eσ_63 H locs hW => ?_)
                    have hw := hw σ_63 eσ_63
                    refine lv_aload_n hx hb dX5_readsPart_182 rfl (lv_at hl 0 rfl) ?_
                    refine va_get (D := D) (ci := 5) (v := .int (m_third σ_63)) (C := RX5) (T := TX5) (N := 18) hx hb hts hinX5 hown hK hW.1 0 rfl rfl 10 (by decide) (hts _ (List.mem_of_getElem? (i := 4) rfl)) (fun _ h9 => h9) rfl dX5_readsPart_183 ?_
                    refine lv_iconst (v := (-1)) hx hb dX5_readsPart_186 (by decide) ?_
                    refine lv_icmp_eq (tgt := 194) hx hb dX5_readsPart_187 (by decide) (fun hc => ?_) (fun hc => ?_)
                    · have hw := hw.1 hc
                      refine lv_iconst (v := 0) hx hb dX5_readsPart_194 (by decide) ?_
                      exact hret _ σ_63 _ _ _ _ (by decide) hw hW dX5_readsPart_195
                    · have hw := hw.2 hc
                      refine lv_iconst (v := 1) hx hb dX5_readsPart_190 (by decide) ?_
                      refine lv_goto (tgt := 195) hx hb dX5_readsPart_191 (by decide) ?_
                      exact hret _ σ_63 _ _ _ _ (by decide) hw hW dX5_readsPart_195
        · have hw := hw.2 hc
          refine lv_aload_n hx hb dX5_readsPart_70 rfl (lv_at hl 0 rfl) ?_
          refine lv_aload_n hx hb dX5_readsPart_71 rfl (lv_at hl 0 rfl) ?_
          refine lv_iconst (v := 0) hx hb dX5_readsPart_72 (by decide) ?_
          refine lv_iconst (v := 5) hx hb dX5_readsPart_73 (by decide) ?_
          refine kV_Mi (As := [.int 0, .int 5]) (rest := [.ref (a 0)]) ⟨hx, hb, hml, hown, hts⟩ (ok_X5_figure l D cI cJ a _ _ _ _ _ hw) (cwV 2 hts gX5_readsPart_X5_figure rfl rfl rfl (by decide +kernel) ⟨Nat.le_of_ble_eq_true rfl, Nat.le_of_ble_eq_true rfl⟩) hK hW hA 0 rfl rfl rfl hl.1 rfl (Nat.le_of_ble_eq_true rfl) dX5_readsPart_74 ⟨Nat.le_of_ble_eq_true rfl, Nat.le_of_ble_eq_true rfl⟩ (fun r_64 σ_65 H locs hw hW => ?_)
          refine pf_m_first hx hb hts hinX5 hown hK hW (hts _ (List.mem_of_getElem? (i := 2) rfl)) dX5_readsPart_77 (fun σ_66 eσ_66 H locs hW => ?_)
          have hw := hw σ_66 eσ_66
          refine lv_aload_n hx hb dX5_readsPart_80 rfl (lv_at hl 0 rfl) ?_
          refine va_get (D := D) (ci := 5) (v := .int (m_first σ_66)) (C := RX5) (T := TX5) (N := 18) hx hb hts hinX5 hown hK hW.1 0 rfl rfl 8 (by decide) (hts _ (List.mem_of_getElem? (i := 2) rfl)) (fun _ h9 => h9) rfl dX5_readsPart_81 ?_
          refine lv_iconst (v := (-1)) hx hb dX5_readsPart_84 (by decide) ?_
          refine lv_icmp_eq (tgt := 92) hx hb dX5_readsPart_85 (by decide) (fun hc => ?_) (fun hc => ?_)
          · have hw := hw.1 hc
            refine lv_iconst (v := 0) hx hb dX5_readsPart_92 (by decide) ?_
            exact hret _ σ_66 _ _ _ _ (by decide) hw hW dX5_readsPart_93
          · have hw := hw.2 hc
            refine lv_iconst (v := 1) hx hb dX5_readsPart_88 (by decide) ?_
            refine lv_goto (tgt := 93) hx hb dX5_readsPart_89 (by decide) ?_
            exact hret _ σ_66 _ _ _ _ (by decide) hw hW dX5_readsPart_93
      · have hw := hw.2 hc
        refine lv_aload_n hx hb dX5_readsPart_37 rfl (lv_at hl 0 rfl) ?_
        refine lv_aload_n hx hb dX5_readsPart_38 rfl (lv_at hl 0 rfl) ?_
        refine lv_bipush (v := 23) hx hb dX5_readsPart_39 (by decide) ?_
        refine kV_Mi (As := [.int 23]) (rest := [.ref (a 0)]) ⟨hx, hb, hml, hown, hts⟩ (ok_X5_readsNumber l D cI cJ a _ _ _ _ hw) (cwV 1 hts gX5_readsPart_X5_readsNumber rfl rfl rfl (by decide +kernel) ⟨Nat.le_of_ble_eq_true rfl, Nat.le_of_ble_eq_true rfl⟩) hK hW hA 0 rfl rfl rfl hl.1 rfl (Nat.le_of_ble_eq_true rfl) dX5_readsPart_41 ⟨Nat.le_of_ble_eq_true rfl, Nat.le_of_ble_eq_true rfl⟩ (fun r_67 σ_68 H locs hw hW => ?_)
        refine pf_m_first hx hb hts hinX5 hown hK hW (hts _ (List.mem_of_getElem? (i := 2) rfl)) dX5_readsPart_44 (fun σ_69 eσ_69 H locs hW => ?_)
        have hw := hw σ_69 eσ_69
        refine lv_aload_n hx hb dX5_readsPart_47 rfl (lv_at hl 0 rfl) ?_
        refine va_get (D := D) (ci := 5) (v := .int (m_first σ_69)) (C := RX5) (T := TX5) (N := 18) hx hb hts hinX5 hown hK hW.1 0 rfl rfl 8 (by decide) (hts _ (List.mem_of_getElem? (i := 2) rfl)) (fun _ h9 => h9) rfl dX5_readsPart_48 ?_
        refine lv_iconst (v := (-1)) hx hb dX5_readsPart_51 (by decide) ?_
        refine lv_icmp_eq (tgt := 59) hx hb dX5_readsPart_52 (by decide) (fun hc => ?_) (fun hc => ?_)
        · have hw := hw.1 hc
          refine lv_iconst (v := 0) hx hb dX5_readsPart_59 (by decide) ?_
          exact hret _ σ_69 _ _ _ _ (by decide) hw hW dX5_readsPart_60
        · have hw := hw.2 hc
          refine lv_iconst (v := 1) hx hb dX5_readsPart_55 (by decide) ?_
          refine lv_goto (tgt := 60) hx hb dX5_readsPart_56 (by decide) ?_
          exact hret _ σ_69 _ _ _ _ (by decide) hw hW dX5_readsPart_60
    · have hw := hw.2 hc
      refine lv_iconst (v := 1) hx hb dX5_readsPart_26 (by decide) ?_
      exact hret _ σ_6 _ _ _ _ (by decide) hw hW dX5_readsPart_27
def wp_X5_isAuction (σ : MS) (post : Int32 → MS → Prop) : Prop := ∀ σ_1 : MS, σ_1 = ms_at σ 0 → ∃ I2 : Nat → MS → Prop, (∃ n : Nat, I2 n (σ_1)) ∧ ∀ (n2 : Nat) (σ_2 : MS), I2 n2 σ_2 → wp_X5_readsPart σ_2 (fun r_3 σ_4 => ((r_3 = 0 → post 0 σ_4) ∧ (¬ r_3 = 0 → ((¬ (m_at σ_4) = (m_length σ_4) → wp_X5_takes σ_4 59 (fun r_5 σ_6 => ((¬ r_5 = 0 → ∃ n' : Nat, n' < n2 ∧ I2 n' (σ_6)) ∧ (r_5 = 0 → post 0 σ_6)))) ∧ ((m_at σ_4) = (m_length σ_4) → post 1 σ_4)))))
abbrev rm_X5_isAuction : Room := { frames := 4, cells := 0, slots := 0, locals := 87 }
theorem in_X5_isAuction_X5 : ∀ w ∈ wsX50, w ∈ wsX5_isAuction := fun w h => List.mem_cons_of_mem _ (List.mem_append_right _ (h))
set_option maxHeartbeats 4000000 in
set_option maxRecDepth 100000 in
theorem ok_X5_isAuction (l : Launch) (D : va_G) (cI cJ : ClassId) (a : Nat → Nat) (sz : Nat) (σ : MS) (post : Int32 → MS → Prop) (hw : wp_X5_isAuction σ post) : Mi l yX5_isAuction wsX5_isAuction rm_X5_isAuction [.ref (a 0)] D (tysIJ cI cJ) (mW cI cJ a σ) sz post (mW cI cJ a) := by
  refine s_Mz (by decide) rfl (Nat.le_of_ble_eq_true rfl) ?_
  intro p e s m args below meth c A Q hx hb hml hts hown hin hK hA hret H locs ls hW hl
  have hown : s.vm.findClass RX5 = some m.cls := hown
  have hl : lv_has ls 1 [(0, .ref (a 0))] := hl
  have hinX5 := in_X5_isAuction_X5
  refine lv_aload_n hx hb dX5_isAuction_0 rfl (lv_at hl 0 rfl) ?_
  refine lv_iconst (v := 0) hx hb dX5_isAuction_1 (by decide) ?_
  refine pf_m_at hx hb hts hinX5 hown hK hW (hts _ (List.mem_of_getElem? (i := 1) rfl)) dX5_isAuction_2 (fun σ_1 eσ_1 H locs hW => ?_)
  have hw := hw σ_1 eσ_1
  obtain ⟨I2, ⟨n2, hI2⟩, hJ2⟩ := hw
  have hl : lv_has ls 1 [(0, .ref (a 0))] := lv_sub hl [0] rfl
  suffices LP2 : ∀ (n : Nat) (σ_2 : MS) (H : Heap) (locs : List Loc) (ls : Array Slot), I2 n σ_2 → Wd D A s.heap (mW cI cJ a σ_2) H locs → lv_has ls 1 [(0, .ref (a 0))] → W p l e rm_X5_isAuction s m args below meth c H locs 0 0 Q (F0 m 5 ls []) from LP2 n2 _ H locs ls hI2 hW hl
  intro n2
  induction n2 using Nat.strongRecOn with
  | ind n2 ih2 =>
    intro σ_2 H locs ls hIn hW hl
    have hw := hJ2 n2 σ_2 hIn
    refine lv_aload_n hx hb dX5_isAuction_5 rfl (lv_at hl 0 rfl) ?_
    refine kV_Mi (As := []) (rest := []) ⟨hx, hb, hml, hown, hts⟩ (ok_X5_readsPart l D cI cJ a _ _ _ hw) (cwV 0 hts gX5_isAuction_X5_readsPart rfl rfl rfl (by decide +kernel) ⟨Nat.le_of_ble_eq_true rfl, Nat.le_of_ble_eq_true rfl⟩) hK hW hA 0 rfl rfl rfl hl.1 rfl (Nat.le_of_ble_eq_true rfl) dX5_isAuction_6 ⟨Nat.le_of_ble_eq_true rfl, Nat.le_of_ble_eq_true rfl⟩ (fun r_3 σ_4 H locs hw hW => ?_)
    refine lv_if_eq (tgt := 36) hx hb dX5_isAuction_9 (by decide) (fun hc => ?_) (fun hc => ?_)
    · have hw := hw.1 hc
      refine lv_iconst (v := 0) hx hb dX5_isAuction_36 (by decide) ?_
      exact hret _ σ_4 _ _ _ _ (by decide) hw hW dX5_isAuction_37
    · have hw := hw.2 hc
      refine lv_aload_n hx hb dX5_isAuction_12 rfl (lv_at hl 0 rfl) ?_
      refine va_get (D := D) (ci := 5) (v := .int (m_at σ_4)) (C := RX5) (T := TX5) (N := 18) hx hb hts hinX5 hown hK hW.1 0 rfl rfl 6 (by decide) (hts _ (List.mem_of_getElem? (i := 1) rfl)) (fun _ h9 => h9) rfl dX5_isAuction_13 ?_
      refine lv_aload_n hx hb dX5_isAuction_16 rfl (lv_at hl 0 rfl) ?_
      refine va_get (D := D) (ci := 5) (v := .int (m_length σ_4)) (C := RX5) (T := TX5) (N := 18) hx hb hts hinX5 hown hK hW.1 0 rfl rfl 5 (by decide) (hts _ (List.mem_of_getElem? (i := 2) rfl)) (fun _ h9 => h9) rfl dX5_isAuction_17 ?_
      refine lv_icmp_ne (tgt := 25) hx hb dX5_isAuction_20 (by decide) (fun hc => ?_) (fun hc => ?_)
      · have hw := hw.1 hc
        refine lv_aload_n hx hb dX5_isAuction_25 rfl (lv_at hl 0 rfl) ?_
        refine lv_bipush (v := 59) hx hb dX5_isAuction_26 (by decide) ?_
        refine kV_Mi (As := [.int 59]) (rest := []) ⟨hx, hb, hml, hown, hts⟩ (ok_X5_takes l D cI cJ a _ _ _ _ hw) (cwV 1 hts gX5_isAuction_X5_takes rfl rfl rfl (by decide +kernel) ⟨Nat.le_of_ble_eq_true rfl, Nat.le_of_ble_eq_true rfl⟩) hK hW hA 0 rfl rfl rfl hl.1 rfl (Nat.le_of_ble_eq_true rfl) dX5_isAuction_28 ⟨Nat.le_of_ble_eq_true rfl, Nat.le_of_ble_eq_true rfl⟩ (fun r_5 σ_6 H locs hw hW => ?_)
        refine lv_if_ne (tgt := 5) hx hb dX5_isAuction_31 (by decide) (fun hc => ?_) (fun hc => ?_)
        · have hw := hw.1 hc
          obtain ⟨n9, hlt9, hI9⟩ := hw
          exact ih2 n9 hlt9 _ _ _ _ hI9 hW (lv_sub hl [0] rfl)
        · have hw := hw.2 hc
          refine lv_iconst (v := 0) hx hb dX5_isAuction_34 (by decide) ?_
          exact hret _ σ_6 _ _ _ _ (by decide) hw hW dX5_isAuction_35
      · have hw := hw.2 hc
        refine lv_iconst (v := 1) hx hb dX5_isAuction_23 (by decide) ?_
        exact hret _ σ_4 _ _ _ _ (by decide) hw hW dX5_isAuction_24
def wp_X5_firstError (σ : MS) (post : Int32 → MS → Prop) : Prop := ∀ σ_1 : MS, σ_1 = ms_thrown σ 0 → wp_X5_isAuction σ_1 (fun r_2 σ_3 => post (m_at σ_3) σ_3)
abbrev rm_X5_firstError : Room := { frames := 5, cells := 0, slots := 0, locals := 107 }
theorem in_X5_firstError_X5 : ∀ w ∈ wsX50, w ∈ wsX5_firstError := fun w h => List.mem_cons_of_mem _ (List.mem_append_right _ (h))
set_option maxHeartbeats 4000000 in
set_option maxRecDepth 100000 in
theorem ok_X5_firstError (l : Launch) (D : va_G) (cI cJ : ClassId) (a : Nat → Nat) (sz : Nat) (σ : MS) (post : Int32 → MS → Prop) (hw : wp_X5_firstError σ post) : Mi l yX5_firstError wsX5_firstError rm_X5_firstError [.ref (a 0)] D (tysIJ cI cJ) (mW cI cJ a σ) sz post (mW cI cJ a) := by
  refine s_Mi (by decide) rfl (Nat.le_of_ble_eq_true rfl) ?_
  intro p e s m args below meth c A Q hx hb hml hts hown hin hK hA hret H locs ls hW hl
  have hown : s.vm.findClass RX5 = some m.cls := hown
  have hl : lv_has ls 1 [(0, .ref (a 0))] := hl
  have hinX5 := in_X5_firstError_X5
  refine lv_aload_n hx hb dX5_firstError_0 rfl (lv_at hl 0 rfl) ?_
  refine lv_iconst (v := 0) hx hb dX5_firstError_1 (by decide) ?_
  refine pf_m_thrown hx hb hts hinX5 hown hK hW (hts _ (List.mem_of_getElem? (i := 1) rfl)) dX5_firstError_2 (fun σ_1 eσ_1 H locs hW => ?_)
  have hw := hw σ_1 eσ_1
  refine lv_aload_n hx hb dX5_firstError_5 rfl (lv_at hl 0 rfl) ?_
  refine kV_Mi (As := []) (rest := []) ⟨hx, hb, hml, hown, hts⟩ (ok_X5_isAuction l D cI cJ a _ _ _ hw) (cwV 0 hts gX5_firstError_X5_isAuction rfl rfl rfl (by decide +kernel) ⟨Nat.le_of_ble_eq_true rfl, Nat.le_of_ble_eq_true rfl⟩) hK hW hA 0 rfl rfl rfl hl.1 rfl (Nat.le_of_ble_eq_true rfl) dX5_firstError_6 ⟨Nat.le_of_ble_eq_true rfl, Nat.le_of_ble_eq_true rfl⟩ (fun r_2 σ_3 H locs hw hW => ?_)
  refine lv_pop hx hb dX5_firstError_9 rfl ?_
  refine lv_aload_n hx hb dX5_firstError_10 rfl (lv_at hl 0 rfl) ?_
  refine va_get (D := D) (ci := 5) (v := .int (m_at σ_3)) (C := RX5) (T := TX5) (N := 18) hx hb hts hinX5 hown hK hW.1 0 rfl rfl 6 (by decide) (hts _ (List.mem_of_getElem? (i := 2) rfl)) (fun _ h9 => h9) rfl dX5_firstError_11 ?_
  exact hret _ σ_3 _ _ _ _ hw hW dX5_firstError_14
def wp_X5_isDone (σ : MS) (post : Int32 → MS → Prop) : Prop := ∀ w_1 : Int32, w_1 = (m_part σ) → ((w_1 = 98 → wp_X5_reason σ (m_first σ) (m_second σ) (m_third σ) (fun r_2 => ((¬ r_2 = 0 → post 0 σ) ∧ (r_2 = 0 → wp_X5_seals σ (m_first σ) (m_second σ) (m_third σ) (fun r_3 σ_4 => ((r_3 < 0 → post 0 σ_4) ∧ (¬ r_3 < 0 → post 1 σ_4))))))) ∧ (¬ w_1 = 98 → ((w_1 = 102 → wp_X5_canFish σ (m_first σ) (fun r_5 => ((r_5 = 0 → post 0 σ) ∧ (¬ r_5 = 0 → wp_X5_fishes σ (m_first σ) (fun r_6 σ_7 => ((r_6 < 0 → post 0 σ_7) ∧ (¬ r_6 < 0 → post 1 σ_7))))))) ∧ (¬ w_1 = 102 → ((w_1 = 104 → wp_X5_pauses σ (m_first σ) (fun r_8 σ_9 => ((r_8 < 0 → post 0 σ_9) ∧ (¬ r_8 < 0 → post 1 σ_9)))) ∧ (¬ w_1 = 104 → ((w_1 = 111 → ((¬ ((m_s σ) (2 : Int32).toNatClampNeg) = 0 → post 0 σ) ∧ (((m_s σ) (2 : Int32).toNatClampNeg) = 0 → wp_X5_opens σ (fun r_10 σ_11 => ((r_10 < 0 → post 0 σ_11) ∧ (¬ r_10 < 0 → post 1 σ_11)))))) ∧ (¬ w_1 = 111 → ((w_1 = 119 → wp_X5_whyKept σ (m_first σ) (m_second σ) (fun r_12 => ((¬ r_12 = 0 → post 0 σ) ∧ (r_12 = 0 → wp_X5_withdraws σ (m_first σ) (m_second σ) (fun r_13 σ_14 => ((r_13 < 0 → post 0 σ_14) ∧ (¬ r_13 < 0 → post 1 σ_14))))))) ∧ (¬ w_1 = 119 → wp_X5_dawns σ (fun r_15 σ_16 => ((r_15 < 0 → post 0 σ_16) ∧ (¬ r_15 < 0 → post 1 σ_16)))))))))))))
abbrev rm_X5_isDone : Room := { frames := 8, cells := 0, slots := 0, locals := 184 }
theorem in_X5_isDone_X5 : ∀ w ∈ wsX50, w ∈ wsX5_isDone := fun w h => List.mem_cons_of_mem _ (List.mem_append_right _ (h))
set_option maxHeartbeats 4000000 in
set_option maxRecDepth 100000 in
theorem ok_X5_isDone (l : Launch) (D : va_G) (cI cJ : ClassId) (a : Nat → Nat) (sz : Nat) (σ : MS) (post : Int32 → MS → Prop) (hw : wp_X5_isDone σ post) : Mi l yX5_isDone wsX5_isDone rm_X5_isDone [.ref (a 0)] D (tysIJ cI cJ) (mW cI cJ a σ) sz post (mW cI cJ a) := by
  refine s_Mz (by decide) rfl (Nat.le_of_ble_eq_true rfl) ?_
  intro p e s m args below meth c A Q hx hb hml hts hown hin hK hA hret H locs ls hW hl
  have hown : s.vm.findClass RX5 = some m.cls := hown
  have hl : lv_has ls 1 [(0, .ref (a 0))] := hl
  have hinX5 := in_X5_isDone_X5
  refine lv_aload_n hx hb dX5_isDone_0 rfl (lv_at hl 0 rfl) ?_
  refine va_get (D := D) (ci := 5) (v := .int (m_part σ)) (C := RX5) (T := TX5) (N := 18) hx hb hts hinX5 hown hK hW.1 0 rfl rfl 7 (by decide) (hts _ (List.mem_of_getElem? (i := 1) rfl)) (fun _ h9 => h9) rfl dX5_isDone_1 ?_
  refine lv_topi (fun w_1 ew_1 => ?_)
  have hw := hw w_1 ew_1
  by_cases hs0 : w_1 = 98
  · have hw := hw.1 hs0
    refine lv_lookup (tgt := 56) (off := 52) hx hb dX5_isDone_4 (by decide) (by rw [hs0]; rfl) (by decide) ?_
    refine lv_aload_n hx hb dX5_isDone_56 rfl (lv_at hl 0 rfl) ?_
    refine lv_aload_n hx hb dX5_isDone_57 rfl (lv_at hl 0 rfl) ?_
    refine va_get (D := D) (ci := 5) (v := .int (m_first σ)) (C := RX5) (T := TX5) (N := 18) hx hb hts hinX5 hown hK hW.1 0 rfl rfl 8 (by decide) (hts _ (List.mem_of_getElem? (i := 2) rfl)) (fun _ h9 => h9) rfl dX5_isDone_58 ?_
    refine lv_aload_n hx hb dX5_isDone_61 rfl (lv_at hl 0 rfl) ?_
    refine va_get (D := D) (ci := 5) (v := .int (m_second σ)) (C := RX5) (T := TX5) (N := 18) hx hb hts hinX5 hown hK hW.1 0 rfl rfl 9 (by decide) (hts _ (List.mem_of_getElem? (i := 3) rfl)) (fun _ h9 => h9) rfl dX5_isDone_62 ?_
    refine lv_aload_n hx hb dX5_isDone_65 rfl (lv_at hl 0 rfl) ?_
    refine va_get (D := D) (ci := 5) (v := .int (m_third σ)) (C := RX5) (T := TX5) (N := 18) hx hb hts hinX5 hown hK hW.1 0 rfl rfl 10 (by decide) (hts _ (List.mem_of_getElem? (i := 4) rfl)) (fun _ h9 => h9) rfl dX5_isDone_66 ?_
    refine kV_Mi (As := [.int (m_first σ), .int (m_second σ), .int (m_third σ)]) (rest := []) ⟨hx, hb, hml, hown, hts⟩ (ok_X5_reason l D cI cJ a _ _ _ _ _ _ hw) (cwV 3 hts gX5_isDone_X5_reason rfl rfl rfl (by decide +kernel) ⟨Nat.le_of_ble_eq_true rfl, Nat.le_of_ble_eq_true rfl⟩) hK hW hA 0 rfl rfl rfl hl.1 rfl (Nat.le_of_ble_eq_true rfl) dX5_isDone_69 ⟨Nat.le_of_ble_eq_true rfl, Nat.le_of_ble_eq_true rfl⟩ (fun r_2 _ H locs hw hW => ?_)
    refine lv_if_ne (tgt := 98) hx hb dX5_isDone_72 (by decide) (fun hc => ?_) (fun hc => ?_)
    · have hw := hw.1 hc
      refine lv_iconst (v := 0) hx hb dX5_isDone_98 (by decide) ?_
      exact hret _ σ _ _ _ _ (by decide) hw hW dX5_isDone_99
    · have hw := hw.2 hc
      refine lv_aload_n hx hb dX5_isDone_75 rfl (lv_at hl 0 rfl) ?_
      refine lv_aload_n hx hb dX5_isDone_76 rfl (lv_at hl 0 rfl) ?_
      refine va_get (D := D) (ci := 5) (v := .int (m_first σ)) (C := RX5) (T := TX5) (N := 18) hx hb hts hinX5 hown hK hW.1 0 rfl rfl 8 (by decide) (hts _ (List.mem_of_getElem? (i := 2) rfl)) (fun _ h9 => h9) rfl dX5_isDone_77 ?_
      refine lv_aload_n hx hb dX5_isDone_80 rfl (lv_at hl 0 rfl) ?_
      refine va_get (D := D) (ci := 5) (v := .int (m_second σ)) (C := RX5) (T := TX5) (N := 18) hx hb hts hinX5 hown hK hW.1 0 rfl rfl 9 (by decide) (hts _ (List.mem_of_getElem? (i := 3) rfl)) (fun _ h9 => h9) rfl dX5_isDone_81 ?_
      refine lv_aload_n hx hb dX5_isDone_84 rfl (lv_at hl 0 rfl) ?_
      refine va_get (D := D) (ci := 5) (v := .int (m_third σ)) (C := RX5) (T := TX5) (N := 18) hx hb hts hinX5 hown hK hW.1 0 rfl rfl 10 (by decide) (hts _ (List.mem_of_getElem? (i := 4) rfl)) (fun _ h9 => h9) rfl dX5_isDone_85 ?_
      refine kV_Mi (As := [.int (m_first σ), .int (m_second σ), .int (m_third σ)]) (rest := []) ⟨hx, hb, hml, hown, hts⟩ (ok_X5_seals l D cI cJ a _ _ _ _ _ _ hw) (cwV 3 hts gX5_isDone_X5_seals rfl rfl rfl (by decide +kernel) ⟨Nat.le_of_ble_eq_true rfl, Nat.le_of_ble_eq_true rfl⟩) hK hW hA 0 rfl rfl rfl hl.1 rfl (Nat.le_of_ble_eq_true rfl) dX5_isDone_88 ⟨Nat.le_of_ble_eq_true rfl, Nat.le_of_ble_eq_true rfl⟩ (fun r_3 σ_4 H locs hw hW => ?_)
      refine lv_if_lt (tgt := 98) hx hb dX5_isDone_91 (by decide) (fun hc => ?_) (fun hc => ?_)
      · have hw := hw.1 hc
        refine lv_iconst (v := 0) hx hb dX5_isDone_98 (by decide) ?_
        exact hret _ σ_4 _ _ _ _ (by decide) hw hW dX5_isDone_99
      · have hw := hw.2 hc
        refine lv_iconst (v := 1) hx hb dX5_isDone_94 (by decide) ?_
        refine lv_goto (tgt := 99) hx hb dX5_isDone_95 (by decide) ?_
        exact hret _ σ_4 _ _ _ _ (by decide) hw hW dX5_isDone_99
  have hw := hw.2 hs0
  by_cases hs1 : w_1 = 102
  · have hw := hw.1 hs1
    refine lv_lookup (tgt := 175) (off := 171) hx hb dX5_isDone_4 (by decide) (by rw [hs1]; rfl) (by decide) ?_
    refine lv_aload_n hx hb dX5_isDone_175 rfl (lv_at hl 0 rfl) ?_
    refine lv_aload_n hx hb dX5_isDone_176 rfl (lv_at hl 0 rfl) ?_
    refine va_get (D := D) (ci := 5) (v := .int (m_first σ)) (C := RX5) (T := TX5) (N := 18) hx hb hts hinX5 hown hK hW.1 0 rfl rfl 8 (by decide) (hts _ (List.mem_of_getElem? (i := 2) rfl)) (fun _ h9 => h9) rfl dX5_isDone_177 ?_
    refine kV_Mi (As := [.int (m_first σ)]) (rest := []) ⟨hx, hb, hml, hown, hts⟩ (ok_X5_canFish l D cI cJ a _ _ _ _ hw) (cwV 1 hts gX5_isDone_X5_canFish rfl rfl rfl (by decide +kernel) ⟨Nat.le_of_ble_eq_true rfl, Nat.le_of_ble_eq_true rfl⟩) hK hW hA 0 rfl rfl rfl hl.1 rfl (Nat.le_of_ble_eq_true rfl) dX5_isDone_180 ⟨Nat.le_of_ble_eq_true rfl, Nat.le_of_ble_eq_true rfl⟩ (fun r_5 _ H locs hw hW => ?_)
    refine lv_if_eq (tgt := 201) hx hb dX5_isDone_183 (by decide) (fun hc => ?_) (fun hc => ?_)
    · have hw := hw.1 hc
      refine lv_iconst (v := 0) hx hb dX5_isDone_201 (by decide) ?_
      exact hret _ σ _ _ _ _ (by decide) hw hW dX5_isDone_202
    · have hw := hw.2 hc
      refine lv_aload_n hx hb dX5_isDone_186 rfl (lv_at hl 0 rfl) ?_
      refine lv_aload_n hx hb dX5_isDone_187 rfl (lv_at hl 0 rfl) ?_
      refine va_get (D := D) (ci := 5) (v := .int (m_first σ)) (C := RX5) (T := TX5) (N := 18) hx hb hts hinX5 hown hK hW.1 0 rfl rfl 8 (by decide) (hts _ (List.mem_of_getElem? (i := 2) rfl)) (fun _ h9 => h9) rfl dX5_isDone_188 ?_
      refine kV_Mi (As := [.int (m_first σ)]) (rest := []) ⟨hx, hb, hml, hown, hts⟩ (ok_X5_fishes l D cI cJ a _ _ _ _ hw) (cwV 1 hts gX5_isDone_X5_fishes rfl rfl rfl (by decide +kernel) ⟨Nat.le_of_ble_eq_true rfl, Nat.le_of_ble_eq_true rfl⟩) hK hW hA 0 rfl rfl rfl hl.1 rfl (Nat.le_of_ble_eq_true rfl) dX5_isDone_191 ⟨Nat.le_of_ble_eq_true rfl, Nat.le_of_ble_eq_true rfl⟩ (fun r_6 σ_7 H locs hw hW => ?_)
      refine lv_if_lt (tgt := 201) hx hb dX5_isDone_194 (by decide) (fun hc => ?_) (fun hc => ?_)
      · have hw := hw.1 hc
        refine lv_iconst (v := 0) hx hb dX5_isDone_201 (by decide) ?_
        exact hret _ σ_7 _ _ _ _ (by decide) hw hW dX5_isDone_202
      · have hw := hw.2 hc
        refine lv_iconst (v := 1) hx hb dX5_isDone_197 (by decide) ?_
        refine lv_goto (tgt := 202) hx hb dX5_isDone_198 (by decide) ?_
        exact hret _ σ_7 _ _ _ _ (by decide) hw hW dX5_isDone_202
  have hw := hw.2 hs1
  by_cases hs2 : w_1 = 104
  · have hw := hw.1 hs2
    refine lv_lookup (tgt := 136) (off := 132) hx hb dX5_isDone_4 (by decide) (by rw [hs2]; rfl) (by decide) ?_
    refine lv_aload_n hx hb dX5_isDone_136 rfl (lv_at hl 0 rfl) ?_
    refine lv_aload_n hx hb dX5_isDone_137 rfl (lv_at hl 0 rfl) ?_
    refine va_get (D := D) (ci := 5) (v := .int (m_first σ)) (C := RX5) (T := TX5) (N := 18) hx hb hts hinX5 hown hK hW.1 0 rfl rfl 8 (by decide) (hts _ (List.mem_of_getElem? (i := 2) rfl)) (fun _ h9 => h9) rfl dX5_isDone_138 ?_
    refine kV_Mi (As := [.int (m_first σ)]) (rest := []) ⟨hx, hb, hml, hown, hts⟩ (ok_X5_pauses l D cI cJ a _ _ _ _ hw) (cwV 1 hts gX5_isDone_X5_pauses rfl rfl rfl (by decide +kernel) ⟨Nat.le_of_ble_eq_true rfl, Nat.le_of_ble_eq_true rfl⟩) hK hW hA 0 rfl rfl rfl hl.1 rfl (Nat.le_of_ble_eq_true rfl) dX5_isDone_141 ⟨Nat.le_of_ble_eq_true rfl, Nat.le_of_ble_eq_true rfl⟩ (fun r_8 σ_9 H locs hw hW => ?_)
    refine lv_if_lt (tgt := 151) hx hb dX5_isDone_144 (by decide) (fun hc => ?_) (fun hc => ?_)
    · have hw := hw.1 hc
      refine lv_iconst (v := 0) hx hb dX5_isDone_151 (by decide) ?_
      exact hret _ σ_9 _ _ _ _ (by decide) hw hW dX5_isDone_152
    · have hw := hw.2 hc
      refine lv_iconst (v := 1) hx hb dX5_isDone_147 (by decide) ?_
      refine lv_goto (tgt := 152) hx hb dX5_isDone_148 (by decide) ?_
      exact hret _ σ_9 _ _ _ _ (by decide) hw hW dX5_isDone_152
  have hw := hw.2 hs2
  by_cases hs3 : w_1 = 111
  · have hw := hw.1 hs3
    refine lv_lookup (tgt := 153) (off := 149) hx hb dX5_isDone_4 (by decide) (by rw [hs3]; rfl) (by decide) ?_
    refine lv_aload_n hx hb dX5_isDone_153 rfl (lv_at hl 0 rfl) ?_
    refine va_get (D := D) (ci := 5) (v := .ref (a 1)) (C := RX5) (T := TX5) (N := 18) hx hb hts hinX5 hown hK hW.1 0 rfl rfl 1 (by decide) (hts _ (List.mem_of_getElem? (i := 5) rfl)) (fun _ h9 => h9) rfl dX5_isDone_154 ?_
    refine lv_iconst (v := 2) hx hb dX5_isDone_157 (by decide) ?_
    refine va_iald hx hb hK hW.1 1 0 rfl rfl (by unfold vp_in; decide) dX5_isDone_158 ?_
    refine lv_if_ne (tgt := 173) hx hb dX5_isDone_159 (by decide) (fun hc => ?_) (fun hc => ?_)
    · have hw := hw.1 hc
      refine lv_iconst (v := 0) hx hb dX5_isDone_173 (by decide) ?_
      exact hret _ σ _ _ _ _ (by decide) hw hW dX5_isDone_174
    · have hw := hw.2 hc
      refine lv_aload_n hx hb dX5_isDone_162 rfl (lv_at hl 0 rfl) ?_
      refine kV_Mi (As := []) (rest := []) ⟨hx, hb, hml, hown, hts⟩ (ok_X5_opens l D cI cJ a _ _ _ hw) (cwV 0 hts gX5_isDone_X5_opens rfl rfl rfl (by decide +kernel) ⟨Nat.le_of_ble_eq_true rfl, Nat.le_of_ble_eq_true rfl⟩) hK hW hA 0 rfl rfl rfl hl.1 rfl (Nat.le_of_ble_eq_true rfl) dX5_isDone_163 ⟨Nat.le_of_ble_eq_true rfl, Nat.le_of_ble_eq_true rfl⟩ (fun r_10 σ_11 H locs hw hW => ?_)
      refine lv_if_lt (tgt := 173) hx hb dX5_isDone_166 (by decide) (fun hc => ?_) (fun hc => ?_)
      · have hw := hw.1 hc
        refine lv_iconst (v := 0) hx hb dX5_isDone_173 (by decide) ?_
        exact hret _ σ_11 _ _ _ _ (by decide) hw hW dX5_isDone_174
      · have hw := hw.2 hc
        refine lv_iconst (v := 1) hx hb dX5_isDone_169 (by decide) ?_
        refine lv_goto (tgt := 174) hx hb dX5_isDone_170 (by decide) ?_
        exact hret _ σ_11 _ _ _ _ (by decide) hw hW dX5_isDone_174
  have hw := hw.2 hs3
  by_cases hs4 : w_1 = 119
  · have hw := hw.1 hs4
    refine lv_lookup (tgt := 100) (off := 96) hx hb dX5_isDone_4 (by decide) (by rw [hs4]; rfl) (by decide) ?_
    refine lv_aload_n hx hb dX5_isDone_100 rfl (lv_at hl 0 rfl) ?_
    refine lv_aload_n hx hb dX5_isDone_101 rfl (lv_at hl 0 rfl) ?_
    refine va_get (D := D) (ci := 5) (v := .int (m_first σ)) (C := RX5) (T := TX5) (N := 18) hx hb hts hinX5 hown hK hW.1 0 rfl rfl 8 (by decide) (hts _ (List.mem_of_getElem? (i := 2) rfl)) (fun _ h9 => h9) rfl dX5_isDone_102 ?_
    refine lv_aload_n hx hb dX5_isDone_105 rfl (lv_at hl 0 rfl) ?_
    refine va_get (D := D) (ci := 5) (v := .int (m_second σ)) (C := RX5) (T := TX5) (N := 18) hx hb hts hinX5 hown hK hW.1 0 rfl rfl 9 (by decide) (hts _ (List.mem_of_getElem? (i := 3) rfl)) (fun _ h9 => h9) rfl dX5_isDone_106 ?_
    refine kV_Mi (As := [.int (m_first σ), .int (m_second σ)]) (rest := []) ⟨hx, hb, hml, hown, hts⟩ (ok_X5_whyKept l D cI cJ a _ _ _ _ _ hw) (cwV 2 hts gX5_isDone_X5_whyKept rfl rfl rfl (by decide +kernel) ⟨Nat.le_of_ble_eq_true rfl, Nat.le_of_ble_eq_true rfl⟩) hK hW hA 0 rfl rfl rfl hl.1 rfl (Nat.le_of_ble_eq_true rfl) dX5_isDone_109 ⟨Nat.le_of_ble_eq_true rfl, Nat.le_of_ble_eq_true rfl⟩ (fun r_12 _ H locs hw hW => ?_)
    refine lv_if_ne (tgt := 134) hx hb dX5_isDone_112 (by decide) (fun hc => ?_) (fun hc => ?_)
    · have hw := hw.1 hc
      refine lv_iconst (v := 0) hx hb dX5_isDone_134 (by decide) ?_
      exact hret _ σ _ _ _ _ (by decide) hw hW dX5_isDone_135
    · have hw := hw.2 hc
      refine lv_aload_n hx hb dX5_isDone_115 rfl (lv_at hl 0 rfl) ?_
      refine lv_aload_n hx hb dX5_isDone_116 rfl (lv_at hl 0 rfl) ?_
      refine va_get (D := D) (ci := 5) (v := .int (m_first σ)) (C := RX5) (T := TX5) (N := 18) hx hb hts hinX5 hown hK hW.1 0 rfl rfl 8 (by decide) (hts _ (List.mem_of_getElem? (i := 2) rfl)) (fun _ h9 => h9) rfl dX5_isDone_117 ?_
      refine lv_aload_n hx hb dX5_isDone_120 rfl (lv_at hl 0 rfl) ?_
      refine va_get (D := D) (ci := 5) (v := .int (m_second σ)) (C := RX5) (T := TX5) (N := 18) hx hb hts hinX5 hown hK hW.1 0 rfl rfl 9 (by decide) (hts _ (List.mem_of_getElem? (i := 3) rfl)) (fun _ h9 => h9) rfl dX5_isDone_121 ?_
      refine kV_Mi (As := [.int (m_first σ), .int (m_second σ)]) (rest := []) ⟨hx, hb, hml, hown, hts⟩ (ok_X5_withdraws l D cI cJ a _ _ _ _ _ hw) (cwV 2 hts gX5_isDone_X5_withdraws rfl rfl rfl (by decide +kernel) ⟨Nat.le_of_ble_eq_true rfl, Nat.le_of_ble_eq_true rfl⟩) hK hW hA 0 rfl rfl rfl hl.1 rfl (Nat.le_of_ble_eq_true rfl) dX5_isDone_124 ⟨Nat.le_of_ble_eq_true rfl, Nat.le_of_ble_eq_true rfl⟩ (fun r_13 σ_14 H locs hw hW => ?_)
      refine lv_if_lt (tgt := 134) hx hb dX5_isDone_127 (by decide) (fun hc => ?_) (fun hc => ?_)
      · have hw := hw.1 hc
        refine lv_iconst (v := 0) hx hb dX5_isDone_134 (by decide) ?_
        exact hret _ σ_14 _ _ _ _ (by decide) hw hW dX5_isDone_135
      · have hw := hw.2 hc
        refine lv_iconst (v := 1) hx hb dX5_isDone_130 (by decide) ?_
        refine lv_goto (tgt := 135) hx hb dX5_isDone_131 (by decide) ?_
        exact hret _ σ_14 _ _ _ _ (by decide) hw hW dX5_isDone_135
  have hw := hw.2 hs4
  refine lv_lookup (tgt := 203) (off := 199) hx hb dX5_isDone_4 (by decide) (by show Op.lookupswitch.offset [(98, 52), (102, 171), (104, 132), (111, 149), (119, 96)] 199 w_1.toInt = 199; rw [lv_osw hs0 (by decide), lv_osw hs1 (by decide), lv_osw hs2 (by decide), lv_osw hs3 (by decide), lv_osw hs4 (by decide)]; rfl) (by decide) ?_
  refine lv_aload_n hx hb dX5_isDone_203 rfl (lv_at hl 0 rfl) ?_
  refine kV_Mi (As := []) (rest := []) ⟨hx, hb, hml, hown, hts⟩ (ok_X5_dawns l D cI cJ a _ _ _ hw) (cwV 0 hts gX5_isDone_X5_dawns rfl rfl rfl (by decide +kernel) ⟨Nat.le_of_ble_eq_true rfl, Nat.le_of_ble_eq_true rfl⟩) hK hW hA 0 rfl rfl rfl hl.1 rfl (Nat.le_of_ble_eq_true rfl) dX5_isDone_204 ⟨Nat.le_of_ble_eq_true rfl, Nat.le_of_ble_eq_true rfl⟩ (fun r_15 σ_16 H locs hw hW => ?_)
  refine lv_if_lt (tgt := 214) hx hb dX5_isDone_207 (by decide) (fun hc => ?_) (fun hc => ?_)
  · have hw := hw.1 hc
    refine lv_iconst (v := 0) hx hb dX5_isDone_214 (by decide) ?_
    exact hret _ σ_16 _ _ _ _ (by decide) hw hW dX5_isDone_215
  · have hw := hw.2 hc
    refine lv_iconst (v := 1) hx hb dX5_isDone_210 (by decide) ?_
    refine lv_goto (tgt := 215) hx hb dX5_isDone_211 (by decide) ?_
    exact hret _ σ_16 _ _ _ _ (by decide) hw hW dX5_isDone_215
def wp_X5_run (σ : MS) (post : Int32 → MS → Prop) : Prop := wp_X5_isAuction σ (fun r_1 σ_2 => ((r_1 = 0 → wp_X5_holds σ_2 1 (fun r_3 σ_4 => ((¬ r_3 = 0 → wp_X5_save σ_4 (fun σ_5 => ∀ σ_6 : MS, σ_6 = ms_at σ_5 0 → ∃ I7 : Nat → Int32 → MS → Prop, (∃ n : Nat, I7 n 0 (σ_6)) ∧ ∀ (n7 : Nat) (v1_7 : Int32) (σ_7 : MS), I7 n7 v1_7 σ_7 → wp_X5_readsPart σ_7 (fun r_8 σ_9 => ((r_8 = 0 → ∀ σ_10 : MS, σ_10 = ms_length σ_9 0 → post v1_7 σ_10) ∧ (¬ r_8 = 0 → wp_X5_isDone σ_9 (fun r_11 σ_12 => ((r_11 = 0 → ∀ σ_13 : MS, σ_13 = ms_length σ_12 0 → post v1_7 σ_13) ∧ (¬ r_11 = 0 → ∀ v1_14 : Int32, v1_14 = v1_7 + 1 → wp_X5_takes σ_12 59 (fun r_15 σ_16 => ∃ n' : Nat, n' < n7 ∧ I7 n' v1_14 (σ_16)))))))))) ∧ (r_3 = 0 → post 0 σ_4)))) ∧ (¬ r_1 = 0 → wp_X5_holds σ_2 0 (fun r_17 σ_18 => ((¬ r_17 = 0 → wp_X5_save σ_18 (fun σ_19 => ∀ σ_20 : MS, σ_20 = ms_at σ_19 0 → ∃ I21 : Nat → Int32 → MS → Prop, (∃ n : Nat, I21 n 0 (σ_20)) ∧ ∀ (n21 : Nat) (v1_21 : Int32) (σ_21 : MS), I21 n21 v1_21 σ_21 → wp_X5_readsPart σ_21 (fun r_22 σ_23 => ((r_22 = 0 → ∀ σ_24 : MS, σ_24 = ms_length σ_23 0 → post v1_21 σ_24) ∧ (¬ r_22 = 0 → wp_X5_isDone σ_23 (fun r_25 σ_26 => ((r_25 = 0 → ∀ σ_27 : MS, σ_27 = ms_length σ_26 0 → post v1_21 σ_27) ∧ (¬ r_25 = 0 → ∀ v1_28 : Int32, v1_28 = v1_21 + 1 → wp_X5_takes σ_26 59 (fun r_29 σ_30 => ∃ n' : Nat, n' < n21 ∧ I21 n' v1_28 (σ_30)))))))))) ∧ (r_17 = 0 → post 0 σ_18))))))
abbrev rm_X5_run : Room := { frames := 9, cells := 0, slots := 0, locals := 204 }
theorem in_X5_run_X5 : ∀ w ∈ wsX50, w ∈ wsX5_run := fun w h => List.mem_cons_of_mem _ (List.mem_append_right _ (h))
set_option maxHeartbeats 4000000 in
set_option maxRecDepth 100000 in
theorem ok_X5_run (l : Launch) (D : va_G) (cI cJ : ClassId) (a : Nat → Nat) (sz : Nat) (σ : MS) (post : Int32 → MS → Prop) (hw : wp_X5_run σ post) : Mi l yX5_run wsX5_run rm_X5_run [.ref (a 0)] D (tysIJ cI cJ) (mW cI cJ a σ) sz post (mW cI cJ a) := by
  refine s_Mi (by decide) rfl (Nat.le_of_ble_eq_true rfl) ?_
  intro p e s m args below meth c A Q hx hb hml hts hown hin hK hA hret H locs ls hW hl
  have hown : s.vm.findClass RX5 = some m.cls := hown
  have hl : lv_has ls 2 [(0, .ref (a 0))] := hl
  have hinX5 := in_X5_run_X5
  refine lv_aload_n hx hb dX5_run_0 rfl (lv_at hl 0 rfl) ?_
  refine lv_aload_n hx hb dX5_run_1 rfl (lv_at hl 0 rfl) ?_
  refine kV_Mi (As := []) (rest := [.ref (a 0)]) ⟨hx, hb, hml, hown, hts⟩ (ok_X5_isAuction l D cI cJ a _ _ _ hw) (cwV 0 hts gX5_run_X5_isAuction rfl rfl rfl (by decide +kernel) ⟨Nat.le_of_ble_eq_true rfl, Nat.le_of_ble_eq_true rfl⟩) hK hW hA 0 rfl rfl rfl hl.1 rfl (Nat.le_of_ble_eq_true rfl) dX5_run_2 ⟨Nat.le_of_ble_eq_true rfl, Nat.le_of_ble_eq_true rfl⟩ (fun r_1 σ_2 H locs hw hW => ?_)
  refine lv_if_eq (tgt := 12) hx hb dX5_run_5 (by decide) (fun hc => ?_) (fun hc => ?_)
  · have hw := hw.1 hc
    refine lv_iconst (v := 1) hx hb dX5_run_12 (by decide) ?_
    refine kV_Mi (As := [.int 1]) (rest := []) ⟨hx, hb, hml, hown, hts⟩ (ok_X5_holds l D cI cJ a _ _ _ _ hw) (cwV 1 hts gX5_run_X5_holds rfl rfl rfl (by decide +kernel) ⟨Nat.le_of_ble_eq_true rfl, Nat.le_of_ble_eq_true rfl⟩) hK hW hA 0 rfl rfl rfl hl.1 rfl (Nat.le_of_ble_eq_true rfl) dX5_run_13 ⟨Nat.le_of_ble_eq_true rfl, Nat.le_of_ble_eq_true rfl⟩ (fun r_3 σ_4 H locs hw hW => ?_)
    refine lv_if_ne (tgt := 21) hx hb dX5_run_16 (by decide) (fun hc => ?_) (fun hc => ?_)
    · have hw := hw.1 hc
      refine lv_aload_n hx hb dX5_run_21 rfl (lv_at hl 0 rfl) ?_
      refine kV_Mv (As := []) (rest := []) ⟨hx, hb, hml, hown, hts⟩ (ok_X5_save l D cI cJ a _ _ _ hw) (cwV 0 hts gX5_run_X5_save rfl rfl rfl (by decide +kernel) ⟨Nat.le_of_ble_eq_true rfl, Nat.le_of_ble_eq_true rfl⟩) hK hW hA 0 rfl rfl rfl hl.1 rfl (Nat.le_of_ble_eq_true rfl) dX5_run_22 ⟨Nat.le_of_ble_eq_true rfl, Nat.le_of_ble_eq_true rfl⟩ (fun σ_5 H locs hw hW => ?_)
      refine lv_aload_n hx hb dX5_run_25 rfl (lv_at hl 0 rfl) ?_
      refine lv_iconst (v := 0) hx hb dX5_run_26 (by decide) ?_
      refine pf_m_at hx hb hts hinX5 hown hK hW (hts _ (List.mem_of_getElem? (i := 1) rfl)) dX5_run_27 (fun σ_6 eσ_6 H locs hW => ?_)
      have hw := hw σ_6 eσ_6
      refine lv_iconst (v := 0) hx hb dX5_run_30 (by decide) ?_
      refine lv_istore_n (lv' := [(1, .int 0), (0, .ref (a 0))]) hx hb dX5_run_31 rfl hl (by decide) rfl (fun ls hl => ?_)
      obtain ⟨I7, ⟨n7, hI7⟩, hJ7⟩ := hw
      have hl : lv_has ls 2 [(0, .ref (a 0)), (1, .int 0)] := lv_sub hl [1, 0] rfl
      suffices LP7 : ∀ (n : Nat) (v1_7 : Int32) (σ_7 : MS) (H : Heap) (locs : List Loc) (ls : Array Slot), I7 n v1_7 σ_7 → Wd D A s.heap (mW cI cJ a σ_7) H locs → lv_has ls 2 [(0, .ref (a 0)), (1, .int v1_7)] → W p l e rm_X5_run s m args below meth c H locs 0 0 Q (F0 m 32 ls []) from LP7 n7 0 _ H locs ls hI7 hW hl
      intro n7
      induction n7 using Nat.strongRecOn with
      | ind n7 ih7 =>
        intro v1_7 σ_7 H locs ls hIn hW hl
        have hw := hJ7 n7 v1_7 σ_7 hIn
        refine lv_aload_n hx hb dX5_run_32 rfl (lv_at hl 0 rfl) ?_
        refine kV_Mi (As := []) (rest := []) ⟨hx, hb, hml, hown, hts⟩ (ok_X5_readsPart l D cI cJ a _ _ _ hw) (cwV 0 hts gX5_run_X5_readsPart rfl rfl rfl (by decide +kernel) ⟨Nat.le_of_ble_eq_true rfl, Nat.le_of_ble_eq_true rfl⟩) hK hW hA 0 rfl rfl rfl hl.1 rfl (Nat.le_of_ble_eq_true rfl) dX5_run_33 ⟨Nat.le_of_ble_eq_true rfl, Nat.le_of_ble_eq_true rfl⟩ (fun r_8 σ_9 H locs hw hW => ?_)
        refine lv_if_eq (tgt := 59) hx hb dX5_run_36 (by decide) (fun hc => ?_) (fun hc => ?_)
        · have hw := hw.1 hc
          refine lv_aload_n hx hb dX5_run_59 rfl (lv_at hl 0 rfl) ?_
          refine lv_iconst (v := 0) hx hb dX5_run_60 (by decide) ?_
          refine pf_m_length hx hb hts hinX5 hown hK hW (hts _ (List.mem_of_getElem? (i := 2) rfl)) dX5_run_61 (fun σ_10 eσ_10 H locs hW => ?_)
          have hw := hw σ_10 eσ_10
          refine lv_iload_n hx hb dX5_run_64 rfl (lv_at hl 1 rfl) ?_
          exact hret _ σ_10 _ _ _ _ hw hW dX5_run_65
        · have hw := hw.2 hc
          refine lv_aload_n hx hb dX5_run_39 rfl (lv_at hl 0 rfl) ?_
          refine kV_Mi (As := []) (rest := []) ⟨hx, hb, hml, hown, hts⟩ (ok_X5_isDone l D cI cJ a _ _ _ hw) (cwV 0 hts gX5_run_X5_isDone rfl rfl rfl (by decide +kernel) ⟨Nat.le_of_ble_eq_true rfl, Nat.le_of_ble_eq_true rfl⟩) hK hW hA 0 rfl rfl rfl hl.1 rfl (Nat.le_of_ble_eq_true rfl) dX5_run_40 ⟨Nat.le_of_ble_eq_true rfl, Nat.le_of_ble_eq_true rfl⟩ (fun r_11 σ_12 H locs hw hW => ?_)
          refine lv_if_eq (tgt := 59) hx hb dX5_run_43 (by decide) (fun hc => ?_) (fun hc => ?_)
          · have hw := hw.1 hc
            refine lv_aload_n hx hb dX5_run_59 rfl (lv_at hl 0 rfl) ?_
            refine lv_iconst (v := 0) hx hb dX5_run_60 (by decide) ?_
            refine pf_m_length hx hb hts hinX5 hown hK hW (hts _ (List.mem_of_getElem? (i := 2) rfl)) dX5_run_61 (fun σ_13 eσ_13 H locs hW => ?_)
            have hw := hw σ_13 eσ_13
            refine lv_iload_n hx hb dX5_run_64 rfl (lv_at hl 1 rfl) ?_
            exact hret _ σ_13 _ _ _ _ hw hW dX5_run_65
          · have hw := hw.2 hc
            obtain ⟨v1_14, ev1_14⟩ : ∃ y : Int32, y = v1_7 + 1 := ⟨_, rfl⟩
            have hw := hw v1_14 ev1_14
            refine lv_iinc (v := v1_14) (lv' := [(1, .int v1_14), (0, .ref (a 0))]) hx hb dX5_run_46 hl (k := 1) rfl (by rw [ev1_14]; rfl) (by decide) rfl (fun ls hl => ?_)
            refine lv_aload_n hx hb dX5_run_49 rfl (lv_at hl 1 rfl) ?_
            refine lv_bipush (v := 59) hx hb dX5_run_50 (by decide) ?_
            refine kV_Mi (As := [.int 59]) (rest := []) ⟨hx, hb, hml, hown, hts⟩ (ok_X5_takes l D cI cJ a _ _ _ _ hw) (cwV 1 hts gX5_run_X5_takes rfl rfl rfl (by decide +kernel) ⟨Nat.le_of_ble_eq_true rfl, Nat.le_of_ble_eq_true rfl⟩) hK hW hA 0 rfl rfl rfl hl.1 rfl (Nat.le_of_ble_eq_true rfl) dX5_run_52 ⟨Nat.le_of_ble_eq_true rfl, Nat.le_of_ble_eq_true rfl⟩ (fun r_15 σ_16 H locs hw hW => ?_)
            refine lv_pop hx hb dX5_run_55 rfl ?_
            refine lv_goto (tgt := 32) hx hb dX5_run_56 (by decide) ?_
            obtain ⟨n9, hlt9, hI9⟩ := hw
            exact ih7 n9 hlt9 _ _ _ _ _ hI9 hW (lv_sub hl [1, 0] rfl)
    · have hw := hw.2 hc
      refine lv_iconst (v := 0) hx hb dX5_run_19 (by decide) ?_
      exact hret _ σ_4 _ _ _ _ hw hW dX5_run_20
  · have hw := hw.2 hc
    refine lv_iconst (v := 0) hx hb dX5_run_8 (by decide) ?_
    refine lv_goto (tgt := 13) hx hb dX5_run_9 (by decide) ?_
    refine kV_Mi (As := [.int 0]) (rest := []) ⟨hx, hb, hml, hown, hts⟩ (ok_X5_holds l D cI cJ a _ _ _ _ hw) (cwV 1 hts gX5_run_X5_holds rfl rfl rfl (by decide +kernel) ⟨Nat.le_of_ble_eq_true rfl, Nat.le_of_ble_eq_true rfl⟩) hK hW hA 0 rfl rfl rfl hl.1 rfl (Nat.le_of_ble_eq_true rfl) dX5_run_13 ⟨Nat.le_of_ble_eq_true rfl, Nat.le_of_ble_eq_true rfl⟩ (fun r_17 σ_18 H locs hw hW => ?_)
    refine lv_if_ne (tgt := 21) hx hb dX5_run_16 (by decide) (fun hc => ?_) (fun hc => ?_)
    · have hw := hw.1 hc
      refine lv_aload_n hx hb dX5_run_21 rfl (lv_at hl 0 rfl) ?_
      refine kV_Mv (As := []) (rest := []) ⟨hx, hb, hml, hown, hts⟩ (ok_X5_save l D cI cJ a _ _ _ hw) (cwV 0 hts gX5_run_X5_save rfl rfl rfl (by decide +kernel) ⟨Nat.le_of_ble_eq_true rfl, Nat.le_of_ble_eq_true rfl⟩) hK hW hA 0 rfl rfl rfl hl.1 rfl (Nat.le_of_ble_eq_true rfl) dX5_run_22 ⟨Nat.le_of_ble_eq_true rfl, Nat.le_of_ble_eq_true rfl⟩ (fun σ_19 H locs hw hW => ?_)
      refine lv_aload_n hx hb dX5_run_25 rfl (lv_at hl 0 rfl) ?_
      refine lv_iconst (v := 0) hx hb dX5_run_26 (by decide) ?_
      refine pf_m_at hx hb hts hinX5 hown hK hW (hts _ (List.mem_of_getElem? (i := 1) rfl)) dX5_run_27 (fun σ_20 eσ_20 H locs hW => ?_)
      have hw := hw σ_20 eσ_20
      refine lv_iconst (v := 0) hx hb dX5_run_30 (by decide) ?_
      refine lv_istore_n (lv' := [(1, .int 0), (0, .ref (a 0))]) hx hb dX5_run_31 rfl hl (by decide) rfl (fun ls hl => ?_)
      obtain ⟨I21, ⟨n21, hI21⟩, hJ21⟩ := hw
      have hl : lv_has ls 2 [(0, .ref (a 0)), (1, .int 0)] := lv_sub hl [1, 0] rfl
      suffices LP21 : ∀ (n : Nat) (v1_21 : Int32) (σ_21 : MS) (H : Heap) (locs : List Loc) (ls : Array Slot), I21 n v1_21 σ_21 → Wd D A s.heap (mW cI cJ a σ_21) H locs → lv_has ls 2 [(0, .ref (a 0)), (1, .int v1_21)] → W p l e rm_X5_run s m args below meth c H locs 0 0 Q (F0 m 32 ls []) from LP21 n21 0 _ H locs ls hI21 hW hl
      intro n21
      induction n21 using Nat.strongRecOn with
      | ind n21 ih21 =>
        intro v1_21 σ_21 H locs ls hIn hW hl
        have hw := hJ21 n21 v1_21 σ_21 hIn
        refine lv_aload_n hx hb dX5_run_32 rfl (lv_at hl 0 rfl) ?_
        refine kV_Mi (As := []) (rest := []) ⟨hx, hb, hml, hown, hts⟩ (ok_X5_readsPart l D cI cJ a _ _ _ hw) (cwV 0 hts gX5_run_X5_readsPart rfl rfl rfl (by decide +kernel) ⟨Nat.le_of_ble_eq_true rfl, Nat.le_of_ble_eq_true rfl⟩) hK hW hA 0 rfl rfl rfl hl.1 rfl (Nat.le_of_ble_eq_true rfl) dX5_run_33 ⟨Nat.le_of_ble_eq_true rfl, Nat.le_of_ble_eq_true rfl⟩ (fun r_22 σ_23 H locs hw hW => ?_)
        refine lv_if_eq (tgt := 59) hx hb dX5_run_36 (by decide) (fun hc => ?_) (fun hc => ?_)
        · have hw := hw.1 hc
          refine lv_aload_n hx hb dX5_run_59 rfl (lv_at hl 0 rfl) ?_
          refine lv_iconst (v := 0) hx hb dX5_run_60 (by decide) ?_
          refine pf_m_length hx hb hts hinX5 hown hK hW (hts _ (List.mem_of_getElem? (i := 2) rfl)) dX5_run_61 (fun σ_24 eσ_24 H locs hW => ?_)
          have hw := hw σ_24 eσ_24
          refine lv_iload_n hx hb dX5_run_64 rfl (lv_at hl 1 rfl) ?_
          exact hret _ σ_24 _ _ _ _ hw hW dX5_run_65
        · have hw := hw.2 hc
          refine lv_aload_n hx hb dX5_run_39 rfl (lv_at hl 0 rfl) ?_
          refine kV_Mi (As := []) (rest := []) ⟨hx, hb, hml, hown, hts⟩ (ok_X5_isDone l D cI cJ a _ _ _ hw) (cwV 0 hts gX5_run_X5_isDone rfl rfl rfl (by decide +kernel) ⟨Nat.le_of_ble_eq_true rfl, Nat.le_of_ble_eq_true rfl⟩) hK hW hA 0 rfl rfl rfl hl.1 rfl (Nat.le_of_ble_eq_true rfl) dX5_run_40 ⟨Nat.le_of_ble_eq_true rfl, Nat.le_of_ble_eq_true rfl⟩ (fun r_25 σ_26 H locs hw hW => ?_)
          refine lv_if_eq (tgt := 59) hx hb dX5_run_43 (by decide) (fun hc => ?_) (fun hc => ?_)
          · have hw := hw.1 hc
            refine lv_aload_n hx hb dX5_run_59 rfl (lv_at hl 0 rfl) ?_
            refine lv_iconst (v := 0) hx hb dX5_run_60 (by decide) ?_
            refine pf_m_length hx hb hts hinX5 hown hK hW (hts _ (List.mem_of_getElem? (i := 2) rfl)) dX5_run_61 (fun σ_27 eσ_27 H locs hW => ?_)
            have hw := hw σ_27 eσ_27
            refine lv_iload_n hx hb dX5_run_64 rfl (lv_at hl 1 rfl) ?_
            exact hret _ σ_27 _ _ _ _ hw hW dX5_run_65
          · have hw := hw.2 hc
            obtain ⟨v1_28, ev1_28⟩ : ∃ y : Int32, y = v1_21 + 1 := ⟨_, rfl⟩
            have hw := hw v1_28 ev1_28
            refine lv_iinc (v := v1_28) (lv' := [(1, .int v1_28), (0, .ref (a 0))]) hx hb dX5_run_46 hl (k := 1) rfl (by rw [ev1_28]; rfl) (by decide) rfl (fun ls hl => ?_)
            refine lv_aload_n hx hb dX5_run_49 rfl (lv_at hl 1 rfl) ?_
            refine lv_bipush (v := 59) hx hb dX5_run_50 (by decide) ?_
            refine kV_Mi (As := [.int 59]) (rest := []) ⟨hx, hb, hml, hown, hts⟩ (ok_X5_takes l D cI cJ a _ _ _ _ hw) (cwV 1 hts gX5_run_X5_takes rfl rfl rfl (by decide +kernel) ⟨Nat.le_of_ble_eq_true rfl, Nat.le_of_ble_eq_true rfl⟩) hK hW hA 0 rfl rfl rfl hl.1 rfl (Nat.le_of_ble_eq_true rfl) dX5_run_52 ⟨Nat.le_of_ble_eq_true rfl, Nat.le_of_ble_eq_true rfl⟩ (fun r_29 σ_30 H locs hw hW => ?_)
            refine lv_pop hx hb dX5_run_55 rfl ?_
            refine lv_goto (tgt := 32) hx hb dX5_run_56 (by decide) ?_
            obtain ⟨n9, hlt9, hI9⟩ := hw
            exact ih21 n9 hlt9 _ _ _ _ _ hI9 hW (lv_sub hl [1, 0] rfl)
    · have hw := hw.2 hc
      refine lv_iconst (v := 0) hx hb dX5_run_19 (by decide) ?_
      exact hret _ σ_18 _ _ _ _ hw hW dX5_run_20
def wp_X5_keep (σ : MS) (post : Int32 → MS → Prop) : Prop := ∀ σ_1 : MS, σ_1 = ms_thrown σ 0 → wp_X5_copies σ_1 0 7 (fun σ_2 => ∀ σ_3 : MS, σ_3 = ms_isKept σ_2 1 → post ((m_s σ_3) (3 : Int32).toNatClampNeg) σ_3)
abbrev rm_X5_keep : Room := { frames := 1, cells := 0, slots := 0, locals := 23 }
theorem in_X5_keep_X5 : ∀ w ∈ wsX50, w ∈ wsX5_keep := fun w h => List.mem_cons_of_mem _ (List.mem_append_right _ (h))
set_option maxHeartbeats 4000000 in
set_option maxRecDepth 100000 in
theorem ok_X5_keep (l : Launch) (D : va_G) (cI cJ : ClassId) (a : Nat → Nat) (sz : Nat) (σ : MS) (post : Int32 → MS → Prop) (hw : wp_X5_keep σ post) : Mi l yX5_keep wsX5_keep rm_X5_keep [.ref (a 0)] D (tysIJ cI cJ) (mW cI cJ a σ) sz post (mW cI cJ a) := by
  refine s_Mi (by decide) rfl (Nat.le_of_ble_eq_true rfl) ?_
  intro p e s m args below meth c A Q hx hb hml hts hown hin hK hA hret H locs ls hW hl
  have hown : s.vm.findClass RX5 = some m.cls := hown
  have hl : lv_has ls 1 [(0, .ref (a 0))] := hl
  have hinX5 := in_X5_keep_X5
  refine lv_aload_n hx hb dX5_keep_0 rfl (lv_at hl 0 rfl) ?_
  refine lv_iconst (v := 0) hx hb dX5_keep_1 (by decide) ?_
  refine pf_m_thrown hx hb hts hinX5 hown hK hW (hts _ (List.mem_of_getElem? (i := 1) rfl)) dX5_keep_2 (fun σ_1 eσ_1 H locs hW => ?_)
  have hw := hw σ_1 eσ_1
  refine lv_aload_n hx hb dX5_keep_5 rfl (lv_at hl 0 rfl) ?_
  refine lv_iconst (v := 0) hx hb dX5_keep_6 (by decide) ?_
  refine lv_bipush (v := 7) hx hb dX5_keep_7 (by decide) ?_
  refine kV_Mv (As := [.int 0, .int 7]) (rest := []) ⟨hx, hb, hml, hown, hts⟩ (ok_X5_copies l D cI cJ a _ _ _ _ _ hw) (cwV 2 hts gX5_keep_X5_copies rfl rfl rfl (by decide +kernel) ⟨Nat.le_of_ble_eq_true rfl, Nat.le_of_ble_eq_true rfl⟩) hK hW hA 0 rfl rfl rfl hl.1 rfl (Nat.le_of_ble_eq_true rfl) dX5_keep_9 ⟨Nat.le_of_ble_eq_true rfl, Nat.le_of_ble_eq_true rfl⟩ (fun σ_2 H locs hw hW => ?_)
  refine lv_aload_n hx hb dX5_keep_12 rfl (lv_at hl 0 rfl) ?_
  refine lv_iconst (v := 1) hx hb dX5_keep_13 (by decide) ?_
  refine pf_m_isKept (by decide) (by decide) hx hb hts hinX5 hown hK hW (hts _ (List.mem_of_getElem? (i := 2) rfl)) dX5_keep_14 (fun σ_3 eσ_3 H locs hW => ?_)
  have hw := hw σ_3 eσ_3
  refine lv_aload_n hx hb dX5_keep_17 rfl (lv_at hl 0 rfl) ?_
  refine va_get (D := D) (ci := 5) (v := .ref (a 1)) (C := RX5) (T := TX5) (N := 18) hx hb hts hinX5 hown hK hW.1 0 rfl rfl 1 (by decide) (hts _ (List.mem_of_getElem? (i := 3) rfl)) (fun _ h9 => h9) rfl dX5_keep_18 ?_
  refine lv_iconst (v := 3) hx hb dX5_keep_21 (by decide) ?_
  refine va_iald hx hb hK hW.1 1 0 rfl rfl (by unfold vp_in; decide) dX5_keep_22 ?_
  exact hret _ σ_3 _ _ _ _ hw hW dX5_keep_23
def wp_X5_goBack (σ : MS) (post : Int32 → MS → Prop) : Prop := (((m_isKept σ) = 0 → wp_X5_holds σ 1 (fun r_1 σ_2 => ((¬ r_1 = 0 → wp_X5_save σ_2 (fun σ_3 => wp_X5_copies σ_3 7 0 (fun σ_4 => post ((m_s σ_4) (3 : Int32).toNatClampNeg) σ_4))) ∧ (r_1 = 0 → post 0 σ_2)))) ∧ (¬ (m_isKept σ) = 0 → wp_X5_holds σ 0 (fun r_5 σ_6 => ((¬ r_5 = 0 → wp_X5_save σ_6 (fun σ_7 => wp_X5_copies σ_7 7 0 (fun σ_8 => post ((m_s σ_8) (3 : Int32).toNatClampNeg) σ_8))) ∧ (r_5 = 0 → post 0 σ_6)))))
abbrev rm_X5_goBack : Room := { frames := 2, cells := 0, slots := 0, locals := 44 }
theorem in_X5_goBack_X5 : ∀ w ∈ wsX50, w ∈ wsX5_goBack := fun w h => List.mem_cons_of_mem _ (List.mem_append_right _ (h))
set_option maxHeartbeats 4000000 in
set_option maxRecDepth 100000 in
theorem ok_X5_goBack (l : Launch) (D : va_G) (cI cJ : ClassId) (a : Nat → Nat) (sz : Nat) (σ : MS) (post : Int32 → MS → Prop) (hw : wp_X5_goBack σ post) : Mi l yX5_goBack wsX5_goBack rm_X5_goBack [.ref (a 0)] D (tysIJ cI cJ) (mW cI cJ a σ) sz post (mW cI cJ a) := by
  refine s_Mi (by decide) rfl (Nat.le_of_ble_eq_true rfl) ?_
  intro p e s m args below meth c A Q hx hb hml hts hown hin hK hA hret H locs ls hW hl
  have hown : s.vm.findClass RX5 = some m.cls := hown
  have hl : lv_has ls 1 [(0, .ref (a 0))] := hl
  have hinX5 := in_X5_goBack_X5
  refine lv_aload_n hx hb dX5_goBack_0 rfl (lv_at hl 0 rfl) ?_
  refine lv_aload_n hx hb dX5_goBack_1 rfl (lv_at hl 0 rfl) ?_
  refine va_get (D := D) (ci := 5) (v := .int (m_isKept σ)) (C := RX5) (T := TX5) (N := 18) hx hb hts hinX5 hown hK hW.1 0 rfl rfl 3 (by decide) (hts _ (List.mem_of_getElem? (i := 1) rfl)) (fun _ h9 => h9) rfl dX5_goBack_2 ?_
  refine lv_if_eq (tgt := 12) hx hb dX5_goBack_5 (by decide) (fun hc => ?_) (fun hc => ?_)
  · have hw := hw.1 hc
    refine lv_iconst (v := 1) hx hb dX5_goBack_12 (by decide) ?_
    refine kV_Mi (As := [.int 1]) (rest := []) ⟨hx, hb, hml, hown, hts⟩ (ok_X5_holds l D cI cJ a _ _ _ _ hw) (cwV 1 hts gX5_goBack_X5_holds rfl rfl rfl (by decide +kernel) ⟨Nat.le_of_ble_eq_true rfl, Nat.le_of_ble_eq_true rfl⟩) hK hW hA 0 rfl rfl rfl hl.1 rfl (Nat.le_of_ble_eq_true rfl) dX5_goBack_13 ⟨Nat.le_of_ble_eq_true rfl, Nat.le_of_ble_eq_true rfl⟩ (fun r_1 σ_2 H locs hw hW => ?_)
    refine lv_if_ne (tgt := 21) hx hb dX5_goBack_16 (by decide) (fun hc => ?_) (fun hc => ?_)
    · have hw := hw.1 hc
      refine lv_aload_n hx hb dX5_goBack_21 rfl (lv_at hl 0 rfl) ?_
      refine kV_Mv (As := []) (rest := []) ⟨hx, hb, hml, hown, hts⟩ (ok_X5_save l D cI cJ a _ _ _ hw) (cwV 0 hts gX5_goBack_X5_save rfl rfl rfl (by decide +kernel) ⟨Nat.le_of_ble_eq_true rfl, Nat.le_of_ble_eq_true rfl⟩) hK hW hA 0 rfl rfl rfl hl.1 rfl (Nat.le_of_ble_eq_true rfl) dX5_goBack_22 ⟨Nat.le_of_ble_eq_true rfl, Nat.le_of_ble_eq_true rfl⟩ (fun σ_3 H locs hw hW => ?_)
      refine lv_aload_n hx hb dX5_goBack_25 rfl (lv_at hl 0 rfl) ?_
      refine lv_bipush (v := 7) hx hb dX5_goBack_26 (by decide) ?_
      refine lv_iconst (v := 0) hx hb dX5_goBack_28 (by decide) ?_
      refine kV_Mv (As := [.int 7, .int 0]) (rest := []) ⟨hx, hb, hml, hown, hts⟩ (ok_X5_copies l D cI cJ a _ _ _ _ _ hw) (cwV 2 hts gX5_goBack_X5_copies rfl rfl rfl (by decide +kernel) ⟨Nat.le_of_ble_eq_true rfl, Nat.le_of_ble_eq_true rfl⟩) hK hW hA 0 rfl rfl rfl hl.1 rfl (Nat.le_of_ble_eq_true rfl) dX5_goBack_29 ⟨Nat.le_of_ble_eq_true rfl, Nat.le_of_ble_eq_true rfl⟩ (fun σ_4 H locs hw hW => ?_)
      refine lv_aload_n hx hb dX5_goBack_32 rfl (lv_at hl 0 rfl) ?_
      refine va_get (D := D) (ci := 5) (v := .ref (a 1)) (C := RX5) (T := TX5) (N := 18) hx hb hts hinX5 hown hK hW.1 0 rfl rfl 1 (by decide) (hts _ (List.mem_of_getElem? (i := 2) rfl)) (fun _ h9 => h9) rfl dX5_goBack_33 ?_
      refine lv_iconst (v := 3) hx hb dX5_goBack_36 (by decide) ?_
      refine va_iald hx hb hK hW.1 1 0 rfl rfl (by unfold vp_in; decide) dX5_goBack_37 ?_
      exact hret _ σ_4 _ _ _ _ hw hW dX5_goBack_38
    · have hw := hw.2 hc
      refine lv_iconst (v := 0) hx hb dX5_goBack_19 (by decide) ?_
      exact hret _ σ_2 _ _ _ _ hw hW dX5_goBack_20
  · have hw := hw.2 hc
    refine lv_iconst (v := 0) hx hb dX5_goBack_8 (by decide) ?_
    refine lv_goto (tgt := 13) hx hb dX5_goBack_9 (by decide) ?_
    refine kV_Mi (As := [.int 0]) (rest := []) ⟨hx, hb, hml, hown, hts⟩ (ok_X5_holds l D cI cJ a _ _ _ _ hw) (cwV 1 hts gX5_goBack_X5_holds rfl rfl rfl (by decide +kernel) ⟨Nat.le_of_ble_eq_true rfl, Nat.le_of_ble_eq_true rfl⟩) hK hW hA 0 rfl rfl rfl hl.1 rfl (Nat.le_of_ble_eq_true rfl) dX5_goBack_13 ⟨Nat.le_of_ble_eq_true rfl, Nat.le_of_ble_eq_true rfl⟩ (fun r_5 σ_6 H locs hw hW => ?_)
    refine lv_if_ne (tgt := 21) hx hb dX5_goBack_16 (by decide) (fun hc => ?_) (fun hc => ?_)
    · have hw := hw.1 hc
      refine lv_aload_n hx hb dX5_goBack_21 rfl (lv_at hl 0 rfl) ?_
      refine kV_Mv (As := []) (rest := []) ⟨hx, hb, hml, hown, hts⟩ (ok_X5_save l D cI cJ a _ _ _ hw) (cwV 0 hts gX5_goBack_X5_save rfl rfl rfl (by decide +kernel) ⟨Nat.le_of_ble_eq_true rfl, Nat.le_of_ble_eq_true rfl⟩) hK hW hA 0 rfl rfl rfl hl.1 rfl (Nat.le_of_ble_eq_true rfl) dX5_goBack_22 ⟨Nat.le_of_ble_eq_true rfl, Nat.le_of_ble_eq_true rfl⟩ (fun σ_7 H locs hw hW => ?_)
      refine lv_aload_n hx hb dX5_goBack_25 rfl (lv_at hl 0 rfl) ?_
      refine lv_bipush (v := 7) hx hb dX5_goBack_26 (by decide) ?_
      refine lv_iconst (v := 0) hx hb dX5_goBack_28 (by decide) ?_
      refine kV_Mv (As := [.int 7, .int 0]) (rest := []) ⟨hx, hb, hml, hown, hts⟩ (ok_X5_copies l D cI cJ a _ _ _ _ _ hw) (cwV 2 hts gX5_goBack_X5_copies rfl rfl rfl (by decide +kernel) ⟨Nat.le_of_ble_eq_true rfl, Nat.le_of_ble_eq_true rfl⟩) hK hW hA 0 rfl rfl rfl hl.1 rfl (Nat.le_of_ble_eq_true rfl) dX5_goBack_29 ⟨Nat.le_of_ble_eq_true rfl, Nat.le_of_ble_eq_true rfl⟩ (fun σ_8 H locs hw hW => ?_)
      refine lv_aload_n hx hb dX5_goBack_32 rfl (lv_at hl 0 rfl) ?_
      refine va_get (D := D) (ci := 5) (v := .ref (a 1)) (C := RX5) (T := TX5) (N := 18) hx hb hts hinX5 hown hK hW.1 0 rfl rfl 1 (by decide) (hts _ (List.mem_of_getElem? (i := 2) rfl)) (fun _ h9 => h9) rfl dX5_goBack_33 ?_
      refine lv_iconst (v := 3) hx hb dX5_goBack_36 (by decide) ?_
      refine va_iald hx hb hK hW.1 1 0 rfl rfl (by unfold vp_in; decide) dX5_goBack_37 ?_
      exact hret _ σ_8 _ _ _ _ hw hW dX5_goBack_38
    · have hw := hw.2 hc
      refine lv_iconst (v := 0) hx hb dX5_goBack_19 (by decide) ?_
      exact hret _ σ_6 _ _ _ _ hw hW dX5_goBack_20
def wp_X5_undo (σ : MS) (post : Int32 → MS → Prop) : Prop := (((m_saved σ) ≤ 0 → wp_X5_holds σ 1 (fun r_1 σ_2 => ((¬ r_1 = 0 → wp_X5_copies σ_2 (m_saved σ_2) 0 (fun σ_3 => ∀ σ_4 : MS, σ_4 = ms_saved σ_3 ((m_saved σ_3) - 1) → post (m_saved σ_4) σ_4)) ∧ (r_1 = 0 → post 0 σ_2)))) ∧ (¬ (m_saved σ) ≤ 0 → wp_X5_holds σ 0 (fun r_5 σ_6 => ((¬ r_5 = 0 → wp_X5_copies σ_6 (m_saved σ_6) 0 (fun σ_7 => ∀ σ_8 : MS, σ_8 = ms_saved σ_7 ((m_saved σ_7) - 1) → post (m_saved σ_8) σ_8)) ∧ (r_5 = 0 → post 0 σ_6)))))
abbrev rm_X5_undo : Room := { frames := 1, cells := 0, slots := 0, locals := 23 }
theorem in_X5_undo_X5 : ∀ w ∈ wsX50, w ∈ wsX5_undo := fun w h => List.mem_cons_of_mem _ (List.mem_append_right _ (h))
set_option maxHeartbeats 4000000 in
set_option maxRecDepth 100000 in
theorem ok_X5_undo (l : Launch) (D : va_G) (cI cJ : ClassId) (a : Nat → Nat) (sz : Nat) (σ : MS) (post : Int32 → MS → Prop) (hw : wp_X5_undo σ post) : Mi l yX5_undo wsX5_undo rm_X5_undo [.ref (a 0)] D (tysIJ cI cJ) (mW cI cJ a σ) sz post (mW cI cJ a) := by
  refine s_Mi (by decide) rfl (Nat.le_of_ble_eq_true rfl) ?_
  intro p e s m args below meth c A Q hx hb hml hts hown hin hK hA hret H locs ls hW hl
  have hown : s.vm.findClass RX5 = some m.cls := hown
  have hl : lv_has ls 1 [(0, .ref (a 0))] := hl
  have hinX5 := in_X5_undo_X5
  refine lv_aload_n hx hb dX5_undo_0 rfl (lv_at hl 0 rfl) ?_
  refine lv_aload_n hx hb dX5_undo_1 rfl (lv_at hl 0 rfl) ?_
  refine va_get (D := D) (ci := 5) (v := .int (m_saved σ)) (C := RX5) (T := TX5) (N := 18) hx hb hts hinX5 hown hK hW.1 0 rfl rfl 2 (by decide) (hts _ (List.mem_of_getElem? (i := 1) rfl)) (fun _ h9 => h9) rfl dX5_undo_2 ?_
  refine lv_if_le (tgt := 12) hx hb dX5_undo_5 (by decide) (fun hc => ?_) (fun hc => ?_)
  · have hw := hw.1 hc
    refine lv_iconst (v := 1) hx hb dX5_undo_12 (by decide) ?_
    refine kV_Mi (As := [.int 1]) (rest := []) ⟨hx, hb, hml, hown, hts⟩ (ok_X5_holds l D cI cJ a _ _ _ _ hw) (cwV 1 hts gX5_undo_X5_holds rfl rfl rfl (by decide +kernel) ⟨Nat.le_of_ble_eq_true rfl, Nat.le_of_ble_eq_true rfl⟩) hK hW hA 0 rfl rfl rfl hl.1 rfl (Nat.le_of_ble_eq_true rfl) dX5_undo_13 ⟨Nat.le_of_ble_eq_true rfl, Nat.le_of_ble_eq_true rfl⟩ (fun r_1 σ_2 H locs hw hW => ?_)
    refine lv_if_ne (tgt := 21) hx hb dX5_undo_16 (by decide) (fun hc => ?_) (fun hc => ?_)
    · have hw := hw.1 hc
      refine lv_aload_n hx hb dX5_undo_21 rfl (lv_at hl 0 rfl) ?_
      refine lv_aload_n hx hb dX5_undo_22 rfl (lv_at hl 0 rfl) ?_
      refine va_get (D := D) (ci := 5) (v := .int (m_saved σ_2)) (C := RX5) (T := TX5) (N := 18) hx hb hts hinX5 hown hK hW.1 0 rfl rfl 2 (by decide) (hts _ (List.mem_of_getElem? (i := 1) rfl)) (fun _ h9 => h9) rfl dX5_undo_23 ?_
      refine lv_iconst (v := 0) hx hb dX5_undo_26 (by decide) ?_
      refine kV_Mv (As := [.int (m_saved σ_2), .int 0]) (rest := []) ⟨hx, hb, hml, hown, hts⟩ (ok_X5_copies l D cI cJ a _ _ _ _ _ hw) (cwV 2 hts gX5_undo_X5_copies rfl rfl rfl (by decide +kernel) ⟨Nat.le_of_ble_eq_true rfl, Nat.le_of_ble_eq_true rfl⟩) hK hW hA 0 rfl rfl rfl hl.1 rfl (Nat.le_of_ble_eq_true rfl) dX5_undo_27 ⟨Nat.le_of_ble_eq_true rfl, Nat.le_of_ble_eq_true rfl⟩ (fun σ_3 H locs hw hW => ?_)
      refine lv_aload_n hx hb dX5_undo_30 rfl (lv_at hl 0 rfl) ?_
      refine lv_dup hx hb dX5_undo_31 rfl ?_
      refine va_get (D := D) (ci := 5) (v := .int (m_saved σ_3)) (C := RX5) (T := TX5) (N := 18) hx hb hts hinX5 hown hK hW.1 0 rfl rfl 2 (by decide) (hts _ (List.mem_of_getElem? (i := 1) rfl)) (fun _ h9 => h9) rfl dX5_undo_32 ?_
      refine lv_iconst (v := 1) hx hb dX5_undo_35 (by decide) ?_
      refine lv_isub hx hb dX5_undo_36 ?_
      refine pf_m_saved hx hb hts hinX5 hown hK hW (hts _ (List.mem_of_getElem? (i := 1) rfl)) dX5_undo_37 (fun σ_4 eσ_4 H locs hW => ?_)
      have hw := hw σ_4 eσ_4
      refine lv_aload_n hx hb dX5_undo_40 rfl (lv_at hl 0 rfl) ?_
      refine va_get (D := D) (ci := 5) (v := .int (m_saved σ_4)) (C := RX5) (T := TX5) (N := 18) hx hb hts hinX5 hown hK hW.1 0 rfl rfl 2 (by decide) (hts _ (List.mem_of_getElem? (i := 1) rfl)) (fun _ h9 => h9) rfl dX5_undo_41 ?_
      exact hret _ σ_4 _ _ _ _ hw hW dX5_undo_44
    · have hw := hw.2 hc
      refine lv_iconst (v := 0) hx hb dX5_undo_19 (by decide) ?_
      exact hret _ σ_2 _ _ _ _ hw hW dX5_undo_20
  · have hw := hw.2 hc
    refine lv_iconst (v := 0) hx hb dX5_undo_8 (by decide) ?_
    refine lv_goto (tgt := 13) hx hb dX5_undo_9 (by decide) ?_
    refine kV_Mi (As := [.int 0]) (rest := []) ⟨hx, hb, hml, hown, hts⟩ (ok_X5_holds l D cI cJ a _ _ _ _ hw) (cwV 1 hts gX5_undo_X5_holds rfl rfl rfl (by decide +kernel) ⟨Nat.le_of_ble_eq_true rfl, Nat.le_of_ble_eq_true rfl⟩) hK hW hA 0 rfl rfl rfl hl.1 rfl (Nat.le_of_ble_eq_true rfl) dX5_undo_13 ⟨Nat.le_of_ble_eq_true rfl, Nat.le_of_ble_eq_true rfl⟩ (fun r_5 σ_6 H locs hw hW => ?_)
    refine lv_if_ne (tgt := 21) hx hb dX5_undo_16 (by decide) (fun hc => ?_) (fun hc => ?_)
    · have hw := hw.1 hc
      refine lv_aload_n hx hb dX5_undo_21 rfl (lv_at hl 0 rfl) ?_
      refine lv_aload_n hx hb dX5_undo_22 rfl (lv_at hl 0 rfl) ?_
      refine va_get (D := D) (ci := 5) (v := .int (m_saved σ_6)) (C := RX5) (T := TX5) (N := 18) hx hb hts hinX5 hown hK hW.1 0 rfl rfl 2 (by decide) (hts _ (List.mem_of_getElem? (i := 1) rfl)) (fun _ h9 => h9) rfl dX5_undo_23 ?_
      refine lv_iconst (v := 0) hx hb dX5_undo_26 (by decide) ?_
      refine kV_Mv (As := [.int (m_saved σ_6), .int 0]) (rest := []) ⟨hx, hb, hml, hown, hts⟩ (ok_X5_copies l D cI cJ a _ _ _ _ _ hw) (cwV 2 hts gX5_undo_X5_copies rfl rfl rfl (by decide +kernel) ⟨Nat.le_of_ble_eq_true rfl, Nat.le_of_ble_eq_true rfl⟩) hK hW hA 0 rfl rfl rfl hl.1 rfl (Nat.le_of_ble_eq_true rfl) dX5_undo_27 ⟨Nat.le_of_ble_eq_true rfl, Nat.le_of_ble_eq_true rfl⟩ (fun σ_7 H locs hw hW => ?_)
      refine lv_aload_n hx hb dX5_undo_30 rfl (lv_at hl 0 rfl) ?_
      refine lv_dup hx hb dX5_undo_31 rfl ?_
      refine va_get (D := D) (ci := 5) (v := .int (m_saved σ_7)) (C := RX5) (T := TX5) (N := 18) hx hb hts hinX5 hown hK hW.1 0 rfl rfl 2 (by decide) (hts _ (List.mem_of_getElem? (i := 1) rfl)) (fun _ h9 => h9) rfl dX5_undo_32 ?_
      refine lv_iconst (v := 1) hx hb dX5_undo_35 (by decide) ?_
      refine lv_isub hx hb dX5_undo_36 ?_
      refine pf_m_saved hx hb hts hinX5 hown hK hW (hts _ (List.mem_of_getElem? (i := 1) rfl)) dX5_undo_37 (fun σ_8 eσ_8 H locs hW => ?_)
      have hw := hw σ_8 eσ_8
      refine lv_aload_n hx hb dX5_undo_40 rfl (lv_at hl 0 rfl) ?_
      refine va_get (D := D) (ci := 5) (v := .int (m_saved σ_8)) (C := RX5) (T := TX5) (N := 18) hx hb hts hinX5 hown hK hW.1 0 rfl rfl 2 (by decide) (hts _ (List.mem_of_getElem? (i := 1) rfl)) (fun _ h9 => h9) rfl dX5_undo_41 ?_
      exact hret _ σ_8 _ _ _ _ hw hW dX5_undo_44
    · have hw := hw.2 hc
      refine lv_iconst (v := 0) hx hb dX5_undo_19 (by decide) ?_
      exact hret _ σ_6 _ _ _ _ hw hW dX5_undo_20
def wp_X5_bids (σ : MS) (p1 : Int32) (p2 : Int32) (post : Int32 → Prop) : Prop := ∃ I1 : Nat → Int32 → Int32 → Prop, (∃ n : Nat, I1 n 0 0) ∧ ∀ (n1 : Nat) (v3_1 : Int32) (v4_1 : Int32), I1 n1 v3_1 v4_1 → ((6 ≤ v4_1 → post v3_1) ∧ (¬ 6 ≤ v4_1 → ((p2 = 0 → wp_X5_isBid σ v4_1 p1 (fun r_2 => ((r_2 = 0 → ∀ v3_3 : Int32, v3_3 = (v3_1 + 0) → ∀ v4_4 : Int32, v4_4 = v4_1 + 1 → ∃ n' : Nat, n' < n1 ∧ I1 n' v3_3 v4_4) ∧ (¬ r_2 = 0 → ∀ v3_5 : Int32, v3_5 = (v3_1 + 1) → ∀ v4_6 : Int32, v4_6 = v4_1 + 1 → ∃ n' : Nat, n' < n1 ∧ I1 n' v3_5 v4_6)))) ∧ (¬ p2 = 0 → wp_X5_isBid σ p1 v4_1 (fun r_7 => ((r_7 = 0 → ∀ v3_8 : Int32, v3_8 = (v3_1 + 0) → ∀ v4_9 : Int32, v4_9 = v4_1 + 1 → ∃ n' : Nat, n' < n1 ∧ I1 n' v3_8 v4_9) ∧ (¬ r_7 = 0 → ∀ v3_10 : Int32, v3_10 = (v3_1 + 1) → ∀ v4_11 : Int32, v4_11 = v4_1 + 1 → ∃ n' : Nat, n' < n1 ∧ I1 n' v3_10 v4_11)))))))
abbrev rm_X5_bids : Room := { frames := 2, cells := 0, slots := 0, locals := 44 }
set_option maxHeartbeats 4000000 in
set_option maxRecDepth 100000 in
theorem ok_X5_bids (l : Launch) (D : va_G) (cI cJ : ClassId) (a : Nat → Nat) (sz : Nat) (σ : MS) (p1 : Int32) (p2 : Int32) (post : Int32 → Prop) (hw : wp_X5_bids σ p1 p2 post) : Mi l yX5_bids wsX5_bids rm_X5_bids [.ref (a 0), .int p1, .int p2] D (tysIJ cI cJ) (mW cI cJ a σ) sz (fun r (_ : Unit) => post r) (fun _ => mW cI cJ a σ) := by
  refine s_Mi (by decide) rfl (Nat.le_of_ble_eq_true rfl) ?_
  intro p e s m args below meth c A Q hx hb hml hts hown hin hK hA hret H locs ls hW hl
  have hown : s.vm.findClass RX5 = some m.cls := hown
  have hl : lv_has ls 6 [(0, .ref (a 0)), (1, .int p1), (2, .int p2)] := hl
  refine lv_iconst (v := 0) hx hb dX5_bids_0 (by decide) ?_
  refine lv_istore_n (lv' := [(3, .int 0), (0, .ref (a 0)), (1, .int p1), (2, .int p2)]) hx hb dX5_bids_1 rfl hl (by decide) rfl (fun ls hl => ?_)
  refine lv_iconst (v := 0) hx hb dX5_bids_2 (by decide) ?_
  refine lv_istore (lv' := [(4, .int 0), (3, .int 0), (0, .ref (a 0)), (1, .int p1), (2, .int p2)]) hx hb dX5_bids_3 hl (by decide) rfl (fun ls hl => ?_)
  obtain ⟨I1, ⟨n1, hI1⟩, hJ1⟩ := hw
  have hl : lv_has ls 6 [(0, .ref (a 0)), (1, .int p1), (2, .int p2), (3, .int 0), (4, .int 0)] := lv_sub hl [2, 3, 4, 1, 0] rfl
  suffices LP1 : ∀ (n : Nat) (v3_1 : Int32) (v4_1 : Int32) (H : Heap) (locs : List Loc) (ls : Array Slot), I1 n v3_1 v4_1 → Wd D A s.heap (mW cI cJ a σ) H locs → lv_has ls 6 [(0, .ref (a 0)), (1, .int p1), (2, .int p2), (3, .int v3_1), (4, .int v4_1)] → W p l e rm_X5_bids s m args below meth c H locs 0 0 Q (F0 m 5 ls []) from LP1 n1 0 0 H locs ls hI1 hW hl
  intro n1
  induction n1 using Nat.strongRecOn with
  | ind n1 ih1 =>
    intro v3_1 v4_1 H locs ls hIn hW hl
    have hw := hJ1 n1 v3_1 v4_1 hIn
    refine lv_iload hx hb dX5_bids_5 (lv_at hl 4 rfl) ?_
    refine lv_bipush (v := 6) hx hb dX5_bids_7 (by decide) ?_
    refine lv_icmp_ge (tgt := 54) hx hb dX5_bids_9 (by decide) (fun hc => ?_) (fun hc => ?_)
    · have hw := hw.1 hc
      refine lv_iload_n hx hb dX5_bids_54 rfl (lv_at hl 3 rfl) ?_
      exact hret _ () _ _ _ _ hw hW dX5_bids_55
    · have hw := hw.2 hc
      refine lv_iload_n hx hb dX5_bids_12 rfl (lv_at hl 2 rfl) ?_
      refine lv_if_eq (tgt := 26) hx hb dX5_bids_13 (by decide) (fun hc => ?_) (fun hc => ?_)
      · have hw := hw.1 hc
        refine lv_aload_n hx hb dX5_bids_26 rfl (lv_at hl 0 rfl) ?_
        refine lv_iload hx hb dX5_bids_27 (lv_at hl 4 rfl) ?_
        refine lv_iload_n hx hb dX5_bids_29 rfl (lv_at hl 1 rfl) ?_
        refine kV_Mi (As := [.int v4_1, .int p1]) (rest := []) ⟨hx, hb, hml, hown, hts⟩ (ok_X5_isBid l D cI cJ a _ _ _ _ _ hw) (cwV 2 hts gX5_bids_X5_isBid rfl rfl rfl (by decide +kernel) ⟨Nat.le_of_ble_eq_true rfl, Nat.le_of_ble_eq_true rfl⟩) hK hW hA 0 rfl rfl rfl hl.1 rfl (Nat.le_of_ble_eq_true rfl) dX5_bids_30 ⟨Nat.le_of_ble_eq_true rfl, Nat.le_of_ble_eq_true rfl⟩ (fun r_2 _ H locs hw hW => ?_)
        refine lv_istore (lv' := [(5, .int r_2), (0, .ref (a 0)), (1, .int p1), (2, .int p2), (3, .int v3_1), (4, .int v4_1)]) hx hb dX5_bids_33 hl (by decide) rfl (fun ls hl => ?_)
        refine lv_iload_n hx hb dX5_bids_35 rfl (lv_at hl 4 rfl) ?_
        refine lv_iload hx hb dX5_bids_36 (lv_at hl 0 rfl) ?_
        refine lv_if_eq (tgt := 45) hx hb dX5_bids_38 (by decide) (fun hc => ?_) (fun hc => ?_)
        · have hw := hw.1 hc
          refine lv_iconst (v := 0) hx hb dX5_bids_45 (by decide) ?_
          refine lv_iadd hx hb dX5_bids_46 ?_
          refine lv_topi (fun v3_3 ev3_3 => ?_)
          have hw := hw v3_3 ev3_3
          refine lv_istore_n (lv' := [(3, .int v3_3), (5, .int r_2), (0, .ref (a 0)), (1, .int p1), (2, .int p2), (4, .int v4_1)]) hx hb dX5_bids_47 rfl hl (by decide) rfl (fun ls hl => ?_)
          obtain ⟨v4_4, ev4_4⟩ : ∃ y : Int32, y = v4_1 + 1 := ⟨_, rfl⟩
          have hw := hw v4_4 ev4_4
          refine lv_iinc (v := v4_4) (lv' := [(4, .int v4_4), (3, .int v3_3), (5, .int r_2), (0, .ref (a 0)), (1, .int p1), (2, .int p2)]) hx hb dX5_bids_48 hl (k := 5) rfl (by rw [ev4_4]; rfl) (by decide) rfl (fun ls hl => ?_)
          refine lv_goto (tgt := 5) hx hb dX5_bids_51 (by decide) ?_
          obtain ⟨n9, hlt9, hI9⟩ := hw
          exact ih1 n9 hlt9 _ _ _ _ _ hI9 hW (lv_sub hl [3, 4, 5, 1, 0] rfl)
        · have hw := hw.2 hc
          refine lv_iconst (v := 1) hx hb dX5_bids_41 (by decide) ?_
          refine lv_goto (tgt := 46) hx hb dX5_bids_42 (by decide) ?_
          refine lv_iadd hx hb dX5_bids_46 ?_
          refine lv_topi (fun v3_5 ev3_5 => ?_)
          have hw := hw v3_5 ev3_5
          refine lv_istore_n (lv' := [(3, .int v3_5), (5, .int r_2), (0, .ref (a 0)), (1, .int p1), (2, .int p2), (4, .int v4_1)]) hx hb dX5_bids_47 rfl hl (by decide) rfl (fun ls hl => ?_)
          obtain ⟨v4_6, ev4_6⟩ : ∃ y : Int32, y = v4_1 + 1 := ⟨_, rfl⟩
          have hw := hw v4_6 ev4_6
          refine lv_iinc (v := v4_6) (lv' := [(4, .int v4_6), (3, .int v3_5), (5, .int r_2), (0, .ref (a 0)), (1, .int p1), (2, .int p2)]) hx hb dX5_bids_48 hl (k := 5) rfl (by rw [ev4_6]; rfl) (by decide) rfl (fun ls hl => ?_)
          refine lv_goto (tgt := 5) hx hb dX5_bids_51 (by decide) ?_
          obtain ⟨n9, hlt9, hI9⟩ := hw
          exact ih1 n9 hlt9 _ _ _ _ _ hI9 hW (lv_sub hl [3, 4, 5, 1, 0] rfl)
      · have hw := hw.2 hc
        refine lv_aload_n hx hb dX5_bids_16 rfl (lv_at hl 0 rfl) ?_
        refine lv_iload_n hx hb dX5_bids_17 rfl (lv_at hl 1 rfl) ?_
        refine lv_iload hx hb dX5_bids_18 (lv_at hl 4 rfl) ?_
        refine kV_Mi (As := [.int p1, .int v4_1]) (rest := []) ⟨hx, hb, hml, hown, hts⟩ (ok_X5_isBid l D cI cJ a _ _ _ _ _ hw) (cwV 2 hts gX5_bids_X5_isBid rfl rfl rfl (by decide +kernel) ⟨Nat.le_of_ble_eq_true rfl, Nat.le_of_ble_eq_true rfl⟩) hK hW hA 0 rfl rfl rfl hl.1 rfl (Nat.le_of_ble_eq_true rfl) dX5_bids_20 ⟨Nat.le_of_ble_eq_true rfl, Nat.le_of_ble_eq_true rfl⟩ (fun r_7 _ H locs hw hW => ?_)
        refine lv_goto (tgt := 33) hx hb dX5_bids_23 (by decide) ?_
        refine lv_istore (lv' := [(5, .int r_7), (0, .ref (a 0)), (1, .int p1), (2, .int p2), (3, .int v3_1), (4, .int v4_1)]) hx hb dX5_bids_33 hl (by decide) rfl (fun ls hl => ?_)
        refine lv_iload_n hx hb dX5_bids_35 rfl (lv_at hl 4 rfl) ?_
        refine lv_iload hx hb dX5_bids_36 (lv_at hl 0 rfl) ?_
        refine lv_if_eq (tgt := 45) hx hb dX5_bids_38 (by decide) (fun hc => ?_) (fun hc => ?_)
        · have hw := hw.1 hc
          refine lv_iconst (v := 0) hx hb dX5_bids_45 (by decide) ?_
          refine lv_iadd hx hb dX5_bids_46 ?_
          refine lv_topi (fun v3_8 ev3_8 => ?_)
          have hw := hw v3_8 ev3_8
          refine lv_istore_n (lv' := [(3, .int v3_8), (5, .int r_7), (0, .ref (a 0)), (1, .int p1), (2, .int p2), (4, .int v4_1)]) hx hb dX5_bids_47 rfl hl (by decide) rfl (fun ls hl => ?_)
          obtain ⟨v4_9, ev4_9⟩ : ∃ y : Int32, y = v4_1 + 1 := ⟨_, rfl⟩
          have hw := hw v4_9 ev4_9
          refine lv_iinc (v := v4_9) (lv' := [(4, .int v4_9), (3, .int v3_8), (5, .int r_7), (0, .ref (a 0)), (1, .int p1), (2, .int p2)]) hx hb dX5_bids_48 hl (k := 5) rfl (by rw [ev4_9]; rfl) (by decide) rfl (fun ls hl => ?_)
          refine lv_goto (tgt := 5) hx hb dX5_bids_51 (by decide) ?_
          obtain ⟨n9, hlt9, hI9⟩ := hw
          exact ih1 n9 hlt9 _ _ _ _ _ hI9 hW (lv_sub hl [3, 4, 5, 1, 0] rfl)
        · have hw := hw.2 hc
          refine lv_iconst (v := 1) hx hb dX5_bids_41 (by decide) ?_
          refine lv_goto (tgt := 46) hx hb dX5_bids_42 (by decide) ?_
          refine lv_iadd hx hb dX5_bids_46 ?_
          refine lv_topi (fun v3_10 ev3_10 => ?_)
          have hw := hw v3_10 ev3_10
          refine lv_istore_n (lv' := [(3, .int v3_10), (5, .int r_7), (0, .ref (a 0)), (1, .int p1), (2, .int p2), (4, .int v4_1)]) hx hb dX5_bids_47 rfl hl (by decide) rfl (fun ls hl => ?_)
          obtain ⟨v4_11, ev4_11⟩ : ∃ y : Int32, y = v4_1 + 1 := ⟨_, rfl⟩
          have hw := hw v4_11 ev4_11
          refine lv_iinc (v := v4_11) (lv' := [(4, .int v4_11), (3, .int v3_10), (5, .int r_7), (0, .ref (a 0)), (1, .int p1), (2, .int p2)]) hx hb dX5_bids_48 hl (k := 5) rfl (by rw [ev4_11]; rfl) (by decide) rfl (fun ls hl => ?_)
          refine lv_goto (tgt := 5) hx hb dX5_bids_51 (by decide) ?_
          obtain ⟨n9, hlt9, hI9⟩ := hw
          exact ih1 n9 hlt9 _ _ _ _ _ hI9 hW (lv_sub hl [3, 4, 5, 1, 0] rfl)
def wp_X5_ofSpot (σ : MS) (p1 : Int32) (p2 : Int32) (post : Int32 → Prop) : Prop := ((4 ≤ p2 → ((¬ p2 = 4 → wp_X5_of σ p1 4 (fun r_1 => post r_1)) ∧ (p2 = 4 → wp_X5_bids σ p1 0 (fun r_2 => post r_2)))) ∧ (¬ 4 ≤ p2 → wp_X5_of σ p1 p2 (fun r_3 => post r_3)))
abbrev rm_X5_ofSpot : Room := { frames := 3, cells := 0, slots := 0, locals := 69 }
set_option maxHeartbeats 4000000 in
set_option maxRecDepth 100000 in
theorem ok_X5_ofSpot (l : Launch) (D : va_G) (cI cJ : ClassId) (a : Nat → Nat) (sz : Nat) (σ : MS) (p1 : Int32) (p2 : Int32) (post : Int32 → Prop) (hw : wp_X5_ofSpot σ p1 p2 post) : Mi l yX5_ofSpot wsX5_ofSpot rm_X5_ofSpot [.ref (a 0), .int p1, .int p2] D (tysIJ cI cJ) (mW cI cJ a σ) sz (fun r (_ : Unit) => post r) (fun _ => mW cI cJ a σ) := by
  refine s_Mi (by decide) rfl (Nat.le_of_ble_eq_true rfl) ?_
  intro p e s m args below meth c A Q hx hb hml hts hown hin hK hA hret H locs ls hW hl
  have hown : s.vm.findClass RX5 = some m.cls := hown
  have hl : lv_has ls 3 [(0, .ref (a 0)), (1, .int p1), (2, .int p2)] := hl
  refine lv_iload_n hx hb dX5_ofSpot_0 rfl (lv_at hl 2 rfl) ?_
  refine lv_iconst (v := 4) hx hb dX5_ofSpot_1 (by decide) ?_
  refine lv_icmp_ge (tgt := 14) hx hb dX5_ofSpot_2 (by decide) (fun hc => ?_) (fun hc => ?_)
  · have hw := hw.1 hc
    refine lv_iload_n hx hb dX5_ofSpot_14 rfl (lv_at hl 2 rfl) ?_
    refine lv_iconst (v := 4) hx hb dX5_ofSpot_15 (by decide) ?_
    refine lv_icmp_ne (tgt := 28) hx hb dX5_ofSpot_16 (by decide) (fun hc => ?_) (fun hc => ?_)
    · have hw := hw.1 hc
      refine lv_aload_n hx hb dX5_ofSpot_28 rfl (lv_at hl 0 rfl) ?_
      refine lv_iload_n hx hb dX5_ofSpot_29 rfl (lv_at hl 1 rfl) ?_
      refine lv_iconst (v := 4) hx hb dX5_ofSpot_30 (by decide) ?_
      refine kV_Mi (As := [.int p1, .int 4]) (rest := []) ⟨hx, hb, hml, hown, hts⟩ (ok_X5_of l D cI cJ a _ _ _ _ _ hw) (cwV 2 hts gX5_ofSpot_X5_of rfl rfl rfl (by decide +kernel) ⟨Nat.le_of_ble_eq_true rfl, Nat.le_of_ble_eq_true rfl⟩) hK hW hA 0 rfl rfl rfl hl.1 rfl (Nat.le_of_ble_eq_true rfl) dX5_ofSpot_31 ⟨Nat.le_of_ble_eq_true rfl, Nat.le_of_ble_eq_true rfl⟩ (fun r_1 _ H locs hw hW => ?_)
      exact hret _ () _ _ _ _ hw hW dX5_ofSpot_34
    · have hw := hw.2 hc
      refine lv_aload_n hx hb dX5_ofSpot_19 rfl (lv_at hl 0 rfl) ?_
      refine lv_iload_n hx hb dX5_ofSpot_20 rfl (lv_at hl 1 rfl) ?_
      refine lv_iconst (v := 0) hx hb dX5_ofSpot_21 (by decide) ?_
      refine kV_Mi (As := [.int p1, .int 0]) (rest := []) ⟨hx, hb, hml, hown, hts⟩ (ok_X5_bids l D cI cJ a _ _ _ _ _ hw) (cwV 2 hts gX5_ofSpot_X5_bids rfl rfl rfl (by decide +kernel) ⟨Nat.le_of_ble_eq_true rfl, Nat.le_of_ble_eq_true rfl⟩) hK hW hA 0 rfl rfl rfl hl.1 rfl (Nat.le_of_ble_eq_true rfl) dX5_ofSpot_22 ⟨Nat.le_of_ble_eq_true rfl, Nat.le_of_ble_eq_true rfl⟩ (fun r_2 _ H locs hw hW => ?_)
      refine lv_goto (tgt := 34) hx hb dX5_ofSpot_25 (by decide) ?_
      exact hret _ () _ _ _ _ hw hW dX5_ofSpot_34
  · have hw := hw.2 hc
    refine lv_aload_n hx hb dX5_ofSpot_5 rfl (lv_at hl 0 rfl) ?_
    refine lv_iload_n hx hb dX5_ofSpot_6 rfl (lv_at hl 1 rfl) ?_
    refine lv_iload_n hx hb dX5_ofSpot_7 rfl (lv_at hl 2 rfl) ?_
    refine kV_Mi (As := [.int p1, .int p2]) (rest := []) ⟨hx, hb, hml, hown, hts⟩ (ok_X5_of l D cI cJ a _ _ _ _ _ hw) (cwV 2 hts gX5_ofSpot_X5_of rfl rfl rfl (by decide +kernel) ⟨Nat.le_of_ble_eq_true rfl, Nat.le_of_ble_eq_true rfl⟩) hK hW hA 0 rfl rfl rfl hl.1 rfl (Nat.le_of_ble_eq_true rfl) dX5_ofSpot_8 ⟨Nat.le_of_ble_eq_true rfl, Nat.le_of_ble_eq_true rfl⟩ (fun r_3 _ H locs hw hW => ?_)
    refine lv_goto (tgt := 34) hx hb dX5_ofSpot_11 (by decide) ?_
    exact hret _ () _ _ _ _ hw hW dX5_ofSpot_34
def wp_X5_spot (σ : MS) (p1 : Int32) (p2 : Int32) (post : Int32 → MS → Prop) : Prop := wp_X5_isOne p1 (fun r_1 => ((¬ r_1 = 0 → wp_X5_in p2 0 5 (fun r_2 => ((¬ r_2 = 0 → wp_X5_holds σ 0 (fun r_3 σ_4 => ((r_3 = 0 → post 0 σ_4) ∧ (¬ r_3 = 0 → wp_X5_ofSpot σ_4 p1 p2 (fun r_5 => post r_5 σ_4))))) ∧ (r_2 = 0 → wp_X5_holds σ 2 (fun r_6 σ_7 => ((r_6 = 0 → post 0 σ_7) ∧ (¬ r_6 = 0 → wp_X5_ofSpot σ_7 p1 p2 (fun r_8 => post r_8 σ_7)))))))) ∧ (r_1 = 0 → wp_X5_holds σ 1 (fun r_9 σ_10 => ((r_9 = 0 → post 0 σ_10) ∧ (¬ r_9 = 0 → wp_X5_ofSpot σ_10 p1 p2 (fun r_11 => post r_11 σ_10)))))))
abbrev rm_X5_spot : Room := { frames := 4, cells := 0, slots := 0, locals := 91 }
set_option maxHeartbeats 4000000 in
set_option maxRecDepth 100000 in
theorem ok_X5_spot (l : Launch) (D : va_G) (cI cJ : ClassId) (a : Nat → Nat) (sz : Nat) (σ : MS) (p1 : Int32) (p2 : Int32) (post : Int32 → MS → Prop) (hw : wp_X5_spot σ p1 p2 post) : Mi l yX5_spot wsX5_spot rm_X5_spot [.ref (a 0), .int p1, .int p2] D (tysIJ cI cJ) (mW cI cJ a σ) sz post (mW cI cJ a) := by
  refine s_Mi (by decide) rfl (Nat.le_of_ble_eq_true rfl) ?_
  intro p e s m args below meth c A Q hx hb hml hts hown hin hK hA hret H locs ls hW hl
  have hown : s.vm.findClass RX5 = some m.cls := hown
  have hl : lv_has ls 3 [(0, .ref (a 0)), (1, .int p1), (2, .int p2)] := hl
  refine lv_aload_n hx hb dX5_spot_0 rfl (lv_at hl 0 rfl) ?_
  refine lv_iload_n hx hb dX5_spot_1 rfl (lv_at hl 1 rfl) ?_
  refine kS_Pi (As := [.int p1]) (rest := [.ref (a 0)]) ⟨hx, hb, hml, hown, hts⟩ (ok_X5_isOne l _ _ hw) (va_cwS 1 hts gX5_spot_X5_isOne rfl rfl rfl (by decide +kernel) ⟨Nat.le_of_ble_eq_true rfl, Nat.le_of_ble_eq_true rfl⟩) hW.2.2 rfl hl.1 rfl (Nat.le_of_ble_eq_true rfl) dX5_spot_2 ⟨Nat.le_of_ble_eq_true rfl, Nat.le_of_ble_eq_true rfl⟩ (fun r_1 H locs hw hk hS => ?_)
  have hW := hW.kept hk hS
  refine lv_if_ne (tgt := 12) hx hb dX5_spot_5 (by decide) (fun hc => ?_) (fun hc => ?_)
  · have hw := hw.1 hc
    refine lv_iload_n hx hb dX5_spot_12 rfl (lv_at hl 2 rfl) ?_
    refine lv_iconst (v := 0) hx hb dX5_spot_13 (by decide) ?_
    refine lv_iconst (v := 5) hx hb dX5_spot_14 (by decide) ?_
    refine kS_Pi (As := [.int p2, .int 0, .int 5]) (rest := [.ref (a 0)]) ⟨hx, hb, hml, hown, hts⟩ (ok_X5_in l _ _ _ _ hw) (va_cwS 3 hts gX5_spot_X5_in rfl rfl rfl (by decide +kernel) ⟨Nat.le_of_ble_eq_true rfl, Nat.le_of_ble_eq_true rfl⟩) hW.2.2 rfl hl.1 rfl (Nat.le_of_ble_eq_true rfl) dX5_spot_15 ⟨Nat.le_of_ble_eq_true rfl, Nat.le_of_ble_eq_true rfl⟩ (fun r_2 H locs hw hk hS => ?_)
    have hW := hW.kept hk hS
    refine lv_if_ne (tgt := 25) hx hb dX5_spot_18 (by decide) (fun hc => ?_) (fun hc => ?_)
    · have hw := hw.1 hc
      refine lv_iconst (v := 0) hx hb dX5_spot_25 (by decide) ?_
      refine kV_Mi (As := [.int 0]) (rest := []) ⟨hx, hb, hml, hown, hts⟩ (ok_X5_holds l D cI cJ a _ _ _ _ hw) (cwV 1 hts gX5_spot_X5_holds rfl rfl rfl (by decide +kernel) ⟨Nat.le_of_ble_eq_true rfl, Nat.le_of_ble_eq_true rfl⟩) hK hW hA 0 rfl rfl rfl hl.1 rfl (Nat.le_of_ble_eq_true rfl) dX5_spot_26 ⟨Nat.le_of_ble_eq_true rfl, Nat.le_of_ble_eq_true rfl⟩ (fun r_3 σ_4 H locs hw hW => ?_)
      refine lv_if_eq (tgt := 41) hx hb dX5_spot_29 (by decide) (fun hc => ?_) (fun hc => ?_)
      · have hw := hw.1 hc
        refine lv_iconst (v := 0) hx hb dX5_spot_41 (by decide) ?_
        exact hret _ σ_4 _ _ _ _ hw hW dX5_spot_42
      · have hw := hw.2 hc
        refine lv_aload_n hx hb dX5_spot_32 rfl (lv_at hl 0 rfl) ?_
        refine lv_iload_n hx hb dX5_spot_33 rfl (lv_at hl 1 rfl) ?_
        refine lv_iload_n hx hb dX5_spot_34 rfl (lv_at hl 2 rfl) ?_
        refine kV_Mi (As := [.int p1, .int p2]) (rest := []) ⟨hx, hb, hml, hown, hts⟩ (ok_X5_ofSpot l D cI cJ a _ _ _ _ _ hw) (cwV 2 hts gX5_spot_X5_ofSpot rfl rfl rfl (by decide +kernel) ⟨Nat.le_of_ble_eq_true rfl, Nat.le_of_ble_eq_true rfl⟩) hK hW hA 0 rfl rfl rfl hl.1 rfl (Nat.le_of_ble_eq_true rfl) dX5_spot_35 ⟨Nat.le_of_ble_eq_true rfl, Nat.le_of_ble_eq_true rfl⟩ (fun r_5 _ H locs hw hW => ?_)
        refine lv_goto (tgt := 42) hx hb dX5_spot_38 (by decide) ?_
        exact hret _ σ_4 _ _ _ _ hw hW dX5_spot_42
    · have hw := hw.2 hc
      refine lv_iconst (v := 2) hx hb dX5_spot_21 (by decide) ?_
      refine lv_goto (tgt := 26) hx hb dX5_spot_22 (by decide) ?_
      refine kV_Mi (As := [.int 2]) (rest := []) ⟨hx, hb, hml, hown, hts⟩ (ok_X5_holds l D cI cJ a _ _ _ _ hw) (cwV 1 hts gX5_spot_X5_holds rfl rfl rfl (by decide +kernel) ⟨Nat.le_of_ble_eq_true rfl, Nat.le_of_ble_eq_true rfl⟩) hK hW hA 0 rfl rfl rfl hl.1 rfl (Nat.le_of_ble_eq_true rfl) dX5_spot_26 ⟨Nat.le_of_ble_eq_true rfl, Nat.le_of_ble_eq_true rfl⟩ (fun r_6 σ_7 H locs hw hW => ?_)
      refine lv_if_eq (tgt := 41) hx hb dX5_spot_29 (by decide) (fun hc => ?_) (fun hc => ?_)
      · have hw := hw.1 hc
        refine lv_iconst (v := 0) hx hb dX5_spot_41 (by decide) ?_
        exact hret _ σ_7 _ _ _ _ hw hW dX5_spot_42
      · have hw := hw.2 hc
        refine lv_aload_n hx hb dX5_spot_32 rfl (lv_at hl 0 rfl) ?_
        refine lv_iload_n hx hb dX5_spot_33 rfl (lv_at hl 1 rfl) ?_
        refine lv_iload_n hx hb dX5_spot_34 rfl (lv_at hl 2 rfl) ?_
        refine kV_Mi (As := [.int p1, .int p2]) (rest := []) ⟨hx, hb, hml, hown, hts⟩ (ok_X5_ofSpot l D cI cJ a _ _ _ _ _ hw) (cwV 2 hts gX5_spot_X5_ofSpot rfl rfl rfl (by decide +kernel) ⟨Nat.le_of_ble_eq_true rfl, Nat.le_of_ble_eq_true rfl⟩) hK hW hA 0 rfl rfl rfl hl.1 rfl (Nat.le_of_ble_eq_true rfl) dX5_spot_35 ⟨Nat.le_of_ble_eq_true rfl, Nat.le_of_ble_eq_true rfl⟩ (fun r_8 _ H locs hw hW => ?_)
        refine lv_goto (tgt := 42) hx hb dX5_spot_38 (by decide) ?_
        exact hret _ σ_7 _ _ _ _ hw hW dX5_spot_42
  · have hw := hw.2 hc
    refine lv_iconst (v := 1) hx hb dX5_spot_8 (by decide) ?_
    refine lv_goto (tgt := 26) hx hb dX5_spot_9 (by decide) ?_
    refine kV_Mi (As := [.int 1]) (rest := []) ⟨hx, hb, hml, hown, hts⟩ (ok_X5_holds l D cI cJ a _ _ _ _ hw) (cwV 1 hts gX5_spot_X5_holds rfl rfl rfl (by decide +kernel) ⟨Nat.le_of_ble_eq_true rfl, Nat.le_of_ble_eq_true rfl⟩) hK hW hA 0 rfl rfl rfl hl.1 rfl (Nat.le_of_ble_eq_true rfl) dX5_spot_26 ⟨Nat.le_of_ble_eq_true rfl, Nat.le_of_ble_eq_true rfl⟩ (fun r_9 σ_10 H locs hw hW => ?_)
    refine lv_if_eq (tgt := 41) hx hb dX5_spot_29 (by decide) (fun hc => ?_) (fun hc => ?_)
    · have hw := hw.1 hc
      refine lv_iconst (v := 0) hx hb dX5_spot_41 (by decide) ?_
      exact hret _ σ_10 _ _ _ _ hw hW dX5_spot_42
    · have hw := hw.2 hc
      refine lv_aload_n hx hb dX5_spot_32 rfl (lv_at hl 0 rfl) ?_
      refine lv_iload_n hx hb dX5_spot_33 rfl (lv_at hl 1 rfl) ?_
      refine lv_iload_n hx hb dX5_spot_34 rfl (lv_at hl 2 rfl) ?_
      refine kV_Mi (As := [.int p1, .int p2]) (rest := []) ⟨hx, hb, hml, hown, hts⟩ (ok_X5_ofSpot l D cI cJ a _ _ _ _ _ hw) (cwV 2 hts gX5_spot_X5_ofSpot rfl rfl rfl (by decide +kernel) ⟨Nat.le_of_ble_eq_true rfl, Nat.le_of_ble_eq_true rfl⟩) hK hW hA 0 rfl rfl rfl hl.1 rfl (Nat.le_of_ble_eq_true rfl) dX5_spot_35 ⟨Nat.le_of_ble_eq_true rfl, Nat.le_of_ble_eq_true rfl⟩ (fun r_11 _ H locs hw hW => ?_)
      refine lv_goto (tgt := 42) hx hb dX5_spot_38 (by decide) ?_
      exact hret _ σ_10 _ _ _ _ hw hW dX5_spot_42
def wp_X5_spotOf (σ : MS) (p1 : Int32) (post : Int32 → Prop) : Prop := ∃ I1 : Nat → Int32 → Prop, (∃ n : Nat, I1 n 0) ∧ ∀ (n1 : Nat) (v2_1 : Int32), I1 n1 v2_1 → ((6 ≤ v2_1 → post (-1)) ∧ (¬ 6 ≤ v2_1 → wp_X5_of σ v2_1 2 (fun r_2 => ((¬ r_2 = p1 → ∀ v2_3 : Int32, v2_3 = v2_1 + 1 → ∃ n' : Nat, n' < n1 ∧ I1 n' v2_3) ∧ (r_2 = p1 → post v2_1)))))
abbrev rm_X5_spotOf : Room := { frames := 1, cells := 0, slots := 0, locals := 22 }
set_option maxHeartbeats 4000000 in
set_option maxRecDepth 100000 in
theorem ok_X5_spotOf (l : Launch) (D : va_G) (cI cJ : ClassId) (a : Nat → Nat) (sz : Nat) (σ : MS) (p1 : Int32) (post : Int32 → Prop) (hw : wp_X5_spotOf σ p1 post) : Mi l yX5_spotOf wsX5_spotOf rm_X5_spotOf [.ref (a 0), .int p1] D (tysIJ cI cJ) (mW cI cJ a σ) sz (fun r (_ : Unit) => post r) (fun _ => mW cI cJ a σ) := by
  refine s_Mi (by decide) rfl (Nat.le_of_ble_eq_true rfl) ?_
  intro p e s m args below meth c A Q hx hb hml hts hown hin hK hA hret H locs ls hW hl
  have hown : s.vm.findClass RX5 = some m.cls := hown
  have hl : lv_has ls 3 [(0, .ref (a 0)), (1, .int p1)] := hl
  refine lv_iconst (v := 0) hx hb dX5_spotOf_0 (by decide) ?_
  refine lv_istore_n (lv' := [(2, .int 0), (0, .ref (a 0)), (1, .int p1)]) hx hb dX5_spotOf_1 rfl hl (by decide) rfl (fun ls hl => ?_)
  obtain ⟨I1, ⟨n1, hI1⟩, hJ1⟩ := hw
  have hl : lv_has ls 3 [(0, .ref (a 0)), (1, .int p1), (2, .int 0)] := lv_sub hl [1, 2, 0] rfl
  suffices LP1 : ∀ (n : Nat) (v2_1 : Int32) (H : Heap) (locs : List Loc) (ls : Array Slot), I1 n v2_1 → Wd D A s.heap (mW cI cJ a σ) H locs → lv_has ls 3 [(0, .ref (a 0)), (1, .int p1), (2, .int v2_1)] → W p l e rm_X5_spotOf s m args below meth c H locs 0 0 Q (F0 m 2 ls []) from LP1 n1 0 H locs ls hI1 hW hl
  intro n1
  induction n1 using Nat.strongRecOn with
  | ind n1 ih1 =>
    intro v2_1 H locs ls hIn hW hl
    have hw := hJ1 n1 v2_1 hIn
    refine lv_iload_n hx hb dX5_spotOf_2 rfl (lv_at hl 2 rfl) ?_
    refine lv_bipush (v := 6) hx hb dX5_spotOf_3 (by decide) ?_
    refine lv_icmp_ge (tgt := 26) hx hb dX5_spotOf_5 (by decide) (fun hc => ?_) (fun hc => ?_)
    · have hw := hw.1 hc
      refine lv_iconst (v := (-1)) hx hb dX5_spotOf_26 (by decide) ?_
      exact hret _ () _ _ _ _ hw hW dX5_spotOf_27
    · have hw := hw.2 hc
      refine lv_aload_n hx hb dX5_spotOf_8 rfl (lv_at hl 0 rfl) ?_
      refine lv_iload_n hx hb dX5_spotOf_9 rfl (lv_at hl 2 rfl) ?_
      refine lv_iconst (v := 2) hx hb dX5_spotOf_10 (by decide) ?_
      refine kV_Mi (As := [.int v2_1, .int 2]) (rest := []) ⟨hx, hb, hml, hown, hts⟩ (ok_X5_of l D cI cJ a _ _ _ _ _ hw) (cwV 2 hts gX5_spotOf_X5_of rfl rfl rfl (by decide +kernel) ⟨Nat.le_of_ble_eq_true rfl, Nat.le_of_ble_eq_true rfl⟩) hK hW hA 0 rfl rfl rfl hl.1 rfl (Nat.le_of_ble_eq_true rfl) dX5_spotOf_11 ⟨Nat.le_of_ble_eq_true rfl, Nat.le_of_ble_eq_true rfl⟩ (fun r_2 _ H locs hw hW => ?_)
      refine lv_iload_n hx hb dX5_spotOf_14 rfl (lv_at hl 1 rfl) ?_
      refine lv_icmp_ne (tgt := 20) hx hb dX5_spotOf_15 (by decide) (fun hc => ?_) (fun hc => ?_)
      · have hw := hw.1 hc
        obtain ⟨v2_3, ev2_3⟩ : ∃ y : Int32, y = v2_1 + 1 := ⟨_, rfl⟩
        have hw := hw v2_3 ev2_3
        refine lv_iinc (v := v2_3) (lv' := [(2, .int v2_3), (0, .ref (a 0)), (1, .int p1)]) hx hb dX5_spotOf_20 hl (k := 2) rfl (by rw [ev2_3]; rfl) (by decide) rfl (fun ls hl => ?_)
        refine lv_goto (tgt := 2) hx hb dX5_spotOf_23 (by decide) ?_
        obtain ⟨n9, hlt9, hI9⟩ := hw
        exact ih1 n9 hlt9 _ _ _ _ hI9 hW (lv_sub hl [1, 2, 0] rfl)
      · have hw := hw.2 hc
        refine lv_iload_n hx hb dX5_spotOf_18 rfl (lv_at hl 2 rfl) ?_
        exact hret _ () _ _ _ _ hw hW dX5_spotOf_19
def wp_X5_ofBidder (σ : MS) (p1 : Int32) (p2 : Int32) (post : Int32 → Prop) : Prop := ∀ w_1 : Int32, w_1 = p2 → ((w_1 = 2 → wp_X5_bids σ p1 1 (fun r_2 => post r_2)) ∧ (¬ w_1 = 2 → ((w_1 = 3 → wp_X5_spotOf σ p1 (fun r_3 => post r_3)) ∧ (¬ w_1 = 3 → ((w_1 = 4 → wp_X5_has σ p1 (p2 - 2) (fun r_4 => post r_4)) ∧ (¬ w_1 = 4 → ((w_1 = 5 → wp_X5_has σ p1 (p2 - 2) (fun r_5 => post r_5)) ∧ (¬ w_1 = 5 → wp_X5_has σ p1 p2 (fun r_6 => post r_6)))))))))
abbrev rm_X5_ofBidder : Room := { frames := 3, cells := 0, slots := 0, locals := 69 }
set_option maxHeartbeats 4000000 in
set_option maxRecDepth 100000 in
theorem ok_X5_ofBidder (l : Launch) (D : va_G) (cI cJ : ClassId) (a : Nat → Nat) (sz : Nat) (σ : MS) (p1 : Int32) (p2 : Int32) (post : Int32 → Prop) (hw : wp_X5_ofBidder σ p1 p2 post) : Mi l yX5_ofBidder wsX5_ofBidder rm_X5_ofBidder [.ref (a 0), .int p1, .int p2] D (tysIJ cI cJ) (mW cI cJ a σ) sz (fun r (_ : Unit) => post r) (fun _ => mW cI cJ a σ) := by
  refine s_Mi (by decide) rfl (Nat.le_of_ble_eq_true rfl) ?_
  intro p e s m args below meth c A Q hx hb hml hts hown hin hK hA hret H locs ls hW hl
  have hown : s.vm.findClass RX5 = some m.cls := hown
  have hl : lv_has ls 3 [(0, .ref (a 0)), (1, .int p1), (2, .int p2)] := hl
  refine lv_iload_n hx hb dX5_ofBidder_0 rfl (lv_at hl 2 rfl) ?_
  refine lv_topi (fun w_1 ew_1 => ?_)
  have hw := hw w_1 ew_1
  by_cases hs0 : w_1 = 2
  · have hw := hw.1 hs0
    refine lv_tableIn (tgt := 32) hx hb dX5_ofBidder_1 (by rw [hs0]; decide) (by rw [hs0]; decide) (by rw [hs0]; rfl) (by decide) ?_
    refine lv_aload_n hx hb dX5_ofBidder_32 rfl (lv_at hl 0 rfl) ?_
    refine lv_iload_n hx hb dX5_ofBidder_33 rfl (lv_at hl 1 rfl) ?_
    refine lv_iconst (v := 1) hx hb dX5_ofBidder_34 (by decide) ?_
    refine kV_Mi (As := [.int p1, .int 1]) (rest := []) ⟨hx, hb, hml, hown, hts⟩ (ok_X5_bids l D cI cJ a _ _ _ _ _ hw) (cwV 2 hts gX5_ofBidder_X5_bids rfl rfl rfl (by decide +kernel) ⟨Nat.le_of_ble_eq_true rfl, Nat.le_of_ble_eq_true rfl⟩) hK hW hA 0 rfl rfl rfl hl.1 rfl (Nat.le_of_ble_eq_true rfl) dX5_ofBidder_35 ⟨Nat.le_of_ble_eq_true rfl, Nat.le_of_ble_eq_true rfl⟩ (fun r_2 _ H locs hw hW => ?_)
    exact hret _ () _ _ _ _ hw hW dX5_ofBidder_38
  have hw := hw.2 hs0
  by_cases hs1 : w_1 = 3
  · have hw := hw.1 hs1
    refine lv_tableIn (tgt := 39) hx hb dX5_ofBidder_1 (by rw [hs1]; decide) (by rw [hs1]; decide) (by rw [hs1]; rfl) (by decide) ?_
    refine lv_aload_n hx hb dX5_ofBidder_39 rfl (lv_at hl 0 rfl) ?_
    refine lv_iload_n hx hb dX5_ofBidder_40 rfl (lv_at hl 1 rfl) ?_
    refine kV_Mi (As := [.int p1]) (rest := []) ⟨hx, hb, hml, hown, hts⟩ (ok_X5_spotOf l D cI cJ a _ _ _ _ hw) (cwV 1 hts gX5_ofBidder_X5_spotOf rfl rfl rfl (by decide +kernel) ⟨Nat.le_of_ble_eq_true rfl, Nat.le_of_ble_eq_true rfl⟩) hK hW hA 0 rfl rfl rfl hl.1 rfl (Nat.le_of_ble_eq_true rfl) dX5_ofBidder_41 ⟨Nat.le_of_ble_eq_true rfl, Nat.le_of_ble_eq_true rfl⟩ (fun r_3 _ H locs hw hW => ?_)
    exact hret _ () _ _ _ _ hw hW dX5_ofBidder_44
  have hw := hw.2 hs1
  by_cases hs2 : w_1 = 4
  · have hw := hw.1 hs2
    refine lv_tableIn (tgt := 45) hx hb dX5_ofBidder_1 (by rw [hs2]; decide) (by rw [hs2]; decide) (by rw [hs2]; rfl) (by decide) ?_
    refine lv_aload_n hx hb dX5_ofBidder_45 rfl (lv_at hl 0 rfl) ?_
    refine lv_iload_n hx hb dX5_ofBidder_46 rfl (lv_at hl 1 rfl) ?_
    refine lv_iload_n hx hb dX5_ofBidder_47 rfl (lv_at hl 2 rfl) ?_
    refine lv_iconst (v := 2) hx hb dX5_ofBidder_48 (by decide) ?_
    refine lv_isub hx hb dX5_ofBidder_49 ?_
    refine kV_Mi (As := [.int p1, .int (p2 - 2)]) (rest := []) ⟨hx, hb, hml, hown, hts⟩ (ok_X5_has l D cI cJ a _ _ _ _ _ hw) (cwV 2 hts gX5_ofBidder_X5_has rfl rfl rfl (by decide +kernel) ⟨Nat.le_of_ble_eq_true rfl, Nat.le_of_ble_eq_true rfl⟩) hK hW hA 0 rfl rfl rfl hl.1 rfl (Nat.le_of_ble_eq_true rfl) dX5_ofBidder_50 ⟨Nat.le_of_ble_eq_true rfl, Nat.le_of_ble_eq_true rfl⟩ (fun r_4 _ H locs hw hW => ?_)
    exact hret _ () _ _ _ _ hw hW dX5_ofBidder_53
  have hw := hw.2 hs2
  by_cases hs3 : w_1 = 5
  · have hw := hw.1 hs3
    refine lv_tableIn (tgt := 45) hx hb dX5_ofBidder_1 (by rw [hs3]; decide) (by rw [hs3]; decide) (by rw [hs3]; rfl) (by decide) ?_
    refine lv_aload_n hx hb dX5_ofBidder_45 rfl (lv_at hl 0 rfl) ?_
    refine lv_iload_n hx hb dX5_ofBidder_46 rfl (lv_at hl 1 rfl) ?_
    refine lv_iload_n hx hb dX5_ofBidder_47 rfl (lv_at hl 2 rfl) ?_
    refine lv_iconst (v := 2) hx hb dX5_ofBidder_48 (by decide) ?_
    refine lv_isub hx hb dX5_ofBidder_49 ?_
    refine kV_Mi (As := [.int p1, .int (p2 - 2)]) (rest := []) ⟨hx, hb, hml, hown, hts⟩ (ok_X5_has l D cI cJ a _ _ _ _ _ hw) (cwV 2 hts gX5_ofBidder_X5_has rfl rfl rfl (by decide +kernel) ⟨Nat.le_of_ble_eq_true rfl, Nat.le_of_ble_eq_true rfl⟩) hK hW hA 0 rfl rfl rfl hl.1 rfl (Nat.le_of_ble_eq_true rfl) dX5_ofBidder_50 ⟨Nat.le_of_ble_eq_true rfl, Nat.le_of_ble_eq_true rfl⟩ (fun r_5 _ H locs hw hW => ?_)
    exact hret _ () _ _ _ _ hw hW dX5_ofBidder_53
  have hw := hw.2 hs3
  refine lv_tableOut (tgt := 54) hx hb dX5_ofBidder_1 (by have q0 := lv_neT hs0 (a := 2) (by decide); have q1 := lv_neT hs1 (a := 3) (by decide); have q2 := lv_neT hs2 (a := 4) (by decide); have q3 := lv_neT hs3 (a := 5) (by decide); omega) (by decide) ?_
  refine lv_aload_n hx hb dX5_ofBidder_54 rfl (lv_at hl 0 rfl) ?_
  refine lv_iload_n hx hb dX5_ofBidder_55 rfl (lv_at hl 1 rfl) ?_
  refine lv_iload_n hx hb dX5_ofBidder_56 rfl (lv_at hl 2 rfl) ?_
  refine kV_Mi (As := [.int p1, .int p2]) (rest := []) ⟨hx, hb, hml, hown, hts⟩ (ok_X5_has l D cI cJ a _ _ _ _ _ hw) (cwV 2 hts gX5_ofBidder_X5_has rfl rfl rfl (by decide +kernel) ⟨Nat.le_of_ble_eq_true rfl, Nat.le_of_ble_eq_true rfl⟩) hK hW hA 0 rfl rfl rfl hl.1 rfl (Nat.le_of_ble_eq_true rfl) dX5_ofBidder_57 ⟨Nat.le_of_ble_eq_true rfl, Nat.le_of_ble_eq_true rfl⟩ (fun r_6 _ H locs hw hW => ?_)
  exact hret _ () _ _ _ _ hw hW dX5_ofBidder_60
def wp_X5_bidder (σ : MS) (p1 : Int32) (p2 : Int32) (post : Int32 → MS → Prop) : Prop := wp_X5_isOne p1 (fun r_1 => ((¬ r_1 = 0 → wp_X5_in p2 0 5 (fun r_2 => ((¬ r_2 = 0 → wp_X5_holds σ 0 (fun r_3 σ_4 => ((r_3 = 0 → post 0 σ_4) ∧ (¬ r_3 = 0 → wp_X5_ofBidder σ_4 p1 p2 (fun r_5 => post r_5 σ_4))))) ∧ (r_2 = 0 → wp_X5_holds σ 2 (fun r_6 σ_7 => ((r_6 = 0 → post 0 σ_7) ∧ (¬ r_6 = 0 → wp_X5_ofBidder σ_7 p1 p2 (fun r_8 => post r_8 σ_7)))))))) ∧ (r_1 = 0 → wp_X5_holds σ 1 (fun r_9 σ_10 => ((r_9 = 0 → post 0 σ_10) ∧ (¬ r_9 = 0 → wp_X5_ofBidder σ_10 p1 p2 (fun r_11 => post r_11 σ_10)))))))
abbrev rm_X5_bidder : Room := { frames := 4, cells := 0, slots := 0, locals := 91 }
set_option maxHeartbeats 4000000 in
set_option maxRecDepth 100000 in
theorem ok_X5_bidder (l : Launch) (D : va_G) (cI cJ : ClassId) (a : Nat → Nat) (sz : Nat) (σ : MS) (p1 : Int32) (p2 : Int32) (post : Int32 → MS → Prop) (hw : wp_X5_bidder σ p1 p2 post) : Mi l yX5_bidder wsX5_bidder rm_X5_bidder [.ref (a 0), .int p1, .int p2] D (tysIJ cI cJ) (mW cI cJ a σ) sz post (mW cI cJ a) := by
  refine s_Mi (by decide) rfl (Nat.le_of_ble_eq_true rfl) ?_
  intro p e s m args below meth c A Q hx hb hml hts hown hin hK hA hret H locs ls hW hl
  have hown : s.vm.findClass RX5 = some m.cls := hown
  have hl : lv_has ls 3 [(0, .ref (a 0)), (1, .int p1), (2, .int p2)] := hl
  refine lv_aload_n hx hb dX5_bidder_0 rfl (lv_at hl 0 rfl) ?_
  refine lv_iload_n hx hb dX5_bidder_1 rfl (lv_at hl 1 rfl) ?_
  refine kS_Pi (As := [.int p1]) (rest := [.ref (a 0)]) ⟨hx, hb, hml, hown, hts⟩ (ok_X5_isOne l _ _ hw) (va_cwS 1 hts gX5_bidder_X5_isOne rfl rfl rfl (by decide +kernel) ⟨Nat.le_of_ble_eq_true rfl, Nat.le_of_ble_eq_true rfl⟩) hW.2.2 rfl hl.1 rfl (Nat.le_of_ble_eq_true rfl) dX5_bidder_2 ⟨Nat.le_of_ble_eq_true rfl, Nat.le_of_ble_eq_true rfl⟩ (fun r_1 H locs hw hk hS => ?_)
  have hW := hW.kept hk hS
  refine lv_if_ne (tgt := 12) hx hb dX5_bidder_5 (by decide) (fun hc => ?_) (fun hc => ?_)
  · have hw := hw.1 hc
    refine lv_iload_n hx hb dX5_bidder_12 rfl (lv_at hl 2 rfl) ?_
    refine lv_iconst (v := 0) hx hb dX5_bidder_13 (by decide) ?_
    refine lv_iconst (v := 5) hx hb dX5_bidder_14 (by decide) ?_
    refine kS_Pi (As := [.int p2, .int 0, .int 5]) (rest := [.ref (a 0)]) ⟨hx, hb, hml, hown, hts⟩ (ok_X5_in l _ _ _ _ hw) (va_cwS 3 hts gX5_bidder_X5_in rfl rfl rfl (by decide +kernel) ⟨Nat.le_of_ble_eq_true rfl, Nat.le_of_ble_eq_true rfl⟩) hW.2.2 rfl hl.1 rfl (Nat.le_of_ble_eq_true rfl) dX5_bidder_15 ⟨Nat.le_of_ble_eq_true rfl, Nat.le_of_ble_eq_true rfl⟩ (fun r_2 H locs hw hk hS => ?_)
    have hW := hW.kept hk hS
    refine lv_if_ne (tgt := 25) hx hb dX5_bidder_18 (by decide) (fun hc => ?_) (fun hc => ?_)
    · have hw := hw.1 hc
      refine lv_iconst (v := 0) hx hb dX5_bidder_25 (by decide) ?_
      refine kV_Mi (As := [.int 0]) (rest := []) ⟨hx, hb, hml, hown, hts⟩ (ok_X5_holds l D cI cJ a _ _ _ _ hw) (cwV 1 hts gX5_bidder_X5_holds rfl rfl rfl (by decide +kernel) ⟨Nat.le_of_ble_eq_true rfl, Nat.le_of_ble_eq_true rfl⟩) hK hW hA 0 rfl rfl rfl hl.1 rfl (Nat.le_of_ble_eq_true rfl) dX5_bidder_26 ⟨Nat.le_of_ble_eq_true rfl, Nat.le_of_ble_eq_true rfl⟩ (fun r_3 σ_4 H locs hw hW => ?_)
      refine lv_if_eq (tgt := 41) hx hb dX5_bidder_29 (by decide) (fun hc => ?_) (fun hc => ?_)
      · have hw := hw.1 hc
        refine lv_iconst (v := 0) hx hb dX5_bidder_41 (by decide) ?_
        exact hret _ σ_4 _ _ _ _ hw hW dX5_bidder_42
      · have hw := hw.2 hc
        refine lv_aload_n hx hb dX5_bidder_32 rfl (lv_at hl 0 rfl) ?_
        refine lv_iload_n hx hb dX5_bidder_33 rfl (lv_at hl 1 rfl) ?_
        refine lv_iload_n hx hb dX5_bidder_34 rfl (lv_at hl 2 rfl) ?_
        refine kV_Mi (As := [.int p1, .int p2]) (rest := []) ⟨hx, hb, hml, hown, hts⟩ (ok_X5_ofBidder l D cI cJ a _ _ _ _ _ hw) (cwV 2 hts gX5_bidder_X5_ofBidder rfl rfl rfl (by decide +kernel) ⟨Nat.le_of_ble_eq_true rfl, Nat.le_of_ble_eq_true rfl⟩) hK hW hA 0 rfl rfl rfl hl.1 rfl (Nat.le_of_ble_eq_true rfl) dX5_bidder_35 ⟨Nat.le_of_ble_eq_true rfl, Nat.le_of_ble_eq_true rfl⟩ (fun r_5 _ H locs hw hW => ?_)
        refine lv_goto (tgt := 42) hx hb dX5_bidder_38 (by decide) ?_
        exact hret _ σ_4 _ _ _ _ hw hW dX5_bidder_42
    · have hw := hw.2 hc
      refine lv_iconst (v := 2) hx hb dX5_bidder_21 (by decide) ?_
      refine lv_goto (tgt := 26) hx hb dX5_bidder_22 (by decide) ?_
      refine kV_Mi (As := [.int 2]) (rest := []) ⟨hx, hb, hml, hown, hts⟩ (ok_X5_holds l D cI cJ a _ _ _ _ hw) (cwV 1 hts gX5_bidder_X5_holds rfl rfl rfl (by decide +kernel) ⟨Nat.le_of_ble_eq_true rfl, Nat.le_of_ble_eq_true rfl⟩) hK hW hA 0 rfl rfl rfl hl.1 rfl (Nat.le_of_ble_eq_true rfl) dX5_bidder_26 ⟨Nat.le_of_ble_eq_true rfl, Nat.le_of_ble_eq_true rfl⟩ (fun r_6 σ_7 H locs hw hW => ?_)
      refine lv_if_eq (tgt := 41) hx hb dX5_bidder_29 (by decide) (fun hc => ?_) (fun hc => ?_)
      · have hw := hw.1 hc
        refine lv_iconst (v := 0) hx hb dX5_bidder_41 (by decide) ?_
        exact hret _ σ_7 _ _ _ _ hw hW dX5_bidder_42
      · have hw := hw.2 hc
        refine lv_aload_n hx hb dX5_bidder_32 rfl (lv_at hl 0 rfl) ?_
        refine lv_iload_n hx hb dX5_bidder_33 rfl (lv_at hl 1 rfl) ?_
        refine lv_iload_n hx hb dX5_bidder_34 rfl (lv_at hl 2 rfl) ?_
        refine kV_Mi (As := [.int p1, .int p2]) (rest := []) ⟨hx, hb, hml, hown, hts⟩ (ok_X5_ofBidder l D cI cJ a _ _ _ _ _ hw) (cwV 2 hts gX5_bidder_X5_ofBidder rfl rfl rfl (by decide +kernel) ⟨Nat.le_of_ble_eq_true rfl, Nat.le_of_ble_eq_true rfl⟩) hK hW hA 0 rfl rfl rfl hl.1 rfl (Nat.le_of_ble_eq_true rfl) dX5_bidder_35 ⟨Nat.le_of_ble_eq_true rfl, Nat.le_of_ble_eq_true rfl⟩ (fun r_8 _ H locs hw hW => ?_)
        refine lv_goto (tgt := 42) hx hb dX5_bidder_38 (by decide) ?_
        exact hret _ σ_7 _ _ _ _ hw hW dX5_bidder_42
  · have hw := hw.2 hc
    refine lv_iconst (v := 1) hx hb dX5_bidder_8 (by decide) ?_
    refine lv_goto (tgt := 26) hx hb dX5_bidder_9 (by decide) ?_
    refine kV_Mi (As := [.int 1]) (rest := []) ⟨hx, hb, hml, hown, hts⟩ (ok_X5_holds l D cI cJ a _ _ _ _ hw) (cwV 1 hts gX5_bidder_X5_holds rfl rfl rfl (by decide +kernel) ⟨Nat.le_of_ble_eq_true rfl, Nat.le_of_ble_eq_true rfl⟩) hK hW hA 0 rfl rfl rfl hl.1 rfl (Nat.le_of_ble_eq_true rfl) dX5_bidder_26 ⟨Nat.le_of_ble_eq_true rfl, Nat.le_of_ble_eq_true rfl⟩ (fun r_9 σ_10 H locs hw hW => ?_)
    refine lv_if_eq (tgt := 41) hx hb dX5_bidder_29 (by decide) (fun hc => ?_) (fun hc => ?_)
    · have hw := hw.1 hc
      refine lv_iconst (v := 0) hx hb dX5_bidder_41 (by decide) ?_
      exact hret _ σ_10 _ _ _ _ hw hW dX5_bidder_42
    · have hw := hw.2 hc
      refine lv_aload_n hx hb dX5_bidder_32 rfl (lv_at hl 0 rfl) ?_
      refine lv_iload_n hx hb dX5_bidder_33 rfl (lv_at hl 1 rfl) ?_
      refine lv_iload_n hx hb dX5_bidder_34 rfl (lv_at hl 2 rfl) ?_
      refine kV_Mi (As := [.int p1, .int p2]) (rest := []) ⟨hx, hb, hml, hown, hts⟩ (ok_X5_ofBidder l D cI cJ a _ _ _ _ _ hw) (cwV 2 hts gX5_bidder_X5_ofBidder rfl rfl rfl (by decide +kernel) ⟨Nat.le_of_ble_eq_true rfl, Nat.le_of_ble_eq_true rfl⟩) hK hW hA 0 rfl rfl rfl hl.1 rfl (Nat.le_of_ble_eq_true rfl) dX5_bidder_35 ⟨Nat.le_of_ble_eq_true rfl, Nat.le_of_ble_eq_true rfl⟩ (fun r_11 _ H locs hw hW => ?_)
      refine lv_goto (tgt := 42) hx hb dX5_bidder_38 (by decide) ?_
      exact hret _ σ_10 _ _ _ _ hw hW dX5_bidder_42
def wp_X5_ofBid (σ : MS) (p1 : Int32) (p2 : Int32) (p3 : Int32) (post : Int32 → Prop) : Prop := ((¬ p3 = 4 → wp_X5_isBid σ p1 p2 (fun r_1 => ((r_1 = 0 → post (-1)) ∧ (¬ r_1 = 0 → ((¬ p3 = 2 → ((¬ p3 = 3 → wp_X5_bidAt σ p1 p2 (fun r_2 => vp_in (r_2 + p3) 1416 ∧ post ((m_s σ) (r_2 + p3).toNatClampNeg))) ∧ (p3 = 3 → wp_X5_fee σ p1 p2 (fun r_3 => post r_3)))) ∧ (p3 = 2 → ((¬ ((m_s σ) (2 : Int32).toNatClampNeg) = 0 → ((¬ p3 = 3 → wp_X5_bidAt σ p1 p2 (fun r_4 => vp_in (r_4 + p3) 1416 ∧ post ((m_s σ) (r_4 + p3).toNatClampNeg))) ∧ (p3 = 3 → wp_X5_fee σ p1 p2 (fun r_5 => post r_5)))) ∧ (((m_s σ) (2 : Int32).toNatClampNeg) = 0 → post (-1))))))))) ∧ (p3 = 4 → wp_X5_whyKept σ p1 p2 (fun r_6 => post r_6)))
abbrev rm_X5_ofBid : Room := { frames := 3, cells := 0, slots := 0, locals := 66 }
theorem in_X5_ofBid_X5 : ∀ w ∈ wsX50, w ∈ wsX5_ofBid := fun w h => List.mem_cons_of_mem _ (List.mem_append_right _ (h))
set_option maxHeartbeats 4000000 in
set_option maxRecDepth 100000 in
theorem ok_X5_ofBid (l : Launch) (D : va_G) (cI cJ : ClassId) (a : Nat → Nat) (sz : Nat) (σ : MS) (p1 : Int32) (p2 : Int32) (p3 : Int32) (post : Int32 → Prop) (hw : wp_X5_ofBid σ p1 p2 p3 post) : Mi l yX5_ofBid wsX5_ofBid rm_X5_ofBid [.ref (a 0), .int p1, .int p2, .int p3] D (tysIJ cI cJ) (mW cI cJ a σ) sz (fun r (_ : Unit) => post r) (fun _ => mW cI cJ a σ) := by
  refine s_Mi (by decide) rfl (Nat.le_of_ble_eq_true rfl) ?_
  intro p e s m args below meth c A Q hx hb hml hts hown hin hK hA hret H locs ls hW hl
  have hown : s.vm.findClass RX5 = some m.cls := hown
  have hl : lv_has ls 4 [(0, .ref (a 0)), (1, .int p1), (2, .int p2), (3, .int p3)] := hl
  have hinX5 := in_X5_ofBid_X5
  refine lv_iload_n hx hb dX5_ofBid_0 rfl (lv_at hl 3 rfl) ?_
  refine lv_iconst (v := 4) hx hb dX5_ofBid_1 (by decide) ?_
  refine lv_icmp_ne (tgt := 12) hx hb dX5_ofBid_2 (by decide) (fun hc => ?_) (fun hc => ?_)
  · have hw := hw.1 hc
    refine lv_aload_n hx hb dX5_ofBid_12 rfl (lv_at hl 0 rfl) ?_
    refine lv_iload_n hx hb dX5_ofBid_13 rfl (lv_at hl 1 rfl) ?_
    refine lv_iload_n hx hb dX5_ofBid_14 rfl (lv_at hl 2 rfl) ?_
    refine kV_Mi (As := [.int p1, .int p2]) (rest := []) ⟨hx, hb, hml, hown, hts⟩ (ok_X5_isBid l D cI cJ a _ _ _ _ _ hw) (cwV 2 hts gX5_ofBid_X5_isBid rfl rfl rfl (by decide +kernel) ⟨Nat.le_of_ble_eq_true rfl, Nat.le_of_ble_eq_true rfl⟩) hK hW hA 0 rfl rfl rfl hl.1 rfl (Nat.le_of_ble_eq_true rfl) dX5_ofBid_15 ⟨Nat.le_of_ble_eq_true rfl, Nat.le_of_ble_eq_true rfl⟩ (fun r_1 _ H locs hw hW => ?_)
    refine lv_if_eq (tgt := 35) hx hb dX5_ofBid_18 (by decide) (fun hc => ?_) (fun hc => ?_)
    · have hw := hw.1 hc
      refine lv_iconst (v := (-1)) hx hb dX5_ofBid_35 (by decide) ?_
      exact hret _ () _ _ _ _ hw hW dX5_ofBid_36
    · have hw := hw.2 hc
      refine lv_iload_n hx hb dX5_ofBid_21 rfl (lv_at hl 3 rfl) ?_
      refine lv_iconst (v := 2) hx hb dX5_ofBid_22 (by decide) ?_
      refine lv_icmp_ne (tgt := 37) hx hb dX5_ofBid_23 (by decide) (fun hc => ?_) (fun hc => ?_)
      · have hw := hw.1 hc
        refine lv_iload_n hx hb dX5_ofBid_37 rfl (lv_at hl 3 rfl) ?_
        refine lv_iconst (v := 3) hx hb dX5_ofBid_38 (by decide) ?_
        refine lv_icmp_ne (tgt := 51) hx hb dX5_ofBid_39 (by decide) (fun hc => ?_) (fun hc => ?_)
        · have hw := hw.1 hc
          refine lv_aload_n hx hb dX5_ofBid_51 rfl (lv_at hl 0 rfl) ?_
          refine va_get (D := D) (ci := 5) (v := .ref (a 1)) (C := RX5) (T := TX5) (N := 18) hx hb hts hinX5 hown hK hW.1 0 rfl rfl 1 (by decide) (hts _ (List.mem_of_getElem? (i := 1) rfl)) (fun _ h9 => h9) rfl dX5_ofBid_52 ?_
          refine lv_aload_n hx hb dX5_ofBid_55 rfl (lv_at hl 0 rfl) ?_
          refine lv_iload_n hx hb dX5_ofBid_56 rfl (lv_at hl 1 rfl) ?_
          refine lv_iload_n hx hb dX5_ofBid_57 rfl (lv_at hl 2 rfl) ?_
          refine kV_Mi (As := [.int p1, .int p2]) (rest := [.ref (a 1)]) ⟨hx, hb, hml, hown, hts⟩ (ok_X5_bidAt l D cI cJ a _ _ _ _ _ hw) (cwV 2 hts gX5_ofBid_X5_bidAt rfl rfl rfl (by decide +kernel) ⟨Nat.le_of_ble_eq_true rfl, Nat.le_of_ble_eq_true rfl⟩) hK hW hA 0 rfl rfl rfl hl.1 rfl (Nat.le_of_ble_eq_true rfl) dX5_ofBid_58 ⟨Nat.le_of_ble_eq_true rfl, Nat.le_of_ble_eq_true rfl⟩ (fun r_2 _ H locs hw hW => ?_)
          refine lv_iload_n hx hb dX5_ofBid_61 rfl (lv_at hl 3 rfl) ?_
          refine lv_iadd hx hb dX5_ofBid_62 ?_
          refine va_iald hx hb hK hW.1 1 0 rfl rfl hw.1 dX5_ofBid_63 ?_
          have hw := hw.2
          exact hret _ () _ _ _ _ hw hW dX5_ofBid_64
        · have hw := hw.2 hc
          refine lv_aload_n hx hb dX5_ofBid_42 rfl (lv_at hl 0 rfl) ?_
          refine lv_iload_n hx hb dX5_ofBid_43 rfl (lv_at hl 1 rfl) ?_
          refine lv_iload_n hx hb dX5_ofBid_44 rfl (lv_at hl 2 rfl) ?_
          refine kV_Mi (As := [.int p1, .int p2]) (rest := []) ⟨hx, hb, hml, hown, hts⟩ (ok_X5_fee l D cI cJ a _ _ _ _ _ hw) (cwV 2 hts gX5_ofBid_X5_fee rfl rfl rfl (by decide +kernel) ⟨Nat.le_of_ble_eq_true rfl, Nat.le_of_ble_eq_true rfl⟩) hK hW hA 0 rfl rfl rfl hl.1 rfl (Nat.le_of_ble_eq_true rfl) dX5_ofBid_45 ⟨Nat.le_of_ble_eq_true rfl, Nat.le_of_ble_eq_true rfl⟩ (fun r_3 _ H locs hw hW => ?_)
          refine lv_goto (tgt := 64) hx hb dX5_ofBid_48 (by decide) ?_
          exact hret _ () _ _ _ _ hw hW dX5_ofBid_64
      · have hw := hw.2 hc
        refine lv_aload_n hx hb dX5_ofBid_26 rfl (lv_at hl 0 rfl) ?_
        refine va_get (D := D) (ci := 5) (v := .ref (a 1)) (C := RX5) (T := TX5) (N := 18) hx hb hts hinX5 hown hK hW.1 0 rfl rfl 1 (by decide) (hts _ (List.mem_of_getElem? (i := 1) rfl)) (fun _ h9 => h9) rfl dX5_ofBid_27 ?_
        refine lv_iconst (v := 2) hx hb dX5_ofBid_30 (by decide) ?_
        refine va_iald hx hb hK hW.1 1 0 rfl rfl (by unfold vp_in; decide) dX5_ofBid_31 ?_
        refine lv_if_ne (tgt := 37) hx hb dX5_ofBid_32 (by decide) (fun hc => ?_) (fun hc => ?_)
        · have hw := hw.1 hc
          refine lv_iload_n hx hb dX5_ofBid_37 rfl (lv_at hl 3 rfl) ?_
          refine lv_iconst (v := 3) hx hb dX5_ofBid_38 (by decide) ?_
          refine lv_icmp_ne (tgt := 51) hx hb dX5_ofBid_39 (by decide) (fun hc => ?_) (fun hc => ?_)
          · have hw := hw.1 hc
            refine lv_aload_n hx hb dX5_ofBid_51 rfl (lv_at hl 0 rfl) ?_
            refine va_get (D := D) (ci := 5) (v := .ref (a 1)) (C := RX5) (T := TX5) (N := 18) hx hb hts hinX5 hown hK hW.1 0 rfl rfl 1 (by decide) (hts _ (List.mem_of_getElem? (i := 1) rfl)) (fun _ h9 => h9) rfl dX5_ofBid_52 ?_
            refine lv_aload_n hx hb dX5_ofBid_55 rfl (lv_at hl 0 rfl) ?_
            refine lv_iload_n hx hb dX5_ofBid_56 rfl (lv_at hl 1 rfl) ?_
            refine lv_iload_n hx hb dX5_ofBid_57 rfl (lv_at hl 2 rfl) ?_
            refine kV_Mi (As := [.int p1, .int p2]) (rest := [.ref (a 1)]) ⟨hx, hb, hml, hown, hts⟩ (ok_X5_bidAt l D cI cJ a _ _ _ _ _ hw) (cwV 2 hts gX5_ofBid_X5_bidAt rfl rfl rfl (by decide +kernel) ⟨Nat.le_of_ble_eq_true rfl, Nat.le_of_ble_eq_true rfl⟩) hK hW hA 0 rfl rfl rfl hl.1 rfl (Nat.le_of_ble_eq_true rfl) dX5_ofBid_58 ⟨Nat.le_of_ble_eq_true rfl, Nat.le_of_ble_eq_true rfl⟩ (fun r_4 _ H locs hw hW => ?_)
            refine lv_iload_n hx hb dX5_ofBid_61 rfl (lv_at hl 3 rfl) ?_
            refine lv_iadd hx hb dX5_ofBid_62 ?_
            refine va_iald hx hb hK hW.1 1 0 rfl rfl hw.1 dX5_ofBid_63 ?_
            have hw := hw.2
            exact hret _ () _ _ _ _ hw hW dX5_ofBid_64
          · have hw := hw.2 hc
            refine lv_aload_n hx hb dX5_ofBid_42 rfl (lv_at hl 0 rfl) ?_
            refine lv_iload_n hx hb dX5_ofBid_43 rfl (lv_at hl 1 rfl) ?_
            refine lv_iload_n hx hb dX5_ofBid_44 rfl (lv_at hl 2 rfl) ?_
            refine kV_Mi (As := [.int p1, .int p2]) (rest := []) ⟨hx, hb, hml, hown, hts⟩ (ok_X5_fee l D cI cJ a _ _ _ _ _ hw) (cwV 2 hts gX5_ofBid_X5_fee rfl rfl rfl (by decide +kernel) ⟨Nat.le_of_ble_eq_true rfl, Nat.le_of_ble_eq_true rfl⟩) hK hW hA 0 rfl rfl rfl hl.1 rfl (Nat.le_of_ble_eq_true rfl) dX5_ofBid_45 ⟨Nat.le_of_ble_eq_true rfl, Nat.le_of_ble_eq_true rfl⟩ (fun r_5 _ H locs hw hW => ?_)
            refine lv_goto (tgt := 64) hx hb dX5_ofBid_48 (by decide) ?_
            exact hret _ () _ _ _ _ hw hW dX5_ofBid_64
        · have hw := hw.2 hc
          refine lv_iconst (v := (-1)) hx hb dX5_ofBid_35 (by decide) ?_
          exact hret _ () _ _ _ _ hw hW dX5_ofBid_36
  · have hw := hw.2 hc
    refine lv_aload_n hx hb dX5_ofBid_5 rfl (lv_at hl 0 rfl) ?_
    refine lv_iload_n hx hb dX5_ofBid_6 rfl (lv_at hl 1 rfl) ?_
    refine lv_iload_n hx hb dX5_ofBid_7 rfl (lv_at hl 2 rfl) ?_
    refine kV_Mi (As := [.int p1, .int p2]) (rest := []) ⟨hx, hb, hml, hown, hts⟩ (ok_X5_whyKept l D cI cJ a _ _ _ _ _ hw) (cwV 2 hts gX5_ofBid_X5_whyKept rfl rfl rfl (by decide +kernel) ⟨Nat.le_of_ble_eq_true rfl, Nat.le_of_ble_eq_true rfl⟩) hK hW hA 0 rfl rfl rfl hl.1 rfl (Nat.le_of_ble_eq_true rfl) dX5_ofBid_8 ⟨Nat.le_of_ble_eq_true rfl, Nat.le_of_ble_eq_true rfl⟩ (fun r_6 _ H locs hw hW => ?_)
    exact hret _ () _ _ _ _ hw hW dX5_ofBid_11
def wp_X5_sealed (σ : MS) (p1 : Int32) (p2 : Int32) (p3 : Int32) (post : Int32 → MS → Prop) : Prop := wp_X5_isOne p1 (fun r_1 => ((r_1 = 0 → wp_X5_holds σ 1 (fun r_2 σ_3 => ((r_2 = 0 → post 0 σ_3) ∧ (¬ r_2 = 0 → wp_X5_ofBid σ_3 p1 p2 p3 (fun r_4 => post r_4 σ_3))))) ∧ (¬ r_1 = 0 → wp_X5_isOne p2 (fun r_5 => ((r_5 = 0 → wp_X5_holds σ 1 (fun r_6 σ_7 => ((r_6 = 0 → post 0 σ_7) ∧ (¬ r_6 = 0 → wp_X5_ofBid σ_7 p1 p2 p3 (fun r_8 => post r_8 σ_7))))) ∧ (¬ r_5 = 0 → wp_X5_in p3 0 4 (fun r_9 => ((¬ r_9 = 0 → wp_X5_holds σ 0 (fun r_10 σ_11 => ((r_10 = 0 → post 0 σ_11) ∧ (¬ r_10 = 0 → wp_X5_ofBid σ_11 p1 p2 p3 (fun r_12 => post r_12 σ_11))))) ∧ (r_9 = 0 → wp_X5_holds σ 2 (fun r_13 σ_14 => ((r_13 = 0 → post 0 σ_14) ∧ (¬ r_13 = 0 → wp_X5_ofBid σ_14 p1 p2 p3 (fun r_15 => post r_15 σ_14)))))))))))))
abbrev rm_X5_sealed : Room := { frames := 4, cells := 0, slots := 0, locals := 89 }
set_option maxHeartbeats 4000000 in
set_option maxRecDepth 100000 in
theorem ok_X5_sealed (l : Launch) (D : va_G) (cI cJ : ClassId) (a : Nat → Nat) (sz : Nat) (σ : MS) (p1 : Int32) (p2 : Int32) (p3 : Int32) (post : Int32 → MS → Prop) (hw : wp_X5_sealed σ p1 p2 p3 post) : Mi l yX5_sealed wsX5_sealed rm_X5_sealed [.ref (a 0), .int p1, .int p2, .int p3] D (tysIJ cI cJ) (mW cI cJ a σ) sz post (mW cI cJ a) := by
  refine s_Mi (by decide) rfl (Nat.le_of_ble_eq_true rfl) ?_
  intro p e s m args below meth c A Q hx hb hml hts hown hin hK hA hret H locs ls hW hl
  have hown : s.vm.findClass RX5 = some m.cls := hown
  have hl : lv_has ls 5 [(0, .ref (a 0)), (1, .int p1), (2, .int p2), (3, .int p3)] := hl
  refine lv_iload_n hx hb dX5_sealed_0 rfl (lv_at hl 1 rfl) ?_
  refine kS_Pi (As := [.int p1]) (rest := []) ⟨hx, hb, hml, hown, hts⟩ (ok_X5_isOne l _ _ hw) (va_cwS 1 hts gX5_sealed_X5_isOne rfl rfl rfl (by decide +kernel) ⟨Nat.le_of_ble_eq_true rfl, Nat.le_of_ble_eq_true rfl⟩) hW.2.2 rfl hl.1 rfl (Nat.le_of_ble_eq_true rfl) dX5_sealed_1 ⟨Nat.le_of_ble_eq_true rfl, Nat.le_of_ble_eq_true rfl⟩ (fun r_1 H locs hw hk hS => ?_)
  have hW := hW.kept hk hS
  refine lv_if_eq (tgt := 18) hx hb dX5_sealed_4 (by decide) (fun hc => ?_) (fun hc => ?_)
  · have hw := hw.1 hc
    refine lv_iconst (v := 0) hx hb dX5_sealed_18 (by decide) ?_
    refine lv_istore (lv' := [(4, .int 0), (0, .ref (a 0)), (1, .int p1), (2, .int p2), (3, .int p3)]) hx hb dX5_sealed_19 hl (by decide) rfl (fun ls hl => ?_)
    refine lv_aload_n hx hb dX5_sealed_21 rfl (lv_at hl 1 rfl) ?_
    refine lv_iload hx hb dX5_sealed_22 (lv_at hl 0 rfl) ?_
    refine lv_if_ne (tgt := 31) hx hb dX5_sealed_24 (by decide) (fun hc => absurd hc (by decide)) (fun _ => ?_)
    refine lv_iconst (v := 1) hx hb dX5_sealed_27 (by decide) ?_
    refine lv_goto (tgt := 45) hx hb dX5_sealed_28 (by decide) ?_
    refine kV_Mi (As := [.int 1]) (rest := []) ⟨hx, hb, hml, hown, hts⟩ (ok_X5_holds l D cI cJ a _ _ _ _ hw) (cwV 1 hts gX5_sealed_X5_holds rfl rfl rfl (by decide +kernel) ⟨Nat.le_of_ble_eq_true rfl, Nat.le_of_ble_eq_true rfl⟩) hK hW hA 0 rfl rfl rfl hl.1 rfl (Nat.le_of_ble_eq_true rfl) dX5_sealed_45 ⟨Nat.le_of_ble_eq_true rfl, Nat.le_of_ble_eq_true rfl⟩ (fun r_2 σ_3 H locs hw hW => ?_)
    refine lv_if_eq (tgt := 61) hx hb dX5_sealed_48 (by decide) (fun hc => ?_) (fun hc => ?_)
    · have hw := hw.1 hc
      refine lv_iconst (v := 0) hx hb dX5_sealed_61 (by decide) ?_
      exact hret _ σ_3 _ _ _ _ hw hW dX5_sealed_62
    · have hw := hw.2 hc
      refine lv_aload_n hx hb dX5_sealed_51 rfl (lv_at hl 1 rfl) ?_
      refine lv_iload_n hx hb dX5_sealed_52 rfl (lv_at hl 2 rfl) ?_
      refine lv_iload_n hx hb dX5_sealed_53 rfl (lv_at hl 3 rfl) ?_
      refine lv_iload_n hx hb dX5_sealed_54 rfl (lv_at hl 4 rfl) ?_
      refine kV_Mi (As := [.int p1, .int p2, .int p3]) (rest := []) ⟨hx, hb, hml, hown, hts⟩ (ok_X5_ofBid l D cI cJ a _ _ _ _ _ _ hw) (cwV 3 hts gX5_sealed_X5_ofBid rfl rfl rfl (by decide +kernel) ⟨Nat.le_of_ble_eq_true rfl, Nat.le_of_ble_eq_true rfl⟩) hK hW hA 0 rfl rfl rfl hl.1 rfl (Nat.le_of_ble_eq_true rfl) dX5_sealed_55 ⟨Nat.le_of_ble_eq_true rfl, Nat.le_of_ble_eq_true rfl⟩ (fun r_4 _ H locs hw hW => ?_)
      refine lv_goto (tgt := 62) hx hb dX5_sealed_58 (by decide) ?_
      exact hret _ σ_3 _ _ _ _ hw hW dX5_sealed_62
  · have hw := hw.2 hc
    refine lv_iload_n hx hb dX5_sealed_7 rfl (lv_at hl 2 rfl) ?_
    refine kS_Pi (As := [.int p2]) (rest := []) ⟨hx, hb, hml, hown, hts⟩ (ok_X5_isOne l _ _ hw) (va_cwS 1 hts gX5_sealed_X5_isOne rfl rfl rfl (by decide +kernel) ⟨Nat.le_of_ble_eq_true rfl, Nat.le_of_ble_eq_true rfl⟩) hW.2.2 rfl hl.1 rfl (Nat.le_of_ble_eq_true rfl) dX5_sealed_8 ⟨Nat.le_of_ble_eq_true rfl, Nat.le_of_ble_eq_true rfl⟩ (fun r_5 H locs hw hk hS => ?_)
    have hW := hW.kept hk hS
    refine lv_if_eq (tgt := 18) hx hb dX5_sealed_11 (by decide) (fun hc => ?_) (fun hc => ?_)
    · have hw := hw.1 hc
      refine lv_iconst (v := 0) hx hb dX5_sealed_18 (by decide) ?_
      refine lv_istore (lv' := [(4, .int 0), (0, .ref (a 0)), (1, .int p1), (2, .int p2), (3, .int p3)]) hx hb dX5_sealed_19 hl (by decide) rfl (fun ls hl => ?_)
      refine lv_aload_n hx hb dX5_sealed_21 rfl (lv_at hl 1 rfl) ?_
      refine lv_iload hx hb dX5_sealed_22 (lv_at hl 0 rfl) ?_
      refine lv_if_ne (tgt := 31) hx hb dX5_sealed_24 (by decide) (fun hc => absurd hc (by decide)) (fun _ => ?_)
      refine lv_iconst (v := 1) hx hb dX5_sealed_27 (by decide) ?_
      refine lv_goto (tgt := 45) hx hb dX5_sealed_28 (by decide) ?_
      refine kV_Mi (As := [.int 1]) (rest := []) ⟨hx, hb, hml, hown, hts⟩ (ok_X5_holds l D cI cJ a _ _ _ _ hw) (cwV 1 hts gX5_sealed_X5_holds rfl rfl rfl (by decide +kernel) ⟨Nat.le_of_ble_eq_true rfl, Nat.le_of_ble_eq_true rfl⟩) hK hW hA 0 rfl rfl rfl hl.1 rfl (Nat.le_of_ble_eq_true rfl) dX5_sealed_45 ⟨Nat.le_of_ble_eq_true rfl, Nat.le_of_ble_eq_true rfl⟩ (fun r_6 σ_7 H locs hw hW => ?_)
      refine lv_if_eq (tgt := 61) hx hb dX5_sealed_48 (by decide) (fun hc => ?_) (fun hc => ?_)
      · have hw := hw.1 hc
        refine lv_iconst (v := 0) hx hb dX5_sealed_61 (by decide) ?_
        exact hret _ σ_7 _ _ _ _ hw hW dX5_sealed_62
      · have hw := hw.2 hc
        refine lv_aload_n hx hb dX5_sealed_51 rfl (lv_at hl 1 rfl) ?_
        refine lv_iload_n hx hb dX5_sealed_52 rfl (lv_at hl 2 rfl) ?_
        refine lv_iload_n hx hb dX5_sealed_53 rfl (lv_at hl 3 rfl) ?_
        refine lv_iload_n hx hb dX5_sealed_54 rfl (lv_at hl 4 rfl) ?_
        refine kV_Mi (As := [.int p1, .int p2, .int p3]) (rest := []) ⟨hx, hb, hml, hown, hts⟩ (ok_X5_ofBid l D cI cJ a _ _ _ _ _ _ hw) (cwV 3 hts gX5_sealed_X5_ofBid rfl rfl rfl (by decide +kernel) ⟨Nat.le_of_ble_eq_true rfl, Nat.le_of_ble_eq_true rfl⟩) hK hW hA 0 rfl rfl rfl hl.1 rfl (Nat.le_of_ble_eq_true rfl) dX5_sealed_55 ⟨Nat.le_of_ble_eq_true rfl, Nat.le_of_ble_eq_true rfl⟩ (fun r_8 _ H locs hw hW => ?_)
        refine lv_goto (tgt := 62) hx hb dX5_sealed_58 (by decide) ?_
        exact hret _ σ_7 _ _ _ _ hw hW dX5_sealed_62
    · have hw := hw.2 hc
      refine lv_iconst (v := 1) hx hb dX5_sealed_14 (by decide) ?_
      refine lv_goto (tgt := 19) hx hb dX5_sealed_15 (by decide) ?_
      refine lv_istore (lv' := [(4, .int 1), (0, .ref (a 0)), (1, .int p1), (2, .int p2), (3, .int p3)]) hx hb dX5_sealed_19 hl (by decide) rfl (fun ls hl => ?_)
      refine lv_aload_n hx hb dX5_sealed_21 rfl (lv_at hl 1 rfl) ?_
      refine lv_iload hx hb dX5_sealed_22 (lv_at hl 0 rfl) ?_
      refine lv_if_ne (tgt := 31) hx hb dX5_sealed_24 (by decide) (fun _ => ?_) (fun hc => absurd hc (by decide))
      refine lv_iload_n hx hb dX5_sealed_31 rfl (lv_at hl 4 rfl) ?_
      refine lv_iconst (v := 0) hx hb dX5_sealed_32 (by decide) ?_
      refine lv_iconst (v := 4) hx hb dX5_sealed_33 (by decide) ?_
      refine kS_Pi (As := [.int p3, .int 0, .int 4]) (rest := [.ref (a 0)]) ⟨hx, hb, hml, hown, hts⟩ (ok_X5_in l _ _ _ _ hw) (va_cwS 3 hts gX5_sealed_X5_in rfl rfl rfl (by decide +kernel) ⟨Nat.le_of_ble_eq_true rfl, Nat.le_of_ble_eq_true rfl⟩) hW.2.2 rfl hl.1 rfl (Nat.le_of_ble_eq_true rfl) dX5_sealed_34 ⟨Nat.le_of_ble_eq_true rfl, Nat.le_of_ble_eq_true rfl⟩ (fun r_9 H locs hw hk hS => ?_)
      have hW := hW.kept hk hS
      refine lv_if_ne (tgt := 44) hx hb dX5_sealed_37 (by decide) (fun hc => ?_) (fun hc => ?_)
      · have hw := hw.1 hc
        refine lv_iconst (v := 0) hx hb dX5_sealed_44 (by decide) ?_
        refine kV_Mi (As := [.int 0]) (rest := []) ⟨hx, hb, hml, hown, hts⟩ (ok_X5_holds l D cI cJ a _ _ _ _ hw) (cwV 1 hts gX5_sealed_X5_holds rfl rfl rfl (by decide +kernel) ⟨Nat.le_of_ble_eq_true rfl, Nat.le_of_ble_eq_true rfl⟩) hK hW hA 0 rfl rfl rfl hl.1 rfl (Nat.le_of_ble_eq_true rfl) dX5_sealed_45 ⟨Nat.le_of_ble_eq_true rfl, Nat.le_of_ble_eq_true rfl⟩ (fun r_10 σ_11 H locs hw hW => ?_)
        refine lv_if_eq (tgt := 61) hx hb dX5_sealed_48 (by decide) (fun hc => ?_) (fun hc => ?_)
        · have hw := hw.1 hc
          refine lv_iconst (v := 0) hx hb dX5_sealed_61 (by decide) ?_
          exact hret _ σ_11 _ _ _ _ hw hW dX5_sealed_62
        · have hw := hw.2 hc
          refine lv_aload_n hx hb dX5_sealed_51 rfl (lv_at hl 1 rfl) ?_
          refine lv_iload_n hx hb dX5_sealed_52 rfl (lv_at hl 2 rfl) ?_
          refine lv_iload_n hx hb dX5_sealed_53 rfl (lv_at hl 3 rfl) ?_
          refine lv_iload_n hx hb dX5_sealed_54 rfl (lv_at hl 4 rfl) ?_
          refine kV_Mi (As := [.int p1, .int p2, .int p3]) (rest := []) ⟨hx, hb, hml, hown, hts⟩ (ok_X5_ofBid l D cI cJ a _ _ _ _ _ _ hw) (cwV 3 hts gX5_sealed_X5_ofBid rfl rfl rfl (by decide +kernel) ⟨Nat.le_of_ble_eq_true rfl, Nat.le_of_ble_eq_true rfl⟩) hK hW hA 0 rfl rfl rfl hl.1 rfl (Nat.le_of_ble_eq_true rfl) dX5_sealed_55 ⟨Nat.le_of_ble_eq_true rfl, Nat.le_of_ble_eq_true rfl⟩ (fun r_12 _ H locs hw hW => ?_)
          refine lv_goto (tgt := 62) hx hb dX5_sealed_58 (by decide) ?_
          exact hret _ σ_11 _ _ _ _ hw hW dX5_sealed_62
      · have hw := hw.2 hc
        refine lv_iconst (v := 2) hx hb dX5_sealed_40 (by decide) ?_
        refine lv_goto (tgt := 45) hx hb dX5_sealed_41 (by decide) ?_
        refine kV_Mi (As := [.int 2]) (rest := []) ⟨hx, hb, hml, hown, hts⟩ (ok_X5_holds l D cI cJ a _ _ _ _ hw) (cwV 1 hts gX5_sealed_X5_holds rfl rfl rfl (by decide +kernel) ⟨Nat.le_of_ble_eq_true rfl, Nat.le_of_ble_eq_true rfl⟩) hK hW hA 0 rfl rfl rfl hl.1 rfl (Nat.le_of_ble_eq_true rfl) dX5_sealed_45 ⟨Nat.le_of_ble_eq_true rfl, Nat.le_of_ble_eq_true rfl⟩ (fun r_13 σ_14 H locs hw hW => ?_)
        refine lv_if_eq (tgt := 61) hx hb dX5_sealed_48 (by decide) (fun hc => ?_) (fun hc => ?_)
        · have hw := hw.1 hc
          refine lv_iconst (v := 0) hx hb dX5_sealed_61 (by decide) ?_
          exact hret _ σ_14 _ _ _ _ hw hW dX5_sealed_62
        · have hw := hw.2 hc
          refine lv_aload_n hx hb dX5_sealed_51 rfl (lv_at hl 1 rfl) ?_
          refine lv_iload_n hx hb dX5_sealed_52 rfl (lv_at hl 2 rfl) ?_
          refine lv_iload_n hx hb dX5_sealed_53 rfl (lv_at hl 3 rfl) ?_
          refine lv_iload_n hx hb dX5_sealed_54 rfl (lv_at hl 4 rfl) ?_
          refine kV_Mi (As := [.int p1, .int p2, .int p3]) (rest := []) ⟨hx, hb, hml, hown, hts⟩ (ok_X5_ofBid l D cI cJ a _ _ _ _ _ _ hw) (cwV 3 hts gX5_sealed_X5_ofBid rfl rfl rfl (by decide +kernel) ⟨Nat.le_of_ble_eq_true rfl, Nat.le_of_ble_eq_true rfl⟩) hK hW hA 0 rfl rfl rfl hl.1 rfl (Nat.le_of_ble_eq_true rfl) dX5_sealed_55 ⟨Nat.le_of_ble_eq_true rfl, Nat.le_of_ble_eq_true rfl⟩ (fun r_15 _ H locs hw hW => ?_)
          refine lv_goto (tgt := 62) hx hb dX5_sealed_58 (by decide) ?_
          exact hret _ σ_14 _ _ _ _ hw hW dX5_sealed_62
def wp_X5_counted (σ : MS) (p1 : Int32) (post : Int32 → Prop) : Prop := ∀ w_1 : Int32, w_1 = p1 → ((w_1 = 3 → ∃ I2 : Nat → Int32 → Int32 → Prop, (∃ n : Nat, I2 n 0 0) ∧ ∀ (n2 : Nat) (v2_2 : Int32) (v3_2 : Int32), I2 n2 v2_2 v3_2 → ((6 ≤ v3_2 → post v2_2) ∧ (¬ 6 ≤ v3_2 → ((¬ p1 = 3 → wp_X5_has σ v3_2 0 (fun r_3 => ∀ v2_4 : Int32, v2_4 = (v2_2 + r_3) → ∀ v3_5 : Int32, v3_5 = v3_2 + 1 → ∃ n' : Nat, n' < n2 ∧ I2 n' v2_4 v3_5)) ∧ (p1 = 3 → wp_X5_bids σ v3_2 1 (fun r_6 => ∀ v2_7 : Int32, v2_7 = (v2_2 + r_6) → ∀ v3_8 : Int32, v3_8 = v3_2 + 1 → ∃ n' : Nat, n' < n2 ∧ I2 n' v2_7 v3_8)))))) ∧ (¬ w_1 = 3 → ((w_1 = 4 → post ((m_s σ) (3 : Int32).toNatClampNeg)) ∧ (¬ w_1 = 4 → ((w_1 = 5 → ∃ I9 : Nat → Int32 → Int32 → Prop, (∃ n : Nat, I9 n 0 0) ∧ ∀ (n9 : Nat) (v2_9 : Int32) (v3_9 : Int32), I9 n9 v2_9 v3_9 → ((6 ≤ v3_9 → post v2_9) ∧ (¬ 6 ≤ v3_9 → ((¬ p1 = 3 → wp_X5_has σ v3_9 0 (fun r_10 => ∀ v2_11 : Int32, v2_11 = (v2_9 + r_10) → ∀ v3_12 : Int32, v3_12 = v3_9 + 1 → ∃ n' : Nat, n' < n9 ∧ I9 n' v2_11 v3_12)) ∧ (p1 = 3 → wp_X5_bids σ v3_9 1 (fun r_13 => ∀ v2_14 : Int32, v2_14 = (v2_9 + r_13) → ∀ v3_15 : Int32, v3_15 = v3_9 + 1 → ∃ n' : Nat, n' < n9 ∧ I9 n' v2_14 v3_15)))))) ∧ (¬ w_1 = 5 → ((w_1 = 6 → post ((m_s σ) (4 : Int32).toNatClampNeg)) ∧ (¬ w_1 = 6 → ((w_1 = 7 → post ((m_s σ) (5 : Int32).toNatClampNeg)) ∧ (¬ w_1 = 7 → ((w_1 = 8 → post ((m_s σ) (6 : Int32).toNatClampNeg)) ∧ (¬ w_1 = 8 → ((w_1 = 9 → post ((m_s σ) (7 : Int32).toNatClampNeg)) ∧ (¬ w_1 = 9 → ((w_1 = 10 → ∃ I16 : Nat → Int32 → Int32 → Prop, (∃ n : Nat, I16 n 0 0) ∧ ∀ (n16 : Nat) (v2_16 : Int32) (v3_16 : Int32), I16 n16 v2_16 v3_16 → ((6 ≤ v3_16 → post v2_16) ∧ (¬ 6 ≤ v3_16 → wp_X5_of σ v3_16 1 (fun r_17 => ∀ v2_18 : Int32, v2_18 = (v2_16 + r_17) → ∀ v3_19 : Int32, v3_19 = v3_16 + 1 → ∃ n' : Nat, n' < n16 ∧ I16 n' v2_18 v3_19)))) ∧ (¬ w_1 = 10 → ((w_1 = 11 → post ((m_s σ) (8 : Int32).toNatClampNeg)) ∧ (¬ w_1 = 11 → ((w_1 = 12 → vp_in ((9 + p1) - 12) 1416 ∧ post ((m_s σ) ((9 + p1) - 12).toNatClampNeg)) ∧ (¬ w_1 = 12 → ((w_1 = 13 → vp_in ((9 + p1) - 12) 1416 ∧ post ((m_s σ) ((9 + p1) - 12).toNatClampNeg)) ∧ (¬ w_1 = 13 → ((w_1 = 14 → post (m_saved σ)) ∧ (¬ w_1 = 14 → vp_in p1 1416 ∧ post ((m_s σ) (p1).toNatClampNeg)))))))))))))))))))))))))
abbrev rm_X5_counted : Room := { frames := 3, cells := 0, slots := 0, locals := 69 }
theorem in_X5_counted_X5 : ∀ w ∈ wsX50, w ∈ wsX5_counted := fun w h => List.mem_cons_of_mem _ (List.mem_append_right _ (h))
set_option maxHeartbeats 4000000 in
set_option maxRecDepth 100000 in
theorem ok_X5_counted (l : Launch) (D : va_G) (cI cJ : ClassId) (a : Nat → Nat) (sz : Nat) (σ : MS) (p1 : Int32) (post : Int32 → Prop) (hw : wp_X5_counted σ p1 post) : Mi l yX5_counted wsX5_counted rm_X5_counted [.ref (a 0), .int p1] D (tysIJ cI cJ) (mW cI cJ a σ) sz (fun r (_ : Unit) => post r) (fun _ => mW cI cJ a σ) := by
  refine s_Mi (by decide) rfl (Nat.le_of_ble_eq_true rfl) ?_
  intro p e s m args below meth c A Q hx hb hml hts hown hin hK hA hret H locs ls hW hl
  have hown : s.vm.findClass RX5 = some m.cls := hown
  have hl : lv_has ls 4 [(0, .ref (a 0)), (1, .int p1)] := hl
  have hinX5 := in_X5_counted_X5
  refine lv_iconst (v := 0) hx hb dX5_counted_0 (by decide) ?_
  refine lv_istore_n (lv' := [(2, .int 0), (0, .ref (a 0)), (1, .int p1)]) hx hb dX5_counted_1 rfl hl (by decide) rfl (fun ls hl => ?_)
  refine lv_iload_n hx hb dX5_counted_2 rfl (lv_at hl 2 rfl) ?_
  refine lv_topi (fun w_1 ew_1 => ?_)
  have hw := hw w_1 ew_1
  by_cases hs0 : w_1 = 3
  · have hw := hw.1 hs0
    refine lv_tableIn (tgt := 64) hx hb dX5_counted_3 (by rw [hs0]; decide) (by rw [hs0]; decide) (by rw [hs0]; rfl) (by decide) ?_
    refine lv_iconst (v := 0) hx hb dX5_counted_64 (by decide) ?_
    refine lv_istore_n (lv' := [(3, .int 0), (2, .int 0), (0, .ref (a 0)), (1, .int p1)]) hx hb dX5_counted_65 rfl hl (by decide) rfl (fun ls hl => ?_)
    obtain ⟨I2, ⟨n2, hI2⟩, hJ2⟩ := hw
    have hl : lv_has ls 4 [(0, .ref (a 0)), (1, .int p1), (2, .int 0), (3, .int 0)] := lv_sub hl [2, 3, 1, 0] rfl
    suffices LP2 : ∀ (n : Nat) (v2_2 : Int32) (v3_2 : Int32) (H : Heap) (locs : List Loc) (ls : Array Slot), I2 n v2_2 v3_2 → Wd D A s.heap (mW cI cJ a σ) H locs → lv_has ls 4 [(0, .ref (a 0)), (1, .int p1), (2, .int v2_2), (3, .int v3_2)] → W p l e rm_X5_counted s m args below meth c H locs 0 0 Q (F0 m 66 ls []) from LP2 n2 0 0 H locs ls hI2 hW hl
    intro n2
    induction n2 using Nat.strongRecOn with
    | ind n2 ih2 =>
      intro v2_2 v3_2 H locs ls hIn hW hl
      have hw := hJ2 n2 v2_2 v3_2 hIn
      refine lv_iload_n hx hb dX5_counted_66 rfl (lv_at hl 3 rfl) ?_
      refine lv_bipush (v := 6) hx hb dX5_counted_67 (by decide) ?_
      refine lv_icmp_ge (tgt := 101) hx hb dX5_counted_69 (by decide) (fun hc => ?_) (fun hc => ?_)
      · have hw := hw.1 hc
        refine lv_iload_n hx hb dX5_counted_101 rfl (lv_at hl 2 rfl) ?_
        exact hret _ () _ _ _ _ hw hW dX5_counted_102
      · have hw := hw.2 hc
        refine lv_iload_n hx hb dX5_counted_72 rfl (lv_at hl 2 rfl) ?_
        refine lv_iload_n hx hb dX5_counted_73 rfl (lv_at hl 1 rfl) ?_
        refine lv_iconst (v := 3) hx hb dX5_counted_74 (by decide) ?_
        refine lv_icmp_ne (tgt := 87) hx hb dX5_counted_75 (by decide) (fun hc => ?_) (fun hc => ?_)
        · have hw := hw.1 hc
          refine lv_aload_n hx hb dX5_counted_87 rfl (lv_at hl 0 rfl) ?_
          refine lv_iload_n hx hb dX5_counted_88 rfl (lv_at hl 3 rfl) ?_
          refine lv_iconst (v := 0) hx hb dX5_counted_89 (by decide) ?_
          refine kV_Mi (As := [.int v3_2, .int 0]) (rest := [.int v2_2]) ⟨hx, hb, hml, hown, hts⟩ (ok_X5_has l D cI cJ a _ _ _ _ _ hw) (cwV 2 hts gX5_counted_X5_has rfl rfl rfl (by decide +kernel) ⟨Nat.le_of_ble_eq_true rfl, Nat.le_of_ble_eq_true rfl⟩) hK hW hA 0 rfl rfl rfl hl.1 rfl (Nat.le_of_ble_eq_true rfl) dX5_counted_90 ⟨Nat.le_of_ble_eq_true rfl, Nat.le_of_ble_eq_true rfl⟩ (fun r_3 _ H locs hw hW => ?_)
          refine lv_iadd hx hb dX5_counted_93 ?_
          refine lv_topi (fun v2_4 ev2_4 => ?_)
          have hw := hw v2_4 ev2_4
          refine lv_istore_n (lv' := [(2, .int v2_4), (0, .ref (a 0)), (1, .int p1), (3, .int v3_2)]) hx hb dX5_counted_94 rfl hl (by decide) rfl (fun ls hl => ?_)
          obtain ⟨v3_5, ev3_5⟩ : ∃ y : Int32, y = v3_2 + 1 := ⟨_, rfl⟩
          have hw := hw v3_5 ev3_5
          refine lv_iinc (v := v3_5) (lv' := [(3, .int v3_5), (2, .int v2_4), (0, .ref (a 0)), (1, .int p1)]) hx hb dX5_counted_95 hl (k := 3) rfl (by rw [ev3_5]; rfl) (by decide) rfl (fun ls hl => ?_)
          refine lv_goto (tgt := 66) hx hb dX5_counted_98 (by decide) ?_
          obtain ⟨n9, hlt9, hI9⟩ := hw
          exact ih2 n9 hlt9 _ _ _ _ _ hI9 hW (lv_sub hl [2, 3, 1, 0] rfl)
        · have hw := hw.2 hc
          refine lv_aload_n hx hb dX5_counted_78 rfl (lv_at hl 0 rfl) ?_
          refine lv_iload_n hx hb dX5_counted_79 rfl (lv_at hl 3 rfl) ?_
          refine lv_iconst (v := 1) hx hb dX5_counted_80 (by decide) ?_
          refine kV_Mi (As := [.int v3_2, .int 1]) (rest := [.int v2_2]) ⟨hx, hb, hml, hown, hts⟩ (ok_X5_bids l D cI cJ a _ _ _ _ _ hw) (cwV 2 hts gX5_counted_X5_bids rfl rfl rfl (by decide +kernel) ⟨Nat.le_of_ble_eq_true rfl, Nat.le_of_ble_eq_true rfl⟩) hK hW hA 0 rfl rfl rfl hl.1 rfl (Nat.le_of_ble_eq_true rfl) dX5_counted_81 ⟨Nat.le_of_ble_eq_true rfl, Nat.le_of_ble_eq_true rfl⟩ (fun r_6 _ H locs hw hW => ?_)
          refine lv_goto (tgt := 93) hx hb dX5_counted_84 (by decide) ?_
          refine lv_iadd hx hb dX5_counted_93 ?_
          refine lv_topi (fun v2_7 ev2_7 => ?_)
          have hw := hw v2_7 ev2_7
          refine lv_istore_n (lv' := [(2, .int v2_7), (0, .ref (a 0)), (1, .int p1), (3, .int v3_2)]) hx hb dX5_counted_94 rfl hl (by decide) rfl (fun ls hl => ?_)
          obtain ⟨v3_8, ev3_8⟩ : ∃ y : Int32, y = v3_2 + 1 := ⟨_, rfl⟩
          have hw := hw v3_8 ev3_8
          refine lv_iinc (v := v3_8) (lv' := [(3, .int v3_8), (2, .int v2_7), (0, .ref (a 0)), (1, .int p1)]) hx hb dX5_counted_95 hl (k := 3) rfl (by rw [ev3_8]; rfl) (by decide) rfl (fun ls hl => ?_)
          refine lv_goto (tgt := 66) hx hb dX5_counted_98 (by decide) ?_
          obtain ⟨n9, hlt9, hI9⟩ := hw
          exact ih2 n9 hlt9 _ _ _ _ _ hI9 hW (lv_sub hl [2, 3, 1, 0] rfl)
  have hw := hw.2 hs0
  by_cases hs1 : w_1 = 4
  · have hw := hw.1 hs1
    refine lv_tableIn (tgt := 103) hx hb dX5_counted_3 (by rw [hs1]; decide) (by rw [hs1]; decide) (by rw [hs1]; rfl) (by decide) ?_
    refine lv_aload_n hx hb dX5_counted_103 rfl (lv_at hl 1 rfl) ?_
    refine va_get (D := D) (ci := 5) (v := .ref (a 1)) (C := RX5) (T := TX5) (N := 18) hx hb hts hinX5 hown hK hW.1 0 rfl rfl 1 (by decide) (hts _ (List.mem_of_getElem? (i := 1) rfl)) (fun _ h9 => h9) rfl dX5_counted_104 ?_
    refine lv_iconst (v := 3) hx hb dX5_counted_107 (by decide) ?_
    refine va_iald hx hb hK hW.1 1 0 rfl rfl (by unfold vp_in; decide) dX5_counted_108 ?_
    exact hret _ () _ _ _ _ hw hW dX5_counted_109
  have hw := hw.2 hs1
  by_cases hs2 : w_1 = 5
  · have hw := hw.1 hs2
    refine lv_tableIn (tgt := 64) hx hb dX5_counted_3 (by rw [hs2]; decide) (by rw [hs2]; decide) (by rw [hs2]; rfl) (by decide) ?_
    refine lv_iconst (v := 0) hx hb dX5_counted_64 (by decide) ?_
    refine lv_istore_n (lv' := [(3, .int 0), (2, .int 0), (0, .ref (a 0)), (1, .int p1)]) hx hb dX5_counted_65 rfl hl (by decide) rfl (fun ls hl => ?_)
    obtain ⟨I9, ⟨n9, hI9⟩, hJ9⟩ := hw
    have hl : lv_has ls 4 [(0, .ref (a 0)), (1, .int p1), (2, .int 0), (3, .int 0)] := lv_sub hl [2, 3, 1, 0] rfl
    suffices LP9 : ∀ (n : Nat) (v2_9 : Int32) (v3_9 : Int32) (H : Heap) (locs : List Loc) (ls : Array Slot), I9 n v2_9 v3_9 → Wd D A s.heap (mW cI cJ a σ) H locs → lv_has ls 4 [(0, .ref (a 0)), (1, .int p1), (2, .int v2_9), (3, .int v3_9)] → W p l e rm_X5_counted s m args below meth c H locs 0 0 Q (F0 m 66 ls []) from LP9 n9 0 0 H locs ls hI9 hW hl
    intro n9
    induction n9 using Nat.strongRecOn with
    | ind n9 ih9 =>
      intro v2_9 v3_9 H locs ls hIn hW hl
      have hw := hJ9 n9 v2_9 v3_9 hIn
      refine lv_iload_n hx hb dX5_counted_66 rfl (lv_at hl 3 rfl) ?_
      refine lv_bipush (v := 6) hx hb dX5_counted_67 (by decide) ?_
      refine lv_icmp_ge (tgt := 101) hx hb dX5_counted_69 (by decide) (fun hc => ?_) (fun hc => ?_)
      · have hw := hw.1 hc
        refine lv_iload_n hx hb dX5_counted_101 rfl (lv_at hl 2 rfl) ?_
        exact hret _ () _ _ _ _ hw hW dX5_counted_102
      · have hw := hw.2 hc
        refine lv_iload_n hx hb dX5_counted_72 rfl (lv_at hl 2 rfl) ?_
        refine lv_iload_n hx hb dX5_counted_73 rfl (lv_at hl 1 rfl) ?_
        refine lv_iconst (v := 3) hx hb dX5_counted_74 (by decide) ?_
        refine lv_icmp_ne (tgt := 87) hx hb dX5_counted_75 (by decide) (fun hc => ?_) (fun hc => ?_)
        · have hw := hw.1 hc
          refine lv_aload_n hx hb dX5_counted_87 rfl (lv_at hl 0 rfl) ?_
          refine lv_iload_n hx hb dX5_counted_88 rfl (lv_at hl 3 rfl) ?_
          refine lv_iconst (v := 0) hx hb dX5_counted_89 (by decide) ?_
          refine kV_Mi (As := [.int v3_9, .int 0]) (rest := [.int v2_9]) ⟨hx, hb, hml, hown, hts⟩ (ok_X5_has l D cI cJ a _ _ _ _ _ hw) (cwV 2 hts gX5_counted_X5_has rfl rfl rfl (by decide +kernel) ⟨Nat.le_of_ble_eq_true rfl, Nat.le_of_ble_eq_true rfl⟩) hK hW hA 0 rfl rfl rfl hl.1 rfl (Nat.le_of_ble_eq_true rfl) dX5_counted_90 ⟨Nat.le_of_ble_eq_true rfl, Nat.le_of_ble_eq_true rfl⟩ (fun r_10 _ H locs hw hW => ?_)
          refine lv_iadd hx hb dX5_counted_93 ?_
          refine lv_topi (fun v2_11 ev2_11 => ?_)
          have hw := hw v2_11 ev2_11
          refine lv_istore_n (lv' := [(2, .int v2_11), (0, .ref (a 0)), (1, .int p1), (3, .int v3_9)]) hx hb dX5_counted_94 rfl hl (by decide) rfl (fun ls hl => ?_)
          obtain ⟨v3_12, ev3_12⟩ : ∃ y : Int32, y = v3_9 + 1 := ⟨_, rfl⟩
          have hw := hw v3_12 ev3_12
          refine lv_iinc (v := v3_12) (lv' := [(3, .int v3_12), (2, .int v2_11), (0, .ref (a 0)), (1, .int p1)]) hx hb dX5_counted_95 hl (k := 3) rfl (by rw [ev3_12]; rfl) (by decide) rfl (fun ls hl => ?_)
          refine lv_goto (tgt := 66) hx hb dX5_counted_98 (by decide) ?_
          obtain ⟨n9, hlt9, hI9⟩ := hw
          exact ih9 n9 hlt9 _ _ _ _ _ hI9 hW (lv_sub hl [2, 3, 1, 0] rfl)
        · have hw := hw.2 hc
          refine lv_aload_n hx hb dX5_counted_78 rfl (lv_at hl 0 rfl) ?_
          refine lv_iload_n hx hb dX5_counted_79 rfl (lv_at hl 3 rfl) ?_
          refine lv_iconst (v := 1) hx hb dX5_counted_80 (by decide) ?_
          refine kV_Mi (As := [.int v3_9, .int 1]) (rest := [.int v2_9]) ⟨hx, hb, hml, hown, hts⟩ (ok_X5_bids l D cI cJ a _ _ _ _ _ hw) (cwV 2 hts gX5_counted_X5_bids rfl rfl rfl (by decide +kernel) ⟨Nat.le_of_ble_eq_true rfl, Nat.le_of_ble_eq_true rfl⟩) hK hW hA 0 rfl rfl rfl hl.1 rfl (Nat.le_of_ble_eq_true rfl) dX5_counted_81 ⟨Nat.le_of_ble_eq_true rfl, Nat.le_of_ble_eq_true rfl⟩ (fun r_13 _ H locs hw hW => ?_)
          refine lv_goto (tgt := 93) hx hb dX5_counted_84 (by decide) ?_
          refine lv_iadd hx hb dX5_counted_93 ?_
          refine lv_topi (fun v2_14 ev2_14 => ?_)
          have hw := hw v2_14 ev2_14
          refine lv_istore_n (lv' := [(2, .int v2_14), (0, .ref (a 0)), (1, .int p1), (3, .int v3_9)]) hx hb dX5_counted_94 rfl hl (by decide) rfl (fun ls hl => ?_)
          obtain ⟨v3_15, ev3_15⟩ : ∃ y : Int32, y = v3_9 + 1 := ⟨_, rfl⟩
          have hw := hw v3_15 ev3_15
          refine lv_iinc (v := v3_15) (lv' := [(3, .int v3_15), (2, .int v2_14), (0, .ref (a 0)), (1, .int p1)]) hx hb dX5_counted_95 hl (k := 3) rfl (by rw [ev3_15]; rfl) (by decide) rfl (fun ls hl => ?_)
          refine lv_goto (tgt := 66) hx hb dX5_counted_98 (by decide) ?_
          obtain ⟨n9, hlt9, hI9⟩ := hw
          exact ih9 n9 hlt9 _ _ _ _ _ hI9 hW (lv_sub hl [2, 3, 1, 0] rfl)
  have hw := hw.2 hs2
  by_cases hs3 : w_1 = 6
  · have hw := hw.1 hs3
    refine lv_tableIn (tgt := 110) hx hb dX5_counted_3 (by rw [hs3]; decide) (by rw [hs3]; decide) (by rw [hs3]; rfl) (by decide) ?_
    refine lv_aload_n hx hb dX5_counted_110 rfl (lv_at hl 1 rfl) ?_
    refine va_get (D := D) (ci := 5) (v := .ref (a 1)) (C := RX5) (T := TX5) (N := 18) hx hb hts hinX5 hown hK hW.1 0 rfl rfl 1 (by decide) (hts _ (List.mem_of_getElem? (i := 1) rfl)) (fun _ h9 => h9) rfl dX5_counted_111 ?_
    refine lv_iconst (v := 4) hx hb dX5_counted_114 (by decide) ?_
    refine va_iald hx hb hK hW.1 1 0 rfl rfl (by unfold vp_in; decide) dX5_counted_115 ?_
    exact hret _ () _ _ _ _ hw hW dX5_counted_116
  have hw := hw.2 hs3
  by_cases hs4 : w_1 = 7
  · have hw := hw.1 hs4
    refine lv_tableIn (tgt := 117) hx hb dX5_counted_3 (by rw [hs4]; decide) (by rw [hs4]; decide) (by rw [hs4]; rfl) (by decide) ?_
    refine lv_aload_n hx hb dX5_counted_117 rfl (lv_at hl 1 rfl) ?_
    refine va_get (D := D) (ci := 5) (v := .ref (a 1)) (C := RX5) (T := TX5) (N := 18) hx hb hts hinX5 hown hK hW.1 0 rfl rfl 1 (by decide) (hts _ (List.mem_of_getElem? (i := 1) rfl)) (fun _ h9 => h9) rfl dX5_counted_118 ?_
    refine lv_iconst (v := 5) hx hb dX5_counted_121 (by decide) ?_
    refine va_iald hx hb hK hW.1 1 0 rfl rfl (by unfold vp_in; decide) dX5_counted_122 ?_
    exact hret _ () _ _ _ _ hw hW dX5_counted_123
  have hw := hw.2 hs4
  by_cases hs5 : w_1 = 8
  · have hw := hw.1 hs5
    refine lv_tableIn (tgt := 124) hx hb dX5_counted_3 (by rw [hs5]; decide) (by rw [hs5]; decide) (by rw [hs5]; rfl) (by decide) ?_
    refine lv_aload_n hx hb dX5_counted_124 rfl (lv_at hl 1 rfl) ?_
    refine va_get (D := D) (ci := 5) (v := .ref (a 1)) (C := RX5) (T := TX5) (N := 18) hx hb hts hinX5 hown hK hW.1 0 rfl rfl 1 (by decide) (hts _ (List.mem_of_getElem? (i := 1) rfl)) (fun _ h9 => h9) rfl dX5_counted_125 ?_
    refine lv_bipush (v := 6) hx hb dX5_counted_128 (by decide) ?_
    refine va_iald hx hb hK hW.1 1 0 rfl rfl (by unfold vp_in; decide) dX5_counted_130 ?_
    exact hret _ () _ _ _ _ hw hW dX5_counted_131
  have hw := hw.2 hs5
  by_cases hs6 : w_1 = 9
  · have hw := hw.1 hs6
    refine lv_tableIn (tgt := 132) hx hb dX5_counted_3 (by rw [hs6]; decide) (by rw [hs6]; decide) (by rw [hs6]; rfl) (by decide) ?_
    refine lv_aload_n hx hb dX5_counted_132 rfl (lv_at hl 1 rfl) ?_
    refine va_get (D := D) (ci := 5) (v := .ref (a 1)) (C := RX5) (T := TX5) (N := 18) hx hb hts hinX5 hown hK hW.1 0 rfl rfl 1 (by decide) (hts _ (List.mem_of_getElem? (i := 1) rfl)) (fun _ h9 => h9) rfl dX5_counted_133 ?_
    refine lv_bipush (v := 7) hx hb dX5_counted_136 (by decide) ?_
    refine va_iald hx hb hK hW.1 1 0 rfl rfl (by unfold vp_in; decide) dX5_counted_138 ?_
    exact hret _ () _ _ _ _ hw hW dX5_counted_139
  have hw := hw.2 hs6
  by_cases hs7 : w_1 = 10
  · have hw := hw.1 hs7
    refine lv_tableIn (tgt := 140) hx hb dX5_counted_3 (by rw [hs7]; decide) (by rw [hs7]; decide) (by rw [hs7]; rfl) (by decide) ?_
    refine lv_iconst (v := 0) hx hb dX5_counted_140 (by decide) ?_
    refine lv_istore_n (lv' := [(3, .int 0), (2, .int 0), (0, .ref (a 0)), (1, .int p1)]) hx hb dX5_counted_141 rfl hl (by decide) rfl (fun ls hl => ?_)
    obtain ⟨I16, ⟨n16, hI16⟩, hJ16⟩ := hw
    have hl : lv_has ls 4 [(0, .ref (a 0)), (2, .int 0), (3, .int 0)] := lv_sub hl [2, 1, 0] rfl
    suffices LP16 : ∀ (n : Nat) (v2_16 : Int32) (v3_16 : Int32) (H : Heap) (locs : List Loc) (ls : Array Slot), I16 n v2_16 v3_16 → Wd D A s.heap (mW cI cJ a σ) H locs → lv_has ls 4 [(0, .ref (a 0)), (2, .int v2_16), (3, .int v3_16)] → W p l e rm_X5_counted s m args below meth c H locs 0 0 Q (F0 m 142 ls []) from LP16 n16 0 0 H locs ls hI16 hW hl
    intro n16
    induction n16 using Nat.strongRecOn with
    | ind n16 ih16 =>
      intro v2_16 v3_16 H locs ls hIn hW hl
      have hw := hJ16 n16 v2_16 v3_16 hIn
      refine lv_iload_n hx hb dX5_counted_142 rfl (lv_at hl 2 rfl) ?_
      refine lv_bipush (v := 6) hx hb dX5_counted_143 (by decide) ?_
      refine lv_icmp_ge (tgt := 163) hx hb dX5_counted_145 (by decide) (fun hc => ?_) (fun hc => ?_)
      · have hw := hw.1 hc
        refine lv_iload_n hx hb dX5_counted_163 rfl (lv_at hl 1 rfl) ?_
        exact hret _ () _ _ _ _ hw hW dX5_counted_164
      · have hw := hw.2 hc
        refine lv_iload_n hx hb dX5_counted_148 rfl (lv_at hl 1 rfl) ?_
        refine lv_aload_n hx hb dX5_counted_149 rfl (lv_at hl 0 rfl) ?_
        refine lv_iload_n hx hb dX5_counted_150 rfl (lv_at hl 2 rfl) ?_
        refine lv_iconst (v := 1) hx hb dX5_counted_151 (by decide) ?_
        refine kV_Mi (As := [.int v3_16, .int 1]) (rest := [.int v2_16]) ⟨hx, hb, hml, hown, hts⟩ (ok_X5_of l D cI cJ a _ _ _ _ _ hw) (cwV 2 hts gX5_counted_X5_of rfl rfl rfl (by decide +kernel) ⟨Nat.le_of_ble_eq_true rfl, Nat.le_of_ble_eq_true rfl⟩) hK hW hA 0 rfl rfl rfl hl.1 rfl (Nat.le_of_ble_eq_true rfl) dX5_counted_152 ⟨Nat.le_of_ble_eq_true rfl, Nat.le_of_ble_eq_true rfl⟩ (fun r_17 _ H locs hw hW => ?_)
        refine lv_iadd hx hb dX5_counted_155 ?_
        refine lv_topi (fun v2_18 ev2_18 => ?_)
        have hw := hw v2_18 ev2_18
        refine lv_istore_n (lv' := [(2, .int v2_18), (0, .ref (a 0)), (3, .int v3_16)]) hx hb dX5_counted_156 rfl hl (by decide) rfl (fun ls hl => ?_)
        obtain ⟨v3_19, ev3_19⟩ : ∃ y : Int32, y = v3_16 + 1 := ⟨_, rfl⟩
        have hw := hw v3_19 ev3_19
        refine lv_iinc (v := v3_19) (lv' := [(3, .int v3_19), (2, .int v2_18), (0, .ref (a 0))]) hx hb dX5_counted_157 hl (k := 2) rfl (by rw [ev3_19]; rfl) (by decide) rfl (fun ls hl => ?_)
        refine lv_goto (tgt := 142) hx hb dX5_counted_160 (by decide) ?_
        obtain ⟨n9, hlt9, hI9⟩ := hw
        exact ih16 n9 hlt9 _ _ _ _ _ hI9 hW (lv_sub hl [2, 1, 0] rfl)
  have hw := hw.2 hs7
  by_cases hs8 : w_1 = 11
  · have hw := hw.1 hs8
    refine lv_tableIn (tgt := 165) hx hb dX5_counted_3 (by rw [hs8]; decide) (by rw [hs8]; decide) (by rw [hs8]; rfl) (by decide) ?_
    refine lv_aload_n hx hb dX5_counted_165 rfl (lv_at hl 1 rfl) ?_
    refine va_get (D := D) (ci := 5) (v := .ref (a 1)) (C := RX5) (T := TX5) (N := 18) hx hb hts hinX5 hown hK hW.1 0 rfl rfl 1 (by decide) (hts _ (List.mem_of_getElem? (i := 1) rfl)) (fun _ h9 => h9) rfl dX5_counted_166 ?_
    refine lv_bipush (v := 8) hx hb dX5_counted_169 (by decide) ?_
    refine va_iald hx hb hK hW.1 1 0 rfl rfl (by unfold vp_in; decide) dX5_counted_171 ?_
    exact hret _ () _ _ _ _ hw hW dX5_counted_172
  have hw := hw.2 hs8
  by_cases hs9 : w_1 = 12
  · have hw := hw.1 hs9
    refine lv_tableIn (tgt := 173) hx hb dX5_counted_3 (by rw [hs9]; decide) (by rw [hs9]; decide) (by rw [hs9]; rfl) (by decide) ?_
    refine lv_aload_n hx hb dX5_counted_173 rfl (lv_at hl 1 rfl) ?_
    refine va_get (D := D) (ci := 5) (v := .ref (a 1)) (C := RX5) (T := TX5) (N := 18) hx hb hts hinX5 hown hK hW.1 0 rfl rfl 1 (by decide) (hts _ (List.mem_of_getElem? (i := 1) rfl)) (fun _ h9 => h9) rfl dX5_counted_174 ?_
    refine lv_bipush (v := 9) hx hb dX5_counted_177 (by decide) ?_
    refine lv_iload_n hx hb dX5_counted_179 rfl (lv_at hl 2 rfl) ?_
    refine lv_iadd hx hb dX5_counted_180 ?_
    refine lv_bipush (v := 12) hx hb dX5_counted_181 (by decide) ?_
    refine lv_isub hx hb dX5_counted_183 ?_
    refine va_iald hx hb hK hW.1 1 0 rfl rfl hw.1 dX5_counted_184 ?_
    have hw := hw.2
    exact hret _ () _ _ _ _ hw hW dX5_counted_185
  have hw := hw.2 hs9
  by_cases hs10 : w_1 = 13
  · have hw := hw.1 hs10
    refine lv_tableIn (tgt := 173) hx hb dX5_counted_3 (by rw [hs10]; decide) (by rw [hs10]; decide) (by rw [hs10]; rfl) (by decide) ?_
    refine lv_aload_n hx hb dX5_counted_173 rfl (lv_at hl 1 rfl) ?_
    refine va_get (D := D) (ci := 5) (v := .ref (a 1)) (C := RX5) (T := TX5) (N := 18) hx hb hts hinX5 hown hK hW.1 0 rfl rfl 1 (by decide) (hts _ (List.mem_of_getElem? (i := 1) rfl)) (fun _ h9 => h9) rfl dX5_counted_174 ?_
    refine lv_bipush (v := 9) hx hb dX5_counted_177 (by decide) ?_
    refine lv_iload_n hx hb dX5_counted_179 rfl (lv_at hl 2 rfl) ?_
    refine lv_iadd hx hb dX5_counted_180 ?_
    refine lv_bipush (v := 12) hx hb dX5_counted_181 (by decide) ?_
    refine lv_isub hx hb dX5_counted_183 ?_
    refine va_iald hx hb hK hW.1 1 0 rfl rfl hw.1 dX5_counted_184 ?_
    have hw := hw.2
    exact hret _ () _ _ _ _ hw hW dX5_counted_185
  have hw := hw.2 hs10
  by_cases hs11 : w_1 = 14
  · have hw := hw.1 hs11
    refine lv_tableIn (tgt := 186) hx hb dX5_counted_3 (by rw [hs11]; decide) (by rw [hs11]; decide) (by rw [hs11]; rfl) (by decide) ?_
    refine lv_aload_n hx hb dX5_counted_186 rfl (lv_at hl 1 rfl) ?_
    refine va_get (D := D) (ci := 5) (v := .int (m_saved σ)) (C := RX5) (T := TX5) (N := 18) hx hb hts hinX5 hown hK hW.1 0 rfl rfl 2 (by decide) (hts _ (List.mem_of_getElem? (i := 2) rfl)) (fun _ h9 => h9) rfl dX5_counted_187 ?_
    exact hret _ () _ _ _ _ hw hW dX5_counted_190
  have hw := hw.2 hs11
  refine lv_tableOut (tgt := 191) hx hb dX5_counted_3 (by have q0 := lv_neT hs0 (a := 3) (by decide); have q1 := lv_neT hs1 (a := 4) (by decide); have q2 := lv_neT hs2 (a := 5) (by decide); have q3 := lv_neT hs3 (a := 6) (by decide); have q4 := lv_neT hs4 (a := 7) (by decide); have q5 := lv_neT hs5 (a := 8) (by decide); have q6 := lv_neT hs6 (a := 9) (by decide); have q7 := lv_neT hs7 (a := 10) (by decide); have q8 := lv_neT hs8 (a := 11) (by decide); have q9 := lv_neT hs9 (a := 12) (by decide); have q10 := lv_neT hs10 (a := 13) (by decide); have q11 := lv_neT hs11 (a := 14) (by decide); omega) (by decide) ?_
  refine lv_aload_n hx hb dX5_counted_191 rfl (lv_at hl 1 rfl) ?_
  refine va_get (D := D) (ci := 5) (v := .ref (a 1)) (C := RX5) (T := TX5) (N := 18) hx hb hts hinX5 hown hK hW.1 0 rfl rfl 1 (by decide) (hts _ (List.mem_of_getElem? (i := 1) rfl)) (fun _ h9 => h9) rfl dX5_counted_192 ?_
  refine lv_iload_n hx hb dX5_counted_195 rfl (lv_at hl 2 rfl) ?_
  refine va_iald hx hb hK hW.1 1 0 rfl rfl hw.1 dX5_counted_196 ?_
  have hw := hw.2
  exact hret _ () _ _ _ _ hw hW dX5_counted_197
def wp_X5_count (σ : MS) (p1 : Int32) (post : Int32 → MS → Prop) : Prop := wp_X5_in p1 0 14 (fun r_1 => ((r_1 = 0 → wp_X5_holds σ 1 (fun r_2 σ_3 => ((r_2 = 0 → post 0 σ_3) ∧ (¬ r_2 = 0 → wp_X5_counted σ_3 p1 (fun r_4 => post r_4 σ_3))))) ∧ (¬ r_1 = 0 → wp_X5_holds σ 0 (fun r_5 σ_6 => ((r_5 = 0 → post 0 σ_6) ∧ (¬ r_5 = 0 → wp_X5_counted σ_6 p1 (fun r_7 => post r_7 σ_6)))))))
abbrev rm_X5_count : Room := { frames := 4, cells := 0, slots := 0, locals := 92 }
set_option maxHeartbeats 4000000 in
set_option maxRecDepth 100000 in
theorem ok_X5_count (l : Launch) (D : va_G) (cI cJ : ClassId) (a : Nat → Nat) (sz : Nat) (σ : MS) (p1 : Int32) (post : Int32 → MS → Prop) (hw : wp_X5_count σ p1 post) : Mi l yX5_count wsX5_count rm_X5_count [.ref (a 0), .int p1] D (tysIJ cI cJ) (mW cI cJ a σ) sz post (mW cI cJ a) := by
  refine s_Mi (by decide) rfl (Nat.le_of_ble_eq_true rfl) ?_
  intro p e s m args below meth c A Q hx hb hml hts hown hin hK hA hret H locs ls hW hl
  have hown : s.vm.findClass RX5 = some m.cls := hown
  have hl : lv_has ls 2 [(0, .ref (a 0)), (1, .int p1)] := hl
  refine lv_aload_n hx hb dX5_count_0 rfl (lv_at hl 0 rfl) ?_
  refine lv_iload_n hx hb dX5_count_1 rfl (lv_at hl 1 rfl) ?_
  refine lv_iconst (v := 0) hx hb dX5_count_2 (by decide) ?_
  refine lv_bipush (v := 14) hx hb dX5_count_3 (by decide) ?_
  refine kS_Pi (As := [.int p1, .int 0, .int 14]) (rest := [.ref (a 0)]) ⟨hx, hb, hml, hown, hts⟩ (ok_X5_in l _ _ _ _ hw) (va_cwS 3 hts gX5_count_X5_in rfl rfl rfl (by decide +kernel) ⟨Nat.le_of_ble_eq_true rfl, Nat.le_of_ble_eq_true rfl⟩) hW.2.2 rfl hl.1 rfl (Nat.le_of_ble_eq_true rfl) dX5_count_5 ⟨Nat.le_of_ble_eq_true rfl, Nat.le_of_ble_eq_true rfl⟩ (fun r_1 H locs hw hk hS => ?_)
  have hW := hW.kept hk hS
  refine lv_if_eq (tgt := 15) hx hb dX5_count_8 (by decide) (fun hc => ?_) (fun hc => ?_)
  · have hw := hw.1 hc
    refine lv_iconst (v := 1) hx hb dX5_count_15 (by decide) ?_
    refine kV_Mi (As := [.int 1]) (rest := []) ⟨hx, hb, hml, hown, hts⟩ (ok_X5_holds l D cI cJ a _ _ _ _ hw) (cwV 1 hts gX5_count_X5_holds rfl rfl rfl (by decide +kernel) ⟨Nat.le_of_ble_eq_true rfl, Nat.le_of_ble_eq_true rfl⟩) hK hW hA 0 rfl rfl rfl hl.1 rfl (Nat.le_of_ble_eq_true rfl) dX5_count_16 ⟨Nat.le_of_ble_eq_true rfl, Nat.le_of_ble_eq_true rfl⟩ (fun r_2 σ_3 H locs hw hW => ?_)
    refine lv_if_eq (tgt := 30) hx hb dX5_count_19 (by decide) (fun hc => ?_) (fun hc => ?_)
    · have hw := hw.1 hc
      refine lv_iconst (v := 0) hx hb dX5_count_30 (by decide) ?_
      exact hret _ σ_3 _ _ _ _ hw hW dX5_count_31
    · have hw := hw.2 hc
      refine lv_aload_n hx hb dX5_count_22 rfl (lv_at hl 0 rfl) ?_
      refine lv_iload_n hx hb dX5_count_23 rfl (lv_at hl 1 rfl) ?_
      refine kV_Mi (As := [.int p1]) (rest := []) ⟨hx, hb, hml, hown, hts⟩ (ok_X5_counted l D cI cJ a _ _ _ _ hw) (cwV 1 hts gX5_count_X5_counted rfl rfl rfl (by decide +kernel) ⟨Nat.le_of_ble_eq_true rfl, Nat.le_of_ble_eq_true rfl⟩) hK hW hA 0 rfl rfl rfl hl.1 rfl (Nat.le_of_ble_eq_true rfl) dX5_count_24 ⟨Nat.le_of_ble_eq_true rfl, Nat.le_of_ble_eq_true rfl⟩ (fun r_4 _ H locs hw hW => ?_)
      refine lv_goto (tgt := 31) hx hb dX5_count_27 (by decide) ?_
      exact hret _ σ_3 _ _ _ _ hw hW dX5_count_31
  · have hw := hw.2 hc
    refine lv_iconst (v := 0) hx hb dX5_count_11 (by decide) ?_
    refine lv_goto (tgt := 16) hx hb dX5_count_12 (by decide) ?_
    refine kV_Mi (As := [.int 0]) (rest := []) ⟨hx, hb, hml, hown, hts⟩ (ok_X5_holds l D cI cJ a _ _ _ _ hw) (cwV 1 hts gX5_count_X5_holds rfl rfl rfl (by decide +kernel) ⟨Nat.le_of_ble_eq_true rfl, Nat.le_of_ble_eq_true rfl⟩) hK hW hA 0 rfl rfl rfl hl.1 rfl (Nat.le_of_ble_eq_true rfl) dX5_count_16 ⟨Nat.le_of_ble_eq_true rfl, Nat.le_of_ble_eq_true rfl⟩ (fun r_5 σ_6 H locs hw hW => ?_)
    refine lv_if_eq (tgt := 30) hx hb dX5_count_19 (by decide) (fun hc => ?_) (fun hc => ?_)
    · have hw := hw.1 hc
      refine lv_iconst (v := 0) hx hb dX5_count_30 (by decide) ?_
      exact hret _ σ_6 _ _ _ _ hw hW dX5_count_31
    · have hw := hw.2 hc
      refine lv_aload_n hx hb dX5_count_22 rfl (lv_at hl 0 rfl) ?_
      refine lv_iload_n hx hb dX5_count_23 rfl (lv_at hl 1 rfl) ?_
      refine kV_Mi (As := [.int p1]) (rest := []) ⟨hx, hb, hml, hown, hts⟩ (ok_X5_counted l D cI cJ a _ _ _ _ hw) (cwV 1 hts gX5_count_X5_counted rfl rfl rfl (by decide +kernel) ⟨Nat.le_of_ble_eq_true rfl, Nat.le_of_ble_eq_true rfl⟩) hK hW hA 0 rfl rfl rfl hl.1 rfl (Nat.le_of_ble_eq_true rfl) dX5_count_24 ⟨Nat.le_of_ble_eq_true rfl, Nat.le_of_ble_eq_true rfl⟩ (fun r_7 _ H locs hw hW => ?_)
      refine lv_goto (tgt := 31) hx hb dX5_count_27 (by decide) ?_
      exact hret _ σ_6 _ _ _ _ hw hW dX5_count_31
def wp_X5_setting (σ : MS) (p1 : Int32) (post : Int32 → MS → Prop) : Prop := wp_X5_in p1 0 2 (fun r_1 => ((r_1 = 0 → wp_X5_holds σ 1 (fun r_2 σ_3 => ((r_2 = 0 → post 0 σ_3) ∧ (¬ r_2 = 0 → vp_in (12 + p1) 1416 ∧ post ((m_s σ_3) (12 + p1).toNatClampNeg) σ_3)))) ∧ (¬ r_1 = 0 → wp_X5_holds σ 0 (fun r_4 σ_5 => ((r_4 = 0 → post 0 σ_5) ∧ (¬ r_4 = 0 → vp_in (12 + p1) 1416 ∧ post ((m_s σ_5) (12 + p1).toNatClampNeg) σ_5))))))
abbrev rm_X5_setting : Room := { frames := 1, cells := 0, slots := 0, locals := 22 }
theorem in_X5_setting_X5 : ∀ w ∈ wsX50, w ∈ wsX5_setting := fun w h => List.mem_cons_of_mem _ (List.mem_append_right _ (h))
set_option maxHeartbeats 4000000 in
set_option maxRecDepth 100000 in
theorem ok_X5_setting (l : Launch) (D : va_G) (cI cJ : ClassId) (a : Nat → Nat) (sz : Nat) (σ : MS) (p1 : Int32) (post : Int32 → MS → Prop) (hw : wp_X5_setting σ p1 post) : Mi l yX5_setting wsX5_setting rm_X5_setting [.ref (a 0), .int p1] D (tysIJ cI cJ) (mW cI cJ a σ) sz post (mW cI cJ a) := by
  refine s_Mi (by decide) rfl (Nat.le_of_ble_eq_true rfl) ?_
  intro p e s m args below meth c A Q hx hb hml hts hown hin hK hA hret H locs ls hW hl
  have hown : s.vm.findClass RX5 = some m.cls := hown
  have hl : lv_has ls 2 [(0, .ref (a 0)), (1, .int p1)] := hl
  have hinX5 := in_X5_setting_X5
  refine lv_aload_n hx hb dX5_setting_0 rfl (lv_at hl 0 rfl) ?_
  refine lv_iload_n hx hb dX5_setting_1 rfl (lv_at hl 1 rfl) ?_
  refine lv_iconst (v := 0) hx hb dX5_setting_2 (by decide) ?_
  refine lv_iconst (v := 2) hx hb dX5_setting_3 (by decide) ?_
  refine kS_Pi (As := [.int p1, .int 0, .int 2]) (rest := [.ref (a 0)]) ⟨hx, hb, hml, hown, hts⟩ (ok_X5_in l _ _ _ _ hw) (va_cwS 3 hts gX5_setting_X5_in rfl rfl rfl (by decide +kernel) ⟨Nat.le_of_ble_eq_true rfl, Nat.le_of_ble_eq_true rfl⟩) hW.2.2 rfl hl.1 rfl (Nat.le_of_ble_eq_true rfl) dX5_setting_4 ⟨Nat.le_of_ble_eq_true rfl, Nat.le_of_ble_eq_true rfl⟩ (fun r_1 H locs hw hk hS => ?_)
  have hW := hW.kept hk hS
  refine lv_if_eq (tgt := 14) hx hb dX5_setting_7 (by decide) (fun hc => ?_) (fun hc => ?_)
  · have hw := hw.1 hc
    refine lv_iconst (v := 1) hx hb dX5_setting_14 (by decide) ?_
    refine kV_Mi (As := [.int 1]) (rest := []) ⟨hx, hb, hml, hown, hts⟩ (ok_X5_holds l D cI cJ a _ _ _ _ hw) (cwV 1 hts gX5_setting_X5_holds rfl rfl rfl (by decide +kernel) ⟨Nat.le_of_ble_eq_true rfl, Nat.le_of_ble_eq_true rfl⟩) hK hW hA 0 rfl rfl rfl hl.1 rfl (Nat.le_of_ble_eq_true rfl) dX5_setting_15 ⟨Nat.le_of_ble_eq_true rfl, Nat.le_of_ble_eq_true rfl⟩ (fun r_2 σ_3 H locs hw hW => ?_)
    refine lv_if_eq (tgt := 33) hx hb dX5_setting_18 (by decide) (fun hc => ?_) (fun hc => ?_)
    · have hw := hw.1 hc
      refine lv_iconst (v := 0) hx hb dX5_setting_33 (by decide) ?_
      exact hret _ σ_3 _ _ _ _ hw hW dX5_setting_34
    · have hw := hw.2 hc
      refine lv_aload_n hx hb dX5_setting_21 rfl (lv_at hl 0 rfl) ?_
      refine va_get (D := D) (ci := 5) (v := .ref (a 1)) (C := RX5) (T := TX5) (N := 18) hx hb hts hinX5 hown hK hW.1 0 rfl rfl 1 (by decide) (hts _ (List.mem_of_getElem? (i := 1) rfl)) (fun _ h9 => h9) rfl dX5_setting_22 ?_
      refine lv_bipush (v := 12) hx hb dX5_setting_25 (by decide) ?_
      refine lv_iload_n hx hb dX5_setting_27 rfl (lv_at hl 1 rfl) ?_
      refine lv_iadd hx hb dX5_setting_28 ?_
      refine va_iald hx hb hK hW.1 1 0 rfl rfl hw.1 dX5_setting_29 ?_
      have hw := hw.2
      refine lv_goto (tgt := 34) hx hb dX5_setting_30 (by decide) ?_
      exact hret _ σ_3 _ _ _ _ hw hW dX5_setting_34
  · have hw := hw.2 hc
    refine lv_iconst (v := 0) hx hb dX5_setting_10 (by decide) ?_
    refine lv_goto (tgt := 15) hx hb dX5_setting_11 (by decide) ?_
    refine kV_Mi (As := [.int 0]) (rest := []) ⟨hx, hb, hml, hown, hts⟩ (ok_X5_holds l D cI cJ a _ _ _ _ hw) (cwV 1 hts gX5_setting_X5_holds rfl rfl rfl (by decide +kernel) ⟨Nat.le_of_ble_eq_true rfl, Nat.le_of_ble_eq_true rfl⟩) hK hW hA 0 rfl rfl rfl hl.1 rfl (Nat.le_of_ble_eq_true rfl) dX5_setting_15 ⟨Nat.le_of_ble_eq_true rfl, Nat.le_of_ble_eq_true rfl⟩ (fun r_4 σ_5 H locs hw hW => ?_)
    refine lv_if_eq (tgt := 33) hx hb dX5_setting_18 (by decide) (fun hc => ?_) (fun hc => ?_)
    · have hw := hw.1 hc
      refine lv_iconst (v := 0) hx hb dX5_setting_33 (by decide) ?_
      exact hret _ σ_5 _ _ _ _ hw hW dX5_setting_34
    · have hw := hw.2 hc
      refine lv_aload_n hx hb dX5_setting_21 rfl (lv_at hl 0 rfl) ?_
      refine va_get (D := D) (ci := 5) (v := .ref (a 1)) (C := RX5) (T := TX5) (N := 18) hx hb hts hinX5 hown hK hW.1 0 rfl rfl 1 (by decide) (hts _ (List.mem_of_getElem? (i := 1) rfl)) (fun _ h9 => h9) rfl dX5_setting_22 ?_
      refine lv_bipush (v := 12) hx hb dX5_setting_25 (by decide) ?_
      refine lv_iload_n hx hb dX5_setting_27 rfl (lv_at hl 1 rfl) ?_
      refine lv_iadd hx hb dX5_setting_28 ?_
      refine va_iald hx hb hK hW.1 1 0 rfl rfl hw.1 dX5_setting_29 ?_
      have hw := hw.2
      refine lv_goto (tgt := 34) hx hb dX5_setting_30 (by decide) ?_
      exact hret _ σ_5 _ _ _ _ hw hW dX5_setting_34
def wp_X5_why (σ : MS) (p1 : Int32) (p2 : Int32) (p3 : Int32) (post : Int32 → MS → Prop) : Prop := wp_X5_isOne p1 (fun r_1 => ((r_1 = 0 → wp_X5_holds σ 1 (fun r_2 σ_3 => ((r_2 = 0 → post 0 σ_3) ∧ (¬ r_2 = 0 → wp_X5_reason σ_3 p1 p2 p3 (fun r_4 => post r_4 σ_3))))) ∧ (¬ r_1 = 0 → wp_X5_isOne p2 (fun r_5 => ((r_5 = 0 → wp_X5_holds σ 1 (fun r_6 σ_7 => ((r_6 = 0 → post 0 σ_7) ∧ (¬ r_6 = 0 → wp_X5_reason σ_7 p1 p2 p3 (fun r_8 => post r_8 σ_7))))) ∧ (¬ r_5 = 0 → wp_X5_isAmount p3 (fun r_9 => ((¬ r_9 = 0 → wp_X5_holds σ 0 (fun r_10 σ_11 => ((r_10 = 0 → post 0 σ_11) ∧ (¬ r_10 = 0 → wp_X5_reason σ_11 p1 p2 p3 (fun r_12 => post r_12 σ_11))))) ∧ (r_9 = 0 → wp_X5_holds σ 2 (fun r_13 σ_14 => ((r_13 = 0 → post 0 σ_14) ∧ (¬ r_13 = 0 → wp_X5_reason σ_14 p1 p2 p3 (fun r_15 => post r_15 σ_14)))))))))))))
abbrev rm_X5_why : Room := { frames := 3, cells := 0, slots := 0, locals := 67 }
set_option maxHeartbeats 4000000 in
set_option maxRecDepth 100000 in
theorem ok_X5_why (l : Launch) (D : va_G) (cI cJ : ClassId) (a : Nat → Nat) (sz : Nat) (σ : MS) (p1 : Int32) (p2 : Int32) (p3 : Int32) (post : Int32 → MS → Prop) (hw : wp_X5_why σ p1 p2 p3 post) : Mi l yX5_why wsX5_why rm_X5_why [.ref (a 0), .int p1, .int p2, .int p3] D (tysIJ cI cJ) (mW cI cJ a σ) sz post (mW cI cJ a) := by
  refine s_Mi (by decide) rfl (Nat.le_of_ble_eq_true rfl) ?_
  intro p e s m args below meth c A Q hx hb hml hts hown hin hK hA hret H locs ls hW hl
  have hown : s.vm.findClass RX5 = some m.cls := hown
  have hl : lv_has ls 5 [(0, .ref (a 0)), (1, .int p1), (2, .int p2), (3, .int p3)] := hl
  refine lv_iload_n hx hb dX5_why_0 rfl (lv_at hl 1 rfl) ?_
  refine kS_Pi (As := [.int p1]) (rest := []) ⟨hx, hb, hml, hown, hts⟩ (ok_X5_isOne l _ _ hw) (va_cwS 1 hts gX5_why_X5_isOne rfl rfl rfl (by decide +kernel) ⟨Nat.le_of_ble_eq_true rfl, Nat.le_of_ble_eq_true rfl⟩) hW.2.2 rfl hl.1 rfl (Nat.le_of_ble_eq_true rfl) dX5_why_1 ⟨Nat.le_of_ble_eq_true rfl, Nat.le_of_ble_eq_true rfl⟩ (fun r_1 H locs hw hk hS => ?_)
  have hW := hW.kept hk hS
  refine lv_if_eq (tgt := 18) hx hb dX5_why_4 (by decide) (fun hc => ?_) (fun hc => ?_)
  · have hw := hw.1 hc
    refine lv_iconst (v := 0) hx hb dX5_why_18 (by decide) ?_
    refine lv_istore (lv' := [(4, .int 0), (0, .ref (a 0)), (1, .int p1), (2, .int p2), (3, .int p3)]) hx hb dX5_why_19 hl (by decide) rfl (fun ls hl => ?_)
    refine lv_aload_n hx hb dX5_why_21 rfl (lv_at hl 1 rfl) ?_
    refine lv_iload hx hb dX5_why_22 (lv_at hl 0 rfl) ?_
    refine lv_if_ne (tgt := 31) hx hb dX5_why_24 (by decide) (fun hc => absurd hc (by decide)) (fun _ => ?_)
    refine lv_iconst (v := 1) hx hb dX5_why_27 (by decide) ?_
    refine lv_goto (tgt := 43) hx hb dX5_why_28 (by decide) ?_
    refine kV_Mi (As := [.int 1]) (rest := []) ⟨hx, hb, hml, hown, hts⟩ (ok_X5_holds l D cI cJ a _ _ _ _ hw) (cwV 1 hts gX5_why_X5_holds rfl rfl rfl (by decide +kernel) ⟨Nat.le_of_ble_eq_true rfl, Nat.le_of_ble_eq_true rfl⟩) hK hW hA 0 rfl rfl rfl hl.1 rfl (Nat.le_of_ble_eq_true rfl) dX5_why_43 ⟨Nat.le_of_ble_eq_true rfl, Nat.le_of_ble_eq_true rfl⟩ (fun r_2 σ_3 H locs hw hW => ?_)
    refine lv_if_eq (tgt := 59) hx hb dX5_why_46 (by decide) (fun hc => ?_) (fun hc => ?_)
    · have hw := hw.1 hc
      refine lv_iconst (v := 0) hx hb dX5_why_59 (by decide) ?_
      exact hret _ σ_3 _ _ _ _ hw hW dX5_why_60
    · have hw := hw.2 hc
      refine lv_aload_n hx hb dX5_why_49 rfl (lv_at hl 1 rfl) ?_
      refine lv_iload_n hx hb dX5_why_50 rfl (lv_at hl 2 rfl) ?_
      refine lv_iload_n hx hb dX5_why_51 rfl (lv_at hl 3 rfl) ?_
      refine lv_iload_n hx hb dX5_why_52 rfl (lv_at hl 4 rfl) ?_
      refine kV_Mi (As := [.int p1, .int p2, .int p3]) (rest := []) ⟨hx, hb, hml, hown, hts⟩ (ok_X5_reason l D cI cJ a _ _ _ _ _ _ hw) (cwV 3 hts gX5_why_X5_reason rfl rfl rfl (by decide +kernel) ⟨Nat.le_of_ble_eq_true rfl, Nat.le_of_ble_eq_true rfl⟩) hK hW hA 0 rfl rfl rfl hl.1 rfl (Nat.le_of_ble_eq_true rfl) dX5_why_53 ⟨Nat.le_of_ble_eq_true rfl, Nat.le_of_ble_eq_true rfl⟩ (fun r_4 _ H locs hw hW => ?_)
      refine lv_goto (tgt := 60) hx hb dX5_why_56 (by decide) ?_
      exact hret _ σ_3 _ _ _ _ hw hW dX5_why_60
  · have hw := hw.2 hc
    refine lv_iload_n hx hb dX5_why_7 rfl (lv_at hl 2 rfl) ?_
    refine kS_Pi (As := [.int p2]) (rest := []) ⟨hx, hb, hml, hown, hts⟩ (ok_X5_isOne l _ _ hw) (va_cwS 1 hts gX5_why_X5_isOne rfl rfl rfl (by decide +kernel) ⟨Nat.le_of_ble_eq_true rfl, Nat.le_of_ble_eq_true rfl⟩) hW.2.2 rfl hl.1 rfl (Nat.le_of_ble_eq_true rfl) dX5_why_8 ⟨Nat.le_of_ble_eq_true rfl, Nat.le_of_ble_eq_true rfl⟩ (fun r_5 H locs hw hk hS => ?_)
    have hW := hW.kept hk hS
    refine lv_if_eq (tgt := 18) hx hb dX5_why_11 (by decide) (fun hc => ?_) (fun hc => ?_)
    · have hw := hw.1 hc
      refine lv_iconst (v := 0) hx hb dX5_why_18 (by decide) ?_
      refine lv_istore (lv' := [(4, .int 0), (0, .ref (a 0)), (1, .int p1), (2, .int p2), (3, .int p3)]) hx hb dX5_why_19 hl (by decide) rfl (fun ls hl => ?_)
      refine lv_aload_n hx hb dX5_why_21 rfl (lv_at hl 1 rfl) ?_
      refine lv_iload hx hb dX5_why_22 (lv_at hl 0 rfl) ?_
      refine lv_if_ne (tgt := 31) hx hb dX5_why_24 (by decide) (fun hc => absurd hc (by decide)) (fun _ => ?_)
      refine lv_iconst (v := 1) hx hb dX5_why_27 (by decide) ?_
      refine lv_goto (tgt := 43) hx hb dX5_why_28 (by decide) ?_
      refine kV_Mi (As := [.int 1]) (rest := []) ⟨hx, hb, hml, hown, hts⟩ (ok_X5_holds l D cI cJ a _ _ _ _ hw) (cwV 1 hts gX5_why_X5_holds rfl rfl rfl (by decide +kernel) ⟨Nat.le_of_ble_eq_true rfl, Nat.le_of_ble_eq_true rfl⟩) hK hW hA 0 rfl rfl rfl hl.1 rfl (Nat.le_of_ble_eq_true rfl) dX5_why_43 ⟨Nat.le_of_ble_eq_true rfl, Nat.le_of_ble_eq_true rfl⟩ (fun r_6 σ_7 H locs hw hW => ?_)
      refine lv_if_eq (tgt := 59) hx hb dX5_why_46 (by decide) (fun hc => ?_) (fun hc => ?_)
      · have hw := hw.1 hc
        refine lv_iconst (v := 0) hx hb dX5_why_59 (by decide) ?_
        exact hret _ σ_7 _ _ _ _ hw hW dX5_why_60
      · have hw := hw.2 hc
        refine lv_aload_n hx hb dX5_why_49 rfl (lv_at hl 1 rfl) ?_
        refine lv_iload_n hx hb dX5_why_50 rfl (lv_at hl 2 rfl) ?_
        refine lv_iload_n hx hb dX5_why_51 rfl (lv_at hl 3 rfl) ?_
        refine lv_iload_n hx hb dX5_why_52 rfl (lv_at hl 4 rfl) ?_
        refine kV_Mi (As := [.int p1, .int p2, .int p3]) (rest := []) ⟨hx, hb, hml, hown, hts⟩ (ok_X5_reason l D cI cJ a _ _ _ _ _ _ hw) (cwV 3 hts gX5_why_X5_reason rfl rfl rfl (by decide +kernel) ⟨Nat.le_of_ble_eq_true rfl, Nat.le_of_ble_eq_true rfl⟩) hK hW hA 0 rfl rfl rfl hl.1 rfl (Nat.le_of_ble_eq_true rfl) dX5_why_53 ⟨Nat.le_of_ble_eq_true rfl, Nat.le_of_ble_eq_true rfl⟩ (fun r_8 _ H locs hw hW => ?_)
        refine lv_goto (tgt := 60) hx hb dX5_why_56 (by decide) ?_
        exact hret _ σ_7 _ _ _ _ hw hW dX5_why_60
    · have hw := hw.2 hc
      refine lv_iconst (v := 1) hx hb dX5_why_14 (by decide) ?_
      refine lv_goto (tgt := 19) hx hb dX5_why_15 (by decide) ?_
      refine lv_istore (lv' := [(4, .int 1), (0, .ref (a 0)), (1, .int p1), (2, .int p2), (3, .int p3)]) hx hb dX5_why_19 hl (by decide) rfl (fun ls hl => ?_)
      refine lv_aload_n hx hb dX5_why_21 rfl (lv_at hl 1 rfl) ?_
      refine lv_iload hx hb dX5_why_22 (lv_at hl 0 rfl) ?_
      refine lv_if_ne (tgt := 31) hx hb dX5_why_24 (by decide) (fun _ => ?_) (fun hc => absurd hc (by decide))
      refine lv_iload_n hx hb dX5_why_31 rfl (lv_at hl 4 rfl) ?_
      refine kS_Pi (As := [.int p3]) (rest := [.ref (a 0)]) ⟨hx, hb, hml, hown, hts⟩ (ok_X5_isAmount l _ _ hw) (va_cwS 1 hts gX5_why_X5_isAmount rfl rfl rfl (by decide +kernel) ⟨Nat.le_of_ble_eq_true rfl, Nat.le_of_ble_eq_true rfl⟩) hW.2.2 rfl hl.1 rfl (Nat.le_of_ble_eq_true rfl) dX5_why_32 ⟨Nat.le_of_ble_eq_true rfl, Nat.le_of_ble_eq_true rfl⟩ (fun r_9 H locs hw hk hS => ?_)
      have hW := hW.kept hk hS
      refine lv_if_ne (tgt := 42) hx hb dX5_why_35 (by decide) (fun hc => ?_) (fun hc => ?_)
      · have hw := hw.1 hc
        refine lv_iconst (v := 0) hx hb dX5_why_42 (by decide) ?_
        refine kV_Mi (As := [.int 0]) (rest := []) ⟨hx, hb, hml, hown, hts⟩ (ok_X5_holds l D cI cJ a _ _ _ _ hw) (cwV 1 hts gX5_why_X5_holds rfl rfl rfl (by decide +kernel) ⟨Nat.le_of_ble_eq_true rfl, Nat.le_of_ble_eq_true rfl⟩) hK hW hA 0 rfl rfl rfl hl.1 rfl (Nat.le_of_ble_eq_true rfl) dX5_why_43 ⟨Nat.le_of_ble_eq_true rfl, Nat.le_of_ble_eq_true rfl⟩ (fun r_10 σ_11 H locs hw hW => ?_)
        refine lv_if_eq (tgt := 59) hx hb dX5_why_46 (by decide) (fun hc => ?_) (fun hc => ?_)
        · have hw := hw.1 hc
          refine lv_iconst (v := 0) hx hb dX5_why_59 (by decide) ?_
          exact hret _ σ_11 _ _ _ _ hw hW dX5_why_60
        · have hw := hw.2 hc
          refine lv_aload_n hx hb dX5_why_49 rfl (lv_at hl 1 rfl) ?_
          refine lv_iload_n hx hb dX5_why_50 rfl (lv_at hl 2 rfl) ?_
          refine lv_iload_n hx hb dX5_why_51 rfl (lv_at hl 3 rfl) ?_
          refine lv_iload_n hx hb dX5_why_52 rfl (lv_at hl 4 rfl) ?_
          refine kV_Mi (As := [.int p1, .int p2, .int p3]) (rest := []) ⟨hx, hb, hml, hown, hts⟩ (ok_X5_reason l D cI cJ a _ _ _ _ _ _ hw) (cwV 3 hts gX5_why_X5_reason rfl rfl rfl (by decide +kernel) ⟨Nat.le_of_ble_eq_true rfl, Nat.le_of_ble_eq_true rfl⟩) hK hW hA 0 rfl rfl rfl hl.1 rfl (Nat.le_of_ble_eq_true rfl) dX5_why_53 ⟨Nat.le_of_ble_eq_true rfl, Nat.le_of_ble_eq_true rfl⟩ (fun r_12 _ H locs hw hW => ?_)
          refine lv_goto (tgt := 60) hx hb dX5_why_56 (by decide) ?_
          exact hret _ σ_11 _ _ _ _ hw hW dX5_why_60
      · have hw := hw.2 hc
        refine lv_iconst (v := 2) hx hb dX5_why_38 (by decide) ?_
        refine lv_goto (tgt := 43) hx hb dX5_why_39 (by decide) ?_
        refine kV_Mi (As := [.int 2]) (rest := []) ⟨hx, hb, hml, hown, hts⟩ (ok_X5_holds l D cI cJ a _ _ _ _ hw) (cwV 1 hts gX5_why_X5_holds rfl rfl rfl (by decide +kernel) ⟨Nat.le_of_ble_eq_true rfl, Nat.le_of_ble_eq_true rfl⟩) hK hW hA 0 rfl rfl rfl hl.1 rfl (Nat.le_of_ble_eq_true rfl) dX5_why_43 ⟨Nat.le_of_ble_eq_true rfl, Nat.le_of_ble_eq_true rfl⟩ (fun r_13 σ_14 H locs hw hW => ?_)
        refine lv_if_eq (tgt := 59) hx hb dX5_why_46 (by decide) (fun hc => ?_) (fun hc => ?_)
        · have hw := hw.1 hc
          refine lv_iconst (v := 0) hx hb dX5_why_59 (by decide) ?_
          exact hret _ σ_14 _ _ _ _ hw hW dX5_why_60
        · have hw := hw.2 hc
          refine lv_aload_n hx hb dX5_why_49 rfl (lv_at hl 1 rfl) ?_
          refine lv_iload_n hx hb dX5_why_50 rfl (lv_at hl 2 rfl) ?_
          refine lv_iload_n hx hb dX5_why_51 rfl (lv_at hl 3 rfl) ?_
          refine lv_iload_n hx hb dX5_why_52 rfl (lv_at hl 4 rfl) ?_
          refine kV_Mi (As := [.int p1, .int p2, .int p3]) (rest := []) ⟨hx, hb, hml, hown, hts⟩ (ok_X5_reason l D cI cJ a _ _ _ _ _ _ hw) (cwV 3 hts gX5_why_X5_reason rfl rfl rfl (by decide +kernel) ⟨Nat.le_of_ble_eq_true rfl, Nat.le_of_ble_eq_true rfl⟩) hK hW hA 0 rfl rfl rfl hl.1 rfl (Nat.le_of_ble_eq_true rfl) dX5_why_53 ⟨Nat.le_of_ble_eq_true rfl, Nat.le_of_ble_eq_true rfl⟩ (fun r_15 _ H locs hw hW => ?_)
          refine lv_goto (tgt := 60) hx hb dX5_why_56 (by decide) ?_
          exact hret _ σ_14 _ _ _ _ hw hW dX5_why_60
def wp_X5_worth (σ : MS) (p1 : Int32) (p2 : Int32) (post : Int32 → MS → Prop) : Prop := wp_X5_in p1 0 6 (fun r_1 => ((r_1 = 0 → wp_X5_holds σ 1 (fun r_2 σ_3 => ((r_2 = 0 → post 0 σ_3) ∧ (¬ r_2 = 0 → wp_X5_worthOf σ_3 p1 (fun r_4 σ_5 => post r_4 σ_5))))) ∧ (¬ r_1 = 0 → wp_X5_in p2 0 1 (fun r_6 => ((r_6 = 0 → wp_X5_holds σ 1 (fun r_7 σ_8 => ((r_7 = 0 → post 0 σ_8) ∧ (¬ r_7 = 0 → wp_X5_worthOf σ_8 p1 (fun r_9 σ_10 => post r_9 σ_10))))) ∧ (¬ r_6 = 0 → wp_X5_holds σ 0 (fun r_11 σ_12 => ((r_11 = 0 → post 0 σ_12) ∧ (¬ r_11 = 0 → wp_X5_worthOf σ_12 p1 (fun r_13 σ_14 => post r_13 σ_14))))))))))
abbrev rm_X5_worth : Room := { frames := 6, cells := 0, slots := 0, locals := 138 }
set_option maxHeartbeats 4000000 in
set_option maxRecDepth 100000 in
theorem ok_X5_worth (l : Launch) (D : va_G) (cI cJ : ClassId) (a : Nat → Nat) (sz : Nat) (σ : MS) (p1 : Int32) (p2 : Int32) (post : Int32 → MS → Prop) (hw : wp_X5_worth σ p1 p2 post) : Mi l yX5_worth wsX5_worth rm_X5_worth [.ref (a 0), .int p1, .int p2] D (tysIJ cI cJ) (mW cI cJ a σ) sz post (mW cI cJ a) := by
  refine s_Mi (by decide) rfl (Nat.le_of_ble_eq_true rfl) ?_
  intro p e s m args below meth c A Q hx hb hml hts hown hin hK hA hret H locs ls hW hl
  have hown : s.vm.findClass RX5 = some m.cls := hown
  have hl : lv_has ls 3 [(0, .ref (a 0)), (1, .int p1), (2, .int p2)] := hl
  refine lv_aload_n hx hb dX5_worth_0 rfl (lv_at hl 0 rfl) ?_
  refine lv_iload_n hx hb dX5_worth_1 rfl (lv_at hl 1 rfl) ?_
  refine lv_iconst (v := 0) hx hb dX5_worth_2 (by decide) ?_
  refine lv_bipush (v := 6) hx hb dX5_worth_3 (by decide) ?_
  refine kS_Pi (As := [.int p1, .int 0, .int 6]) (rest := [.ref (a 0)]) ⟨hx, hb, hml, hown, hts⟩ (ok_X5_in l _ _ _ _ hw) (va_cwS 3 hts gX5_worth_X5_in rfl rfl rfl (by decide +kernel) ⟨Nat.le_of_ble_eq_true rfl, Nat.le_of_ble_eq_true rfl⟩) hW.2.2 rfl hl.1 rfl (Nat.le_of_ble_eq_true rfl) dX5_worth_5 ⟨Nat.le_of_ble_eq_true rfl, Nat.le_of_ble_eq_true rfl⟩ (fun r_1 H locs hw hk hS => ?_)
  have hW := hW.kept hk hS
  refine lv_if_eq (tgt := 24) hx hb dX5_worth_8 (by decide) (fun hc => ?_) (fun hc => ?_)
  · have hw := hw.1 hc
    refine lv_iconst (v := 1) hx hb dX5_worth_24 (by decide) ?_
    refine kV_Mi (As := [.int 1]) (rest := []) ⟨hx, hb, hml, hown, hts⟩ (ok_X5_holds l D cI cJ a _ _ _ _ hw) (cwV 1 hts gX5_worth_X5_holds rfl rfl rfl (by decide +kernel) ⟨Nat.le_of_ble_eq_true rfl, Nat.le_of_ble_eq_true rfl⟩) hK hW hA 0 rfl rfl rfl hl.1 rfl (Nat.le_of_ble_eq_true rfl) dX5_worth_25 ⟨Nat.le_of_ble_eq_true rfl, Nat.le_of_ble_eq_true rfl⟩ (fun r_2 σ_3 H locs hw hW => ?_)
    refine lv_if_eq (tgt := 39) hx hb dX5_worth_28 (by decide) (fun hc => ?_) (fun hc => ?_)
    · have hw := hw.1 hc
      refine lv_iconst (v := 0) hx hb dX5_worth_39 (by decide) ?_
      exact hret _ σ_3 _ _ _ _ hw hW dX5_worth_40
    · have hw := hw.2 hc
      refine lv_aload_n hx hb dX5_worth_31 rfl (lv_at hl 0 rfl) ?_
      refine lv_iload_n hx hb dX5_worth_32 rfl (lv_at hl 1 rfl) ?_
      refine kV_Mi (As := [.int p1]) (rest := []) ⟨hx, hb, hml, hown, hts⟩ (ok_X5_worthOf l D cI cJ a _ _ _ _ hw) (cwV 1 hts gX5_worth_X5_worthOf rfl rfl rfl (by decide +kernel) ⟨Nat.le_of_ble_eq_true rfl, Nat.le_of_ble_eq_true rfl⟩) hK hW hA 0 rfl rfl rfl hl.1 rfl (Nat.le_of_ble_eq_true rfl) dX5_worth_33 ⟨Nat.le_of_ble_eq_true rfl, Nat.le_of_ble_eq_true rfl⟩ (fun r_4 σ_5 H locs hw hW => ?_)
      refine lv_goto (tgt := 40) hx hb dX5_worth_36 (by decide) ?_
      exact hret _ σ_5 _ _ _ _ hw hW dX5_worth_40
  · have hw := hw.2 hc
    refine lv_iload_n hx hb dX5_worth_11 rfl (lv_at hl 2 rfl) ?_
    refine lv_iconst (v := 0) hx hb dX5_worth_12 (by decide) ?_
    refine lv_iconst (v := 1) hx hb dX5_worth_13 (by decide) ?_
    refine kS_Pi (As := [.int p2, .int 0, .int 1]) (rest := [.ref (a 0)]) ⟨hx, hb, hml, hown, hts⟩ (ok_X5_in l _ _ _ _ hw) (va_cwS 3 hts gX5_worth_X5_in rfl rfl rfl (by decide +kernel) ⟨Nat.le_of_ble_eq_true rfl, Nat.le_of_ble_eq_true rfl⟩) hW.2.2 rfl hl.1 rfl (Nat.le_of_ble_eq_true rfl) dX5_worth_14 ⟨Nat.le_of_ble_eq_true rfl, Nat.le_of_ble_eq_true rfl⟩ (fun r_6 H locs hw hk hS => ?_)
    have hW := hW.kept hk hS
    refine lv_if_eq (tgt := 24) hx hb dX5_worth_17 (by decide) (fun hc => ?_) (fun hc => ?_)
    · have hw := hw.1 hc
      refine lv_iconst (v := 1) hx hb dX5_worth_24 (by decide) ?_
      refine kV_Mi (As := [.int 1]) (rest := []) ⟨hx, hb, hml, hown, hts⟩ (ok_X5_holds l D cI cJ a _ _ _ _ hw) (cwV 1 hts gX5_worth_X5_holds rfl rfl rfl (by decide +kernel) ⟨Nat.le_of_ble_eq_true rfl, Nat.le_of_ble_eq_true rfl⟩) hK hW hA 0 rfl rfl rfl hl.1 rfl (Nat.le_of_ble_eq_true rfl) dX5_worth_25 ⟨Nat.le_of_ble_eq_true rfl, Nat.le_of_ble_eq_true rfl⟩ (fun r_7 σ_8 H locs hw hW => ?_)
      refine lv_if_eq (tgt := 39) hx hb dX5_worth_28 (by decide) (fun hc => ?_) (fun hc => ?_)
      · have hw := hw.1 hc
        refine lv_iconst (v := 0) hx hb dX5_worth_39 (by decide) ?_
        exact hret _ σ_8 _ _ _ _ hw hW dX5_worth_40
      · have hw := hw.2 hc
        refine lv_aload_n hx hb dX5_worth_31 rfl (lv_at hl 0 rfl) ?_
        refine lv_iload_n hx hb dX5_worth_32 rfl (lv_at hl 1 rfl) ?_
        refine kV_Mi (As := [.int p1]) (rest := []) ⟨hx, hb, hml, hown, hts⟩ (ok_X5_worthOf l D cI cJ a _ _ _ _ hw) (cwV 1 hts gX5_worth_X5_worthOf rfl rfl rfl (by decide +kernel) ⟨Nat.le_of_ble_eq_true rfl, Nat.le_of_ble_eq_true rfl⟩) hK hW hA 0 rfl rfl rfl hl.1 rfl (Nat.le_of_ble_eq_true rfl) dX5_worth_33 ⟨Nat.le_of_ble_eq_true rfl, Nat.le_of_ble_eq_true rfl⟩ (fun r_9 σ_10 H locs hw hW => ?_)
        refine lv_goto (tgt := 40) hx hb dX5_worth_36 (by decide) ?_
        exact hret _ σ_10 _ _ _ _ hw hW dX5_worth_40
    · have hw := hw.2 hc
      refine lv_iconst (v := 0) hx hb dX5_worth_20 (by decide) ?_
      refine lv_goto (tgt := 25) hx hb dX5_worth_21 (by decide) ?_
      refine kV_Mi (As := [.int 0]) (rest := []) ⟨hx, hb, hml, hown, hts⟩ (ok_X5_holds l D cI cJ a _ _ _ _ hw) (cwV 1 hts gX5_worth_X5_holds rfl rfl rfl (by decide +kernel) ⟨Nat.le_of_ble_eq_true rfl, Nat.le_of_ble_eq_true rfl⟩) hK hW hA 0 rfl rfl rfl hl.1 rfl (Nat.le_of_ble_eq_true rfl) dX5_worth_25 ⟨Nat.le_of_ble_eq_true rfl, Nat.le_of_ble_eq_true rfl⟩ (fun r_11 σ_12 H locs hw hW => ?_)
      refine lv_if_eq (tgt := 39) hx hb dX5_worth_28 (by decide) (fun hc => ?_) (fun hc => ?_)
      · have hw := hw.1 hc
        refine lv_iconst (v := 0) hx hb dX5_worth_39 (by decide) ?_
        exact hret _ σ_12 _ _ _ _ hw hW dX5_worth_40
      · have hw := hw.2 hc
        refine lv_aload_n hx hb dX5_worth_31 rfl (lv_at hl 0 rfl) ?_
        refine lv_iload_n hx hb dX5_worth_32 rfl (lv_at hl 1 rfl) ?_
        refine kV_Mi (As := [.int p1]) (rest := []) ⟨hx, hb, hml, hown, hts⟩ (ok_X5_worthOf l D cI cJ a _ _ _ _ hw) (cwV 1 hts gX5_worth_X5_worthOf rfl rfl rfl (by decide +kernel) ⟨Nat.le_of_ble_eq_true rfl, Nat.le_of_ble_eq_true rfl⟩) hK hW hA 0 rfl rfl rfl hl.1 rfl (Nat.le_of_ble_eq_true rfl) dX5_worth_33 ⟨Nat.le_of_ble_eq_true rfl, Nat.le_of_ble_eq_true rfl⟩ (fun r_13 σ_14 H locs hw hW => ?_)
        refine lv_goto (tgt := 40) hx hb dX5_worth_36 (by decide) ?_
        exact hret _ σ_14 _ _ _ _ hw hW dX5_worth_40
def wp_X5_opened (σ : MS) (p1 : Int32) (p2 : Int32) (post : Int32 → MS → Prop) : Prop := wp_X5_shares σ (fun σ_1 => ((¬ p2 = 0 → vp_in p1 6 ∧ post ((m_due σ_1) (p1).toNatClampNeg) σ_1) ∧ (p2 = 0 → vp_in p1 6 ∧ post ((m_shared σ_1) (p1).toNatClampNeg) σ_1)))
abbrev rm_X5_opened : Room := { frames := 7, cells := 0, slots := 0, locals := 162 }
theorem in_X5_opened_X5 : ∀ w ∈ wsX50, w ∈ wsX5_opened := fun w h => List.mem_cons_of_mem _ (List.mem_append_right _ (h))
set_option maxHeartbeats 4000000 in
set_option maxRecDepth 100000 in
theorem ok_X5_opened (l : Launch) (D : va_G) (cI cJ : ClassId) (a : Nat → Nat) (sz : Nat) (σ : MS) (p1 : Int32) (p2 : Int32) (post : Int32 → MS → Prop) (hw : wp_X5_opened σ p1 p2 post) : Mi l yX5_opened wsX5_opened rm_X5_opened [.ref (a 0), .int p1, .int p2] D (tysIJ cI cJ) (mW cI cJ a σ) sz post (mW cI cJ a) := by
  refine s_Mi (by decide) rfl (Nat.le_of_ble_eq_true rfl) ?_
  intro p e s m args below meth c A Q hx hb hml hts hown hin hK hA hret H locs ls hW hl
  have hown : s.vm.findClass RX5 = some m.cls := hown
  have hl : lv_has ls 3 [(0, .ref (a 0)), (1, .int p1), (2, .int p2)] := hl
  have hinX5 := in_X5_opened_X5
  refine lv_aload_n hx hb dX5_opened_0 rfl (lv_at hl 0 rfl) ?_
  refine kV_Mv (As := []) (rest := []) ⟨hx, hb, hml, hown, hts⟩ (ok_X5_shares l D cI cJ a _ _ _ hw) (cwV 0 hts gX5_opened_X5_shares rfl rfl rfl (by decide +kernel) ⟨Nat.le_of_ble_eq_true rfl, Nat.le_of_ble_eq_true rfl⟩) hK hW hA 0 rfl rfl rfl hl.1 rfl (Nat.le_of_ble_eq_true rfl) dX5_opened_1 ⟨Nat.le_of_ble_eq_true rfl, Nat.le_of_ble_eq_true rfl⟩ (fun σ_1 H locs hw hW => ?_)
  refine lv_iload_n hx hb dX5_opened_4 rfl (lv_at hl 2 rfl) ?_
  refine lv_if_ne (tgt := 17) hx hb dX5_opened_5 (by decide) (fun hc => ?_) (fun hc => ?_)
  · have hw := hw.1 hc
    refine lv_aload_n hx hb dX5_opened_17 rfl (lv_at hl 0 rfl) ?_
    refine va_get (D := D) (ci := 5) (v := .ref (a 5)) (C := RX5) (T := TX5) (N := 18) hx hb hts hinX5 hown hK hW.1 0 rfl rfl 16 (by decide) (hts _ (List.mem_of_getElem? (i := 2) rfl)) (fun _ h9 => h9) rfl dX5_opened_18 ?_
    refine lv_iload_n hx hb dX5_opened_21 rfl (lv_at hl 1 rfl) ?_
    refine va_iald hx hb hK hW.1 5 0 rfl rfl hw.1 dX5_opened_22 ?_
    have hw := hw.2
    exact hret _ σ_1 _ _ _ _ hw hW dX5_opened_23
  · have hw := hw.2 hc
    refine lv_aload_n hx hb dX5_opened_8 rfl (lv_at hl 0 rfl) ?_
    refine va_get (D := D) (ci := 5) (v := .ref (a 4)) (C := RX5) (T := TX5) (N := 18) hx hb hts hinX5 hown hK hW.1 0 rfl rfl 15 (by decide) (hts _ (List.mem_of_getElem? (i := 1) rfl)) (fun _ h9 => h9) rfl dX5_opened_9 ?_
    refine lv_iload_n hx hb dX5_opened_12 rfl (lv_at hl 1 rfl) ?_
    refine va_iald hx hb hK hW.1 4 0 rfl rfl hw.1 dX5_opened_13 ?_
    have hw := hw.2
    refine lv_goto (tgt := 23) hx hb dX5_opened_14 (by decide) ?_
    exact hret _ σ_1 _ _ _ _ hw hW dX5_opened_23
def wp_X5_ifOpened (σ : MS) (p1 : Int32) (p2 : Int32) (post : Int32 → MS → Prop) : Prop := wp_X5_isOne p1 (fun r_1 => ((¬ r_1 = 0 → wp_X5_in p2 0 1 (fun r_2 => ((¬ r_2 = 0 → wp_X5_holds σ 0 (fun r_3 σ_4 => ((r_3 = 0 → post 0 σ_4) ∧ (¬ r_3 = 0 → wp_X5_opened σ_4 p1 p2 (fun r_5 σ_6 => post r_5 σ_6))))) ∧ (r_2 = 0 → wp_X5_holds σ 2 (fun r_7 σ_8 => ((r_7 = 0 → post 0 σ_8) ∧ (¬ r_7 = 0 → wp_X5_opened σ_8 p1 p2 (fun r_9 σ_10 => post r_9 σ_10)))))))) ∧ (r_1 = 0 → wp_X5_holds σ 1 (fun r_11 σ_12 => ((r_11 = 0 → post 0 σ_12) ∧ (¬ r_11 = 0 → wp_X5_opened σ_12 p1 p2 (fun r_13 σ_14 => post r_13 σ_14)))))))
abbrev rm_X5_ifOpened : Room := { frames := 8, cells := 0, slots := 0, locals := 184 }
set_option maxHeartbeats 4000000 in
set_option maxRecDepth 100000 in
theorem ok_X5_ifOpened (l : Launch) (D : va_G) (cI cJ : ClassId) (a : Nat → Nat) (sz : Nat) (σ : MS) (p1 : Int32) (p2 : Int32) (post : Int32 → MS → Prop) (hw : wp_X5_ifOpened σ p1 p2 post) : Mi l yX5_ifOpened wsX5_ifOpened rm_X5_ifOpened [.ref (a 0), .int p1, .int p2] D (tysIJ cI cJ) (mW cI cJ a σ) sz post (mW cI cJ a) := by
  refine s_Mi (by decide) rfl (Nat.le_of_ble_eq_true rfl) ?_
  intro p e s m args below meth c A Q hx hb hml hts hown hin hK hA hret H locs ls hW hl
  have hown : s.vm.findClass RX5 = some m.cls := hown
  have hl : lv_has ls 3 [(0, .ref (a 0)), (1, .int p1), (2, .int p2)] := hl
  refine lv_aload_n hx hb dX5_ifOpened_0 rfl (lv_at hl 0 rfl) ?_
  refine lv_iload_n hx hb dX5_ifOpened_1 rfl (lv_at hl 1 rfl) ?_
  refine kS_Pi (As := [.int p1]) (rest := [.ref (a 0)]) ⟨hx, hb, hml, hown, hts⟩ (ok_X5_isOne l _ _ hw) (va_cwS 1 hts gX5_ifOpened_X5_isOne rfl rfl rfl (by decide +kernel) ⟨Nat.le_of_ble_eq_true rfl, Nat.le_of_ble_eq_true rfl⟩) hW.2.2 rfl hl.1 rfl (Nat.le_of_ble_eq_true rfl) dX5_ifOpened_2 ⟨Nat.le_of_ble_eq_true rfl, Nat.le_of_ble_eq_true rfl⟩ (fun r_1 H locs hw hk hS => ?_)
  have hW := hW.kept hk hS
  refine lv_if_ne (tgt := 12) hx hb dX5_ifOpened_5 (by decide) (fun hc => ?_) (fun hc => ?_)
  · have hw := hw.1 hc
    refine lv_iload_n hx hb dX5_ifOpened_12 rfl (lv_at hl 2 rfl) ?_
    refine lv_iconst (v := 0) hx hb dX5_ifOpened_13 (by decide) ?_
    refine lv_iconst (v := 1) hx hb dX5_ifOpened_14 (by decide) ?_
    refine kS_Pi (As := [.int p2, .int 0, .int 1]) (rest := [.ref (a 0)]) ⟨hx, hb, hml, hown, hts⟩ (ok_X5_in l _ _ _ _ hw) (va_cwS 3 hts gX5_ifOpened_X5_in rfl rfl rfl (by decide +kernel) ⟨Nat.le_of_ble_eq_true rfl, Nat.le_of_ble_eq_true rfl⟩) hW.2.2 rfl hl.1 rfl (Nat.le_of_ble_eq_true rfl) dX5_ifOpened_15 ⟨Nat.le_of_ble_eq_true rfl, Nat.le_of_ble_eq_true rfl⟩ (fun r_2 H locs hw hk hS => ?_)
    have hW := hW.kept hk hS
    refine lv_if_ne (tgt := 25) hx hb dX5_ifOpened_18 (by decide) (fun hc => ?_) (fun hc => ?_)
    · have hw := hw.1 hc
      refine lv_iconst (v := 0) hx hb dX5_ifOpened_25 (by decide) ?_
      refine kV_Mi (As := [.int 0]) (rest := []) ⟨hx, hb, hml, hown, hts⟩ (ok_X5_holds l D cI cJ a _ _ _ _ hw) (cwV 1 hts gX5_ifOpened_X5_holds rfl rfl rfl (by decide +kernel) ⟨Nat.le_of_ble_eq_true rfl, Nat.le_of_ble_eq_true rfl⟩) hK hW hA 0 rfl rfl rfl hl.1 rfl (Nat.le_of_ble_eq_true rfl) dX5_ifOpened_26 ⟨Nat.le_of_ble_eq_true rfl, Nat.le_of_ble_eq_true rfl⟩ (fun r_3 σ_4 H locs hw hW => ?_)
      refine lv_if_eq (tgt := 41) hx hb dX5_ifOpened_29 (by decide) (fun hc => ?_) (fun hc => ?_)
      · have hw := hw.1 hc
        refine lv_iconst (v := 0) hx hb dX5_ifOpened_41 (by decide) ?_
        exact hret _ σ_4 _ _ _ _ hw hW dX5_ifOpened_42
      · have hw := hw.2 hc
        refine lv_aload_n hx hb dX5_ifOpened_32 rfl (lv_at hl 0 rfl) ?_
        refine lv_iload_n hx hb dX5_ifOpened_33 rfl (lv_at hl 1 rfl) ?_
        refine lv_iload_n hx hb dX5_ifOpened_34 rfl (lv_at hl 2 rfl) ?_
        refine kV_Mi (As := [.int p1, .int p2]) (rest := []) ⟨hx, hb, hml, hown, hts⟩ (ok_X5_opened l D cI cJ a _ _ _ _ _ hw) (cwV 2 hts gX5_ifOpened_X5_opened rfl rfl rfl (by decide +kernel) ⟨Nat.le_of_ble_eq_true rfl, Nat.le_of_ble_eq_true rfl⟩) hK hW hA 0 rfl rfl rfl hl.1 rfl (Nat.le_of_ble_eq_true rfl) dX5_ifOpened_35 ⟨Nat.le_of_ble_eq_true rfl, Nat.le_of_ble_eq_true rfl⟩ (fun r_5 σ_6 H locs hw hW => ?_)
        refine lv_goto (tgt := 42) hx hb dX5_ifOpened_38 (by decide) ?_
        exact hret _ σ_6 _ _ _ _ hw hW dX5_ifOpened_42
    · have hw := hw.2 hc
      refine lv_iconst (v := 2) hx hb dX5_ifOpened_21 (by decide) ?_
      refine lv_goto (tgt := 26) hx hb dX5_ifOpened_22 (by decide) ?_
      refine kV_Mi (As := [.int 2]) (rest := []) ⟨hx, hb, hml, hown, hts⟩ (ok_X5_holds l D cI cJ a _ _ _ _ hw) (cwV 1 hts gX5_ifOpened_X5_holds rfl rfl rfl (by decide +kernel) ⟨Nat.le_of_ble_eq_true rfl, Nat.le_of_ble_eq_true rfl⟩) hK hW hA 0 rfl rfl rfl hl.1 rfl (Nat.le_of_ble_eq_true rfl) dX5_ifOpened_26 ⟨Nat.le_of_ble_eq_true rfl, Nat.le_of_ble_eq_true rfl⟩ (fun r_7 σ_8 H locs hw hW => ?_)
      refine lv_if_eq (tgt := 41) hx hb dX5_ifOpened_29 (by decide) (fun hc => ?_) (fun hc => ?_)
      · have hw := hw.1 hc
        refine lv_iconst (v := 0) hx hb dX5_ifOpened_41 (by decide) ?_
        exact hret _ σ_8 _ _ _ _ hw hW dX5_ifOpened_42
      · have hw := hw.2 hc
        refine lv_aload_n hx hb dX5_ifOpened_32 rfl (lv_at hl 0 rfl) ?_
        refine lv_iload_n hx hb dX5_ifOpened_33 rfl (lv_at hl 1 rfl) ?_
        refine lv_iload_n hx hb dX5_ifOpened_34 rfl (lv_at hl 2 rfl) ?_
        refine kV_Mi (As := [.int p1, .int p2]) (rest := []) ⟨hx, hb, hml, hown, hts⟩ (ok_X5_opened l D cI cJ a _ _ _ _ _ hw) (cwV 2 hts gX5_ifOpened_X5_opened rfl rfl rfl (by decide +kernel) ⟨Nat.le_of_ble_eq_true rfl, Nat.le_of_ble_eq_true rfl⟩) hK hW hA 0 rfl rfl rfl hl.1 rfl (Nat.le_of_ble_eq_true rfl) dX5_ifOpened_35 ⟨Nat.le_of_ble_eq_true rfl, Nat.le_of_ble_eq_true rfl⟩ (fun r_9 σ_10 H locs hw hW => ?_)
        refine lv_goto (tgt := 42) hx hb dX5_ifOpened_38 (by decide) ?_
        exact hret _ σ_10 _ _ _ _ hw hW dX5_ifOpened_42
  · have hw := hw.2 hc
    refine lv_iconst (v := 1) hx hb dX5_ifOpened_8 (by decide) ?_
    refine lv_goto (tgt := 26) hx hb dX5_ifOpened_9 (by decide) ?_
    refine kV_Mi (As := [.int 1]) (rest := []) ⟨hx, hb, hml, hown, hts⟩ (ok_X5_holds l D cI cJ a _ _ _ _ hw) (cwV 1 hts gX5_ifOpened_X5_holds rfl rfl rfl (by decide +kernel) ⟨Nat.le_of_ble_eq_true rfl, Nat.le_of_ble_eq_true rfl⟩) hK hW hA 0 rfl rfl rfl hl.1 rfl (Nat.le_of_ble_eq_true rfl) dX5_ifOpened_26 ⟨Nat.le_of_ble_eq_true rfl, Nat.le_of_ble_eq_true rfl⟩ (fun r_11 σ_12 H locs hw hW => ?_)
    refine lv_if_eq (tgt := 41) hx hb dX5_ifOpened_29 (by decide) (fun hc => ?_) (fun hc => ?_)
    · have hw := hw.1 hc
      refine lv_iconst (v := 0) hx hb dX5_ifOpened_41 (by decide) ?_
      exact hret _ σ_12 _ _ _ _ hw hW dX5_ifOpened_42
    · have hw := hw.2 hc
      refine lv_aload_n hx hb dX5_ifOpened_32 rfl (lv_at hl 0 rfl) ?_
      refine lv_iload_n hx hb dX5_ifOpened_33 rfl (lv_at hl 1 rfl) ?_
      refine lv_iload_n hx hb dX5_ifOpened_34 rfl (lv_at hl 2 rfl) ?_
      refine kV_Mi (As := [.int p1, .int p2]) (rest := []) ⟨hx, hb, hml, hown, hts⟩ (ok_X5_opened l D cI cJ a _ _ _ _ _ hw) (cwV 2 hts gX5_ifOpened_X5_opened rfl rfl rfl (by decide +kernel) ⟨Nat.le_of_ble_eq_true rfl, Nat.le_of_ble_eq_true rfl⟩) hK hW hA 0 rfl rfl rfl hl.1 rfl (Nat.le_of_ble_eq_true rfl) dX5_ifOpened_35 ⟨Nat.le_of_ble_eq_true rfl, Nat.le_of_ble_eq_true rfl⟩ (fun r_13 σ_14 H locs hw hW => ?_)
      refine lv_goto (tgt := 42) hx hb dX5_ifOpened_38 (by decide) ?_
      exact hret _ σ_14 _ _ _ _ hw hW dX5_ifOpened_42
def wp_X5_wouldBid (σ : MS) (p1 : Int32) (p2 : Int32) (p3 : Int32) (p4 : Int32) (post : Int32 → MS → Prop) : Prop := ∀ σ_1 : MS, σ_1 = ms_asker σ p1 → ∀ σ_2 : MS, σ_2 = ms_askedSpot σ_1 p2 → ∀ σ_3 : MS, σ_3 = ms_askedAmount σ_2 p3 → wp_X5_shares σ_3 (fun σ_4 => ∀ σ_5 : MS, σ_5 = ms_asker σ_4 (-1) → wp_X5_gets σ_5 p1 (fun r_6 => ((p4 = 0 → post r_6 σ_5) ∧ (¬ p4 = 0 → ((¬ r_6 = (-1) → vp_in r_6 6 ∧ post ((m_due σ_5) (r_6).toNatClampNeg) σ_5) ∧ (r_6 = (-1) → post r_6 σ_5))))))
abbrev rm_X5_wouldBid : Room := { frames := 7, cells := 0, slots := 0, locals := 162 }
theorem in_X5_wouldBid_X5 : ∀ w ∈ wsX50, w ∈ wsX5_wouldBid := fun w h => List.mem_cons_of_mem _ (List.mem_append_right _ (h))
set_option maxHeartbeats 4000000 in
set_option maxRecDepth 100000 in
theorem ok_X5_wouldBid (l : Launch) (D : va_G) (cI cJ : ClassId) (a : Nat → Nat) (sz : Nat) (σ : MS) (p1 : Int32) (p2 : Int32) (p3 : Int32) (p4 : Int32) (post : Int32 → MS → Prop) (hw : wp_X5_wouldBid σ p1 p2 p3 p4 post) : Mi l yX5_wouldBid wsX5_wouldBid rm_X5_wouldBid [.ref (a 0), .int p1, .int p2, .int p3, .int p4] D (tysIJ cI cJ) (mW cI cJ a σ) sz post (mW cI cJ a) := by
  refine s_Mi (by decide) rfl (Nat.le_of_ble_eq_true rfl) ?_
  intro p e s m args below meth c A Q hx hb hml hts hown hin hK hA hret H locs ls hW hl
  have hown : s.vm.findClass RX5 = some m.cls := hown
  have hl : lv_has ls 6 [(0, .ref (a 0)), (1, .int p1), (2, .int p2), (3, .int p3), (4, .int p4)] := hl
  have hinX5 := in_X5_wouldBid_X5
  refine lv_aload_n hx hb dX5_wouldBid_0 rfl (lv_at hl 0 rfl) ?_
  refine lv_iload_n hx hb dX5_wouldBid_1 rfl (lv_at hl 1 rfl) ?_
  refine pf_m_asker hx hb hts hinX5 hown hK hW (hts _ (List.mem_of_getElem? (i := 1) rfl)) dX5_wouldBid_2 (fun σ_1 eσ_1 H locs hW => ?_)
  have hw := hw σ_1 eσ_1
  refine lv_aload_n hx hb dX5_wouldBid_5 rfl (lv_at hl 0 rfl) ?_
  refine lv_iload_n hx hb dX5_wouldBid_6 rfl (lv_at hl 2 rfl) ?_
  refine pf_m_askedSpot hx hb hts hinX5 hown hK hW (hts _ (List.mem_of_getElem? (i := 2) rfl)) dX5_wouldBid_7 (fun σ_2 eσ_2 H locs hW => ?_)
  have hw := hw σ_2 eσ_2
  refine lv_aload_n hx hb dX5_wouldBid_10 rfl (lv_at hl 0 rfl) ?_
  refine lv_iload_n hx hb dX5_wouldBid_11 rfl (lv_at hl 3 rfl) ?_
  refine pf_m_askedAmount hx hb hts hinX5 hown hK hW (hts _ (List.mem_of_getElem? (i := 3) rfl)) dX5_wouldBid_12 (fun σ_3 eσ_3 H locs hW => ?_)
  have hw := hw σ_3 eσ_3
  refine lv_aload_n hx hb dX5_wouldBid_15 rfl (lv_at hl 0 rfl) ?_
  refine kV_Mv (As := []) (rest := []) ⟨hx, hb, hml, hown, hts⟩ (ok_X5_shares l D cI cJ a _ _ _ hw) (cwV 0 hts gX5_wouldBid_X5_shares rfl rfl rfl (by decide +kernel) ⟨Nat.le_of_ble_eq_true rfl, Nat.le_of_ble_eq_true rfl⟩) hK hW hA 0 rfl rfl rfl hl.1 rfl (Nat.le_of_ble_eq_true rfl) dX5_wouldBid_16 ⟨Nat.le_of_ble_eq_true rfl, Nat.le_of_ble_eq_true rfl⟩ (fun σ_4 H locs hw hW => ?_)
  refine lv_aload_n hx hb dX5_wouldBid_19 rfl (lv_at hl 0 rfl) ?_
  refine lv_iconst (v := (-1)) hx hb dX5_wouldBid_20 (by decide) ?_
  refine pf_m_asker hx hb hts hinX5 hown hK hW (hts _ (List.mem_of_getElem? (i := 1) rfl)) dX5_wouldBid_21 (fun σ_5 eσ_5 H locs hW => ?_)
  have hw := hw σ_5 eσ_5
  refine lv_aload_n hx hb dX5_wouldBid_24 rfl (lv_at hl 0 rfl) ?_
  refine lv_iload_n hx hb dX5_wouldBid_25 rfl (lv_at hl 1 rfl) ?_
  refine kV_Mi (As := [.int p1]) (rest := []) ⟨hx, hb, hml, hown, hts⟩ (ok_X5_gets l D cI cJ a _ _ _ _ hw) (cwV 1 hts gX5_wouldBid_X5_gets rfl rfl rfl (by decide +kernel) ⟨Nat.le_of_ble_eq_true rfl, Nat.le_of_ble_eq_true rfl⟩) hK hW hA 0 rfl rfl rfl hl.1 rfl (Nat.le_of_ble_eq_true rfl) dX5_wouldBid_26 ⟨Nat.le_of_ble_eq_true rfl, Nat.le_of_ble_eq_true rfl⟩ (fun r_6 _ H locs hw hW => ?_)
  refine lv_istore (lv' := [(5, .int r_6), (0, .ref (a 0)), (1, .int p1), (2, .int p2), (3, .int p3), (4, .int p4)]) hx hb dX5_wouldBid_29 hl (by decide) rfl (fun ls hl => ?_)
  refine lv_iload hx hb dX5_wouldBid_31 (lv_at hl 5 rfl) ?_
  refine lv_if_eq (tgt := 42) hx hb dX5_wouldBid_33 (by decide) (fun hc => ?_) (fun hc => ?_)
  · have hw := hw.1 hc
    refine lv_iload hx hb dX5_wouldBid_42 (lv_at hl 0 rfl) ?_
    refine lv_goto (tgt := 54) hx hb dX5_wouldBid_44 (by decide) ?_
    exact hret _ σ_5 _ _ _ _ hw hW dX5_wouldBid_54
  · have hw := hw.2 hc
    refine lv_iload hx hb dX5_wouldBid_36 (lv_at hl 0 rfl) ?_
    refine lv_iconst (v := (-1)) hx hb dX5_wouldBid_38 (by decide) ?_
    refine lv_icmp_ne (tgt := 47) hx hb dX5_wouldBid_39 (by decide) (fun hc => ?_) (fun hc => ?_)
    · have hw := hw.1 hc
      refine lv_aload_n hx hb dX5_wouldBid_47 rfl (lv_at hl 1 rfl) ?_
      refine va_get (D := D) (ci := 5) (v := .ref (a 5)) (C := RX5) (T := TX5) (N := 18) hx hb hts hinX5 hown hK hW.1 0 rfl rfl 16 (by decide) (hts _ (List.mem_of_getElem? (i := 4) rfl)) (fun _ h9 => h9) rfl dX5_wouldBid_48 ?_
      refine lv_iload hx hb dX5_wouldBid_51 (lv_at hl 0 rfl) ?_
      refine va_iald hx hb hK hW.1 5 0 rfl rfl hw.1 dX5_wouldBid_53 ?_
      have hw := hw.2
      exact hret _ σ_5 _ _ _ _ hw hW dX5_wouldBid_54
    · have hw := hw.2 hc
      refine lv_iload hx hb dX5_wouldBid_42 (lv_at hl 0 rfl) ?_
      refine lv_goto (tgt := 54) hx hb dX5_wouldBid_44 (by decide) ?_
      exact hret _ σ_5 _ _ _ _ hw hW dX5_wouldBid_54
def wp_X5_ifBid (σ : MS) (p1 : Int32) (p2 : Int32) (p3 : Int32) (p4 : Int32) (post : Int32 → MS → Prop) : Prop := wp_X5_isOne p1 (fun r_1 => ((r_1 = 0 → wp_X5_holds σ 1 (fun r_2 σ_3 => ((r_2 = 0 → post 0 σ_3) ∧ (¬ r_2 = 0 → wp_X5_wouldBid σ_3 p1 p2 p3 p4 (fun r_4 σ_5 => post r_4 σ_5))))) ∧ (¬ r_1 = 0 → wp_X5_isOne p2 (fun r_6 => ((r_6 = 0 → wp_X5_holds σ 1 (fun r_7 σ_8 => ((r_7 = 0 → post 0 σ_8) ∧ (¬ r_7 = 0 → wp_X5_wouldBid σ_8 p1 p2 p3 p4 (fun r_9 σ_10 => post r_9 σ_10))))) ∧ (¬ r_6 = 0 → wp_X5_isAmount p3 (fun r_11 => ((r_11 = 0 → wp_X5_holds σ 2 (fun r_12 σ_13 => ((r_12 = 0 → post 0 σ_13) ∧ (¬ r_12 = 0 → wp_X5_wouldBid σ_13 p1 p2 p3 p4 (fun r_14 σ_15 => post r_14 σ_15))))) ∧ (¬ r_11 = 0 → wp_X5_in p4 0 1 (fun r_16 => ((¬ r_16 = 0 → wp_X5_holds σ 0 (fun r_17 σ_18 => ((r_17 = 0 → post 0 σ_18) ∧ (¬ r_17 = 0 → wp_X5_wouldBid σ_18 p1 p2 p3 p4 (fun r_19 σ_20 => post r_19 σ_20))))) ∧ (r_16 = 0 → wp_X5_holds σ 2 (fun r_21 σ_22 => ((r_21 = 0 → post 0 σ_22) ∧ (¬ r_21 = 0 → wp_X5_wouldBid σ_22 p1 p2 p3 p4 (fun r_23 σ_24 => post r_23 σ_24))))))))))))))))
abbrev rm_X5_ifBid : Room := { frames := 8, cells := 0, slots := 0, locals := 187 }
set_option maxHeartbeats 4000000 in
set_option maxRecDepth 100000 in
theorem ok_X5_ifBid (l : Launch) (D : va_G) (cI cJ : ClassId) (a : Nat → Nat) (sz : Nat) (σ : MS) (p1 : Int32) (p2 : Int32) (p3 : Int32) (p4 : Int32) (post : Int32 → MS → Prop) (hw : wp_X5_ifBid σ p1 p2 p3 p4 post) : Mi l yX5_ifBid wsX5_ifBid rm_X5_ifBid [.ref (a 0), .int p1, .int p2, .int p3, .int p4] D (tysIJ cI cJ) (mW cI cJ a σ) sz post (mW cI cJ a) := by
  refine s_Mi (by decide) rfl (Nat.le_of_ble_eq_true rfl) ?_
  intro p e s m args below meth c A Q hx hb hml hts hown hin hK hA hret H locs ls hW hl
  have hown : s.vm.findClass RX5 = some m.cls := hown
  have hl : lv_has ls 6 [(0, .ref (a 0)), (1, .int p1), (2, .int p2), (3, .int p3), (4, .int p4)] := hl
  refine lv_iload_n hx hb dX5_ifBid_0 rfl (lv_at hl 1 rfl) ?_
  refine kS_Pi (As := [.int p1]) (rest := []) ⟨hx, hb, hml, hown, hts⟩ (ok_X5_isOne l _ _ hw) (va_cwS 1 hts gX5_ifBid_X5_isOne rfl rfl rfl (by decide +kernel) ⟨Nat.le_of_ble_eq_true rfl, Nat.le_of_ble_eq_true rfl⟩) hW.2.2 rfl hl.1 rfl (Nat.le_of_ble_eq_true rfl) dX5_ifBid_1 ⟨Nat.le_of_ble_eq_true rfl, Nat.le_of_ble_eq_true rfl⟩ (fun r_1 H locs hw hk hS => ?_)
  have hW := hW.kept hk hS
  refine lv_if_eq (tgt := 18) hx hb dX5_ifBid_4 (by decide) (fun hc => ?_) (fun hc => ?_)
  · have hw := hw.1 hc
    refine lv_iconst (v := 0) hx hb dX5_ifBid_18 (by decide) ?_
    refine lv_istore (lv' := [(5, .int 0), (0, .ref (a 0)), (1, .int p1), (2, .int p2), (3, .int p3), (4, .int p4)]) hx hb dX5_ifBid_19 hl (by decide) rfl (fun ls hl => ?_)
    refine lv_aload_n hx hb dX5_ifBid_21 rfl (lv_at hl 1 rfl) ?_
    refine lv_iload hx hb dX5_ifBid_22 (lv_at hl 0 rfl) ?_
    refine lv_if_ne (tgt := 31) hx hb dX5_ifBid_24 (by decide) (fun hc => absurd hc (by decide)) (fun _ => ?_)
    refine lv_iconst (v := 1) hx hb dX5_ifBid_27 (by decide) ?_
    refine lv_goto (tgt := 53) hx hb dX5_ifBid_28 (by decide) ?_
    refine kV_Mi (As := [.int 1]) (rest := []) ⟨hx, hb, hml, hown, hts⟩ (ok_X5_holds l D cI cJ a _ _ _ _ hw) (cwV 1 hts gX5_ifBid_X5_holds rfl rfl rfl (by decide +kernel) ⟨Nat.le_of_ble_eq_true rfl, Nat.le_of_ble_eq_true rfl⟩) hK hW hA 0 rfl rfl rfl hl.1 rfl (Nat.le_of_ble_eq_true rfl) dX5_ifBid_53 ⟨Nat.le_of_ble_eq_true rfl, Nat.le_of_ble_eq_true rfl⟩ (fun r_2 σ_3 H locs hw hW => ?_)
    refine lv_if_eq (tgt := 71) hx hb dX5_ifBid_56 (by decide) (fun hc => ?_) (fun hc => ?_)
    · have hw := hw.1 hc
      refine lv_iconst (v := 0) hx hb dX5_ifBid_71 (by decide) ?_
      exact hret _ σ_3 _ _ _ _ hw hW dX5_ifBid_72
    · have hw := hw.2 hc
      refine lv_aload_n hx hb dX5_ifBid_59 rfl (lv_at hl 1 rfl) ?_
      refine lv_iload_n hx hb dX5_ifBid_60 rfl (lv_at hl 2 rfl) ?_
      refine lv_iload_n hx hb dX5_ifBid_61 rfl (lv_at hl 3 rfl) ?_
      refine lv_iload_n hx hb dX5_ifBid_62 rfl (lv_at hl 4 rfl) ?_
      refine lv_iload hx hb dX5_ifBid_63 (lv_at hl 5 rfl) ?_
      refine kV_Mi (As := [.int p1, .int p2, .int p3, .int p4]) (rest := []) ⟨hx, hb, hml, hown, hts⟩ (ok_X5_wouldBid l D cI cJ a _ _ _ _ _ _ _ hw) (cwV 4 hts gX5_ifBid_X5_wouldBid rfl rfl rfl (by decide +kernel) ⟨Nat.le_of_ble_eq_true rfl, Nat.le_of_ble_eq_true rfl⟩) hK hW hA 0 rfl rfl rfl hl.1 rfl (Nat.le_of_ble_eq_true rfl) dX5_ifBid_65 ⟨Nat.le_of_ble_eq_true rfl, Nat.le_of_ble_eq_true rfl⟩ (fun r_4 σ_5 H locs hw hW => ?_)
      refine lv_goto (tgt := 72) hx hb dX5_ifBid_68 (by decide) ?_
      exact hret _ σ_5 _ _ _ _ hw hW dX5_ifBid_72
  · have hw := hw.2 hc
    refine lv_iload_n hx hb dX5_ifBid_7 rfl (lv_at hl 2 rfl) ?_
    refine kS_Pi (As := [.int p2]) (rest := []) ⟨hx, hb, hml, hown, hts⟩ (ok_X5_isOne l _ _ hw) (va_cwS 1 hts gX5_ifBid_X5_isOne rfl rfl rfl (by decide +kernel) ⟨Nat.le_of_ble_eq_true rfl, Nat.le_of_ble_eq_true rfl⟩) hW.2.2 rfl hl.1 rfl (Nat.le_of_ble_eq_true rfl) dX5_ifBid_8 ⟨Nat.le_of_ble_eq_true rfl, Nat.le_of_ble_eq_true rfl⟩ (fun r_6 H locs hw hk hS => ?_)
    have hW := hW.kept hk hS
    refine lv_if_eq (tgt := 18) hx hb dX5_ifBid_11 (by decide) (fun hc => ?_) (fun hc => ?_)
    · have hw := hw.1 hc
      refine lv_iconst (v := 0) hx hb dX5_ifBid_18 (by decide) ?_
      refine lv_istore (lv' := [(5, .int 0), (0, .ref (a 0)), (1, .int p1), (2, .int p2), (3, .int p3), (4, .int p4)]) hx hb dX5_ifBid_19 hl (by decide) rfl (fun ls hl => ?_)
      refine lv_aload_n hx hb dX5_ifBid_21 rfl (lv_at hl 1 rfl) ?_
      refine lv_iload hx hb dX5_ifBid_22 (lv_at hl 0 rfl) ?_
      refine lv_if_ne (tgt := 31) hx hb dX5_ifBid_24 (by decide) (fun hc => absurd hc (by decide)) (fun _ => ?_)
      refine lv_iconst (v := 1) hx hb dX5_ifBid_27 (by decide) ?_
      refine lv_goto (tgt := 53) hx hb dX5_ifBid_28 (by decide) ?_
      refine kV_Mi (As := [.int 1]) (rest := []) ⟨hx, hb, hml, hown, hts⟩ (ok_X5_holds l D cI cJ a _ _ _ _ hw) (cwV 1 hts gX5_ifBid_X5_holds rfl rfl rfl (by decide +kernel) ⟨Nat.le_of_ble_eq_true rfl, Nat.le_of_ble_eq_true rfl⟩) hK hW hA 0 rfl rfl rfl hl.1 rfl (Nat.le_of_ble_eq_true rfl) dX5_ifBid_53 ⟨Nat.le_of_ble_eq_true rfl, Nat.le_of_ble_eq_true rfl⟩ (fun r_7 σ_8 H locs hw hW => ?_)
      refine lv_if_eq (tgt := 71) hx hb dX5_ifBid_56 (by decide) (fun hc => ?_) (fun hc => ?_)
      · have hw := hw.1 hc
        refine lv_iconst (v := 0) hx hb dX5_ifBid_71 (by decide) ?_
        exact hret _ σ_8 _ _ _ _ hw hW dX5_ifBid_72
      · have hw := hw.2 hc
        refine lv_aload_n hx hb dX5_ifBid_59 rfl (lv_at hl 1 rfl) ?_
        refine lv_iload_n hx hb dX5_ifBid_60 rfl (lv_at hl 2 rfl) ?_
        refine lv_iload_n hx hb dX5_ifBid_61 rfl (lv_at hl 3 rfl) ?_
        refine lv_iload_n hx hb dX5_ifBid_62 rfl (lv_at hl 4 rfl) ?_
        refine lv_iload hx hb dX5_ifBid_63 (lv_at hl 5 rfl) ?_
        refine kV_Mi (As := [.int p1, .int p2, .int p3, .int p4]) (rest := []) ⟨hx, hb, hml, hown, hts⟩ (ok_X5_wouldBid l D cI cJ a _ _ _ _ _ _ _ hw) (cwV 4 hts gX5_ifBid_X5_wouldBid rfl rfl rfl (by decide +kernel) ⟨Nat.le_of_ble_eq_true rfl, Nat.le_of_ble_eq_true rfl⟩) hK hW hA 0 rfl rfl rfl hl.1 rfl (Nat.le_of_ble_eq_true rfl) dX5_ifBid_65 ⟨Nat.le_of_ble_eq_true rfl, Nat.le_of_ble_eq_true rfl⟩ (fun r_9 σ_10 H locs hw hW => ?_)
        refine lv_goto (tgt := 72) hx hb dX5_ifBid_68 (by decide) ?_
        exact hret _ σ_10 _ _ _ _ hw hW dX5_ifBid_72
    · have hw := hw.2 hc
      refine lv_iconst (v := 1) hx hb dX5_ifBid_14 (by decide) ?_
      refine lv_goto (tgt := 19) hx hb dX5_ifBid_15 (by decide) ?_
      refine lv_istore (lv' := [(5, .int 1), (0, .ref (a 0)), (1, .int p1), (2, .int p2), (3, .int p3), (4, .int p4)]) hx hb dX5_ifBid_19 hl (by decide) rfl (fun ls hl => ?_)
      refine lv_aload_n hx hb dX5_ifBid_21 rfl (lv_at hl 1 rfl) ?_
      refine lv_iload hx hb dX5_ifBid_22 (lv_at hl 0 rfl) ?_
      refine lv_if_ne (tgt := 31) hx hb dX5_ifBid_24 (by decide) (fun _ => ?_) (fun hc => absurd hc (by decide))
      refine lv_iload_n hx hb dX5_ifBid_31 rfl (lv_at hl 4 rfl) ?_
      refine kS_Pi (As := [.int p3]) (rest := [.ref (a 0)]) ⟨hx, hb, hml, hown, hts⟩ (ok_X5_isAmount l _ _ hw) (va_cwS 1 hts gX5_ifBid_X5_isAmount rfl rfl rfl (by decide +kernel) ⟨Nat.le_of_ble_eq_true rfl, Nat.le_of_ble_eq_true rfl⟩) hW.2.2 rfl hl.1 rfl (Nat.le_of_ble_eq_true rfl) dX5_ifBid_32 ⟨Nat.le_of_ble_eq_true rfl, Nat.le_of_ble_eq_true rfl⟩ (fun r_11 H locs hw hk hS => ?_)
      have hW := hW.kept hk hS
      refine lv_if_eq (tgt := 48) hx hb dX5_ifBid_35 (by decide) (fun hc => ?_) (fun hc => ?_)
      · have hw := hw.1 hc
        refine lv_iconst (v := 2) hx hb dX5_ifBid_48 (by decide) ?_
        refine lv_goto (tgt := 53) hx hb dX5_ifBid_49 (by decide) ?_
        refine kV_Mi (As := [.int 2]) (rest := []) ⟨hx, hb, hml, hown, hts⟩ (ok_X5_holds l D cI cJ a _ _ _ _ hw) (cwV 1 hts gX5_ifBid_X5_holds rfl rfl rfl (by decide +kernel) ⟨Nat.le_of_ble_eq_true rfl, Nat.le_of_ble_eq_true rfl⟩) hK hW hA 0 rfl rfl rfl hl.1 rfl (Nat.le_of_ble_eq_true rfl) dX5_ifBid_53 ⟨Nat.le_of_ble_eq_true rfl, Nat.le_of_ble_eq_true rfl⟩ (fun r_12 σ_13 H locs hw hW => ?_)
        refine lv_if_eq (tgt := 71) hx hb dX5_ifBid_56 (by decide) (fun hc => ?_) (fun hc => ?_)
        · have hw := hw.1 hc
          refine lv_iconst (v := 0) hx hb dX5_ifBid_71 (by decide) ?_
          exact hret _ σ_13 _ _ _ _ hw hW dX5_ifBid_72
        · have hw := hw.2 hc
          refine lv_aload_n hx hb dX5_ifBid_59 rfl (lv_at hl 1 rfl) ?_
          refine lv_iload_n hx hb dX5_ifBid_60 rfl (lv_at hl 2 rfl) ?_
          refine lv_iload_n hx hb dX5_ifBid_61 rfl (lv_at hl 3 rfl) ?_
          refine lv_iload_n hx hb dX5_ifBid_62 rfl (lv_at hl 4 rfl) ?_
          refine lv_iload hx hb dX5_ifBid_63 (lv_at hl 5 rfl) ?_
          refine kV_Mi (As := [.int p1, .int p2, .int p3, .int p4]) (rest := []) ⟨hx, hb, hml, hown, hts⟩ (ok_X5_wouldBid l D cI cJ a _ _ _ _ _ _ _ hw) (cwV 4 hts gX5_ifBid_X5_wouldBid rfl rfl rfl (by decide +kernel) ⟨Nat.le_of_ble_eq_true rfl, Nat.le_of_ble_eq_true rfl⟩) hK hW hA 0 rfl rfl rfl hl.1 rfl (Nat.le_of_ble_eq_true rfl) dX5_ifBid_65 ⟨Nat.le_of_ble_eq_true rfl, Nat.le_of_ble_eq_true rfl⟩ (fun r_14 σ_15 H locs hw hW => ?_)
          refine lv_goto (tgt := 72) hx hb dX5_ifBid_68 (by decide) ?_
          exact hret _ σ_15 _ _ _ _ hw hW dX5_ifBid_72
      · have hw := hw.2 hc
        refine lv_iload hx hb dX5_ifBid_38 (lv_at hl 5 rfl) ?_
        refine lv_iconst (v := 0) hx hb dX5_ifBid_40 (by decide) ?_
        refine lv_iconst (v := 1) hx hb dX5_ifBid_41 (by decide) ?_
        refine kS_Pi (As := [.int p4, .int 0, .int 1]) (rest := [.ref (a 0)]) ⟨hx, hb, hml, hown, hts⟩ (ok_X5_in l _ _ _ _ hw) (va_cwS 3 hts gX5_ifBid_X5_in rfl rfl rfl (by decide +kernel) ⟨Nat.le_of_ble_eq_true rfl, Nat.le_of_ble_eq_true rfl⟩) hW.2.2 rfl hl.1 rfl (Nat.le_of_ble_eq_true rfl) dX5_ifBid_42 ⟨Nat.le_of_ble_eq_true rfl, Nat.le_of_ble_eq_true rfl⟩ (fun r_16 H locs hw hk hS => ?_)
        have hW := hW.kept hk hS
        refine lv_if_ne (tgt := 52) hx hb dX5_ifBid_45 (by decide) (fun hc => ?_) (fun hc => ?_)
        · have hw := hw.1 hc
          refine lv_iconst (v := 0) hx hb dX5_ifBid_52 (by decide) ?_
          refine kV_Mi (As := [.int 0]) (rest := []) ⟨hx, hb, hml, hown, hts⟩ (ok_X5_holds l D cI cJ a _ _ _ _ hw) (cwV 1 hts gX5_ifBid_X5_holds rfl rfl rfl (by decide +kernel) ⟨Nat.le_of_ble_eq_true rfl, Nat.le_of_ble_eq_true rfl⟩) hK hW hA 0 rfl rfl rfl hl.1 rfl (Nat.le_of_ble_eq_true rfl) dX5_ifBid_53 ⟨Nat.le_of_ble_eq_true rfl, Nat.le_of_ble_eq_true rfl⟩ (fun r_17 σ_18 H locs hw hW => ?_)
          refine lv_if_eq (tgt := 71) hx hb dX5_ifBid_56 (by decide) (fun hc => ?_) (fun hc => ?_)
          · have hw := hw.1 hc
            refine lv_iconst (v := 0) hx hb dX5_ifBid_71 (by decide) ?_
            exact hret _ σ_18 _ _ _ _ hw hW dX5_ifBid_72
          · have hw := hw.2 hc
            refine lv_aload_n hx hb dX5_ifBid_59 rfl (lv_at hl 1 rfl) ?_
            refine lv_iload_n hx hb dX5_ifBid_60 rfl (lv_at hl 2 rfl) ?_
            refine lv_iload_n hx hb dX5_ifBid_61 rfl (lv_at hl 3 rfl) ?_
            refine lv_iload_n hx hb dX5_ifBid_62 rfl (lv_at hl 4 rfl) ?_
            refine lv_iload hx hb dX5_ifBid_63 (lv_at hl 5 rfl) ?_
            refine kV_Mi (As := [.int p1, .int p2, .int p3, .int p4]) (rest := []) ⟨hx, hb, hml, hown, hts⟩ (ok_X5_wouldBid l D cI cJ a _ _ _ _ _ _ _ hw) (cwV 4 hts gX5_ifBid_X5_wouldBid rfl rfl rfl (by decide +kernel) ⟨Nat.le_of_ble_eq_true rfl, Nat.le_of_ble_eq_true rfl⟩) hK hW hA 0 rfl rfl rfl hl.1 rfl (Nat.le_of_ble_eq_true rfl) dX5_ifBid_65 ⟨Nat.le_of_ble_eq_true rfl, Nat.le_of_ble_eq_true rfl⟩ (fun r_19 σ_20 H locs hw hW => ?_)
            refine lv_goto (tgt := 72) hx hb dX5_ifBid_68 (by decide) ?_
            exact hret _ σ_20 _ _ _ _ hw hW dX5_ifBid_72
        · have hw := hw.2 hc
          refine lv_iconst (v := 2) hx hb dX5_ifBid_48 (by decide) ?_
          refine lv_goto (tgt := 53) hx hb dX5_ifBid_49 (by decide) ?_
          refine kV_Mi (As := [.int 2]) (rest := []) ⟨hx, hb, hml, hown, hts⟩ (ok_X5_holds l D cI cJ a _ _ _ _ hw) (cwV 1 hts gX5_ifBid_X5_holds rfl rfl rfl (by decide +kernel) ⟨Nat.le_of_ble_eq_true rfl, Nat.le_of_ble_eq_true rfl⟩) hK hW hA 0 rfl rfl rfl hl.1 rfl (Nat.le_of_ble_eq_true rfl) dX5_ifBid_53 ⟨Nat.le_of_ble_eq_true rfl, Nat.le_of_ble_eq_true rfl⟩ (fun r_21 σ_22 H locs hw hW => ?_)
          refine lv_if_eq (tgt := 71) hx hb dX5_ifBid_56 (by decide) (fun hc => ?_) (fun hc => ?_)
          · have hw := hw.1 hc
            refine lv_iconst (v := 0) hx hb dX5_ifBid_71 (by decide) ?_
            exact hret _ σ_22 _ _ _ _ hw hW dX5_ifBid_72
          · have hw := hw.2 hc
            refine lv_aload_n hx hb dX5_ifBid_59 rfl (lv_at hl 1 rfl) ?_
            refine lv_iload_n hx hb dX5_ifBid_60 rfl (lv_at hl 2 rfl) ?_
            refine lv_iload_n hx hb dX5_ifBid_61 rfl (lv_at hl 3 rfl) ?_
            refine lv_iload_n hx hb dX5_ifBid_62 rfl (lv_at hl 4 rfl) ?_
            refine lv_iload hx hb dX5_ifBid_63 (lv_at hl 5 rfl) ?_
            refine kV_Mi (As := [.int p1, .int p2, .int p3, .int p4]) (rest := []) ⟨hx, hb, hml, hown, hts⟩ (ok_X5_wouldBid l D cI cJ a _ _ _ _ _ _ _ hw) (cwV 4 hts gX5_ifBid_X5_wouldBid rfl rfl rfl (by decide +kernel) ⟨Nat.le_of_ble_eq_true rfl, Nat.le_of_ble_eq_true rfl⟩) hK hW hA 0 rfl rfl rfl hl.1 rfl (Nat.le_of_ble_eq_true rfl) dX5_ifBid_65 ⟨Nat.le_of_ble_eq_true rfl, Nat.le_of_ble_eq_true rfl⟩ (fun r_23 σ_24 H locs hw hW => ?_)
            refine lv_goto (tgt := 72) hx hb dX5_ifBid_68 (by decide) ?_
            exact hret _ σ_24 _ _ _ _ hw hW dX5_ifBid_72
def wp_X5_leastOf (σ : MS) (p1 : Int32) (p2 : Int32) (post : Int32 → MS → Prop) : Prop := ∃ I1 : Nat → Int32 → MS → Prop, (∃ n : Nat, I1 n 1 (σ)) ∧ ∀ (n1 : Nat) (v3_1 : Int32) (σ_1 : MS), I1 n1 v3_1 σ_1 → ((99 < v3_1 → post (-1) σ_1) ∧ (¬ 99 < v3_1 → wp_X5_wouldBid σ_1 p1 p2 v3_1 0 (fun r_2 σ_3 => ((¬ r_2 = p2 → ∀ v3_4 : Int32, v3_4 = v3_1 + 1 → ∃ n' : Nat, n' < n1 ∧ I1 n' v3_4 (σ_3)) ∧ (r_2 = p2 → post v3_1 σ_3)))))
abbrev rm_X5_leastOf : Room := { frames := 8, cells := 0, slots := 0, locals := 187 }
set_option maxHeartbeats 4000000 in
set_option maxRecDepth 100000 in
theorem ok_X5_leastOf (l : Launch) (D : va_G) (cI cJ : ClassId) (a : Nat → Nat) (sz : Nat) (σ : MS) (p1 : Int32) (p2 : Int32) (post : Int32 → MS → Prop) (hw : wp_X5_leastOf σ p1 p2 post) : Mi l yX5_leastOf wsX5_leastOf rm_X5_leastOf [.ref (a 0), .int p1, .int p2] D (tysIJ cI cJ) (mW cI cJ a σ) sz post (mW cI cJ a) := by
  refine s_Mi (by decide) rfl (Nat.le_of_ble_eq_true rfl) ?_
  intro p e s m args below meth c A Q hx hb hml hts hown hin hK hA hret H locs ls hW hl
  have hown : s.vm.findClass RX5 = some m.cls := hown
  have hl : lv_has ls 4 [(0, .ref (a 0)), (1, .int p1), (2, .int p2)] := hl
  refine lv_iconst (v := 1) hx hb dX5_leastOf_0 (by decide) ?_
  refine lv_istore_n (lv' := [(3, .int 1), (0, .ref (a 0)), (1, .int p1), (2, .int p2)]) hx hb dX5_leastOf_1 rfl hl (by decide) rfl (fun ls hl => ?_)
  obtain ⟨I1, ⟨n1, hI1⟩, hJ1⟩ := hw
  have hl : lv_has ls 4 [(0, .ref (a 0)), (1, .int p1), (2, .int p2), (3, .int 1)] := lv_sub hl [1, 2, 3, 0] rfl
  suffices LP1 : ∀ (n : Nat) (v3_1 : Int32) (σ_1 : MS) (H : Heap) (locs : List Loc) (ls : Array Slot), I1 n v3_1 σ_1 → Wd D A s.heap (mW cI cJ a σ_1) H locs → lv_has ls 4 [(0, .ref (a 0)), (1, .int p1), (2, .int p2), (3, .int v3_1)] → W p l e rm_X5_leastOf s m args below meth c H locs 0 0 Q (F0 m 2 ls []) from LP1 n1 1 _ H locs ls hI1 hW hl
  intro n1
  induction n1 using Nat.strongRecOn with
  | ind n1 ih1 =>
    intro v3_1 σ_1 H locs ls hIn hW hl
    have hw := hJ1 n1 v3_1 σ_1 hIn
    refine lv_iload_n hx hb dX5_leastOf_2 rfl (lv_at hl 3 rfl) ?_
    refine lv_bipush (v := 99) hx hb dX5_leastOf_3 (by decide) ?_
    refine lv_icmp_gt (tgt := 28) hx hb dX5_leastOf_5 (by decide) (fun hc => ?_) (fun hc => ?_)
    · have hw := hw.1 hc
      refine lv_iconst (v := (-1)) hx hb dX5_leastOf_28 (by decide) ?_
      exact hret _ σ_1 _ _ _ _ hw hW dX5_leastOf_29
    · have hw := hw.2 hc
      refine lv_aload_n hx hb dX5_leastOf_8 rfl (lv_at hl 0 rfl) ?_
      refine lv_iload_n hx hb dX5_leastOf_9 rfl (lv_at hl 1 rfl) ?_
      refine lv_iload_n hx hb dX5_leastOf_10 rfl (lv_at hl 2 rfl) ?_
      refine lv_iload_n hx hb dX5_leastOf_11 rfl (lv_at hl 3 rfl) ?_
      refine lv_iconst (v := 0) hx hb dX5_leastOf_12 (by decide) ?_
      refine kV_Mi (As := [.int p1, .int p2, .int v3_1, .int 0]) (rest := []) ⟨hx, hb, hml, hown, hts⟩ (ok_X5_wouldBid l D cI cJ a _ _ _ _ _ _ _ hw) (cwV 4 hts gX5_leastOf_X5_wouldBid rfl rfl rfl (by decide +kernel) ⟨Nat.le_of_ble_eq_true rfl, Nat.le_of_ble_eq_true rfl⟩) hK hW hA 0 rfl rfl rfl hl.1 rfl (Nat.le_of_ble_eq_true rfl) dX5_leastOf_13 ⟨Nat.le_of_ble_eq_true rfl, Nat.le_of_ble_eq_true rfl⟩ (fun r_2 σ_3 H locs hw hW => ?_)
      refine lv_iload_n hx hb dX5_leastOf_16 rfl (lv_at hl 2 rfl) ?_
      refine lv_icmp_ne (tgt := 22) hx hb dX5_leastOf_17 (by decide) (fun hc => ?_) (fun hc => ?_)
      · have hw := hw.1 hc
        obtain ⟨v3_4, ev3_4⟩ : ∃ y : Int32, y = v3_1 + 1 := ⟨_, rfl⟩
        have hw := hw v3_4 ev3_4
        refine lv_iinc (v := v3_4) (lv' := [(3, .int v3_4), (0, .ref (a 0)), (1, .int p1), (2, .int p2)]) hx hb dX5_leastOf_22 hl (k := 3) rfl (by rw [ev3_4]; rfl) (by decide) rfl (fun ls hl => ?_)
        refine lv_goto (tgt := 2) hx hb dX5_leastOf_25 (by decide) ?_
        obtain ⟨n9, hlt9, hI9⟩ := hw
        exact ih1 n9 hlt9 _ _ _ _ _ hI9 hW (lv_sub hl [1, 2, 3, 0] rfl)
      · have hw := hw.2 hc
        refine lv_iload_n hx hb dX5_leastOf_20 rfl (lv_at hl 3 rfl) ?_
        exact hret _ σ_3 _ _ _ _ hw hW dX5_leastOf_21
def wp_X5_least (σ : MS) (p1 : Int32) (p2 : Int32) (post : Int32 → MS → Prop) : Prop := wp_X5_isOne p1 (fun r_1 => ((r_1 = 0 → wp_X5_holds σ 1 (fun r_2 σ_3 => ((r_2 = 0 → post 0 σ_3) ∧ (¬ r_2 = 0 → wp_X5_leastOf σ_3 p1 p2 (fun r_4 σ_5 => post r_4 σ_5))))) ∧ (¬ r_1 = 0 → wp_X5_isOne p2 (fun r_6 => ((r_6 = 0 → wp_X5_holds σ 1 (fun r_7 σ_8 => ((r_7 = 0 → post 0 σ_8) ∧ (¬ r_7 = 0 → wp_X5_leastOf σ_8 p1 p2 (fun r_9 σ_10 => post r_9 σ_10))))) ∧ (¬ r_6 = 0 → wp_X5_holds σ 0 (fun r_11 σ_12 => ((r_11 = 0 → post 0 σ_12) ∧ (¬ r_11 = 0 → wp_X5_leastOf σ_12 p1 p2 (fun r_13 σ_14 => post r_13 σ_14))))))))))
abbrev rm_X5_least : Room := { frames := 9, cells := 0, slots := 0, locals := 210 }
set_option maxHeartbeats 4000000 in
set_option maxRecDepth 100000 in
theorem ok_X5_least (l : Launch) (D : va_G) (cI cJ : ClassId) (a : Nat → Nat) (sz : Nat) (σ : MS) (p1 : Int32) (p2 : Int32) (post : Int32 → MS → Prop) (hw : wp_X5_least σ p1 p2 post) : Mi l yX5_least wsX5_least rm_X5_least [.ref (a 0), .int p1, .int p2] D (tysIJ cI cJ) (mW cI cJ a σ) sz post (mW cI cJ a) := by
  refine s_Mi (by decide) rfl (Nat.le_of_ble_eq_true rfl) ?_
  intro p e s m args below meth c A Q hx hb hml hts hown hin hK hA hret H locs ls hW hl
  have hown : s.vm.findClass RX5 = some m.cls := hown
  have hl : lv_has ls 3 [(0, .ref (a 0)), (1, .int p1), (2, .int p2)] := hl
  refine lv_aload_n hx hb dX5_least_0 rfl (lv_at hl 0 rfl) ?_
  refine lv_iload_n hx hb dX5_least_1 rfl (lv_at hl 1 rfl) ?_
  refine kS_Pi (As := [.int p1]) (rest := [.ref (a 0)]) ⟨hx, hb, hml, hown, hts⟩ (ok_X5_isOne l _ _ hw) (va_cwS 1 hts gX5_least_X5_isOne rfl rfl rfl (by decide +kernel) ⟨Nat.le_of_ble_eq_true rfl, Nat.le_of_ble_eq_true rfl⟩) hW.2.2 rfl hl.1 rfl (Nat.le_of_ble_eq_true rfl) dX5_least_2 ⟨Nat.le_of_ble_eq_true rfl, Nat.le_of_ble_eq_true rfl⟩ (fun r_1 H locs hw hk hS => ?_)
  have hW := hW.kept hk hS
  refine lv_if_eq (tgt := 19) hx hb dX5_least_5 (by decide) (fun hc => ?_) (fun hc => ?_)
  · have hw := hw.1 hc
    refine lv_iconst (v := 1) hx hb dX5_least_19 (by decide) ?_
    refine kV_Mi (As := [.int 1]) (rest := []) ⟨hx, hb, hml, hown, hts⟩ (ok_X5_holds l D cI cJ a _ _ _ _ hw) (cwV 1 hts gX5_least_X5_holds rfl rfl rfl (by decide +kernel) ⟨Nat.le_of_ble_eq_true rfl, Nat.le_of_ble_eq_true rfl⟩) hK hW hA 0 rfl rfl rfl hl.1 rfl (Nat.le_of_ble_eq_true rfl) dX5_least_20 ⟨Nat.le_of_ble_eq_true rfl, Nat.le_of_ble_eq_true rfl⟩ (fun r_2 σ_3 H locs hw hW => ?_)
    refine lv_if_eq (tgt := 35) hx hb dX5_least_23 (by decide) (fun hc => ?_) (fun hc => ?_)
    · have hw := hw.1 hc
      refine lv_iconst (v := 0) hx hb dX5_least_35 (by decide) ?_
      exact hret _ σ_3 _ _ _ _ hw hW dX5_least_36
    · have hw := hw.2 hc
      refine lv_aload_n hx hb dX5_least_26 rfl (lv_at hl 0 rfl) ?_
      refine lv_iload_n hx hb dX5_least_27 rfl (lv_at hl 1 rfl) ?_
      refine lv_iload_n hx hb dX5_least_28 rfl (lv_at hl 2 rfl) ?_
      refine kV_Mi (As := [.int p1, .int p2]) (rest := []) ⟨hx, hb, hml, hown, hts⟩ (ok_X5_leastOf l D cI cJ a _ _ _ _ _ hw) (cwV 2 hts gX5_least_X5_leastOf rfl rfl rfl (by decide +kernel) ⟨Nat.le_of_ble_eq_true rfl, Nat.le_of_ble_eq_true rfl⟩) hK hW hA 0 rfl rfl rfl hl.1 rfl (Nat.le_of_ble_eq_true rfl) dX5_least_29 ⟨Nat.le_of_ble_eq_true rfl, Nat.le_of_ble_eq_true rfl⟩ (fun r_4 σ_5 H locs hw hW => ?_)
      refine lv_goto (tgt := 36) hx hb dX5_least_32 (by decide) ?_
      exact hret _ σ_5 _ _ _ _ hw hW dX5_least_36
  · have hw := hw.2 hc
    refine lv_iload_n hx hb dX5_least_8 rfl (lv_at hl 2 rfl) ?_
    refine kS_Pi (As := [.int p2]) (rest := [.ref (a 0)]) ⟨hx, hb, hml, hown, hts⟩ (ok_X5_isOne l _ _ hw) (va_cwS 1 hts gX5_least_X5_isOne rfl rfl rfl (by decide +kernel) ⟨Nat.le_of_ble_eq_true rfl, Nat.le_of_ble_eq_true rfl⟩) hW.2.2 rfl hl.1 rfl (Nat.le_of_ble_eq_true rfl) dX5_least_9 ⟨Nat.le_of_ble_eq_true rfl, Nat.le_of_ble_eq_true rfl⟩ (fun r_6 H locs hw hk hS => ?_)
    have hW := hW.kept hk hS
    refine lv_if_eq (tgt := 19) hx hb dX5_least_12 (by decide) (fun hc => ?_) (fun hc => ?_)
    · have hw := hw.1 hc
      refine lv_iconst (v := 1) hx hb dX5_least_19 (by decide) ?_
      refine kV_Mi (As := [.int 1]) (rest := []) ⟨hx, hb, hml, hown, hts⟩ (ok_X5_holds l D cI cJ a _ _ _ _ hw) (cwV 1 hts gX5_least_X5_holds rfl rfl rfl (by decide +kernel) ⟨Nat.le_of_ble_eq_true rfl, Nat.le_of_ble_eq_true rfl⟩) hK hW hA 0 rfl rfl rfl hl.1 rfl (Nat.le_of_ble_eq_true rfl) dX5_least_20 ⟨Nat.le_of_ble_eq_true rfl, Nat.le_of_ble_eq_true rfl⟩ (fun r_7 σ_8 H locs hw hW => ?_)
      refine lv_if_eq (tgt := 35) hx hb dX5_least_23 (by decide) (fun hc => ?_) (fun hc => ?_)
      · have hw := hw.1 hc
        refine lv_iconst (v := 0) hx hb dX5_least_35 (by decide) ?_
        exact hret _ σ_8 _ _ _ _ hw hW dX5_least_36
      · have hw := hw.2 hc
        refine lv_aload_n hx hb dX5_least_26 rfl (lv_at hl 0 rfl) ?_
        refine lv_iload_n hx hb dX5_least_27 rfl (lv_at hl 1 rfl) ?_
        refine lv_iload_n hx hb dX5_least_28 rfl (lv_at hl 2 rfl) ?_
        refine kV_Mi (As := [.int p1, .int p2]) (rest := []) ⟨hx, hb, hml, hown, hts⟩ (ok_X5_leastOf l D cI cJ a _ _ _ _ _ hw) (cwV 2 hts gX5_least_X5_leastOf rfl rfl rfl (by decide +kernel) ⟨Nat.le_of_ble_eq_true rfl, Nat.le_of_ble_eq_true rfl⟩) hK hW hA 0 rfl rfl rfl hl.1 rfl (Nat.le_of_ble_eq_true rfl) dX5_least_29 ⟨Nat.le_of_ble_eq_true rfl, Nat.le_of_ble_eq_true rfl⟩ (fun r_9 σ_10 H locs hw hW => ?_)
        refine lv_goto (tgt := 36) hx hb dX5_least_32 (by decide) ?_
        exact hret _ σ_10 _ _ _ _ hw hW dX5_least_36
    · have hw := hw.2 hc
      refine lv_iconst (v := 0) hx hb dX5_least_15 (by decide) ?_
      refine lv_goto (tgt := 20) hx hb dX5_least_16 (by decide) ?_
      refine kV_Mi (As := [.int 0]) (rest := []) ⟨hx, hb, hml, hown, hts⟩ (ok_X5_holds l D cI cJ a _ _ _ _ hw) (cwV 1 hts gX5_least_X5_holds rfl rfl rfl (by decide +kernel) ⟨Nat.le_of_ble_eq_true rfl, Nat.le_of_ble_eq_true rfl⟩) hK hW hA 0 rfl rfl rfl hl.1 rfl (Nat.le_of_ble_eq_true rfl) dX5_least_20 ⟨Nat.le_of_ble_eq_true rfl, Nat.le_of_ble_eq_true rfl⟩ (fun r_11 σ_12 H locs hw hW => ?_)
      refine lv_if_eq (tgt := 35) hx hb dX5_least_23 (by decide) (fun hc => ?_) (fun hc => ?_)
      · have hw := hw.1 hc
        refine lv_iconst (v := 0) hx hb dX5_least_35 (by decide) ?_
        exact hret _ σ_12 _ _ _ _ hw hW dX5_least_36
      · have hw := hw.2 hc
        refine lv_aload_n hx hb dX5_least_26 rfl (lv_at hl 0 rfl) ?_
        refine lv_iload_n hx hb dX5_least_27 rfl (lv_at hl 1 rfl) ?_
        refine lv_iload_n hx hb dX5_least_28 rfl (lv_at hl 2 rfl) ?_
        refine kV_Mi (As := [.int p1, .int p2]) (rest := []) ⟨hx, hb, hml, hown, hts⟩ (ok_X5_leastOf l D cI cJ a _ _ _ _ _ hw) (cwV 2 hts gX5_least_X5_leastOf rfl rfl rfl (by decide +kernel) ⟨Nat.le_of_ble_eq_true rfl, Nat.le_of_ble_eq_true rfl⟩) hK hW hA 0 rfl rfl rfl hl.1 rfl (Nat.le_of_ble_eq_true rfl) dX5_least_29 ⟨Nat.le_of_ble_eq_true rfl, Nat.le_of_ble_eq_true rfl⟩ (fun r_13 σ_14 H locs hw hW => ?_)
        refine lv_goto (tgt := 36) hx hb dX5_least_32 (by decide) ?_
        exact hret _ σ_14 _ _ _ _ hw hW dX5_least_36
def wp_X5_keen (σ : MS) (post : Int32 → MS → Prop) : Prop := wp_X5_worthOf σ 0 (fun r_1 σ_2 => ∃ I3 : Nat → Int32 → Int32 → Int32 → MS → Prop, (∃ n : Nat, I3 n 0 r_1 1 (σ_2)) ∧ ∀ (n3 : Nat) (v1_3 : Int32) (v2_3 : Int32) (v3_3 : Int32) (σ_3 : MS), I3 n3 v1_3 v2_3 v3_3 σ_3 → ((6 ≤ v3_3 → post v1_3 σ_3) ∧ (¬ 6 ≤ v3_3 → wp_X5_worthOf σ_3 v3_3 (fun r_4 σ_5 => ((v2_3 ≤ r_4 → ((v2_3 ≤ r_4 → ∀ v3_6 : Int32, v3_6 = v3_3 + 1 → ∃ n' : Nat, n' < n3 ∧ I3 n' v1_3 v2_3 v3_6 (σ_5)) ∧ (¬ v2_3 ≤ r_4 → ∀ v3_7 : Int32, v3_7 = v3_3 + 1 → ∃ n' : Nat, n' < n3 ∧ I3 n' v1_3 r_4 v3_7 (σ_5)))) ∧ (¬ v2_3 ≤ r_4 → ((v2_3 ≤ r_4 → ∀ v3_8 : Int32, v3_8 = v3_3 + 1 → ∃ n' : Nat, n' < n3 ∧ I3 n' v3_3 v2_3 v3_8 (σ_5)) ∧ (¬ v2_3 ≤ r_4 → ∀ v3_9 : Int32, v3_9 = v3_3 + 1 → ∃ n' : Nat, n' < n3 ∧ I3 n' v3_3 r_4 v3_9 (σ_5)))))))))
abbrev rm_X5_keen : Room := { frames := 6, cells := 0, slots := 0, locals := 138 }
set_option maxHeartbeats 4000000 in
set_option maxRecDepth 100000 in
theorem ok_X5_keen (l : Launch) (D : va_G) (cI cJ : ClassId) (a : Nat → Nat) (sz : Nat) (σ : MS) (post : Int32 → MS → Prop) (hw : wp_X5_keen σ post) : Mi l yX5_keen wsX5_keen rm_X5_keen [.ref (a 0)] D (tysIJ cI cJ) (mW cI cJ a σ) sz post (mW cI cJ a) := by
  refine s_Mi (by decide) rfl (Nat.le_of_ble_eq_true rfl) ?_
  intro p e s m args below meth c A Q hx hb hml hts hown hin hK hA hret H locs ls hW hl
  have hown : s.vm.findClass RX5 = some m.cls := hown
  have hl : lv_has ls 5 [(0, .ref (a 0))] := hl
  refine lv_iconst (v := 0) hx hb dX5_keen_0 (by decide) ?_
  refine lv_istore_n (lv' := [(1, .int 0), (0, .ref (a 0))]) hx hb dX5_keen_1 rfl hl (by decide) rfl (fun ls hl => ?_)
  refine lv_aload_n hx hb dX5_keen_2 rfl (lv_at hl 1 rfl) ?_
  refine lv_iconst (v := 0) hx hb dX5_keen_3 (by decide) ?_
  refine kV_Mi (As := [.int 0]) (rest := []) ⟨hx, hb, hml, hown, hts⟩ (ok_X5_worthOf l D cI cJ a _ _ _ _ hw) (cwV 1 hts gX5_keen_X5_worthOf rfl rfl rfl (by decide +kernel) ⟨Nat.le_of_ble_eq_true rfl, Nat.le_of_ble_eq_true rfl⟩) hK hW hA 0 rfl rfl rfl hl.1 rfl (Nat.le_of_ble_eq_true rfl) dX5_keen_4 ⟨Nat.le_of_ble_eq_true rfl, Nat.le_of_ble_eq_true rfl⟩ (fun r_1 σ_2 H locs hw hW => ?_)
  refine lv_istore_n (lv' := [(2, .int r_1), (1, .int 0), (0, .ref (a 0))]) hx hb dX5_keen_7 rfl hl (by decide) rfl (fun ls hl => ?_)
  refine lv_iconst (v := 1) hx hb dX5_keen_8 (by decide) ?_
  refine lv_istore_n (lv' := [(3, .int 1), (2, .int r_1), (1, .int 0), (0, .ref (a 0))]) hx hb dX5_keen_9 rfl hl (by decide) rfl (fun ls hl => ?_)
  obtain ⟨I3, ⟨n3, hI3⟩, hJ3⟩ := hw
  have hl : lv_has ls 5 [(0, .ref (a 0)), (1, .int 0), (2, .int r_1), (3, .int 1)] := lv_sub hl [3, 2, 1, 0] rfl
  suffices LP3 : ∀ (n : Nat) (v1_3 : Int32) (v2_3 : Int32) (v3_3 : Int32) (σ_3 : MS) (H : Heap) (locs : List Loc) (ls : Array Slot), I3 n v1_3 v2_3 v3_3 σ_3 → Wd D A s.heap (mW cI cJ a σ_3) H locs → lv_has ls 5 [(0, .ref (a 0)), (1, .int v1_3), (2, .int v2_3), (3, .int v3_3)] → W p l e rm_X5_keen s m args below meth c H locs 0 0 Q (F0 m 10 ls []) from LP3 n3 0 r_1 1 _ H locs ls hI3 hW hl
  intro n3
  induction n3 using Nat.strongRecOn with
  | ind n3 ih3 =>
    intro v1_3 v2_3 v3_3 σ_3 H locs ls hIn hW hl
    have hw := hJ3 n3 v1_3 v2_3 v3_3 σ_3 hIn
    refine lv_iload_n hx hb dX5_keen_10 rfl (lv_at hl 3 rfl) ?_
    refine lv_bipush (v := 6) hx hb dX5_keen_11 (by decide) ?_
    refine lv_icmp_ge (tgt := 54) hx hb dX5_keen_13 (by decide) (fun hc => ?_) (fun hc => ?_)
    · have hw := hw.1 hc
      refine lv_iload_n hx hb dX5_keen_54 rfl (lv_at hl 1 rfl) ?_
      exact hret _ σ_3 _ _ _ _ hw hW dX5_keen_55
    · have hw := hw.2 hc
      refine lv_aload_n hx hb dX5_keen_16 rfl (lv_at hl 0 rfl) ?_
      refine lv_iload_n hx hb dX5_keen_17 rfl (lv_at hl 3 rfl) ?_
      refine kV_Mi (As := [.int v3_3]) (rest := []) ⟨hx, hb, hml, hown, hts⟩ (ok_X5_worthOf l D cI cJ a _ _ _ _ hw) (cwV 1 hts gX5_keen_X5_worthOf rfl rfl rfl (by decide +kernel) ⟨Nat.le_of_ble_eq_true rfl, Nat.le_of_ble_eq_true rfl⟩) hK hW hA 0 rfl rfl rfl hl.1 rfl (Nat.le_of_ble_eq_true rfl) dX5_keen_18 ⟨Nat.le_of_ble_eq_true rfl, Nat.le_of_ble_eq_true rfl⟩ (fun r_4 σ_5 H locs hw hW => ?_)
      refine lv_istore (lv' := [(4, .int r_4), (0, .ref (a 0)), (1, .int v1_3), (2, .int v2_3), (3, .int v3_3)]) hx hb dX5_keen_21 hl (by decide) rfl (fun ls hl => ?_)
      refine lv_iload hx hb dX5_keen_23 (lv_at hl 0 rfl) ?_
      refine lv_iload_n hx hb dX5_keen_25 rfl (lv_at hl 3 rfl) ?_
      refine lv_icmp_ge (tgt := 33) hx hb dX5_keen_26 (by decide) (fun hc => ?_) (fun hc => ?_)
      · have hw := hw.1 hc
        refine lv_iload_n hx hb dX5_keen_33 rfl (lv_at hl 2 rfl) ?_
        refine lv_istore_n (lv' := [(1, .int v1_3), (4, .int r_4), (0, .ref (a 0)), (2, .int v2_3), (3, .int v3_3)]) hx hb dX5_keen_34 rfl hl (by decide) rfl (fun ls hl => ?_)
        refine lv_iload hx hb dX5_keen_35 (lv_at hl 1 rfl) ?_
        refine lv_iload_n hx hb dX5_keen_37 rfl (lv_at hl 3 rfl) ?_
        refine lv_icmp_ge (tgt := 46) hx hb dX5_keen_38 (by decide) (fun hc => ?_) (fun hc => ?_)
        · have hw := hw.1 hc
          refine lv_iload_n hx hb dX5_keen_46 rfl (lv_at hl 3 rfl) ?_
          refine lv_istore_n (lv' := [(2, .int v2_3), (1, .int v1_3), (4, .int r_4), (0, .ref (a 0)), (3, .int v3_3)]) hx hb dX5_keen_47 rfl hl (by decide) rfl (fun ls hl => ?_)
          obtain ⟨v3_6, ev3_6⟩ : ∃ y : Int32, y = v3_3 + 1 := ⟨_, rfl⟩
          have hw := hw v3_6 ev3_6
          refine lv_iinc (v := v3_6) (lv' := [(3, .int v3_6), (2, .int v2_3), (1, .int v1_3), (4, .int r_4), (0, .ref (a 0))]) hx hb dX5_keen_48 hl (k := 4) rfl (by rw [ev3_6]; rfl) (by decide) rfl (fun ls hl => ?_)
          refine lv_goto (tgt := 10) hx hb dX5_keen_51 (by decide) ?_
          obtain ⟨n9, hlt9, hI9⟩ := hw
          exact ih3 n9 hlt9 _ _ _ _ _ _ _ hI9 hW (lv_sub hl [4, 2, 1, 0] rfl)
        · have hw := hw.2 hc
          refine lv_iload hx hb dX5_keen_41 (lv_at hl 1 rfl) ?_
          refine lv_goto (tgt := 47) hx hb dX5_keen_43 (by decide) ?_
          refine lv_istore_n (lv' := [(2, .int r_4), (1, .int v1_3), (4, .int r_4), (0, .ref (a 0)), (3, .int v3_3)]) hx hb dX5_keen_47 rfl hl (by decide) rfl (fun ls hl => ?_)
          obtain ⟨v3_7, ev3_7⟩ : ∃ y : Int32, y = v3_3 + 1 := ⟨_, rfl⟩
          have hw := hw v3_7 ev3_7
          refine lv_iinc (v := v3_7) (lv' := [(3, .int v3_7), (2, .int r_4), (1, .int v1_3), (4, .int r_4), (0, .ref (a 0))]) hx hb dX5_keen_48 hl (k := 4) rfl (by rw [ev3_7]; rfl) (by decide) rfl (fun ls hl => ?_)
          refine lv_goto (tgt := 10) hx hb dX5_keen_51 (by decide) ?_
          obtain ⟨n9, hlt9, hI9⟩ := hw
          exact ih3 n9 hlt9 _ _ _ _ _ _ _ hI9 hW (lv_sub hl [4, 2, 1, 0] rfl)
      · have hw := hw.2 hc
        refine lv_iload_n hx hb dX5_keen_29 rfl (lv_at hl 4 rfl) ?_
        refine lv_goto (tgt := 34) hx hb dX5_keen_30 (by decide) ?_
        refine lv_istore_n (lv' := [(1, .int v3_3), (4, .int r_4), (0, .ref (a 0)), (2, .int v2_3), (3, .int v3_3)]) hx hb dX5_keen_34 rfl hl (by decide) rfl (fun ls hl => ?_)
        refine lv_iload hx hb dX5_keen_35 (lv_at hl 1 rfl) ?_
        refine lv_iload_n hx hb dX5_keen_37 rfl (lv_at hl 3 rfl) ?_
        refine lv_icmp_ge (tgt := 46) hx hb dX5_keen_38 (by decide) (fun hc => ?_) (fun hc => ?_)
        · have hw := hw.1 hc
          refine lv_iload_n hx hb dX5_keen_46 rfl (lv_at hl 3 rfl) ?_
          refine lv_istore_n (lv' := [(2, .int v2_3), (1, .int v3_3), (4, .int r_4), (0, .ref (a 0)), (3, .int v3_3)]) hx hb dX5_keen_47 rfl hl (by decide) rfl (fun ls hl => ?_)
          obtain ⟨v3_8, ev3_8⟩ : ∃ y : Int32, y = v3_3 + 1 := ⟨_, rfl⟩
          have hw := hw v3_8 ev3_8
          refine lv_iinc (v := v3_8) (lv' := [(3, .int v3_8), (2, .int v2_3), (1, .int v3_3), (4, .int r_4), (0, .ref (a 0))]) hx hb dX5_keen_48 hl (k := 4) rfl (by rw [ev3_8]; rfl) (by decide) rfl (fun ls hl => ?_)
          refine lv_goto (tgt := 10) hx hb dX5_keen_51 (by decide) ?_
          obtain ⟨n9, hlt9, hI9⟩ := hw
          exact ih3 n9 hlt9 _ _ _ _ _ _ _ hI9 hW (lv_sub hl [4, 2, 1, 0] rfl)
        · have hw := hw.2 hc
          refine lv_iload hx hb dX5_keen_41 (lv_at hl 1 rfl) ?_
          refine lv_goto (tgt := 47) hx hb dX5_keen_43 (by decide) ?_
          refine lv_istore_n (lv' := [(2, .int r_4), (1, .int v3_3), (4, .int r_4), (0, .ref (a 0)), (3, .int v3_3)]) hx hb dX5_keen_47 rfl hl (by decide) rfl (fun ls hl => ?_)
          obtain ⟨v3_9, ev3_9⟩ : ∃ y : Int32, y = v3_3 + 1 := ⟨_, rfl⟩
          have hw := hw v3_9 ev3_9
          refine lv_iinc (v := v3_9) (lv' := [(3, .int v3_9), (2, .int r_4), (1, .int v3_3), (4, .int r_4), (0, .ref (a 0))]) hx hb dX5_keen_48 hl (k := 4) rfl (by rw [ev3_9]; rfl) (by decide) rfl (fun ls hl => ?_)
          refine lv_goto (tgt := 10) hx hb dX5_keen_51 (by decide) ?_
          obtain ⟨n9, hlt9, hI9⟩ := hw
          exact ih3 n9 hlt9 _ _ _ _ _ _ _ hI9 hW (lv_sub hl [4, 2, 1, 0] rfl)
def wp_X5_keenest (σ : MS) (post : Int32 → MS → Prop) : Prop := ∀ σ_1 : MS, σ_1 = ms_thrown σ 0 → wp_X5_keen σ_1 (fun r_2 σ_3 => post r_2 σ_3)
abbrev rm_X5_keenest : Room := { frames := 7, cells := 0, slots := 0, locals := 162 }
theorem in_X5_keenest_X5 : ∀ w ∈ wsX50, w ∈ wsX5_keenest := fun w h => List.mem_cons_of_mem _ (List.mem_append_right _ (h))
set_option maxHeartbeats 4000000 in
set_option maxRecDepth 100000 in
theorem ok_X5_keenest (l : Launch) (D : va_G) (cI cJ : ClassId) (a : Nat → Nat) (sz : Nat) (σ : MS) (post : Int32 → MS → Prop) (hw : wp_X5_keenest σ post) : Mi l yX5_keenest wsX5_keenest rm_X5_keenest [.ref (a 0)] D (tysIJ cI cJ) (mW cI cJ a σ) sz post (mW cI cJ a) := by
  refine s_Mi (by decide) rfl (Nat.le_of_ble_eq_true rfl) ?_
  intro p e s m args below meth c A Q hx hb hml hts hown hin hK hA hret H locs ls hW hl
  have hown : s.vm.findClass RX5 = some m.cls := hown
  have hl : lv_has ls 1 [(0, .ref (a 0))] := hl
  have hinX5 := in_X5_keenest_X5
  refine lv_aload_n hx hb dX5_keenest_0 rfl (lv_at hl 0 rfl) ?_
  refine lv_iconst (v := 0) hx hb dX5_keenest_1 (by decide) ?_
  refine pf_m_thrown hx hb hts hinX5 hown hK hW (hts _ (List.mem_of_getElem? (i := 1) rfl)) dX5_keenest_2 (fun σ_1 eσ_1 H locs hW => ?_)
  have hw := hw σ_1 eσ_1
  refine lv_aload_n hx hb dX5_keenest_5 rfl (lv_at hl 0 rfl) ?_
  refine kV_Mi (As := []) (rest := []) ⟨hx, hb, hml, hown, hts⟩ (ok_X5_keen l D cI cJ a _ _ _ hw) (cwV 0 hts gX5_keenest_X5_keen rfl rfl rfl (by decide +kernel) ⟨Nat.le_of_ble_eq_true rfl, Nat.le_of_ble_eq_true rfl⟩) hK hW hA 0 rfl rfl rfl hl.1 rfl (Nat.le_of_ble_eq_true rfl) dX5_keenest_6 ⟨Nat.le_of_ble_eq_true rfl, Nat.le_of_ble_eq_true rfl⟩ (fun r_2 σ_3 H locs hw hW => ?_)
  exact hret _ σ_3 _ _ _ _ hw hW dX5_keenest_9
def wp_X5_share (σ : MS) (post : UInt64 → Prop) : Prop := vf_n64 (FP.ddiv (FP.i2d ((m_s σ) (3 : Int32).toNatClampNeg)) (FP.i2d ((m_s σ) (4 : Int32).toNatClampNeg))) ∧ post (FP.ddiv (FP.i2d ((m_s σ) (3 : Int32).toNatClampNeg)) (FP.i2d ((m_s σ) (4 : Int32).toNatClampNeg)))
abbrev rm_X5_share : Room := { frames := 0, cells := 0, slots := 0, locals := 0 }
theorem in_X5_share_X5 : ∀ w ∈ wsX50, w ∈ wsX5_share := fun w h => List.mem_cons_of_mem _ (List.mem_append_right _ (h))
set_option maxHeartbeats 4000000 in
set_option maxRecDepth 100000 in
theorem ok_X5_share (l : Launch) (D : va_G) (cI cJ : ClassId) (a : Nat → Nat) (sz : Nat) (σ : MS) (post : UInt64 → Prop) (hw : wp_X5_share σ post) : Md l yX5_share wsX5_share rm_X5_share [.ref (a 0)] D (tysIJ cI cJ) (mW cI cJ a σ) sz (fun r (_ : Unit) => post r) (fun _ => mW cI cJ a σ) := by
  refine s_Md (by decide) rfl (Nat.le_of_ble_eq_true rfl) ?_
  intro p e s m args below meth c A Q hx hb hml hts hown hin hK hA hret H locs ls hW hl
  have hown : s.vm.findClass RX5 = some m.cls := hown
  have hl : lv_has ls 1 [(0, .ref (a 0))] := hl
  have hinX5 := in_X5_share_X5
  refine lv_aload_n hx hb dX5_share_0 rfl (lv_at hl 0 rfl) ?_
  refine va_get (D := D) (ci := 5) (v := .ref (a 1)) (C := RX5) (T := TX5) (N := 18) hx hb hts hinX5 hown hK hW.1 0 rfl rfl 1 (by decide) (hts _ (List.mem_of_getElem? (i := 1) rfl)) (fun _ h9 => h9) rfl dX5_share_1 ?_
  refine lv_iconst (v := 3) hx hb dX5_share_4 (by decide) ?_
  refine va_iald hx hb hK hW.1 1 0 rfl rfl (by unfold vp_in; decide) dX5_share_5 ?_
  refine lv_i2d hx hb dX5_share_6 ?_
  refine lv_aload_n hx hb dX5_share_7 rfl (lv_at hl 0 rfl) ?_
  refine va_get (D := D) (ci := 5) (v := .ref (a 1)) (C := RX5) (T := TX5) (N := 18) hx hb hts hinX5 hown hK hW.1 0 rfl rfl 1 (by decide) (hts _ (List.mem_of_getElem? (i := 1) rfl)) (fun _ h9 => h9) rfl dX5_share_8 ?_
  refine lv_iconst (v := 4) hx hb dX5_share_11 (by decide) ?_
  refine va_iald hx hb hK hW.1 1 0 rfl rfl (by unfold vp_in; decide) dX5_share_12 ?_
  refine lv_i2d hx hb dX5_share_13 ?_
  refine lv_ddiv hx hb dX5_share_14 hw.1 ?_
  have hw := hw.2
  exact hret _ () _ _ _ _ hw hW dX5_share_15
def wp_X5_chestShare (σ : MS) (post : UInt64 → MS → Prop) : Prop := ∀ σ_1 : MS, σ_1 = ms_thrown σ 0 → wp_X5_share σ_1 (fun r_2 => post r_2 σ_1)
abbrev rm_X5_chestShare : Room := { frames := 1, cells := 0, slots := 0, locals := 20 }
theorem in_X5_chestShare_X5 : ∀ w ∈ wsX50, w ∈ wsX5_chestShare := fun w h => List.mem_cons_of_mem _ (List.mem_append_right _ (h))
set_option maxHeartbeats 4000000 in
set_option maxRecDepth 100000 in
theorem ok_X5_chestShare (l : Launch) (D : va_G) (cI cJ : ClassId) (a : Nat → Nat) (sz : Nat) (σ : MS) (post : UInt64 → MS → Prop) (hw : wp_X5_chestShare σ post) : Md l yX5_chestShare wsX5_chestShare rm_X5_chestShare [.ref (a 0)] D (tysIJ cI cJ) (mW cI cJ a σ) sz post (mW cI cJ a) := by
  refine s_Md (by decide) rfl (Nat.le_of_ble_eq_true rfl) ?_
  intro p e s m args below meth c A Q hx hb hml hts hown hin hK hA hret H locs ls hW hl
  have hown : s.vm.findClass RX5 = some m.cls := hown
  have hl : lv_has ls 1 [(0, .ref (a 0))] := hl
  have hinX5 := in_X5_chestShare_X5
  refine lv_aload_n hx hb dX5_chestShare_0 rfl (lv_at hl 0 rfl) ?_
  refine lv_iconst (v := 0) hx hb dX5_chestShare_1 (by decide) ?_
  refine pf_m_thrown hx hb hts hinX5 hown hK hW (hts _ (List.mem_of_getElem? (i := 1) rfl)) dX5_chestShare_2 (fun σ_1 eσ_1 H locs hW => ?_)
  have hw := hw σ_1 eσ_1
  refine lv_aload_n hx hb dX5_chestShare_5 rfl (lv_at hl 0 rfl) ?_
  refine kV_Md (As := []) (rest := []) ⟨hx, hb, hml, hown, hts⟩ (ok_X5_share l D cI cJ a _ _ _ hw) (cwV 0 hts gX5_chestShare_X5_share rfl rfl rfl (by decide +kernel) ⟨Nat.le_of_ble_eq_true rfl, Nat.le_of_ble_eq_true rfl⟩) hK hW hA 0 rfl rfl rfl hl.1 rfl (Nat.le_of_ble_eq_true rfl) dX5_chestShare_6 ⟨Nat.le_of_ble_eq_true rfl, Nat.le_of_ble_eq_true rfl⟩ (fun r_2 _ H locs hw hW => ?_)
  exact hret _ σ_1 _ _ _ _ hw hW dX5_chestShare_9
def wp_X5_mean (σ : MS) (post : UInt32 → Prop) : Prop := ((¬ ((m_s σ) (7 : Int32).toNatClampNeg) = 0 → vf_n32 (FP.fdiv (FP.i2f ((m_s σ) (6 : Int32).toNatClampNeg)) (FP.i2f ((m_s σ) (7 : Int32).toNatClampNeg))) ∧ post (FP.fdiv (FP.i2f ((m_s σ) (6 : Int32).toNatClampNeg)) (FP.i2f ((m_s σ) (7 : Int32).toNatClampNeg)))) ∧ (((m_s σ) (7 : Int32).toNatClampNeg) = 0 → post (FP.fconst0)))
abbrev rm_X5_mean : Room := { frames := 0, cells := 0, slots := 0, locals := 0 }
theorem in_X5_mean_X5 : ∀ w ∈ wsX50, w ∈ wsX5_mean := fun w h => List.mem_cons_of_mem _ (List.mem_append_right _ (h))
set_option maxHeartbeats 4000000 in
set_option maxRecDepth 100000 in
theorem ok_X5_mean (l : Launch) (D : va_G) (cI cJ : ClassId) (a : Nat → Nat) (sz : Nat) (σ : MS) (post : UInt32 → Prop) (hw : wp_X5_mean σ post) : Mf l yX5_mean wsX5_mean rm_X5_mean [.ref (a 0)] D (tysIJ cI cJ) (mW cI cJ a σ) sz (fun r (_ : Unit) => post r) (fun _ => mW cI cJ a σ) := by
  refine s_Mf (by decide) rfl (Nat.le_of_ble_eq_true rfl) ?_
  intro p e s m args below meth c A Q hx hb hml hts hown hin hK hA hret H locs ls hW hl
  have hown : s.vm.findClass RX5 = some m.cls := hown
  have hl : lv_has ls 1 [(0, .ref (a 0))] := hl
  have hinX5 := in_X5_mean_X5
  refine lv_aload_n hx hb dX5_mean_0 rfl (lv_at hl 0 rfl) ?_
  refine va_get (D := D) (ci := 5) (v := .ref (a 1)) (C := RX5) (T := TX5) (N := 18) hx hb hts hinX5 hown hK hW.1 0 rfl rfl 1 (by decide) (hts _ (List.mem_of_getElem? (i := 1) rfl)) (fun _ h9 => h9) rfl dX5_mean_1 ?_
  refine lv_bipush (v := 7) hx hb dX5_mean_4 (by decide) ?_
  refine va_iald hx hb hK hW.1 1 0 rfl rfl (by unfold vp_in; decide) dX5_mean_6 ?_
  refine lv_if_ne (tgt := 14) hx hb dX5_mean_7 (by decide) (fun hc => ?_) (fun hc => ?_)
  · have hw := hw.1 hc
    refine lv_aload_n hx hb dX5_mean_14 rfl (lv_at hl 0 rfl) ?_
    refine va_get (D := D) (ci := 5) (v := .ref (a 1)) (C := RX5) (T := TX5) (N := 18) hx hb hts hinX5 hown hK hW.1 0 rfl rfl 1 (by decide) (hts _ (List.mem_of_getElem? (i := 1) rfl)) (fun _ h9 => h9) rfl dX5_mean_15 ?_
    refine lv_bipush (v := 6) hx hb dX5_mean_18 (by decide) ?_
    refine va_iald hx hb hK hW.1 1 0 rfl rfl (by unfold vp_in; decide) dX5_mean_20 ?_
    refine lv_i2f hx hb dX5_mean_21 ?_
    refine lv_aload_n hx hb dX5_mean_22 rfl (lv_at hl 0 rfl) ?_
    refine va_get (D := D) (ci := 5) (v := .ref (a 1)) (C := RX5) (T := TX5) (N := 18) hx hb hts hinX5 hown hK hW.1 0 rfl rfl 1 (by decide) (hts _ (List.mem_of_getElem? (i := 1) rfl)) (fun _ h9 => h9) rfl dX5_mean_23 ?_
    refine lv_bipush (v := 7) hx hb dX5_mean_26 (by decide) ?_
    refine va_iald hx hb hK hW.1 1 0 rfl rfl (by unfold vp_in; decide) dX5_mean_28 ?_
    refine lv_i2f hx hb dX5_mean_29 ?_
    refine lv_fdiv hx hb dX5_mean_30 hw.1 ?_
    have hw := hw.2
    exact hret _ () _ _ _ _ hw hW dX5_mean_31
  · have hw := hw.2 hc
    refine lv_fconst0 hx hb dX5_mean_10 ?_
    refine lv_goto (tgt := 31) hx hb dX5_mean_11 (by decide) ?_
    exact hret _ () _ _ _ _ hw hW dX5_mean_31
def wp_X5_meanPrice (σ : MS) (post : UInt32 → MS → Prop) : Prop := ∀ σ_1 : MS, σ_1 = ms_thrown σ 0 → wp_X5_mean σ_1 (fun r_2 => post r_2 σ_1)
abbrev rm_X5_meanPrice : Room := { frames := 1, cells := 0, slots := 0, locals := 20 }
theorem in_X5_meanPrice_X5 : ∀ w ∈ wsX50, w ∈ wsX5_meanPrice := fun w h => List.mem_cons_of_mem _ (List.mem_append_right _ (h))
set_option maxHeartbeats 4000000 in
set_option maxRecDepth 100000 in
theorem ok_X5_meanPrice (l : Launch) (D : va_G) (cI cJ : ClassId) (a : Nat → Nat) (sz : Nat) (σ : MS) (post : UInt32 → MS → Prop) (hw : wp_X5_meanPrice σ post) : Mf l yX5_meanPrice wsX5_meanPrice rm_X5_meanPrice [.ref (a 0)] D (tysIJ cI cJ) (mW cI cJ a σ) sz post (mW cI cJ a) := by
  refine s_Mf (by decide) rfl (Nat.le_of_ble_eq_true rfl) ?_
  intro p e s m args below meth c A Q hx hb hml hts hown hin hK hA hret H locs ls hW hl
  have hown : s.vm.findClass RX5 = some m.cls := hown
  have hl : lv_has ls 1 [(0, .ref (a 0))] := hl
  have hinX5 := in_X5_meanPrice_X5
  refine lv_aload_n hx hb dX5_meanPrice_0 rfl (lv_at hl 0 rfl) ?_
  refine lv_iconst (v := 0) hx hb dX5_meanPrice_1 (by decide) ?_
  refine pf_m_thrown hx hb hts hinX5 hown hK hW (hts _ (List.mem_of_getElem? (i := 1) rfl)) dX5_meanPrice_2 (fun σ_1 eσ_1 H locs hW => ?_)
  have hw := hw σ_1 eσ_1
  refine lv_aload_n hx hb dX5_meanPrice_5 rfl (lv_at hl 0 rfl) ?_
  refine kV_Mf (As := []) (rest := []) ⟨hx, hb, hml, hown, hts⟩ (ok_X5_mean l D cI cJ a _ _ _ hw) (cwV 0 hts gX5_meanPrice_X5_mean rfl rfl rfl (by decide +kernel) ⟨Nat.le_of_ble_eq_true rfl, Nat.le_of_ble_eq_true rfl⟩) hK hW hA 0 rfl rfl rfl hl.1 rfl (Nat.le_of_ble_eq_true rfl) dX5_meanPrice_6 ⟨Nat.le_of_ble_eq_true rfl, Nat.le_of_ble_eq_true rfl⟩ (fun r_2 _ H locs hw hW => ?_)
  exact hret _ σ_1 _ _ _ _ hw hW dX5_meanPrice_9
def wp_X5_mix (σ : MS) (p1 : Int64) (post : MS → Prop) : Prop := ∀ σ_1 : MS, σ_1 = ms_hash σ ((31 * (m_hash σ)) + p1) → post σ_1
abbrev rm_X5_mix : Room := { frames := 0, cells := 0, slots := 0, locals := 0 }
theorem in_X5_mix_X5 : ∀ w ∈ wsX50, w ∈ wsX5_mix := fun w h => List.mem_cons_of_mem _ (List.mem_append_right _ (h))
set_option maxHeartbeats 4000000 in
set_option maxRecDepth 100000 in
theorem ok_X5_mix (l : Launch) (D : va_G) (cI cJ : ClassId) (a : Nat → Nat) (sz : Nat) (σ : MS) (p1 : Int64) (post : MS → Prop) (hw : wp_X5_mix σ p1 post) : Mv l yX5_mix wsX5_mix rm_X5_mix [.ref (a 0), .long p1] D (tysIJ cI cJ) (mW cI cJ a σ) sz post (mW cI cJ a) := by
  refine s_Mv (by decide) rfl (Nat.le_of_ble_eq_true rfl) ?_
  intro p e s m args below meth c A Q hx hb hml hts hown hin hK hA hret H locs ls hW hl
  have hown : s.vm.findClass RX5 = some m.cls := hown
  have hl : lv_has ls 3 [(0, .ref (a 0)), (1, .long p1)] := hl
  have hinX5 := in_X5_mix_X5
  refine lv_aload_n hx hb dX5_mix_0 rfl (lv_at hl 0 rfl) ?_
  refine lv_ldc2 (own := RX5) (v := 31) hx hb hown (hts _ (List.mem_of_getElem? (i := 1) rfl)) dX5_mix_1 ?_
  refine lv_aload_n hx hb dX5_mix_4 rfl (lv_at hl 0 rfl) ?_
  refine va_get (D := D) (ci := 5) (v := .long (m_hash σ)) (C := RX5) (T := TX5) (N := 18) hx hb hts hinX5 hown hK hW.1 0 rfl rfl 17 (by decide) (hts _ (List.mem_of_getElem? (i := 2) rfl)) (fun _ h9 => h9) rfl dX5_mix_5 ?_
  refine lv_lmul hx hb dX5_mix_8 ?_
  refine lv_lload_n hx hb dX5_mix_9 rfl (lv_at hl 1 rfl) ?_
  refine lv_ladd hx hb dX5_mix_10 ?_
  refine pf_m_hash hx hb hts hinX5 hown hK hW (hts _ (List.mem_of_getElem? (i := 2) rfl)) dX5_mix_11 (fun σ_1 eσ_1 H locs hW => ?_)
  have hw := hw σ_1 eσ_1
  exact hret σ_1 _ _ _ _ hw hW dX5_mix_14
def wp_X5_bits (p1 : UInt64) (post : Int64 → Prop) : Prop := ((¬ (Op.cmpValue (FP.dcmp p1 FP.dconst0) .l) = 0 → ∃ I1 : Nat → UInt64 → Int64 → Prop, (∃ n : Nat, I1 n p1 1023) ∧ ∀ (n1 : Nat) (v2_1 : UInt64) (v4_1 : Int64), I1 n1 v2_1 v4_1 → ((0 ≤ (Op.cmpValue (FP.dcmp v2_1 FP.dconst1) .g) → vf_n64 (FP.dsub v2_1 FP.dconst1) ∧ vf_n64 (FP.dmul (FP.dsub v2_1 FP.dconst1) 4841369599423283200) ∧ post ((v4_1 * 4503599627370496) + (FP.d2l (FP.dmul (FP.dsub v2_1 FP.dconst1) 4841369599423283200)))) ∧ (¬ 0 ≤ (Op.cmpValue (FP.dcmp v2_1 FP.dconst1) .g) → vf_n64 (FP.dmul v2_1 4611686018427387904) ∧ ∀ v2_2 : UInt64, v2_2 = (FP.dmul v2_1 4611686018427387904) → ∀ v4_3 : Int64, v4_3 = (v4_1 - 1) → ∃ n' : Nat, n' < n1 ∧ I1 n' v2_2 v4_3))) ∧ ((Op.cmpValue (FP.dcmp p1 FP.dconst0) .l) = 0 → post 0))
abbrev rm_X5_bits : Room := { frames := 0, cells := 0, slots := 0, locals := 0 }
set_option maxHeartbeats 4000000 in
set_option maxRecDepth 100000 in
theorem ok_X5_bits (l : Launch) (p1 : UInt64) (post : Int64 → Prop) (hw : wp_X5_bits p1 post) : Pl l yX5_bits wsX5_bits rm_X5_bits [.double p1] post := by
  refine s_Pl (by decide) rfl (Nat.le_of_ble_eq_true rfl) ?_
  intro p e s m args below meth c A Q hx hb hml hts hown hin hret H locs ls hW hl
  have hown : s.vm.findClass RX5 = some m.cls := hown
  have hl : lv_has ls 6 [(0, .double p1)] := hl
  refine lv_dload_n hx hb dX5_bits_0 rfl (lv_at hl 0 rfl) ?_
  refine lv_dconst0 hx hb dX5_bits_1 ?_
  refine lv_dcmp hx hb dX5_bits_2 ?_
  refine lv_if_ne (tgt := 8) hx hb dX5_bits_3 (by decide) (fun hc => ?_) (fun hc => ?_)
  · have hw := hw.1 hc
    refine lv_dload_n hx hb dX5_bits_8 rfl (lv_at hl 0 rfl) ?_
    refine lv_dstore_n (lv' := [(2, .double p1), (0, .double p1)]) hx hb dX5_bits_9 rfl hl (by decide) rfl (fun ls hl => ?_)
    refine lv_ldc2 (own := RX5) (v := 1023) hx hb hown (hts _ (List.mem_of_getElem? (i := 1) rfl)) dX5_bits_10 ?_
    refine lv_lstore (lv' := [(4, .long 1023), (2, .double p1), (0, .double p1)]) hx hb dX5_bits_13 hl (by decide) rfl (fun ls hl => ?_)
    obtain ⟨I1, ⟨n1, hI1⟩, hJ1⟩ := hw
    have hl : lv_has ls 6 [(2, .double p1), (4, .long 1023)] := lv_sub hl [1, 0] rfl
    suffices LP1 : ∀ (n : Nat) (v2_1 : UInt64) (v4_1 : Int64) (H : Heap) (locs : List Loc) (ls : Array Slot), I1 n v2_1 v4_1 → va_S (fun _ => False) s.heap H locs → lv_has ls 6 [(2, .double v2_1), (4, .long v4_1)] → W p l e rm_X5_bits s m args below meth c H locs 0 0 Q (F0 m 15 ls []) from LP1 n1 p1 1023 H locs ls hI1 hW hl
    intro n1
    induction n1 using Nat.strongRecOn with
    | ind n1 ih1 =>
      intro v2_1 v4_1 H locs ls hIn hW hl
      have hw := hJ1 n1 v2_1 v4_1 hIn
      refine lv_dload_n hx hb dX5_bits_15 rfl (lv_at hl 0 rfl) ?_
      refine lv_dconst1 hx hb dX5_bits_16 ?_
      refine lv_dcmp hx hb dX5_bits_17 ?_
      refine lv_if_ge (tgt := 36) hx hb dX5_bits_18 (by decide) (fun hc => ?_) (fun hc => ?_)
      · have hw := hw.1 hc
        refine lv_lload hx hb dX5_bits_36 (lv_at hl 1 rfl) ?_
        refine lv_ldc2 (own := RX5) (v := 4503599627370496) hx hb hown (hts _ (List.mem_of_getElem? (i := 3) rfl)) dX5_bits_38 ?_
        refine lv_lmul hx hb dX5_bits_41 ?_
        refine lv_dload_n hx hb dX5_bits_42 rfl (lv_at hl 0 rfl) ?_
        refine lv_dconst1 hx hb dX5_bits_43 ?_
        refine lv_dsub hx hb dX5_bits_44 hw.1 ?_
        have hw := hw.2
        refine lv_ldc2d (own := RX5) (v := 4841369599423283200) hx hb hown (hts _ (List.mem_of_getElem? (i := 4) rfl)) dX5_bits_45 ?_
        refine lv_dmul hx hb dX5_bits_48 hw.1 ?_
        have hw := hw.2
        refine lv_d2l hx hb dX5_bits_49 ?_
        refine lv_ladd hx hb dX5_bits_50 ?_
        exact hret _ _ _ _ _ hw hW dX5_bits_51
      · have hw := hw.2 hc
        refine lv_dload_n hx hb dX5_bits_21 rfl (lv_at hl 0 rfl) ?_
        refine lv_ldc2d (own := RX5) (v := 4611686018427387904) hx hb hown (hts _ (List.mem_of_getElem? (i := 2) rfl)) dX5_bits_22 ?_
        refine lv_dmul hx hb dX5_bits_25 hw.1 ?_
        have hw := hw.2
        refine lv_topd (fun v2_2 ev2_2 => ?_)
        have hw := hw v2_2 ev2_2
        refine lv_dstore_n (lv' := [(2, .double v2_2), (4, .long v4_1)]) hx hb dX5_bits_26 rfl hl (by decide) rfl (fun ls hl => ?_)
        refine lv_lload hx hb dX5_bits_27 (lv_at hl 1 rfl) ?_
        refine lv_lconst (v := 1) hx hb dX5_bits_29 (by decide) ?_
        refine lv_lsub hx hb dX5_bits_30 ?_
        refine lv_topl (fun v4_3 ev4_3 => ?_)
        have hw := hw v4_3 ev4_3
        refine lv_lstore (lv' := [(4, .long v4_3), (2, .double v2_2)]) hx hb dX5_bits_31 hl (by decide) rfl (fun ls hl => ?_)
        refine lv_goto (tgt := 15) hx hb dX5_bits_33 (by decide) ?_
        obtain ⟨n9, hlt9, hI9⟩ := hw
        exact ih1 n9 hlt9 _ _ _ _ _ hI9 hW (lv_sub hl [1, 0] rfl)
  · have hw := hw.2 hc
    refine lv_lconst (v := 0) hx hb dX5_bits_6 (by decide) ?_
    exact hret _ _ _ _ _ hw hW dX5_bits_7
def wp_X5_floatBits (p1 : UInt32) (post : Int32 → Prop) : Prop := ((¬ (Op.cmpValue (FP.fcmp p1 FP.fconst0) .l) = 0 → ∃ I1 : Nat → UInt32 → Int32 → Prop, (∃ n : Nat, I1 n p1 127) ∧ ∀ (n1 : Nat) (v1_1 : UInt32) (v2_1 : Int32), I1 n1 v1_1 v2_1 → (((Op.cmpValue (FP.fcmp v1_1 FP.fconst2) .l) < 0 → ∃ I2 : Nat → UInt32 → Int32 → Prop, (∃ n : Nat, I2 n v1_1 v2_1) ∧ ∀ (n2 : Nat) (v1_2 : UInt32) (v2_2 : Int32), I2 n2 v1_2 v2_2 → ((0 ≤ (Op.cmpValue (FP.fcmp v1_2 FP.fconst1) .g) → vf_n32 (FP.fsub v1_2 FP.fconst1) ∧ vf_n32 (FP.fmul (FP.fsub v1_2 FP.fconst1) 1258291200) ∧ post ((v2_2 * 8388608) + (FP.f2i (FP.fmul (FP.fsub v1_2 FP.fconst1) 1258291200)))) ∧ (¬ 0 ≤ (Op.cmpValue (FP.fcmp v1_2 FP.fconst1) .g) → vf_n32 (FP.fmul v1_2 FP.fconst2) ∧ ∀ v1_3 : UInt32, v1_3 = (FP.fmul v1_2 FP.fconst2) → ∀ v2_4 : Int32, v2_4 = v2_2 + (-1) → ∃ n' : Nat, n' < n2 ∧ I2 n' v1_3 v2_4))) ∧ (¬ (Op.cmpValue (FP.fcmp v1_1 FP.fconst2) .l) < 0 → vf_n32 (FP.fdiv v1_1 FP.fconst2) ∧ ∀ v1_5 : UInt32, v1_5 = (FP.fdiv v1_1 FP.fconst2) → ∀ v2_6 : Int32, v2_6 = v2_1 + 1 → ∃ n' : Nat, n' < n1 ∧ I1 n' v1_5 v2_6))) ∧ ((Op.cmpValue (FP.fcmp p1 FP.fconst0) .l) = 0 → post 0))
abbrev rm_X5_floatBits : Room := { frames := 0, cells := 0, slots := 0, locals := 0 }
set_option maxHeartbeats 4000000 in
set_option maxRecDepth 100000 in
theorem ok_X5_floatBits (l : Launch) (p1 : UInt32) (post : Int32 → Prop) (hw : wp_X5_floatBits p1 post) : Pi l yX5_floatBits wsX5_floatBits rm_X5_floatBits [.float p1] post := by
  refine s_Pi (by decide) rfl (Nat.le_of_ble_eq_true rfl) ?_
  intro p e s m args below meth c A Q hx hb hml hts hown hin hret H locs ls hW hl
  have hown : s.vm.findClass RX5 = some m.cls := hown
  have hl : lv_has ls 3 [(0, .float p1)] := hl
  refine lv_fload_n hx hb dX5_floatBits_0 rfl (lv_at hl 0 rfl) ?_
  refine lv_fconst0 hx hb dX5_floatBits_1 ?_
  refine lv_fcmp hx hb dX5_floatBits_2 ?_
  refine lv_if_ne (tgt := 8) hx hb dX5_floatBits_3 (by decide) (fun hc => ?_) (fun hc => ?_)
  · have hw := hw.1 hc
    refine lv_fload_n hx hb dX5_floatBits_8 rfl (lv_at hl 0 rfl) ?_
    refine lv_fstore_n (lv' := [(1, .float p1), (0, .float p1)]) hx hb dX5_floatBits_9 rfl hl (by decide) rfl (fun ls hl => ?_)
    refine lv_bipush (v := 127) hx hb dX5_floatBits_10 (by decide) ?_
    refine lv_istore_n (lv' := [(2, .int 127), (1, .float p1), (0, .float p1)]) hx hb dX5_floatBits_12 rfl hl (by decide) rfl (fun ls hl => ?_)
    obtain ⟨I1, ⟨n1, hI1⟩, hJ1⟩ := hw
    have hl : lv_has ls 3 [(1, .float p1), (2, .int 127)] := lv_sub hl [1, 0] rfl
    suffices LP1 : ∀ (n : Nat) (v1_1 : UInt32) (v2_1 : Int32) (H : Heap) (locs : List Loc) (ls : Array Slot), I1 n v1_1 v2_1 → va_S (fun _ => False) s.heap H locs → lv_has ls 3 [(1, .float v1_1), (2, .int v2_1)] → W p l e rm_X5_floatBits s m args below meth c H locs 0 0 Q (F0 m 13 ls []) from LP1 n1 p1 127 H locs ls hI1 hW hl
    intro n1
    induction n1 using Nat.strongRecOn with
    | ind n1 ih1 =>
      intro v1_1 v2_1 H locs ls hIn hW hl
      have hw := hJ1 n1 v1_1 v2_1 hIn
      refine lv_fload_n hx hb dX5_floatBits_13 rfl (lv_at hl 0 rfl) ?_
      refine lv_fconst2 hx hb dX5_floatBits_14 ?_
      refine lv_fcmp hx hb dX5_floatBits_15 ?_
      refine lv_if_lt (tgt := 29) hx hb dX5_floatBits_16 (by decide) (fun hc => ?_) (fun hc => ?_)
      · have hw := hw.1 hc
        obtain ⟨I2, ⟨n2, hI2⟩, hJ2⟩ := hw
        have hl : lv_has ls 3 [(1, .float v1_1), (2, .int v2_1)] := lv_sub hl [0, 1] rfl
        suffices LP2 : ∀ (n : Nat) (v1_2 : UInt32) (v2_2 : Int32) (H : Heap) (locs : List Loc) (ls : Array Slot), I2 n v1_2 v2_2 → va_S (fun _ => False) s.heap H locs → lv_has ls 3 [(1, .float v1_2), (2, .int v2_2)] → W p l e rm_X5_floatBits s m args below meth c H locs 0 0 Q (F0 m 29 ls []) from LP2 n2 v1_1 v2_1 H locs ls hI2 hW hl
        intro n2
        induction n2 using Nat.strongRecOn with
        | ind n2 ih2 =>
          intro v1_2 v2_2 H locs ls hIn hW hl
          have hw := hJ2 n2 v1_2 v2_2 hIn
          refine lv_fload_n hx hb dX5_floatBits_29 rfl (lv_at hl 0 rfl) ?_
          refine lv_fconst1 hx hb dX5_floatBits_30 ?_
          refine lv_fcmp hx hb dX5_floatBits_31 ?_
          refine lv_if_ge (tgt := 45) hx hb dX5_floatBits_32 (by decide) (fun hc => ?_) (fun hc => ?_)
          · have hw := hw.1 hc
            refine lv_iload_n hx hb dX5_floatBits_45 rfl (lv_at hl 1 rfl) ?_
            refine lv_ldc (own := RX5) (v := 8388608) hx hb hown (hts _ (List.mem_of_getElem? (i := 1) rfl)) dX5_floatBits_46 ?_
            refine lv_imul hx hb dX5_floatBits_48 ?_
            refine lv_fload_n hx hb dX5_floatBits_49 rfl (lv_at hl 0 rfl) ?_
            refine lv_fconst1 hx hb dX5_floatBits_50 ?_
            refine lv_fsub hx hb dX5_floatBits_51 hw.1 ?_
            have hw := hw.2
            refine lv_ldcf (own := RX5) (v := 1258291200) hx hb hown (hts _ (List.mem_of_getElem? (i := 2) rfl)) dX5_floatBits_52 ?_
            refine lv_fmul hx hb dX5_floatBits_54 hw.1 ?_
            have hw := hw.2
            refine lv_f2i hx hb dX5_floatBits_55 ?_
            refine lv_iadd hx hb dX5_floatBits_56 ?_
            exact hret _ _ _ _ _ hw hW dX5_floatBits_57
          · have hw := hw.2 hc
            refine lv_fload_n hx hb dX5_floatBits_35 rfl (lv_at hl 0 rfl) ?_
            refine lv_fconst2 hx hb dX5_floatBits_36 ?_
            refine lv_fmul hx hb dX5_floatBits_37 hw.1 ?_
            have hw := hw.2
            refine lv_topf (fun v1_3 ev1_3 => ?_)
            have hw := hw v1_3 ev1_3
            refine lv_fstore_n (lv' := [(1, .float v1_3), (2, .int v2_2)]) hx hb dX5_floatBits_38 rfl hl (by decide) rfl (fun ls hl => ?_)
            obtain ⟨v2_4, ev2_4⟩ : ∃ y : Int32, y = v2_2 + (-1) := ⟨_, rfl⟩
            have hw := hw v2_4 ev2_4
            refine lv_iinc (v := v2_4) (lv' := [(2, .int v2_4), (1, .float v1_3)]) hx hb dX5_floatBits_39 hl (k := 1) rfl (by rw [ev2_4]; rfl) (by decide) rfl (fun ls hl => ?_)
            refine lv_goto (tgt := 29) hx hb dX5_floatBits_42 (by decide) ?_
            obtain ⟨n9, hlt9, hI9⟩ := hw
            exact ih2 n9 hlt9 _ _ _ _ _ hI9 hW (lv_sub hl [1, 0] rfl)
      · have hw := hw.2 hc
        refine lv_fload_n hx hb dX5_floatBits_19 rfl (lv_at hl 0 rfl) ?_
        refine lv_fconst2 hx hb dX5_floatBits_20 ?_
        refine lv_fdiv hx hb dX5_floatBits_21 hw.1 ?_
        have hw := hw.2
        refine lv_topf (fun v1_5 ev1_5 => ?_)
        have hw := hw v1_5 ev1_5
        refine lv_fstore_n (lv' := [(1, .float v1_5), (2, .int v2_1)]) hx hb dX5_floatBits_22 rfl hl (by decide) rfl (fun ls hl => ?_)
        obtain ⟨v2_6, ev2_6⟩ : ∃ y : Int32, y = v2_1 + 1 := ⟨_, rfl⟩
        have hw := hw v2_6 ev2_6
        refine lv_iinc (v := v2_6) (lv' := [(2, .int v2_6), (1, .float v1_5)]) hx hb dX5_floatBits_23 hl (k := 1) rfl (by rw [ev2_6]; rfl) (by decide) rfl (fun ls hl => ?_)
        refine lv_goto (tgt := 13) hx hb dX5_floatBits_26 (by decide) ?_
        obtain ⟨n9, hlt9, hI9⟩ := hw
        exact ih1 n9 hlt9 _ _ _ _ _ hI9 hW (lv_sub hl [1, 0] rfl)
  · have hw := hw.2 hc
    refine lv_iconst (v := 0) hx hb dX5_floatBits_6 (by decide) ?_
    exact hret _ _ _ _ _ hw hW dX5_floatBits_7
def wp_X5_mixSpots (σ : MS) (post : MS → Prop) : Prop := ∃ I1 : Nat → Int32 → MS → Prop, (∃ n : Nat, I1 n 0 (σ)) ∧ ∀ (n1 : Nat) (v1_1 : Int32) (σ_1 : MS), I1 n1 v1_1 σ_1 → ((6 ≤ v1_1 → ∃ I2 : Nat → Int32 → MS → Prop, (∃ n : Nat, I2 n 0 (σ_1)) ∧ ∀ (n2 : Nat) (v1_2 : Int32) (σ_2 : MS), I2 n2 v1_2 σ_2 → ((6 ≤ v1_2 → ∃ I3 : Nat → Int32 → MS → Prop, (∃ n : Nat, I3 n 0 (σ_2)) ∧ ∀ (n3 : Nat) (v1_3 : Int32) (σ_3 : MS), I3 n3 v1_3 σ_3 → ((180 ≤ v1_3 → post σ_3) ∧ (¬ 180 ≤ v1_3 → wp_X5_ofBid σ_3 (v1_3 / 30) ((v1_3 / 5) - (v1_3 / 5) / 6 * 6) (v1_3 - v1_3 / 5 * 5) (fun r_4 => wp_X5_mix σ_3 (r_4).toInt64 (fun σ_5 => ∀ v1_6 : Int32, v1_6 = v1_3 + 1 → ∃ n' : Nat, n' < n3 ∧ I3 n' v1_6 (σ_5)))))) ∧ (¬ 6 ≤ v1_2 → ∃ I7 : Nat → Int32 → MS → Prop, (∃ n : Nat, I7 n 0 (σ_2)) ∧ ∀ (n7 : Nat) (v2_7 : Int32) (σ_7 : MS), I7 n7 v2_7 σ_7 → ((6 ≤ v2_7 → ∀ v1_8 : Int32, v1_8 = v1_2 + 1 → ∃ n' : Nat, n' < n2 ∧ I2 n' v1_8 (σ_7)) ∧ (¬ 6 ≤ v2_7 → wp_X5_ofBidder σ_7 v1_2 v2_7 (fun r_9 => wp_X5_mix σ_7 (r_9).toInt64 (fun σ_10 => ∀ v2_11 : Int32, v2_11 = v2_7 + 1 → ∃ n' : Nat, n' < n7 ∧ I7 n' v2_11 (σ_10)))))))) ∧ (¬ 6 ≤ v1_1 → ∃ I12 : Nat → Int32 → MS → Prop, (∃ n : Nat, I12 n 0 (σ_1)) ∧ ∀ (n12 : Nat) (v2_12 : Int32) (σ_12 : MS), I12 n12 v2_12 σ_12 → ((6 ≤ v2_12 → wp_X5_opened σ_12 v1_1 0 (fun r_13 σ_14 => wp_X5_mix σ_14 (r_13).toInt64 (fun σ_15 => wp_X5_opened σ_15 v1_1 1 (fun r_16 σ_17 => wp_X5_mix σ_17 (r_16).toInt64 (fun σ_18 => ∀ v1_19 : Int32, v1_19 = v1_1 + 1 → ∃ n' : Nat, n' < n1 ∧ I1 n' v1_19 (σ_18)))))) ∧ (¬ 6 ≤ v2_12 → wp_X5_ofSpot σ_12 v1_1 v2_12 (fun r_20 => wp_X5_mix σ_12 (r_20).toInt64 (fun σ_21 => ∀ v2_22 : Int32, v2_22 = v2_12 + 1 → ∃ n' : Nat, n' < n12 ∧ I12 n' v2_22 (σ_21)))))))
abbrev rm_X5_mixSpots : Room := { frames := 8, cells := 0, slots := 0, locals := 184 }
set_option maxHeartbeats 4000000 in
set_option maxRecDepth 100000 in
theorem ok_X5_mixSpots (l : Launch) (D : va_G) (cI cJ : ClassId) (a : Nat → Nat) (sz : Nat) (σ : MS) (post : MS → Prop) (hw : wp_X5_mixSpots σ post) : Mv l yX5_mixSpots wsX5_mixSpots rm_X5_mixSpots [.ref (a 0)] D (tysIJ cI cJ) (mW cI cJ a σ) sz post (mW cI cJ a) := by
  refine s_Mv (by decide) rfl (Nat.le_of_ble_eq_true rfl) ?_
  intro p e s m args below meth c A Q hx hb hml hts hown hin hK hA hret H locs ls hW hl
  have hown : s.vm.findClass RX5 = some m.cls := hown
  have hl : lv_has ls 3 [(0, .ref (a 0))] := hl
  refine lv_iconst (v := 0) hx hb dX5_mixSpots_0 (by decide) ?_
  refine lv_istore_n (lv' := [(1, .int 0), (0, .ref (a 0))]) hx hb dX5_mixSpots_1 rfl hl (by decide) rfl (fun ls hl => ?_)
  obtain ⟨I1, ⟨n1, hI1⟩, hJ1⟩ := hw
  have hl : lv_has ls 3 [(0, .ref (a 0)), (1, .int 0)] := lv_sub hl [1, 0] rfl
  suffices LP1 : ∀ (n : Nat) (v1_1 : Int32) (σ_1 : MS) (H : Heap) (locs : List Loc) (ls : Array Slot), I1 n v1_1 σ_1 → Wd D A s.heap (mW cI cJ a σ_1) H locs → lv_has ls 3 [(0, .ref (a 0)), (1, .int v1_1)] → W p l e rm_X5_mixSpots s m args below meth c H locs 0 0 Q (F0 m 2 ls []) from LP1 n1 0 _ H locs ls hI1 hW hl
  intro n1
  induction n1 using Nat.strongRecOn with
  | ind n1 ih1 =>
    intro v1_1 σ_1 H locs ls hIn hW hl
    have hw := hJ1 n1 v1_1 σ_1 hIn
    refine lv_iload_n hx hb dX5_mixSpots_2 rfl (lv_at hl 1 rfl) ?_
    refine lv_bipush (v := 6) hx hb dX5_mixSpots_3 (by decide) ?_
    refine lv_icmp_ge (tgt := 61) hx hb dX5_mixSpots_5 (by decide) (fun hc => ?_) (fun hc => ?_)
    · have hw := hw.1 hc
      refine lv_iconst (v := 0) hx hb dX5_mixSpots_61 (by decide) ?_
      refine lv_istore_n (lv' := [(1, .int 0), (0, .ref (a 0))]) hx hb dX5_mixSpots_62 rfl hl (by decide) rfl (fun ls hl => ?_)
      obtain ⟨I2, ⟨n2, hI2⟩, hJ2⟩ := hw
      have hl : lv_has ls 3 [(0, .ref (a 0)), (1, .int 0)] := lv_sub hl [1, 0] rfl
      suffices LP2 : ∀ (n : Nat) (v1_2 : Int32) (σ_2 : MS) (H : Heap) (locs : List Loc) (ls : Array Slot), I2 n v1_2 σ_2 → Wd D A s.heap (mW cI cJ a σ_2) H locs → lv_has ls 3 [(0, .ref (a 0)), (1, .int v1_2)] → W p l e rm_X5_mixSpots s m args below meth c H locs 0 0 Q (F0 m 63 ls []) from LP2 n2 0 _ H locs ls hI2 hW hl
      intro n2
      induction n2 using Nat.strongRecOn with
      | ind n2 ih2 =>
        intro v1_2 σ_2 H locs ls hIn hW hl
        have hw := hJ2 n2 v1_2 σ_2 hIn
        refine lv_iload_n hx hb dX5_mixSpots_63 rfl (lv_at hl 1 rfl) ?_
        refine lv_bipush (v := 6) hx hb dX5_mixSpots_64 (by decide) ?_
        refine lv_icmp_ge (tgt := 100) hx hb dX5_mixSpots_66 (by decide) (fun hc => ?_) (fun hc => ?_)
        · have hw := hw.1 hc
          refine lv_iconst (v := 0) hx hb dX5_mixSpots_100 (by decide) ?_
          refine lv_istore_n (lv' := [(1, .int 0), (0, .ref (a 0))]) hx hb dX5_mixSpots_101 rfl hl (by decide) rfl (fun ls hl => ?_)
          obtain ⟨I3, ⟨n3, hI3⟩, hJ3⟩ := hw
          have hl : lv_has ls 3 [(0, .ref (a 0)), (1, .int 0)] := lv_sub hl [1, 0] rfl
          suffices LP3 : ∀ (n : Nat) (v1_3 : Int32) (σ_3 : MS) (H : Heap) (locs : List Loc) (ls : Array Slot), I3 n v1_3 σ_3 → Wd D A s.heap (mW cI cJ a σ_3) H locs → lv_has ls 3 [(0, .ref (a 0)), (1, .int v1_3)] → W p l e rm_X5_mixSpots s m args below meth c H locs 0 0 Q (F0 m 102 ls []) from LP3 n3 0 _ H locs ls hI3 hW hl
          intro n3
          induction n3 using Nat.strongRecOn with
          | ind n3 ih3 =>
            intro v1_3 σ_3 H locs ls hIn hW hl
            have hw := hJ3 n3 v1_3 σ_3 hIn
            refine lv_iload_n hx hb dX5_mixSpots_102 rfl (lv_at hl 1 rfl) ?_
            refine lv_sipush (v := 180) hx hb dX5_mixSpots_103 (by decide) ?_
            refine lv_icmp_ge (tgt := 137) hx hb dX5_mixSpots_106 (by decide) (fun hc => ?_) (fun hc => ?_)
            · have hw := hw.1 hc
              exact hret σ_3 _ _ _ _ hw hW dX5_mixSpots_137
            · have hw := hw.2 hc
              refine lv_aload_n hx hb dX5_mixSpots_109 rfl (lv_at hl 0 rfl) ?_
              refine lv_aload_n hx hb dX5_mixSpots_110 rfl (lv_at hl 0 rfl) ?_
              refine lv_iload_n hx hb dX5_mixSpots_111 rfl (lv_at hl 1 rfl) ?_
              refine lv_bipush (v := 30) hx hb dX5_mixSpots_112 (by decide) ?_
              refine lv_idiv hx hb dX5_mixSpots_114 (by decide) ?_
              refine lv_iload_n hx hb dX5_mixSpots_115 rfl (lv_at hl 1 rfl) ?_
              refine lv_iconst (v := 5) hx hb dX5_mixSpots_116 (by decide) ?_
              refine lv_idiv hx hb dX5_mixSpots_117 (by decide) ?_
              refine lv_bipush (v := 6) hx hb dX5_mixSpots_118 (by decide) ?_
              refine lv_irem hx hb dX5_mixSpots_120 (by decide) ?_
              refine lv_iload_n hx hb dX5_mixSpots_121 rfl (lv_at hl 1 rfl) ?_
              refine lv_iconst (v := 5) hx hb dX5_mixSpots_122 (by decide) ?_
              refine lv_irem hx hb dX5_mixSpots_123 (by decide) ?_
              refine kV_Mi (As := [.int (v1_3 / 30), .int ((v1_3 / 5) - (v1_3 / 5) / 6 * 6), .int (v1_3 - v1_3 / 5 * 5)]) (rest := [.ref (a 0)]) ⟨hx, hb, hml, hown, hts⟩ (ok_X5_ofBid l D cI cJ a _ _ _ _ _ _ hw) (cwV 3 hts gX5_mixSpots_X5_ofBid rfl rfl rfl (by decide +kernel) ⟨Nat.le_of_ble_eq_true rfl, Nat.le_of_ble_eq_true rfl⟩) hK hW hA 0 rfl rfl rfl hl.1 rfl (Nat.le_of_ble_eq_true rfl) dX5_mixSpots_124 ⟨Nat.le_of_ble_eq_true rfl, Nat.le_of_ble_eq_true rfl⟩ (fun r_4 _ H locs hw hW => ?_)
              refine lv_i2l hx hb dX5_mixSpots_127 rfl ?_
              refine kV_Mv (As := [.long (r_4).toInt64]) (rest := []) ⟨hx, hb, hml, hown, hts⟩ (ok_X5_mix l D cI cJ a _ _ _ _ hw) (cwV 1 hts gX5_mixSpots_X5_mix rfl rfl rfl (by decide +kernel) ⟨Nat.le_of_ble_eq_true rfl, Nat.le_of_ble_eq_true rfl⟩) hK hW hA 0 rfl rfl rfl hl.1 rfl (Nat.le_of_ble_eq_true rfl) dX5_mixSpots_128 ⟨Nat.le_of_ble_eq_true rfl, Nat.le_of_ble_eq_true rfl⟩ (fun σ_5 H locs hw hW => ?_)
              obtain ⟨v1_6, ev1_6⟩ : ∃ y : Int32, y = v1_3 + 1 := ⟨_, rfl⟩
              have hw := hw v1_6 ev1_6
              refine lv_iinc (v := v1_6) (lv' := [(1, .int v1_6), (0, .ref (a 0))]) hx hb dX5_mixSpots_131 hl (k := 1) rfl (by rw [ev1_6]; rfl) (by decide) rfl (fun ls hl => ?_)
              refine lv_goto (tgt := 102) hx hb dX5_mixSpots_134 (by decide) ?_
              obtain ⟨n9, hlt9, hI9⟩ := hw
              exact ih3 n9 hlt9 _ _ _ _ _ hI9 hW (lv_sub hl [1, 0] rfl)
        · have hw := hw.2 hc
          refine lv_iconst (v := 0) hx hb dX5_mixSpots_69 (by decide) ?_
          refine lv_istore_n (lv' := [(2, .int 0), (0, .ref (a 0)), (1, .int v1_2)]) hx hb dX5_mixSpots_70 rfl hl (by decide) rfl (fun ls hl => ?_)
          obtain ⟨I7, ⟨n7, hI7⟩, hJ7⟩ := hw
          have hl : lv_has ls 3 [(0, .ref (a 0)), (1, .int v1_2), (2, .int 0)] := lv_sub hl [1, 2, 0] rfl
          suffices LP7 : ∀ (n : Nat) (v2_7 : Int32) (σ_7 : MS) (H : Heap) (locs : List Loc) (ls : Array Slot), I7 n v2_7 σ_7 → Wd D A s.heap (mW cI cJ a σ_7) H locs → lv_has ls 3 [(0, .ref (a 0)), (1, .int v1_2), (2, .int v2_7)] → W p l e rm_X5_mixSpots s m args below meth c H locs 0 0 Q (F0 m 71 ls []) from LP7 n7 0 _ H locs ls hI7 hW hl
          intro n7
          induction n7 using Nat.strongRecOn with
          | ind n7 ih7 =>
            intro v2_7 σ_7 H locs ls hIn hW hl
            have hw := hJ7 n7 v2_7 σ_7 hIn
            refine lv_iload_n hx hb dX5_mixSpots_71 rfl (lv_at hl 2 rfl) ?_
            refine lv_bipush (v := 6) hx hb dX5_mixSpots_72 (by decide) ?_
            refine lv_icmp_ge (tgt := 94) hx hb dX5_mixSpots_74 (by decide) (fun hc => ?_) (fun hc => ?_)
            · have hw := hw.1 hc
              obtain ⟨v1_8, ev1_8⟩ : ∃ y : Int32, y = v1_2 + 1 := ⟨_, rfl⟩
              have hw := hw v1_8 ev1_8
              refine lv_iinc (v := v1_8) (lv' := [(1, .int v1_8), (0, .ref (a 0)), (2, .int v2_7)]) hx hb dX5_mixSpots_94 hl (k := 1) rfl (by rw [ev1_8]; rfl) (by decide) rfl (fun ls hl => ?_)
              refine lv_goto (tgt := 63) hx hb dX5_mixSpots_97 (by decide) ?_
              obtain ⟨n9, hlt9, hI9⟩ := hw
              exact ih2 n9 hlt9 _ _ _ _ _ hI9 hW (lv_sub hl [1, 0] rfl)
            · have hw := hw.2 hc
              refine lv_aload_n hx hb dX5_mixSpots_77 rfl (lv_at hl 0 rfl) ?_
              refine lv_aload_n hx hb dX5_mixSpots_78 rfl (lv_at hl 0 rfl) ?_
              refine lv_iload_n hx hb dX5_mixSpots_79 rfl (lv_at hl 1 rfl) ?_
              refine lv_iload_n hx hb dX5_mixSpots_80 rfl (lv_at hl 2 rfl) ?_
              refine kV_Mi (As := [.int v1_2, .int v2_7]) (rest := [.ref (a 0)]) ⟨hx, hb, hml, hown, hts⟩ (ok_X5_ofBidder l D cI cJ a _ _ _ _ _ hw) (cwV 2 hts gX5_mixSpots_X5_ofBidder rfl rfl rfl (by decide +kernel) ⟨Nat.le_of_ble_eq_true rfl, Nat.le_of_ble_eq_true rfl⟩) hK hW hA 0 rfl rfl rfl hl.1 rfl (Nat.le_of_ble_eq_true rfl) dX5_mixSpots_81 ⟨Nat.le_of_ble_eq_true rfl, Nat.le_of_ble_eq_true rfl⟩ (fun r_9 _ H locs hw hW => ?_)
              refine lv_i2l hx hb dX5_mixSpots_84 rfl ?_
              refine kV_Mv (As := [.long (r_9).toInt64]) (rest := []) ⟨hx, hb, hml, hown, hts⟩ (ok_X5_mix l D cI cJ a _ _ _ _ hw) (cwV 1 hts gX5_mixSpots_X5_mix rfl rfl rfl (by decide +kernel) ⟨Nat.le_of_ble_eq_true rfl, Nat.le_of_ble_eq_true rfl⟩) hK hW hA 0 rfl rfl rfl hl.1 rfl (Nat.le_of_ble_eq_true rfl) dX5_mixSpots_85 ⟨Nat.le_of_ble_eq_true rfl, Nat.le_of_ble_eq_true rfl⟩ (fun σ_10 H locs hw hW => ?_)
              obtain ⟨v2_11, ev2_11⟩ : ∃ y : Int32, y = v2_7 + 1 := ⟨_, rfl⟩
              have hw := hw v2_11 ev2_11
              refine lv_iinc (v := v2_11) (lv' := [(2, .int v2_11), (0, .ref (a 0)), (1, .int v1_2)]) hx hb dX5_mixSpots_88 hl (k := 2) rfl (by rw [ev2_11]; rfl) (by decide) rfl (fun ls hl => ?_)
              refine lv_goto (tgt := 71) hx hb dX5_mixSpots_91 (by decide) ?_
              obtain ⟨n9, hlt9, hI9⟩ := hw
              exact ih7 n9 hlt9 _ _ _ _ _ hI9 hW (lv_sub hl [1, 2, 0] rfl)
    · have hw := hw.2 hc
      refine lv_iconst (v := 0) hx hb dX5_mixSpots_8 (by decide) ?_
      refine lv_istore_n (lv' := [(2, .int 0), (0, .ref (a 0)), (1, .int v1_1)]) hx hb dX5_mixSpots_9 rfl hl (by decide) rfl (fun ls hl => ?_)
      obtain ⟨I12, ⟨n12, hI12⟩, hJ12⟩ := hw
      have hl : lv_has ls 3 [(0, .ref (a 0)), (1, .int v1_1), (2, .int 0)] := lv_sub hl [1, 2, 0] rfl
      suffices LP12 : ∀ (n : Nat) (v2_12 : Int32) (σ_12 : MS) (H : Heap) (locs : List Loc) (ls : Array Slot), I12 n v2_12 σ_12 → Wd D A s.heap (mW cI cJ a σ_12) H locs → lv_has ls 3 [(0, .ref (a 0)), (1, .int v1_1), (2, .int v2_12)] → W p l e rm_X5_mixSpots s m args below meth c H locs 0 0 Q (F0 m 10 ls []) from LP12 n12 0 _ H locs ls hI12 hW hl
      intro n12
      induction n12 using Nat.strongRecOn with
      | ind n12 ih12 =>
        intro v2_12 σ_12 H locs ls hIn hW hl
        have hw := hJ12 n12 v2_12 σ_12 hIn
        refine lv_iload_n hx hb dX5_mixSpots_10 rfl (lv_at hl 2 rfl) ?_
        refine lv_bipush (v := 6) hx hb dX5_mixSpots_11 (by decide) ?_
        refine lv_icmp_ge (tgt := 33) hx hb dX5_mixSpots_13 (by decide) (fun hc => ?_) (fun hc => ?_)
        · have hw := hw.1 hc
          refine lv_aload_n hx hb dX5_mixSpots_33 rfl (lv_at hl 0 rfl) ?_
          refine lv_aload_n hx hb dX5_mixSpots_34 rfl (lv_at hl 0 rfl) ?_
          refine lv_iload_n hx hb dX5_mixSpots_35 rfl (lv_at hl 1 rfl) ?_
          refine lv_iconst (v := 0) hx hb dX5_mixSpots_36 (by decide) ?_
          refine kV_Mi (As := [.int v1_1, .int 0]) (rest := [.ref (a 0)]) ⟨hx, hb, hml, hown, hts⟩ (ok_X5_opened l D cI cJ a _ _ _ _ _ hw) (cwV 2 hts gX5_mixSpots_X5_opened rfl rfl rfl (by decide +kernel) ⟨Nat.le_of_ble_eq_true rfl, Nat.le_of_ble_eq_true rfl⟩) hK hW hA 0 rfl rfl rfl hl.1 rfl (Nat.le_of_ble_eq_true rfl) dX5_mixSpots_37 ⟨Nat.le_of_ble_eq_true rfl, Nat.le_of_ble_eq_true rfl⟩ (fun r_13 σ_14 H locs hw hW => ?_)
          refine lv_i2l hx hb dX5_mixSpots_40 rfl ?_
          refine kV_Mv (As := [.long (r_13).toInt64]) (rest := []) ⟨hx, hb, hml, hown, hts⟩ (ok_X5_mix l D cI cJ a _ _ _ _ hw) (cwV 1 hts gX5_mixSpots_X5_mix rfl rfl rfl (by decide +kernel) ⟨Nat.le_of_ble_eq_true rfl, Nat.le_of_ble_eq_true rfl⟩) hK hW hA 0 rfl rfl rfl hl.1 rfl (Nat.le_of_ble_eq_true rfl) dX5_mixSpots_41 ⟨Nat.le_of_ble_eq_true rfl, Nat.le_of_ble_eq_true rfl⟩ (fun σ_15 H locs hw hW => ?_)
          refine lv_aload_n hx hb dX5_mixSpots_44 rfl (lv_at hl 0 rfl) ?_
          refine lv_aload_n hx hb dX5_mixSpots_45 rfl (lv_at hl 0 rfl) ?_
          refine lv_iload_n hx hb dX5_mixSpots_46 rfl (lv_at hl 1 rfl) ?_
          refine lv_iconst (v := 1) hx hb dX5_mixSpots_47 (by decide) ?_
          refine kV_Mi (As := [.int v1_1, .int 1]) (rest := [.ref (a 0)]) ⟨hx, hb, hml, hown, hts⟩ (ok_X5_opened l D cI cJ a _ _ _ _ _ hw) (cwV 2 hts gX5_mixSpots_X5_opened rfl rfl rfl (by decide +kernel) ⟨Nat.le_of_ble_eq_true rfl, Nat.le_of_ble_eq_true rfl⟩) hK hW hA 0 rfl rfl rfl hl.1 rfl (Nat.le_of_ble_eq_true rfl) dX5_mixSpots_48 ⟨Nat.le_of_ble_eq_true rfl, Nat.le_of_ble_eq_true rfl⟩ (fun r_16 σ_17 H locs hw hW => ?_)
          refine lv_i2l hx hb dX5_mixSpots_51 rfl ?_
          refine kV_Mv (As := [.long (r_16).toInt64]) (rest := []) ⟨hx, hb, hml, hown, hts⟩ (ok_X5_mix l D cI cJ a _ _ _ _ hw) (cwV 1 hts gX5_mixSpots_X5_mix rfl rfl rfl (by decide +kernel) ⟨Nat.le_of_ble_eq_true rfl, Nat.le_of_ble_eq_true rfl⟩) hK hW hA 0 rfl rfl rfl hl.1 rfl (Nat.le_of_ble_eq_true rfl) dX5_mixSpots_52 ⟨Nat.le_of_ble_eq_true rfl, Nat.le_of_ble_eq_true rfl⟩ (fun σ_18 H locs hw hW => ?_)
          obtain ⟨v1_19, ev1_19⟩ : ∃ y : Int32, y = v1_1 + 1 := ⟨_, rfl⟩
          have hw := hw v1_19 ev1_19
          refine lv_iinc (v := v1_19) (lv' := [(1, .int v1_19), (0, .ref (a 0)), (2, .int v2_12)]) hx hb dX5_mixSpots_55 hl (k := 1) rfl (by rw [ev1_19]; rfl) (by decide) rfl (fun ls hl => ?_)
          refine lv_goto (tgt := 2) hx hb dX5_mixSpots_58 (by decide) ?_
          obtain ⟨n9, hlt9, hI9⟩ := hw
          exact ih1 n9 hlt9 _ _ _ _ _ hI9 hW (lv_sub hl [1, 0] rfl)
        · have hw := hw.2 hc
          refine lv_aload_n hx hb dX5_mixSpots_16 rfl (lv_at hl 0 rfl) ?_
          refine lv_aload_n hx hb dX5_mixSpots_17 rfl (lv_at hl 0 rfl) ?_
          refine lv_iload_n hx hb dX5_mixSpots_18 rfl (lv_at hl 1 rfl) ?_
          refine lv_iload_n hx hb dX5_mixSpots_19 rfl (lv_at hl 2 rfl) ?_
          refine kV_Mi (As := [.int v1_1, .int v2_12]) (rest := [.ref (a 0)]) ⟨hx, hb, hml, hown, hts⟩ (ok_X5_ofSpot l D cI cJ a _ _ _ _ _ hw) (cwV 2 hts gX5_mixSpots_X5_ofSpot rfl rfl rfl (by decide +kernel) ⟨Nat.le_of_ble_eq_true rfl, Nat.le_of_ble_eq_true rfl⟩) hK hW hA 0 rfl rfl rfl hl.1 rfl (Nat.le_of_ble_eq_true rfl) dX5_mixSpots_20 ⟨Nat.le_of_ble_eq_true rfl, Nat.le_of_ble_eq_true rfl⟩ (fun r_20 _ H locs hw hW => ?_)
          refine lv_i2l hx hb dX5_mixSpots_23 rfl ?_
          refine kV_Mv (As := [.long (r_20).toInt64]) (rest := []) ⟨hx, hb, hml, hown, hts⟩ (ok_X5_mix l D cI cJ a _ _ _ _ hw) (cwV 1 hts gX5_mixSpots_X5_mix rfl rfl rfl (by decide +kernel) ⟨Nat.le_of_ble_eq_true rfl, Nat.le_of_ble_eq_true rfl⟩) hK hW hA 0 rfl rfl rfl hl.1 rfl (Nat.le_of_ble_eq_true rfl) dX5_mixSpots_24 ⟨Nat.le_of_ble_eq_true rfl, Nat.le_of_ble_eq_true rfl⟩ (fun σ_21 H locs hw hW => ?_)
          obtain ⟨v2_22, ev2_22⟩ : ∃ y : Int32, y = v2_12 + 1 := ⟨_, rfl⟩
          have hw := hw v2_22 ev2_22
          refine lv_iinc (v := v2_22) (lv' := [(2, .int v2_22), (0, .ref (a 0)), (1, .int v1_1)]) hx hb dX5_mixSpots_27 hl (k := 2) rfl (by rw [ev2_22]; rfl) (by decide) rfl (fun ls hl => ?_)
          refine lv_goto (tgt := 10) hx hb dX5_mixSpots_30 (by decide) ?_
          obtain ⟨n9, hlt9, hI9⟩ := hw
          exact ih12 n9 hlt9 _ _ _ _ _ hI9 hW (lv_sub hl [1, 2, 0] rfl)
def wp_X5_digest (σ : MS) (post : Int64 → MS → Prop) : Prop := ∀ σ_1 : MS, σ_1 = ms_thrown σ 0 → ∀ σ_2 : MS, σ_2 = ms_hash σ_1 3797 → ∃ I3 : Nat → Int32 → MS → Prop, (∃ n : Nat, I3 n 0 (σ_2)) ∧ ∀ (n3 : Nat) (v1_3 : Int32) (σ_3 : MS), I3 n3 v1_3 σ_3 → ((15 ≤ v1_3 → ∃ I4 : Nat → Int32 → MS → Prop, (∃ n : Nat, I4 n 0 (σ_3)) ∧ ∀ (n4 : Nat) (v1_4 : Int32) (σ_4 : MS), I4 n4 v1_4 σ_4 → ((3 ≤ v1_4 → wp_X5_mixSpots σ_4 (fun σ_5 => ∃ I6 : Nat → Int32 → MS → Prop, (∃ n : Nat, I6 n 0 (σ_5)) ∧ ∀ (n6 : Nat) (v1_6 : Int32) (σ_6 : MS), I6 n6 v1_6 σ_6 → ((6 < v1_6 → wp_X5_wouldBid σ_6 1 2 20 0 (fun r_7 σ_8 => wp_X5_mix σ_8 (r_7).toInt64 (fun σ_9 => wp_X5_wouldBid σ_9 1 2 20 1 (fun r_10 σ_11 => wp_X5_mix σ_11 (r_10).toInt64 (fun σ_12 => wp_X5_leastOf σ_12 0 0 (fun r_13 σ_14 => wp_X5_mix σ_14 (r_13).toInt64 (fun σ_15 => wp_X5_keen σ_15 (fun r_16 σ_17 => wp_X5_mix σ_17 (r_16).toInt64 (fun σ_18 => wp_X5_share σ_18 (fun r_19 => wp_X5_bits r_19 (fun r_20 => wp_X5_mix σ_18 r_20 (fun σ_21 => wp_X5_mean σ_21 (fun r_22 => wp_X5_floatBits r_22 (fun r_23 => wp_X5_mix σ_21 (r_23).toInt64 (fun σ_24 => (((m_isKept σ_24) = 0 → wp_X5_mix σ_24 0 (fun σ_25 => wp_X5_mix σ_25 ((m_length σ_25)).toInt64 (fun σ_26 => ∃ I27 : Nat → Int32 → MS → Prop, (∃ n : Nat, I27 n 0 (σ_26)) ∧ ∀ (n27 : Nat) (v1_27 : Int32) (σ_27 : MS), I27 n27 v1_27 σ_27 → (((m_length σ_27) ≤ v1_27 → post (m_hash σ_27) σ_27) ∧ (¬ (m_length σ_27) ≤ v1_27 → vp_in v1_27 60 ∧ wp_X5_mix σ_27 (((m_text σ_27) (v1_27).toNatClampNeg)).toInt64 (fun σ_28 => ∀ v1_29 : Int32, v1_29 = v1_27 + 1 → ∃ n' : Nat, n' < n27 ∧ I27 n' v1_29 (σ_28))))))) ∧ (¬ (m_isKept σ_24) = 0 → wp_X5_mix σ_24 1 (fun σ_30 => wp_X5_mix σ_30 ((m_length σ_30)).toInt64 (fun σ_31 => ∃ I32 : Nat → Int32 → MS → Prop, (∃ n : Nat, I32 n 0 (σ_31)) ∧ ∀ (n32 : Nat) (v1_32 : Int32) (σ_32 : MS), I32 n32 v1_32 σ_32 → (((m_length σ_32) ≤ v1_32 → post (m_hash σ_32) σ_32) ∧ (¬ (m_length σ_32) ≤ v1_32 → vp_in v1_32 60 ∧ wp_X5_mix σ_32 (((m_text σ_32) (v1_32).toNatClampNeg)).toInt64 (fun σ_33 => ∀ v1_34 : Int32, v1_34 = v1_32 + 1 → ∃ n' : Nat, n' < n32 ∧ I32 n' v1_34 (σ_33))))))))))))))))))))))) ∧ (¬ 6 < v1_6 → wp_X5_worthOf σ_6 v1_6 (fun r_35 σ_36 => wp_X5_mix σ_36 (r_35).toInt64 (fun σ_37 => wp_X5_mix σ_37 (r_35).toInt64 (fun σ_38 => ∀ v1_39 : Int32, v1_39 = v1_6 + 1 → ∃ n' : Nat, n' < n6 ∧ I6 n' v1_39 (σ_38)))))))) ∧ (¬ 3 ≤ v1_4 → vp_in (12 + v1_4) 1416 ∧ wp_X5_mix σ_4 (((m_s σ_4) (12 + v1_4).toNatClampNeg)).toInt64 (fun σ_40 => ∀ v1_41 : Int32, v1_41 = v1_4 + 1 → ∃ n' : Nat, n' < n4 ∧ I4 n' v1_41 (σ_40))))) ∧ (¬ 15 ≤ v1_3 → wp_X5_counted σ_3 v1_3 (fun r_42 => wp_X5_mix σ_3 (r_42).toInt64 (fun σ_43 => ∀ v1_44 : Int32, v1_44 = v1_3 + 1 → ∃ n' : Nat, n' < n3 ∧ I3 n' v1_44 (σ_43)))))
abbrev rm_X5_digest : Room := { frames := 9, cells := 0, slots := 0, locals := 210 }
theorem in_X5_digest_X5 : ∀ w ∈ wsX50, w ∈ wsX5_digest := fun w h => List.mem_cons_of_mem _ (List.mem_append_right _ (h))
set_option maxHeartbeats 4000000 in
set_option maxRecDepth 100000 in
theorem ok_X5_digest (l : Launch) (D : va_G) (cI cJ : ClassId) (a : Nat → Nat) (sz : Nat) (σ : MS) (post : Int64 → MS → Prop) (hw : wp_X5_digest σ post) : Ml l yX5_digest wsX5_digest rm_X5_digest [.ref (a 0)] D (tysIJ cI cJ) (mW cI cJ a σ) sz post (mW cI cJ a) := by
  refine s_Ml (by decide) rfl (Nat.le_of_ble_eq_true rfl) ?_
  intro p e s m args below meth c A Q hx hb hml hts hown hin hK hA hret H locs ls hW hl
  have hown : s.vm.findClass RX5 = some m.cls := hown
  have hl : lv_has ls 3 [(0, .ref (a 0))] := hl
  have hinX5 := in_X5_digest_X5
  refine lv_aload_n hx hb dX5_digest_0 rfl (lv_at hl 0 rfl) ?_
  refine lv_iconst (v := 0) hx hb dX5_digest_1 (by decide) ?_
  refine pf_m_thrown hx hb hts hinX5 hown hK hW (hts _ (List.mem_of_getElem? (i := 1) rfl)) dX5_digest_2 (fun σ_1 eσ_1 H locs hW => ?_)
  have hw := hw σ_1 eσ_1
  refine lv_aload_n hx hb dX5_digest_5 rfl (lv_at hl 0 rfl) ?_
  refine lv_ldc2 (own := RX5) (v := 3797) hx hb hown (hts _ (List.mem_of_getElem? (i := 2) rfl)) dX5_digest_6 ?_
  refine pf_m_hash hx hb hts hinX5 hown hK hW (hts _ (List.mem_of_getElem? (i := 3) rfl)) dX5_digest_9 (fun σ_2 eσ_2 H locs hW => ?_)
  have hw := hw σ_2 eσ_2
  refine lv_iconst (v := 0) hx hb dX5_digest_12 (by decide) ?_
  refine lv_istore_n (lv' := [(1, .int 0), (0, .ref (a 0))]) hx hb dX5_digest_13 rfl hl (by decide) rfl (fun ls hl => ?_)
  obtain ⟨I3, ⟨n3, hI3⟩, hJ3⟩ := hw
  have hl : lv_has ls 3 [(0, .ref (a 0)), (1, .int 0)] := lv_sub hl [1, 0] rfl
  suffices LP3 : ∀ (n : Nat) (v1_3 : Int32) (σ_3 : MS) (H : Heap) (locs : List Loc) (ls : Array Slot), I3 n v1_3 σ_3 → Wd D A s.heap (mW cI cJ a σ_3) H locs → lv_has ls 3 [(0, .ref (a 0)), (1, .int v1_3)] → W p l e rm_X5_digest s m args below meth c H locs 0 0 Q (F0 m 14 ls []) from LP3 n3 0 _ H locs ls hI3 hW hl
  intro n3
  induction n3 using Nat.strongRecOn with
  | ind n3 ih3 =>
    intro v1_3 σ_3 H locs ls hIn hW hl
    have hw := hJ3 n3 v1_3 σ_3 hIn
    refine lv_iload_n hx hb dX5_digest_14 rfl (lv_at hl 1 rfl) ?_
    refine lv_bipush (v := 15) hx hb dX5_digest_15 (by decide) ?_
    refine lv_icmp_ge (tgt := 36) hx hb dX5_digest_17 (by decide) (fun hc => ?_) (fun hc => ?_)
    · have hw := hw.1 hc
      refine lv_iconst (v := 0) hx hb dX5_digest_36 (by decide) ?_
      refine lv_istore_n (lv' := [(1, .int 0), (0, .ref (a 0))]) hx hb dX5_digest_37 rfl hl (by decide) rfl (fun ls hl => ?_)
      obtain ⟨I4, ⟨n4, hI4⟩, hJ4⟩ := hw
      have hl : lv_has ls 3 [(0, .ref (a 0)), (1, .int 0)] := lv_sub hl [1, 0] rfl
      suffices LP4 : ∀ (n : Nat) (v1_4 : Int32) (σ_4 : MS) (H : Heap) (locs : List Loc) (ls : Array Slot), I4 n v1_4 σ_4 → Wd D A s.heap (mW cI cJ a σ_4) H locs → lv_has ls 3 [(0, .ref (a 0)), (1, .int v1_4)] → W p l e rm_X5_digest s m args below meth c H locs 0 0 Q (F0 m 38 ls []) from LP4 n4 0 _ H locs ls hI4 hW hl
      intro n4
      induction n4 using Nat.strongRecOn with
      | ind n4 ih4 =>
        intro v1_4 σ_4 H locs ls hIn hW hl
        have hw := hJ4 n4 v1_4 σ_4 hIn
        refine lv_iload_n hx hb dX5_digest_38 rfl (lv_at hl 1 rfl) ?_
        refine lv_iconst (v := 3) hx hb dX5_digest_39 (by decide) ?_
        refine lv_icmp_ge (tgt := 63) hx hb dX5_digest_40 (by decide) (fun hc => ?_) (fun hc => ?_)
        · have hw := hw.1 hc
          refine lv_aload_n hx hb dX5_digest_63 rfl (lv_at hl 0 rfl) ?_
          refine kV_Mv (As := []) (rest := []) ⟨hx, hb, hml, hown, hts⟩ (ok_X5_mixSpots l D cI cJ a _ _ _ hw) (cwV 0 hts gX5_digest_X5_mixSpots rfl rfl rfl (by decide +kernel) ⟨Nat.le_of_ble_eq_true rfl, Nat.le_of_ble_eq_true rfl⟩) hK hW hA 0 rfl rfl rfl hl.1 rfl (Nat.le_of_ble_eq_true rfl) dX5_digest_64 ⟨Nat.le_of_ble_eq_true rfl, Nat.le_of_ble_eq_true rfl⟩ (fun σ_5 H locs hw hW => ?_)
          refine lv_iconst (v := 0) hx hb dX5_digest_67 (by decide) ?_
          refine lv_istore_n (lv' := [(1, .int 0), (0, .ref (a 0))]) hx hb dX5_digest_68 rfl hl (by decide) rfl (fun ls hl => ?_)
          obtain ⟨I6, ⟨n6, hI6⟩, hJ6⟩ := hw
          have hl : lv_has ls 3 [(0, .ref (a 0)), (1, .int 0)] := lv_sub hl [1, 0] rfl
          suffices LP6 : ∀ (n : Nat) (v1_6 : Int32) (σ_6 : MS) (H : Heap) (locs : List Loc) (ls : Array Slot), I6 n v1_6 σ_6 → Wd D A s.heap (mW cI cJ a σ_6) H locs → lv_has ls 3 [(0, .ref (a 0)), (1, .int v1_6)] → W p l e rm_X5_digest s m args below meth c H locs 0 0 Q (F0 m 69 ls []) from LP6 n6 0 _ H locs ls hI6 hW hl
          intro n6
          induction n6 using Nat.strongRecOn with
          | ind n6 ih6 =>
            intro v1_6 σ_6 H locs ls hIn hW hl
            have hw := hJ6 n6 v1_6 σ_6 hIn
            refine lv_iload_n hx hb dX5_digest_69 rfl (lv_at hl 1 rfl) ?_
            refine lv_bipush (v := 6) hx hb dX5_digest_70 (by decide) ?_
            refine lv_icmp_gt (tgt := 99) hx hb dX5_digest_72 (by decide) (fun hc => ?_) (fun hc => ?_)
            · have hw := hw.1 hc
              refine lv_aload_n hx hb dX5_digest_99 rfl (lv_at hl 0 rfl) ?_
              refine lv_aload_n hx hb dX5_digest_100 rfl (lv_at hl 0 rfl) ?_
              refine lv_iconst (v := 1) hx hb dX5_digest_101 (by decide) ?_
              refine lv_iconst (v := 2) hx hb dX5_digest_102 (by decide) ?_
              refine lv_bipush (v := 20) hx hb dX5_digest_103 (by decide) ?_
              refine lv_iconst (v := 0) hx hb dX5_digest_105 (by decide) ?_
              refine kV_Mi (As := [.int 1, .int 2, .int 20, .int 0]) (rest := [.ref (a 0)]) ⟨hx, hb, hml, hown, hts⟩ (ok_X5_wouldBid l D cI cJ a _ _ _ _ _ _ _ hw) (cwV 4 hts gX5_digest_X5_wouldBid rfl rfl rfl (by decide +kernel) ⟨Nat.le_of_ble_eq_true rfl, Nat.le_of_ble_eq_true rfl⟩) hK hW hA 0 rfl rfl rfl hl.1 rfl (Nat.le_of_ble_eq_true rfl) dX5_digest_106 ⟨Nat.le_of_ble_eq_true rfl, Nat.le_of_ble_eq_true rfl⟩ (fun r_7 σ_8 H locs hw hW => ?_)
              refine lv_i2l hx hb dX5_digest_109 rfl ?_
              refine kV_Mv (As := [.long (r_7).toInt64]) (rest := []) ⟨hx, hb, hml, hown, hts⟩ (ok_X5_mix l D cI cJ a _ _ _ _ hw) (cwV 1 hts gX5_digest_X5_mix rfl rfl rfl (by decide +kernel) ⟨Nat.le_of_ble_eq_true rfl, Nat.le_of_ble_eq_true rfl⟩) hK hW hA 0 rfl rfl rfl hl.1 rfl (Nat.le_of_ble_eq_true rfl) dX5_digest_110 ⟨Nat.le_of_ble_eq_true rfl, Nat.le_of_ble_eq_true rfl⟩ (fun σ_9 H locs hw hW => ?_)
              refine lv_aload_n hx hb dX5_digest_113 rfl (lv_at hl 0 rfl) ?_
              refine lv_aload_n hx hb dX5_digest_114 rfl (lv_at hl 0 rfl) ?_
              refine lv_iconst (v := 1) hx hb dX5_digest_115 (by decide) ?_
              refine lv_iconst (v := 2) hx hb dX5_digest_116 (by decide) ?_
              refine lv_bipush (v := 20) hx hb dX5_digest_117 (by decide) ?_
              refine lv_iconst (v := 1) hx hb dX5_digest_119 (by decide) ?_
              refine kV_Mi (As := [.int 1, .int 2, .int 20, .int 1]) (rest := [.ref (a 0)]) ⟨hx, hb, hml, hown, hts⟩ (ok_X5_wouldBid l D cI cJ a _ _ _ _ _ _ _ hw) (cwV 4 hts gX5_digest_X5_wouldBid rfl rfl rfl (by decide +kernel) ⟨Nat.le_of_ble_eq_true rfl, Nat.le_of_ble_eq_true rfl⟩) hK hW hA 0 rfl rfl rfl hl.1 rfl (Nat.le_of_ble_eq_true rfl) dX5_digest_120 ⟨Nat.le_of_ble_eq_true rfl, Nat.le_of_ble_eq_true rfl⟩ (fun r_10 σ_11 H locs hw hW => ?_)
              refine lv_i2l hx hb dX5_digest_123 rfl ?_
              refine kV_Mv (As := [.long (r_10).toInt64]) (rest := []) ⟨hx, hb, hml, hown, hts⟩ (ok_X5_mix l D cI cJ a _ _ _ _ hw) (cwV 1 hts gX5_digest_X5_mix rfl rfl rfl (by decide +kernel) ⟨Nat.le_of_ble_eq_true rfl, Nat.le_of_ble_eq_true rfl⟩) hK hW hA 0 rfl rfl rfl hl.1 rfl (Nat.le_of_ble_eq_true rfl) dX5_digest_124 ⟨Nat.le_of_ble_eq_true rfl, Nat.le_of_ble_eq_true rfl⟩ (fun σ_12 H locs hw hW => ?_)
              refine lv_aload_n hx hb dX5_digest_127 rfl (lv_at hl 0 rfl) ?_
              refine lv_aload_n hx hb dX5_digest_128 rfl (lv_at hl 0 rfl) ?_
              refine lv_iconst (v := 0) hx hb dX5_digest_129 (by decide) ?_
              refine lv_iconst (v := 0) hx hb dX5_digest_130 (by decide) ?_
              refine kV_Mi (As := [.int 0, .int 0]) (rest := [.ref (a 0)]) ⟨hx, hb, hml, hown, hts⟩ (ok_X5_leastOf l D cI cJ a _ _ _ _ _ hw) (cwV 2 hts gX5_digest_X5_leastOf rfl rfl rfl (by decide +kernel) ⟨Nat.le_of_ble_eq_true rfl, Nat.le_of_ble_eq_true rfl⟩) hK hW hA 0 rfl rfl rfl hl.1 rfl (Nat.le_of_ble_eq_true rfl) dX5_digest_131 ⟨Nat.le_of_ble_eq_true rfl, Nat.le_of_ble_eq_true rfl⟩ (fun r_13 σ_14 H locs hw hW => ?_)
              refine lv_i2l hx hb dX5_digest_134 rfl ?_
              refine kV_Mv (As := [.long (r_13).toInt64]) (rest := []) ⟨hx, hb, hml, hown, hts⟩ (ok_X5_mix l D cI cJ a _ _ _ _ hw) (cwV 1 hts gX5_digest_X5_mix rfl rfl rfl (by decide +kernel) ⟨Nat.le_of_ble_eq_true rfl, Nat.le_of_ble_eq_true rfl⟩) hK hW hA 0 rfl rfl rfl hl.1 rfl (Nat.le_of_ble_eq_true rfl) dX5_digest_135 ⟨Nat.le_of_ble_eq_true rfl, Nat.le_of_ble_eq_true rfl⟩ (fun σ_15 H locs hw hW => ?_)
              refine lv_aload_n hx hb dX5_digest_138 rfl (lv_at hl 0 rfl) ?_
              refine lv_aload_n hx hb dX5_digest_139 rfl (lv_at hl 0 rfl) ?_
              refine kV_Mi (As := []) (rest := [.ref (a 0)]) ⟨hx, hb, hml, hown, hts⟩ (ok_X5_keen l D cI cJ a _ _ _ hw) (cwV 0 hts gX5_digest_X5_keen rfl rfl rfl (by decide +kernel) ⟨Nat.le_of_ble_eq_true rfl, Nat.le_of_ble_eq_true rfl⟩) hK hW hA 0 rfl rfl rfl hl.1 rfl (Nat.le_of_ble_eq_true rfl) dX5_digest_140 ⟨Nat.le_of_ble_eq_true rfl, Nat.le_of_ble_eq_true rfl⟩ (fun r_16 σ_17 H locs hw hW => ?_)
              refine lv_i2l hx hb dX5_digest_143 rfl ?_
              refine kV_Mv (As := [.long (r_16).toInt64]) (rest := []) ⟨hx, hb, hml, hown, hts⟩ (ok_X5_mix l D cI cJ a _ _ _ _ hw) (cwV 1 hts gX5_digest_X5_mix rfl rfl rfl (by decide +kernel) ⟨Nat.le_of_ble_eq_true rfl, Nat.le_of_ble_eq_true rfl⟩) hK hW hA 0 rfl rfl rfl hl.1 rfl (Nat.le_of_ble_eq_true rfl) dX5_digest_144 ⟨Nat.le_of_ble_eq_true rfl, Nat.le_of_ble_eq_true rfl⟩ (fun σ_18 H locs hw hW => ?_)
              refine lv_aload_n hx hb dX5_digest_147 rfl (lv_at hl 0 rfl) ?_
              refine lv_aload_n hx hb dX5_digest_148 rfl (lv_at hl 0 rfl) ?_
              refine kV_Md (As := []) (rest := [.ref (a 0)]) ⟨hx, hb, hml, hown, hts⟩ (ok_X5_share l D cI cJ a _ _ _ hw) (cwV 0 hts gX5_digest_X5_share rfl rfl rfl (by decide +kernel) ⟨Nat.le_of_ble_eq_true rfl, Nat.le_of_ble_eq_true rfl⟩) hK hW hA 0 rfl rfl rfl hl.1 rfl (Nat.le_of_ble_eq_true rfl) dX5_digest_149 ⟨Nat.le_of_ble_eq_true rfl, Nat.le_of_ble_eq_true rfl⟩ (fun r_19 _ H locs hw hW => ?_)
              refine kS_Pl (As := [.double r_19]) (rest := [.ref (a 0)]) ⟨hx, hb, hml, hown, hts⟩ (ok_X5_bits l _ _ hw) (va_cwS 1 hts gX5_digest_X5_bits rfl rfl rfl (by decide +kernel) ⟨Nat.le_of_ble_eq_true rfl, Nat.le_of_ble_eq_true rfl⟩) hW.2.2 rfl hl.1 rfl (Nat.le_of_ble_eq_true rfl) dX5_digest_152 ⟨Nat.le_of_ble_eq_true rfl, Nat.le_of_ble_eq_true rfl⟩ (fun r_20 H locs hw hk hS => ?_)
              have hW := hW.kept hk hS
              refine kV_Mv (As := [.long r_20]) (rest := []) ⟨hx, hb, hml, hown, hts⟩ (ok_X5_mix l D cI cJ a _ _ _ _ hw) (cwV 1 hts gX5_digest_X5_mix rfl rfl rfl (by decide +kernel) ⟨Nat.le_of_ble_eq_true rfl, Nat.le_of_ble_eq_true rfl⟩) hK hW hA 0 rfl rfl rfl hl.1 rfl (Nat.le_of_ble_eq_true rfl) dX5_digest_155 ⟨Nat.le_of_ble_eq_true rfl, Nat.le_of_ble_eq_true rfl⟩ (fun σ_21 H locs hw hW => ?_)
              refine lv_aload_n hx hb dX5_digest_158 rfl (lv_at hl 0 rfl) ?_
              refine lv_aload_n hx hb dX5_digest_159 rfl (lv_at hl 0 rfl) ?_
              refine kV_Mf (As := []) (rest := [.ref (a 0)]) ⟨hx, hb, hml, hown, hts⟩ (ok_X5_mean l D cI cJ a _ _ _ hw) (cwV 0 hts gX5_digest_X5_mean rfl rfl rfl (by decide +kernel) ⟨Nat.le_of_ble_eq_true rfl, Nat.le_of_ble_eq_true rfl⟩) hK hW hA 0 rfl rfl rfl hl.1 rfl (Nat.le_of_ble_eq_true rfl) dX5_digest_160 ⟨Nat.le_of_ble_eq_true rfl, Nat.le_of_ble_eq_true rfl⟩ (fun r_22 _ H locs hw hW => ?_)
              refine kS_Pi (As := [.float r_22]) (rest := [.ref (a 0)]) ⟨hx, hb, hml, hown, hts⟩ (ok_X5_floatBits l _ _ hw) (va_cwS 1 hts gX5_digest_X5_floatBits rfl rfl rfl (by decide +kernel) ⟨Nat.le_of_ble_eq_true rfl, Nat.le_of_ble_eq_true rfl⟩) hW.2.2 rfl hl.1 rfl (Nat.le_of_ble_eq_true rfl) dX5_digest_163 ⟨Nat.le_of_ble_eq_true rfl, Nat.le_of_ble_eq_true rfl⟩ (fun r_23 H locs hw hk hS => ?_)
              have hW := hW.kept hk hS
              refine lv_i2l hx hb dX5_digest_166 rfl ?_
              refine kV_Mv (As := [.long (r_23).toInt64]) (rest := []) ⟨hx, hb, hml, hown, hts⟩ (ok_X5_mix l D cI cJ a _ _ _ _ hw) (cwV 1 hts gX5_digest_X5_mix rfl rfl rfl (by decide +kernel) ⟨Nat.le_of_ble_eq_true rfl, Nat.le_of_ble_eq_true rfl⟩) hK hW hA 0 rfl rfl rfl hl.1 rfl (Nat.le_of_ble_eq_true rfl) dX5_digest_167 ⟨Nat.le_of_ble_eq_true rfl, Nat.le_of_ble_eq_true rfl⟩ (fun σ_24 H locs hw hW => ?_)
              refine lv_aload_n hx hb dX5_digest_170 rfl (lv_at hl 0 rfl) ?_
              refine lv_aload_n hx hb dX5_digest_171 rfl (lv_at hl 0 rfl) ?_
              refine va_get (D := D) (ci := 5) (v := .int (m_isKept σ_24)) (C := RX5) (T := TX5) (N := 18) hx hb hts hinX5 hown hK hW.1 0 rfl rfl 3 (by decide) (hts _ (List.mem_of_getElem? (i := 5) rfl)) (fun _ h9 => h9) rfl dX5_digest_172 ?_
              refine lv_if_eq (tgt := 182) hx hb dX5_digest_175 (by decide) (fun hc => ?_) (fun hc => ?_)
              · have hw := hw.1 hc
                refine lv_lconst (v := 0) hx hb dX5_digest_182 (by decide) ?_
                refine kV_Mv (As := [.long 0]) (rest := []) ⟨hx, hb, hml, hown, hts⟩ (ok_X5_mix l D cI cJ a _ _ _ _ hw) (cwV 1 hts gX5_digest_X5_mix rfl rfl rfl (by decide +kernel) ⟨Nat.le_of_ble_eq_true rfl, Nat.le_of_ble_eq_true rfl⟩) hK hW hA 0 rfl rfl rfl hl.1 rfl (Nat.le_of_ble_eq_true rfl) dX5_digest_183 ⟨Nat.le_of_ble_eq_true rfl, Nat.le_of_ble_eq_true rfl⟩ (fun σ_25 H locs hw hW => ?_)
                refine lv_aload_n hx hb dX5_digest_186 rfl (lv_at hl 0 rfl) ?_
                refine lv_aload_n hx hb dX5_digest_187 rfl (lv_at hl 0 rfl) ?_
                refine va_get (D := D) (ci := 5) (v := .int (m_length σ_25)) (C := RX5) (T := TX5) (N := 18) hx hb hts hinX5 hown hK hW.1 0 rfl rfl 5 (by decide) (hts _ (List.mem_of_getElem? (i := 6) rfl)) (fun _ h9 => h9) rfl dX5_digest_188 ?_
                refine lv_i2l hx hb dX5_digest_191 rfl ?_
                refine kV_Mv (As := [.long ((m_length σ_25)).toInt64]) (rest := []) ⟨hx, hb, hml, hown, hts⟩ (ok_X5_mix l D cI cJ a _ _ _ _ hw) (cwV 1 hts gX5_digest_X5_mix rfl rfl rfl (by decide +kernel) ⟨Nat.le_of_ble_eq_true rfl, Nat.le_of_ble_eq_true rfl⟩) hK hW hA 0 rfl rfl rfl hl.1 rfl (Nat.le_of_ble_eq_true rfl) dX5_digest_192 ⟨Nat.le_of_ble_eq_true rfl, Nat.le_of_ble_eq_true rfl⟩ (fun σ_26 H locs hw hW => ?_)
                refine lv_iconst (v := 0) hx hb dX5_digest_195 (by decide) ?_
                refine lv_istore_n (lv' := [(1, .int 0), (0, .ref (a 0))]) hx hb dX5_digest_196 rfl hl (by decide) rfl (fun ls hl => ?_)
                obtain ⟨I27, ⟨n27, hI27⟩, hJ27⟩ := hw
                have hl : lv_has ls 3 [(0, .ref (a 0)), (1, .int 0)] := lv_sub hl [1, 0] rfl
                suffices LP27 : ∀ (n : Nat) (v1_27 : Int32) (σ_27 : MS) (H : Heap) (locs : List Loc) (ls : Array Slot), I27 n v1_27 σ_27 → Wd D A s.heap (mW cI cJ a σ_27) H locs → lv_has ls 3 [(0, .ref (a 0)), (1, .int v1_27)] → W p l e rm_X5_digest s m args below meth c H locs 0 0 Q (F0 m 197 ls []) from LP27 n27 0 _ H locs ls hI27 hW hl
                intro n27
                induction n27 using Nat.strongRecOn with
                | ind n27 ih27 =>
                  intro v1_27 σ_27 H locs ls hIn hW hl
                  have hw := hJ27 n27 v1_27 σ_27 hIn
                  refine lv_iload_n hx hb dX5_digest_197 rfl (lv_at hl 1 rfl) ?_
                  refine lv_aload_n hx hb dX5_digest_198 rfl (lv_at hl 0 rfl) ?_
                  refine va_get (D := D) (ci := 5) (v := .int (m_length σ_27)) (C := RX5) (T := TX5) (N := 18) hx hb hts hinX5 hown hK hW.1 0 rfl rfl 5 (by decide) (hts _ (List.mem_of_getElem? (i := 6) rfl)) (fun _ h9 => h9) rfl dX5_digest_199 ?_
                  refine lv_icmp_ge (tgt := 222) hx hb dX5_digest_202 (by decide) (fun hc => ?_) (fun hc => ?_)
                  · have hw := hw.1 hc
                    refine lv_aload_n hx hb dX5_digest_222 rfl (lv_at hl 0 rfl) ?_
                    refine va_get (D := D) (ci := 5) (v := .long (m_hash σ_27)) (C := RX5) (T := TX5) (N := 18) hx hb hts hinX5 hown hK hW.1 0 rfl rfl 17 (by decide) (hts _ (List.mem_of_getElem? (i := 3) rfl)) (fun _ h9 => h9) rfl dX5_digest_223 ?_
                    exact hret _ σ_27 _ _ _ _ hw hW dX5_digest_226
                  · have hw := hw.2 hc
                    refine lv_aload_n hx hb dX5_digest_205 rfl (lv_at hl 0 rfl) ?_
                    refine lv_aload_n hx hb dX5_digest_206 rfl (lv_at hl 0 rfl) ?_
                    refine va_get (D := D) (ci := 5) (v := .ref (a 2)) (C := RX5) (T := TX5) (N := 18) hx hb hts hinX5 hown hK hW.1 0 rfl rfl 4 (by decide) (hts _ (List.mem_of_getElem? (i := 7) rfl)) (fun _ h9 => h9) rfl dX5_digest_207 ?_
                    refine lv_iload_n hx hb dX5_digest_210 rfl (lv_at hl 1 rfl) ?_
                    refine va_iald hx hb hK hW.1 2 0 rfl rfl hw.1 dX5_digest_211 ?_
                    have hw := hw.2
                    refine lv_i2l hx hb dX5_digest_212 rfl ?_
                    refine kV_Mv (As := [.long (((m_text σ_27) (v1_27).toNatClampNeg)).toInt64]) (rest := []) ⟨hx, hb, hml, hown, hts⟩ (ok_X5_mix l D cI cJ a _ _ _ _ hw) (cwV 1 hts gX5_digest_X5_mix rfl rfl rfl (by decide +kernel) ⟨Nat.le_of_ble_eq_true rfl, Nat.le_of_ble_eq_true rfl⟩) hK hW hA 0 rfl rfl rfl hl.1 rfl (Nat.le_of_ble_eq_true rfl) dX5_digest_213 ⟨Nat.le_of_ble_eq_true rfl, Nat.le_of_ble_eq_true rfl⟩ (fun σ_28 H locs hw hW => ?_)
                    obtain ⟨v1_29, ev1_29⟩ : ∃ y : Int32, y = v1_27 + 1 := ⟨_, rfl⟩
                    have hw := hw v1_29 ev1_29
                    refine lv_iinc (v := v1_29) (lv' := [(1, .int v1_29), (0, .ref (a 0))]) hx hb dX5_digest_216 hl (k := 1) rfl (by rw [ev1_29]; rfl) (by decide) rfl (fun ls hl => ?_)
                    refine lv_goto (tgt := 197) hx hb dX5_digest_219 (by decide) ?_
                    obtain ⟨n9, hlt9, hI9⟩ := hw
                    exact ih27 n9 hlt9 _ _ _ _ _ hI9 hW (lv_sub hl [1, 0] rfl)
              · have hw := hw.2 hc
                refine lv_lconst (v := 1) hx hb dX5_digest_178 (by decide) ?_
                refine lv_goto (tgt := 183) hx hb dX5_digest_179 (by decide) ?_
                refine kV_Mv (As := [.long 1]) (rest := []) ⟨hx, hb, hml, hown, hts⟩ (ok_X5_mix l D cI cJ a _ _ _ _ hw) (cwV 1 hts gX5_digest_X5_mix rfl rfl rfl (by decide +kernel) ⟨Nat.le_of_ble_eq_true rfl, Nat.le_of_ble_eq_true rfl⟩) hK hW hA 0 rfl rfl rfl hl.1 rfl (Nat.le_of_ble_eq_true rfl) dX5_digest_183 ⟨Nat.le_of_ble_eq_true rfl, Nat.le_of_ble_eq_true rfl⟩ (fun σ_30 H locs hw hW => ?_)
                refine lv_aload_n hx hb dX5_digest_186 rfl (lv_at hl 0 rfl) ?_
                refine lv_aload_n hx hb dX5_digest_187 rfl (lv_at hl 0 rfl) ?_
                refine va_get (D := D) (ci := 5) (v := .int (m_length σ_30)) (C := RX5) (T := TX5) (N := 18) hx hb hts hinX5 hown hK hW.1 0 rfl rfl 5 (by decide) (hts _ (List.mem_of_getElem? (i := 6) rfl)) (fun _ h9 => h9) rfl dX5_digest_188 ?_
                refine lv_i2l hx hb dX5_digest_191 rfl ?_
                refine kV_Mv (As := [.long ((m_length σ_30)).toInt64]) (rest := []) ⟨hx, hb, hml, hown, hts⟩ (ok_X5_mix l D cI cJ a _ _ _ _ hw) (cwV 1 hts gX5_digest_X5_mix rfl rfl rfl (by decide +kernel) ⟨Nat.le_of_ble_eq_true rfl, Nat.le_of_ble_eq_true rfl⟩) hK hW hA 0 rfl rfl rfl hl.1 rfl (Nat.le_of_ble_eq_true rfl) dX5_digest_192 ⟨Nat.le_of_ble_eq_true rfl, Nat.le_of_ble_eq_true rfl⟩ (fun σ_31 H locs hw hW => ?_)
                refine lv_iconst (v := 0) hx hb dX5_digest_195 (by decide) ?_
                refine lv_istore_n (lv' := [(1, .int 0), (0, .ref (a 0))]) hx hb dX5_digest_196 rfl hl (by decide) rfl (fun ls hl => ?_)
                obtain ⟨I32, ⟨n32, hI32⟩, hJ32⟩ := hw
                have hl : lv_has ls 3 [(0, .ref (a 0)), (1, .int 0)] := lv_sub hl [1, 0] rfl
                suffices LP32 : ∀ (n : Nat) (v1_32 : Int32) (σ_32 : MS) (H : Heap) (locs : List Loc) (ls : Array Slot), I32 n v1_32 σ_32 → Wd D A s.heap (mW cI cJ a σ_32) H locs → lv_has ls 3 [(0, .ref (a 0)), (1, .int v1_32)] → W p l e rm_X5_digest s m args below meth c H locs 0 0 Q (F0 m 197 ls []) from LP32 n32 0 _ H locs ls hI32 hW hl
                intro n32
                induction n32 using Nat.strongRecOn with
                | ind n32 ih32 =>
                  intro v1_32 σ_32 H locs ls hIn hW hl
                  have hw := hJ32 n32 v1_32 σ_32 hIn
                  refine lv_iload_n hx hb dX5_digest_197 rfl (lv_at hl 1 rfl) ?_
                  refine lv_aload_n hx hb dX5_digest_198 rfl (lv_at hl 0 rfl) ?_
                  refine va_get (D := D) (ci := 5) (v := .int (m_length σ_32)) (C := RX5) (T := TX5) (N := 18) hx hb hts hinX5 hown hK hW.1 0 rfl rfl 5 (by decide) (hts _ (List.mem_of_getElem? (i := 6) rfl)) (fun _ h9 => h9) rfl dX5_digest_199 ?_
                  refine lv_icmp_ge (tgt := 222) hx hb dX5_digest_202 (by decide) (fun hc => ?_) (fun hc => ?_)
                  · have hw := hw.1 hc
                    refine lv_aload_n hx hb dX5_digest_222 rfl (lv_at hl 0 rfl) ?_
                    refine va_get (D := D) (ci := 5) (v := .long (m_hash σ_32)) (C := RX5) (T := TX5) (N := 18) hx hb hts hinX5 hown hK hW.1 0 rfl rfl 17 (by decide) (hts _ (List.mem_of_getElem? (i := 3) rfl)) (fun _ h9 => h9) rfl dX5_digest_223 ?_
                    exact hret _ σ_32 _ _ _ _ hw hW dX5_digest_226
                  · have hw := hw.2 hc
                    refine lv_aload_n hx hb dX5_digest_205 rfl (lv_at hl 0 rfl) ?_
                    refine lv_aload_n hx hb dX5_digest_206 rfl (lv_at hl 0 rfl) ?_
                    refine va_get (D := D) (ci := 5) (v := .ref (a 2)) (C := RX5) (T := TX5) (N := 18) hx hb hts hinX5 hown hK hW.1 0 rfl rfl 4 (by decide) (hts _ (List.mem_of_getElem? (i := 7) rfl)) (fun _ h9 => h9) rfl dX5_digest_207 ?_
                    refine lv_iload_n hx hb dX5_digest_210 rfl (lv_at hl 1 rfl) ?_
                    refine va_iald hx hb hK hW.1 2 0 rfl rfl hw.1 dX5_digest_211 ?_
                    have hw := hw.2
                    refine lv_i2l hx hb dX5_digest_212 rfl ?_
                    refine kV_Mv (As := [.long (((m_text σ_32) (v1_32).toNatClampNeg)).toInt64]) (rest := []) ⟨hx, hb, hml, hown, hts⟩ (ok_X5_mix l D cI cJ a _ _ _ _ hw) (cwV 1 hts gX5_digest_X5_mix rfl rfl rfl (by decide +kernel) ⟨Nat.le_of_ble_eq_true rfl, Nat.le_of_ble_eq_true rfl⟩) hK hW hA 0 rfl rfl rfl hl.1 rfl (Nat.le_of_ble_eq_true rfl) dX5_digest_213 ⟨Nat.le_of_ble_eq_true rfl, Nat.le_of_ble_eq_true rfl⟩ (fun σ_33 H locs hw hW => ?_)
                    obtain ⟨v1_34, ev1_34⟩ : ∃ y : Int32, y = v1_32 + 1 := ⟨_, rfl⟩
                    have hw := hw v1_34 ev1_34
                    refine lv_iinc (v := v1_34) (lv' := [(1, .int v1_34), (0, .ref (a 0))]) hx hb dX5_digest_216 hl (k := 1) rfl (by rw [ev1_34]; rfl) (by decide) rfl (fun ls hl => ?_)
                    refine lv_goto (tgt := 197) hx hb dX5_digest_219 (by decide) ?_
                    obtain ⟨n9, hlt9, hI9⟩ := hw
                    exact ih32 n9 hlt9 _ _ _ _ _ hI9 hW (lv_sub hl [1, 0] rfl)
            · have hw := hw.2 hc
              refine lv_aload_n hx hb dX5_digest_75 rfl (lv_at hl 0 rfl) ?_
              refine lv_iload_n hx hb dX5_digest_76 rfl (lv_at hl 1 rfl) ?_
              refine kV_Mi (As := [.int v1_6]) (rest := []) ⟨hx, hb, hml, hown, hts⟩ (ok_X5_worthOf l D cI cJ a _ _ _ _ hw) (cwV 1 hts gX5_digest_X5_worthOf rfl rfl rfl (by decide +kernel) ⟨Nat.le_of_ble_eq_true rfl, Nat.le_of_ble_eq_true rfl⟩) hK hW hA 0 rfl rfl rfl hl.1 rfl (Nat.le_of_ble_eq_true rfl) dX5_digest_77 ⟨Nat.le_of_ble_eq_true rfl, Nat.le_of_ble_eq_true rfl⟩ (fun r_35 σ_36 H locs hw hW => ?_)
              refine lv_istore_n (lv' := [(2, .int r_35), (0, .ref (a 0)), (1, .int v1_6)]) hx hb dX5_digest_80 rfl hl (by decide) rfl (fun ls hl => ?_)
              refine lv_aload_n hx hb dX5_digest_81 rfl (lv_at hl 1 rfl) ?_
              refine lv_iload_n hx hb dX5_digest_82 rfl (lv_at hl 0 rfl) ?_
              refine lv_i2l hx hb dX5_digest_83 rfl ?_
              refine kV_Mv (As := [.long (r_35).toInt64]) (rest := []) ⟨hx, hb, hml, hown, hts⟩ (ok_X5_mix l D cI cJ a _ _ _ _ hw) (cwV 1 hts gX5_digest_X5_mix rfl rfl rfl (by decide +kernel) ⟨Nat.le_of_ble_eq_true rfl, Nat.le_of_ble_eq_true rfl⟩) hK hW hA 0 rfl rfl rfl hl.1 rfl (Nat.le_of_ble_eq_true rfl) dX5_digest_84 ⟨Nat.le_of_ble_eq_true rfl, Nat.le_of_ble_eq_true rfl⟩ (fun σ_37 H locs hw hW => ?_)
              refine lv_aload_n hx hb dX5_digest_87 rfl (lv_at hl 1 rfl) ?_
              refine lv_iload_n hx hb dX5_digest_88 rfl (lv_at hl 0 rfl) ?_
              refine lv_i2l hx hb dX5_digest_89 rfl ?_
              refine kV_Mv (As := [.long (r_35).toInt64]) (rest := []) ⟨hx, hb, hml, hown, hts⟩ (ok_X5_mix l D cI cJ a _ _ _ _ hw) (cwV 1 hts gX5_digest_X5_mix rfl rfl rfl (by decide +kernel) ⟨Nat.le_of_ble_eq_true rfl, Nat.le_of_ble_eq_true rfl⟩) hK hW hA 0 rfl rfl rfl hl.1 rfl (Nat.le_of_ble_eq_true rfl) dX5_digest_90 ⟨Nat.le_of_ble_eq_true rfl, Nat.le_of_ble_eq_true rfl⟩ (fun σ_38 H locs hw hW => ?_)
              obtain ⟨v1_39, ev1_39⟩ : ∃ y : Int32, y = v1_6 + 1 := ⟨_, rfl⟩
              have hw := hw v1_39 ev1_39
              refine lv_iinc (v := v1_39) (lv' := [(1, .int v1_39), (2, .int r_35), (0, .ref (a 0))]) hx hb dX5_digest_93 hl (k := 2) rfl (by rw [ev1_39]; rfl) (by decide) rfl (fun ls hl => ?_)
              refine lv_goto (tgt := 69) hx hb dX5_digest_96 (by decide) ?_
              obtain ⟨n9, hlt9, hI9⟩ := hw
              exact ih6 n9 hlt9 _ _ _ _ _ hI9 hW (lv_sub hl [2, 0] rfl)
        · have hw := hw.2 hc
          refine lv_aload_n hx hb dX5_digest_43 rfl (lv_at hl 0 rfl) ?_
          refine lv_aload_n hx hb dX5_digest_44 rfl (lv_at hl 0 rfl) ?_
          refine va_get (D := D) (ci := 5) (v := .ref (a 1)) (C := RX5) (T := TX5) (N := 18) hx hb hts hinX5 hown hK hW.1 0 rfl rfl 1 (by decide) (hts _ (List.mem_of_getElem? (i := 4) rfl)) (fun _ h9 => h9) rfl dX5_digest_45 ?_
          refine lv_bipush (v := 12) hx hb dX5_digest_48 (by decide) ?_
          refine lv_iload_n hx hb dX5_digest_50 rfl (lv_at hl 1 rfl) ?_
          refine lv_iadd hx hb dX5_digest_51 ?_
          refine va_iald hx hb hK hW.1 1 0 rfl rfl hw.1 dX5_digest_52 ?_
          have hw := hw.2
          refine lv_i2l hx hb dX5_digest_53 rfl ?_
          refine kV_Mv (As := [.long (((m_s σ_4) (12 + v1_4).toNatClampNeg)).toInt64]) (rest := []) ⟨hx, hb, hml, hown, hts⟩ (ok_X5_mix l D cI cJ a _ _ _ _ hw) (cwV 1 hts gX5_digest_X5_mix rfl rfl rfl (by decide +kernel) ⟨Nat.le_of_ble_eq_true rfl, Nat.le_of_ble_eq_true rfl⟩) hK hW hA 0 rfl rfl rfl hl.1 rfl (Nat.le_of_ble_eq_true rfl) dX5_digest_54 ⟨Nat.le_of_ble_eq_true rfl, Nat.le_of_ble_eq_true rfl⟩ (fun σ_40 H locs hw hW => ?_)
          obtain ⟨v1_41, ev1_41⟩ : ∃ y : Int32, y = v1_4 + 1 := ⟨_, rfl⟩
          have hw := hw v1_41 ev1_41
          refine lv_iinc (v := v1_41) (lv' := [(1, .int v1_41), (0, .ref (a 0))]) hx hb dX5_digest_57 hl (k := 1) rfl (by rw [ev1_41]; rfl) (by decide) rfl (fun ls hl => ?_)
          refine lv_goto (tgt := 38) hx hb dX5_digest_60 (by decide) ?_
          obtain ⟨n9, hlt9, hI9⟩ := hw
          exact ih4 n9 hlt9 _ _ _ _ _ hI9 hW (lv_sub hl [1, 0] rfl)
    · have hw := hw.2 hc
      refine lv_aload_n hx hb dX5_digest_20 rfl (lv_at hl 0 rfl) ?_
      refine lv_aload_n hx hb dX5_digest_21 rfl (lv_at hl 0 rfl) ?_
      refine lv_iload_n hx hb dX5_digest_22 rfl (lv_at hl 1 rfl) ?_
      refine kV_Mi (As := [.int v1_3]) (rest := [.ref (a 0)]) ⟨hx, hb, hml, hown, hts⟩ (ok_X5_counted l D cI cJ a _ _ _ _ hw) (cwV 1 hts gX5_digest_X5_counted rfl rfl rfl (by decide +kernel) ⟨Nat.le_of_ble_eq_true rfl, Nat.le_of_ble_eq_true rfl⟩) hK hW hA 0 rfl rfl rfl hl.1 rfl (Nat.le_of_ble_eq_true rfl) dX5_digest_23 ⟨Nat.le_of_ble_eq_true rfl, Nat.le_of_ble_eq_true rfl⟩ (fun r_42 _ H locs hw hW => ?_)
      refine lv_i2l hx hb dX5_digest_26 rfl ?_
      refine kV_Mv (As := [.long (r_42).toInt64]) (rest := []) ⟨hx, hb, hml, hown, hts⟩ (ok_X5_mix l D cI cJ a _ _ _ _ hw) (cwV 1 hts gX5_digest_X5_mix rfl rfl rfl (by decide +kernel) ⟨Nat.le_of_ble_eq_true rfl, Nat.le_of_ble_eq_true rfl⟩) hK hW hA 0 rfl rfl rfl hl.1 rfl (Nat.le_of_ble_eq_true rfl) dX5_digest_27 ⟨Nat.le_of_ble_eq_true rfl, Nat.le_of_ble_eq_true rfl⟩ (fun σ_43 H locs hw hW => ?_)
      obtain ⟨v1_44, ev1_44⟩ : ∃ y : Int32, y = v1_3 + 1 := ⟨_, rfl⟩
      have hw := hw v1_44 ev1_44
      refine lv_iinc (v := v1_44) (lv' := [(1, .int v1_44), (0, .ref (a 0))]) hx hb dX5_digest_30 hl (k := 1) rfl (by rw [ev1_44]; rfl) (by decide) rfl (fun ls hl => ?_)
      refine lv_goto (tgt := 14) hx hb dX5_digest_33 (by decide) ?_
      obtain ⟨n9, hlt9, hI9⟩ := hw
      exact ih3 n9 hlt9 _ _ _ _ _ hI9 hW (lv_sub hl [1, 0] rfl)
