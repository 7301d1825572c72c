def wp_X4_needPlace (σ : CS) (p1 : Int32) (p2 : Int32) (post : Prop) (px : String → Prop) : Prop := ((p1 < 0 → px "java/lang/IndexOutOfBoundsException") ∧ (¬ p1 < 0 → ((p1 < p2 → post) ∧ (¬ p1 < p2 → px "java/lang/IndexOutOfBoundsException"))))
abbrev rm_X4_needPlace : Room := { frames := 8, cells := 1, slots := 6, locals := 140 }
set_option maxHeartbeats 4000000 in
set_option maxRecDepth 100000 in
theorem ok_X4_needPlace (l : Launch) (hst : l.stackTraces = false) (D : va_G) (cI cJ : ClassId) (a : Nat → Nat) (sz : Nat) (σ : CS) (p1 : Int32) (p2 : Int32) (post : Prop) (px : String → Prop) (hw : wp_X4_needPlace σ p1 p2 post px) : Xv l yX4_needPlace wsX4_needPlace rm_X4_needPlace [.int p1, .int p2] D (tysIJ cI cJ) (cW cI cJ a σ) sz (fun (_ : Unit) => post) (fun _ => cW cI cJ a σ) px 1 6 := by
  refine s_Xv hst (by decide) rfl (Nat.le_of_ble_eq_true rfl) ?_
  intro p e s m args below meth c A Q hx hb hml hts hown hin hK hA hz hs hret hpass hthr1 hthr2 H locs ls hW hl
  have hown : s.vm.findClass RX4 = some m.cls := hown
  have hl : lv_has ls 2 [(0, .int p1), (1, .int p2)] := hl
  refine lv_iload_n hx hb dX4_needPlace_0 rfl (lv_at hl 0 rfl) ?_
  refine lv_if_lt (tgt := 9) hx hb dX4_needPlace_1 (by decide) (fun hc => ?_) (fun hc => ?_)
  · have hw := hw.1 hc
    obtain ⟨sa, hsa⟩ := hs.2.2.2.2.1
    exact hthr2 "java/lang/IndexOutOfBoundsException" "no such spot, bidder or setting" ["java/lang/RuntimeException", "java/lang/Exception"] 263 265 267 sa 9 _ _ H locs ls _ hw hW (by decide +kernel) (by decide +kernel) (hts _ (List.mem_of_getElem? (i := 1) rfl)) (hts _ (List.mem_of_getElem? (i := 2) rfl)) hsa (vx_hat (fun w h => hts w (List.mem_cons_of_mem _ (List.mem_append_right _ (h)))) atS_0 (atB_0 hs)) (by decide +kernel) hl.1 dX4_needPlace_9 dX4_needPlace_12 dX4_needPlace_13 dX4_needPlace_16 dX4_needPlace_19 (by decide) (Nat.le_of_ble_eq_true rfl) (by decide) (by decide) (by decide) (by decide)
  · have hw := hw.2 hc
    refine lv_iload_n hx hb dX4_needPlace_4 rfl (lv_at hl 0 rfl) ?_
    refine lv_iload_n hx hb dX4_needPlace_5 rfl (lv_at hl 1 rfl) ?_
    refine lv_icmp_lt (tgt := 20) hx hb dX4_needPlace_6 (by decide) (fun hc => ?_) (fun hc => ?_)
    · have hw := hw.1 hc
      exact hret () _ _ _ _ _ _ (Nat.le_of_ble_eq_true rfl) (Nat.le_of_ble_eq_true rfl) hw hW dX4_needPlace_20
    · have hw := hw.2 hc
      obtain ⟨sa, hsa⟩ := hs.2.2.2.2.1
      exact hthr2 "java/lang/IndexOutOfBoundsException" "no such spot, bidder or setting" ["java/lang/RuntimeException", "java/lang/Exception"] 263 265 267 sa 9 _ _ H locs ls _ hw hW (by decide +kernel) (by decide +kernel) (hts _ (List.mem_of_getElem? (i := 1) rfl)) (hts _ (List.mem_of_getElem? (i := 2) rfl)) hsa (vx_hat (fun w h => hts w (List.mem_cons_of_mem _ (List.mem_append_right _ (h)))) atS_0 (atB_0 hs)) (by decide +kernel) hl.1 dX4_needPlace_9 dX4_needPlace_12 dX4_needPlace_13 dX4_needPlace_16 dX4_needPlace_19 (by decide) (Nat.le_of_ble_eq_true rfl) (by decide) (by decide) (by decide) (by decide)
abbrev rm_X4_needPlace_n : Room := { frames := 8, cells := 0, slots := 0, locals := 140 }
set_option maxHeartbeats 4000000 in
set_option maxRecDepth 100000 in
theorem ok_X4_needPlace_n (l : Launch) (D : va_G) (cI cJ : ClassId) (a : Nat → Nat) (sz : Nat) (σ : CS) (p1 : Int32) (p2 : Int32) (post : Prop) (hw : wp_X4_needPlace σ p1 p2 post (fun _ => False)) : Mv l yX4_needPlace wsX4_needPlace rm_X4_needPlace_n [.int p1, .int p2] D (tysIJ cI cJ) (cW cI cJ a σ) sz (fun (_ : Unit) => post) (fun _ => cW cI cJ a σ) := by
  refine s_Mv (by decide) rfl (Nat.le_of_ble_eq_true rfl) ?_
  intro p e s m args below meth c A Q hx hb hml hts hown hin hK hA hret H locs ls hW hl
  have hown : s.vm.findClass RX4 = some m.cls := hown
  have hl : lv_has ls 2 [(0, .int p1), (1, .int p2)] := hl
  refine lv_iload_n hx hb dX4_needPlace_0 rfl (lv_at hl 0 rfl) ?_
  refine lv_if_lt (tgt := 9) hx hb dX4_needPlace_1 (by decide) (fun hc => ?_) (fun hc => ?_)
  · have hw := hw.1 hc
    exact hw.elim
  · have hw := hw.2 hc
    refine lv_iload_n hx hb dX4_needPlace_4 rfl (lv_at hl 0 rfl) ?_
    refine lv_iload_n hx hb dX4_needPlace_5 rfl (lv_at hl 1 rfl) ?_
    refine lv_icmp_lt (tgt := 20) hx hb dX4_needPlace_6 (by decide) (fun hc => ?_) (fun hc => ?_)
    · have hw := hw.1 hc
      exact hret () _ _ _ _ hw hW dX4_needPlace_20
    · have hw := hw.2 hc
      exact hw.elim
def wp_X4_needRange (σ : CS) (p1 : Int32) (p2 : Int32) (p3 : Int32) (post : Prop) (px : String → Prop) : Prop := ((p1 < p2 → px "java/lang/IllegalArgumentException") ∧ (¬ p1 < p2 → ((p1 ≤ p3 → post) ∧ (¬ p1 ≤ p3 → px "java/lang/IllegalArgumentException"))))
abbrev rm_X4_needRange : Room := { frames := 8, cells := 1, slots := 6, locals := 140 }
set_option maxHeartbeats 4000000 in
set_option maxRecDepth 100000 in
theorem ok_X4_needRange (l : Launch) (hst : l.stackTraces = false) (D : va_G) (cI cJ : ClassId) (a : Nat → Nat) (sz : Nat) (σ : CS) (p1 : Int32) (p2 : Int32) (p3 : Int32) (post : Prop) (px : String → Prop) (hw : wp_X4_needRange σ p1 p2 p3 post px) : Xv l yX4_needRange wsX4_needRange rm_X4_needRange [.int p1, .int p2, .int p3] D (tysIJ cI cJ) (cW cI cJ a σ) sz (fun (_ : Unit) => post) (fun _ => cW cI cJ a σ) px 1 6 := by
  refine s_Xv hst (by decide) rfl (Nat.le_of_ble_eq_true rfl) ?_
  intro p e s m args below meth c A Q hx hb hml hts hown hin hK hA hz hs hret hpass hthr1 hthr2 H locs ls hW hl
  have hown : s.vm.findClass RX4 = some m.cls := hown
  have hl : lv_has ls 3 [(0, .int p1), (1, .int p2), (2, .int p3)] := hl
  refine lv_iload_n hx hb dX4_needRange_0 rfl (lv_at hl 0 rfl) ?_
  refine lv_iload_n hx hb dX4_needRange_1 rfl (lv_at hl 1 rfl) ?_
  refine lv_icmp_lt (tgt := 10) hx hb dX4_needRange_2 (by decide) (fun hc => ?_) (fun hc => ?_)
  · have hw := hw.1 hc
    obtain ⟨sa, hsa⟩ := hs.2.2.2.2.2.1
    exact hthr2 "java/lang/IllegalArgumentException" "a number is out of range" ["java/lang/RuntimeException", "java/lang/Exception"] 117 268 121 sa 10 _ _ H locs ls _ hw hW (by decide +kernel) (by decide +kernel) (hts _ (List.mem_of_getElem? (i := 1) rfl)) (hts _ (List.mem_of_getElem? (i := 2) rfl)) hsa (vx_hat (fun w h => hts w (List.mem_cons_of_mem _ (List.mem_append_right _ (h)))) atS_1 (atB_1 hs)) (by decide +kernel) hl.1 dX4_needRange_10 dX4_needRange_13 dX4_needRange_14 dX4_needRange_17 dX4_needRange_20 (by decide) (Nat.le_of_ble_eq_true rfl) (by decide) (by decide) (by decide) (by decide)
  · have hw := hw.2 hc
    refine lv_iload_n hx hb dX4_needRange_5 rfl (lv_at hl 0 rfl) ?_
    refine lv_iload_n hx hb dX4_needRange_6 rfl (lv_at hl 2 rfl) ?_
    refine lv_icmp_le (tgt := 21) hx hb dX4_needRange_7 (by decide) (fun hc => ?_) (fun hc => ?_)
    · have hw := hw.1 hc
      exact hret () _ _ _ _ _ _ (Nat.le_of_ble_eq_true rfl) (Nat.le_of_ble_eq_true rfl) hw hW dX4_needRange_21
    · have hw := hw.2 hc
      obtain ⟨sa, hsa⟩ := hs.2.2.2.2.2.1
      exact hthr2 "java/lang/IllegalArgumentException" "a number is out of range" ["java/lang/RuntimeException", "java/lang/Exception"] 117 268 121 sa 10 _ _ H locs ls _ hw hW (by decide +kernel) (by decide +kernel) (hts _ (List.mem_of_getElem? (i := 1) rfl)) (hts _ (List.mem_of_getElem? (i := 2) rfl)) hsa (vx_hat (fun w h => hts w (List.mem_cons_of_mem _ (List.mem_append_right _ (h)))) atS_1 (atB_1 hs)) (by decide +kernel) hl.1 dX4_needRange_10 dX4_needRange_13 dX4_needRange_14 dX4_needRange_17 dX4_needRange_20 (by decide) (Nat.le_of_ble_eq_true rfl) (by decide) (by decide) (by decide) (by decide)
abbrev rm_X4_needRange_n : Room := { frames := 8, cells := 0, slots := 0, locals := 140 }
set_option maxHeartbeats 4000000 in
set_option maxRecDepth 100000 in
theorem ok_X4_needRange_n (l : Launch) (D : va_G) (cI cJ : ClassId) (a : Nat → Nat) (sz : Nat) (σ : CS) (p1 : Int32) (p2 : Int32) (p3 : Int32) (post : Prop) (hw : wp_X4_needRange σ p1 p2 p3 post (fun _ => False)) : Mv l yX4_needRange wsX4_needRange rm_X4_needRange_n [.int p1, .int p2, .int p3] D (tysIJ cI cJ) (cW cI cJ a σ) sz (fun (_ : Unit) => post) (fun _ => cW cI cJ a σ) := by
  refine s_Mv (by decide) rfl (Nat.le_of_ble_eq_true rfl) ?_
  intro p e s m args below meth c A Q hx hb hml hts hown hin hK hA hret H locs ls hW hl
  have hown : s.vm.findClass RX4 = some m.cls := hown
  have hl : lv_has ls 3 [(0, .int p1), (1, .int p2), (2, .int p3)] := hl
  refine lv_iload_n hx hb dX4_needRange_0 rfl (lv_at hl 0 rfl) ?_
  refine lv_iload_n hx hb dX4_needRange_1 rfl (lv_at hl 1 rfl) ?_
  refine lv_icmp_lt (tgt := 10) hx hb dX4_needRange_2 (by decide) (fun hc => ?_) (fun hc => ?_)
  · have hw := hw.1 hc
    exact hw.elim
  · have hw := hw.2 hc
    refine lv_iload_n hx hb dX4_needRange_5 rfl (lv_at hl 0 rfl) ?_
    refine lv_iload_n hx hb dX4_needRange_6 rfl (lv_at hl 2 rfl) ?_
    refine lv_icmp_le (tgt := 21) hx hb dX4_needRange_7 (by decide) (fun hc => ?_) (fun hc => ?_)
    · have hw := hw.1 hc
      exact hret () _ _ _ _ hw hW dX4_needRange_21
    · have hw := hw.2 hc
      exact hw.elim
def wp_X4_price (σ : CS) (p1 : Int32) (p2 : Int32) (post : Int32 → CS → Prop) (px : String → Prop) : Prop := wp_X4_needPlace σ p1 6 (wp_X4_needRange σ p2 0 99 (wp_X0_save σ (fun σ_1 => wp_X2_get σ_1 0 p1 (fun r_2 => wp_X2_put σ_1 0 p1 p2 (fun σ_3 => post r_2 σ_3)))) px) px
abbrev rm_X4_price : Room := { frames := 9, cells := 2, slots := 12, locals := 162 }
theorem in_X4_price_X4 : ∀ w ∈ wsX40, w ∈ wsX4_price := fun w h => List.mem_cons_of_mem _ (List.mem_append_left _ (List.mem_append_left _ (List.mem_append_left _ (List.mem_append_left _ (List.mem_append_right _ (h))))))
set_option maxHeartbeats 4000000 in
set_option maxRecDepth 100000 in
theorem ok_X4_price (l : Launch) (hst : l.stackTraces = false) (D : va_G) (cI cJ : ClassId) (a : Nat → Nat) (sz : Nat) (σ : CS) (p1 : Int32) (p2 : Int32) (post : Int32 → CS → Prop) (px : String → Prop) (hw : wp_X4_price σ p1 p2 post px) : Xi l yX4_price wsX4_price rm_X4_price [.ref (a 0), .int p1, .int p2] D (tysIJ cI cJ) (cW cI cJ a σ) sz post (cW cI cJ a) px 2 12 := by
  refine s_Xi hst (by decide) rfl (Nat.le_of_ble_eq_true rfl) ?_
  intro p e s m args below meth c A Q hx hb hml hts hown hin hK hA hz hs hret hpass hthr1 hthr2 H locs ls hW hl
  have hown : s.vm.findClass RX4 = some m.cls := hown
  have hl : lv_has ls 4 [(0, .ref (a 0)), (1, .int p1), (2, .int p2)] := hl
  have hinX4 := in_X4_price_X4
  refine lv_iload_n hx hb dX4_price_0 rfl (lv_at hl 1 rfl) ?_
  refine lv_bipush (v := 6) hx hb dX4_price_1 (by decide) ?_
  refine kS_Xv (As := [.int p1, .int 6]) (rest := []) ⟨hx, hb, hml, hown, hts⟩ (ok_X4_needPlace l hst D cI cJ a _ _ _ _ _ _ hw) (va_cwS 2 hts gX4_price_X4_needPlace rfl rfl rfl (by decide +kernel) ⟨(Nat.le_of_ble_eq_true rfl), (Nat.le_of_ble_eq_true rfl)⟩) hK hW hA hz hs rfl hl.1 rfl (Nat.le_of_ble_eq_true rfl) dX4_price_3 ⟨(Nat.le_of_ble_eq_true rfl), (Nat.le_of_ble_eq_true rfl)⟩ (fun E ce q H locs hE hW h1 h2 h3 => hpass E ce q H locs _ _ _ _ _ (Nat.le_of_ble_eq_true rfl) (Nat.le_of_ble_eq_true rfl) hE hW h1 h2 h3) (fun _ H locs hw hW => ?_)
  refine lv_iload_n hx hb dX4_price_6 rfl (lv_at hl 2 rfl) ?_
  refine lv_iconst (v := 0) hx hb dX4_price_7 (by decide) ?_
  refine lv_bipush (v := 99) hx hb dX4_price_8 (by decide) ?_
  refine kS_Xv (As := [.int p2, .int 0, .int 99]) (rest := []) ⟨hx, hb, hml, hown, hts⟩ (ok_X4_needRange l hst D cI cJ a _ _ _ _ _ _ _ hw) (va_cwS 3 hts gX4_price_X4_needRange rfl rfl rfl (by decide +kernel) ⟨(Nat.le_of_ble_eq_true rfl), (Nat.le_of_ble_eq_true rfl)⟩) hK hW hA hz hs rfl hl.1 rfl (Nat.le_of_ble_eq_true rfl) dX4_price_10 ⟨(Nat.le_of_ble_eq_true rfl), (Nat.le_of_ble_eq_true rfl)⟩ (fun E ce q H locs hE hW h1 h2 h3 => hpass E ce q H locs _ _ _ _ _ (Nat.le_of_ble_eq_true rfl) (Nat.le_of_ble_eq_true rfl) hE hW h1 h2 h3) (fun _ H locs hw hW => ?_)
  refine lv_aload_n hx hb dX4_price_13 rfl (lv_at hl 0 rfl) ?_
  refine va_get (D := D) (ci := 4) (v := .ref (a 6)) (C := RX4) (T := TX4) (N := 4) hx hb hts hinX4 hown hK hW.1 0 rfl rfl 2 (by decide) (hts _ (List.mem_of_getElem? (i := 1) rfl)) (fun _ h9 => h9) rfl dX4_price_14 ?_
  refine lv_aload_n hx hb dX4_price_17 rfl (lv_at hl 0 rfl) ?_
  refine va_get (D := D) (ci := 4) (v := .ref (a 1)) (C := RX4) (T := TX4) (N := 4) hx hb hts hinX4 hown hK hW.1 0 rfl rfl 0 (by decide) (hts _ (List.mem_of_getElem? (i := 2) rfl)) (fun _ h9 => h9) rfl dX4_price_18 ?_
  refine kV_Mv (As := [.ref (a 1)]) (rest := []) ⟨hx, hb, hml, hown, hts⟩ (ok_X0_save l D cI cJ a _ _ _ hw) (cwV 1 hts gX4_price_X0_save rfl rfl rfl (by decide +kernel) ⟨Nat.le_of_ble_eq_true rfl, Nat.le_of_ble_eq_true rfl⟩) hK hW hA 6 rfl rfl rfl hl.1 rfl (Nat.le_of_ble_eq_true rfl) dX4_price_21 ⟨Nat.le_of_ble_eq_true rfl, Nat.le_of_ble_eq_true rfl⟩ (fun σ_1 H locs hw hW => ?_)
  refine lv_aload_n hx hb dX4_price_24 rfl (lv_at hl 0 rfl) ?_
  refine va_get (D := D) (ci := 4) (v := .ref (a 1)) (C := RX4) (T := TX4) (N := 4) hx hb hts hinX4 hown hK hW.1 0 rfl rfl 0 (by decide) (hts _ (List.mem_of_getElem? (i := 2) rfl)) (fun _ h9 => h9) rfl dX4_price_25 ?_
  refine lv_iconst (v := 0) hx hb dX4_price_28 (by decide) ?_
  refine lv_iload_n hx hb dX4_price_29 rfl (lv_at hl 1 rfl) ?_
  refine kV_Mi (As := [.int 0, .int p1]) (rest := []) ⟨hx, hb, hml, hown, hts⟩ (ok_X2_get l D cI cJ a _ _ _ _ _ hw) (cwV 2 hts gX4_price_X2_get rfl rfl rfl (by decide +kernel) ⟨Nat.le_of_ble_eq_true rfl, Nat.le_of_ble_eq_true rfl⟩) hK hW hA 1 rfl rfl rfl hl.1 rfl (Nat.le_of_ble_eq_true rfl) dX4_price_30 ⟨Nat.le_of_ble_eq_true rfl, Nat.le_of_ble_eq_true rfl⟩ (fun r_2 _ H locs hw hW => ?_)
  refine lv_istore_n (lv' := [(3, .int r_2), (0, .ref (a 0)), (1, .int p1), (2, .int p2)]) hx hb dX4_price_33 rfl hl (by decide) rfl (fun ls hl => ?_)
  refine lv_aload_n hx hb dX4_price_34 rfl (lv_at hl 1 rfl) ?_
  refine va_get (D := D) (ci := 4) (v := .ref (a 1)) (C := RX4) (T := TX4) (N := 4) hx hb hts hinX4 hown hK hW.1 0 rfl rfl 0 (by decide) (hts _ (List.mem_of_getElem? (i := 2) rfl)) (fun _ h9 => h9) rfl dX4_price_35 ?_
  refine lv_iconst (v := 0) hx hb dX4_price_38 (by decide) ?_
  refine lv_iload_n hx hb dX4_price_39 rfl (lv_at hl 2 rfl) ?_
  refine lv_iload_n hx hb dX4_price_40 rfl (lv_at hl 3 rfl) ?_
  refine kV_Mv (As := [.int 0, .int p1, .int p2]) (rest := []) ⟨hx, hb, hml, hown, hts⟩ (ok_X2_put l D cI cJ a _ _ _ _ _ _ hw) (cwV 3 hts gX4_price_X2_put rfl rfl rfl (by decide +kernel) ⟨Nat.le_of_ble_eq_true rfl, Nat.le_of_ble_eq_true rfl⟩) hK hW hA 1 rfl rfl rfl hl.1 rfl (Nat.le_of_ble_eq_true rfl) dX4_price_41 ⟨Nat.le_of_ble_eq_true rfl, Nat.le_of_ble_eq_true rfl⟩ (fun σ_3 H locs hw hW => ?_)
  refine lv_iload_n hx hb dX4_price_44 rfl (lv_at hl 0 rfl) ?_
  exact hret _ σ_3 _ _ _ _ _ _ (Nat.le_of_ble_eq_true rfl) (Nat.le_of_ble_eq_true rfl) hw hW dX4_price_45
def wp_X4_needState (σ : CS) (p1 : Int32) (post : Prop) (px : String → Prop) : Prop := ((¬ p1 = 0 → post) ∧ (p1 = 0 → px "java/lang/IllegalStateException"))
abbrev rm_X4_needState : Room := { frames := 8, cells := 1, slots := 6, locals := 140 }
set_option maxHeartbeats 4000000 in
set_option maxRecDepth 100000 in
theorem ok_X4_needState (l : Launch) (hst : l.stackTraces = false) (D : va_G) (cI cJ : ClassId) (a : Nat → Nat) (sz : Nat) (σ : CS) (p1 : Int32) (post : Prop) (px : String → Prop) (hw : wp_X4_needState σ p1 post px) : Xv l yX4_needState wsX4_needState rm_X4_needState [.int p1] D (tysIJ cI cJ) (cW cI cJ a σ) sz (fun (_ : Unit) => post) (fun _ => cW cI cJ a σ) px 1 6 := by
  refine s_Xv hst (by decide) rfl (Nat.le_of_ble_eq_true rfl) ?_
  intro p e s m args below meth c A Q hx hb hml hts hown hin hK hA hz hs hret hpass hthr1 hthr2 H locs ls hW hl
  have hown : s.vm.findClass RX4 = some m.cls := hown
  have hl : lv_has ls 1 [(0, .int p1)] := hl
  refine lv_iload_n hx hb dX4_needState_0 rfl (lv_at hl 0 rfl) ?_
  refine lv_if_ne (tgt := 15) hx hb dX4_needState_1 (by decide) (fun hc => ?_) (fun hc => ?_)
  · have hw := hw.1 hc
    exact hret () _ _ _ _ _ _ (Nat.le_of_ble_eq_true rfl) (Nat.le_of_ble_eq_true rfl) hw hW dX4_needState_15
  · have hw := hw.2 hc
    obtain ⟨sa, hsa⟩ := hs.2.2.2.2.2.2.1
    exact hthr2 "java/lang/IllegalStateException" "that can not be done now" ["java/lang/RuntimeException", "java/lang/Exception"] 270 272 274 sa 4 _ _ H locs ls _ hw hW (by decide +kernel) (by decide +kernel) (hts _ (List.mem_of_getElem? (i := 1) rfl)) (hts _ (List.mem_of_getElem? (i := 2) rfl)) hsa (vx_hat (fun w h => hts w (List.mem_cons_of_mem _ (List.mem_append_right _ (h)))) atS_2 (atB_2 hs)) (by decide +kernel) hl.1 dX4_needState_4 dX4_needState_7 dX4_needState_8 dX4_needState_11 dX4_needState_14 (by decide) (Nat.le_of_ble_eq_true rfl) (by decide) (by decide) (by decide) (by decide)
def wp_X4_pay (σ : CS) (p1 : Int32) (p2 : Int32) (post : Int32 → CS → Prop) (px : String → Prop) : Prop := wp_X4_needPlace σ p1 6 (wp_X4_needRange σ p2 1 99 (wp_X2_get_ σ 166 (fun r_1 => ((9999 < (r_1 + p2) → wp_X4_needState σ 0 (wp_X0_save σ (fun σ_2 => wp_X2_add σ_2 166 0 p2 (fun σ_3 => wp_X2_add σ_3 30 p1 p2 (fun σ_4 => wp_X2_get σ_4 30 p1 (fun r_5 => post r_5 σ_4))))) px) ∧ (¬ 9999 < (r_1 + p2) → wp_X4_needState σ 1 (wp_X0_save σ (fun σ_6 => wp_X2_add σ_6 166 0 p2 (fun σ_7 => wp_X2_add σ_7 30 p1 p2 (fun σ_8 => wp_X2_get σ_8 30 p1 (fun r_9 => post r_9 σ_8))))) px)))) px) px
abbrev rm_X4_pay : Room := { frames := 9, cells := 3, slots := 18, locals := 162 }
theorem in_X4_pay_X4 : ∀ w ∈ wsX40, w ∈ wsX4_pay := fun w h => List.mem_cons_of_mem _ (List.mem_append_left _ (List.mem_append_left _ (List.mem_append_left _ (List.mem_append_left _ (List.mem_append_left _ (List.mem_append_right _ (h)))))))
set_option maxHeartbeats 4000000 in
set_option maxRecDepth 100000 in
theorem ok_X4_pay (l : Launch) (hst : l.stackTraces = false) (D : va_G) (cI cJ : ClassId) (a : Nat → Nat) (sz : Nat) (σ : CS) (p1 : Int32) (p2 : Int32) (post : Int32 → CS → Prop) (px : String → Prop) (hw : wp_X4_pay σ p1 p2 post px) : Xi l yX4_pay wsX4_pay rm_X4_pay [.ref (a 0), .int p1, .int p2] D (tysIJ cI cJ) (cW cI cJ a σ) sz post (cW cI cJ a) px 3 18 := by
  refine s_Xi hst (by decide) rfl (Nat.le_of_ble_eq_true rfl) ?_
  intro p e s m args below meth c A Q hx hb hml hts hown hin hK hA hz hs hret hpass hthr1 hthr2 H locs ls hW hl
  have hown : s.vm.findClass RX4 = some m.cls := hown
  have hl : lv_has ls 3 [(0, .ref (a 0)), (1, .int p1), (2, .int p2)] := hl
  have hinX4 := in_X4_pay_X4
  refine lv_iload_n hx hb dX4_pay_0 rfl (lv_at hl 1 rfl) ?_
  refine lv_bipush (v := 6) hx hb dX4_pay_1 (by decide) ?_
  refine kS_Xv (As := [.int p1, .int 6]) (rest := []) ⟨hx, hb, hml, hown, hts⟩ (ok_X4_needPlace l hst D cI cJ a _ _ _ _ _ _ hw) (va_cwS 2 hts gX4_pay_X4_needPlace rfl rfl rfl (by decide +kernel) ⟨(Nat.le_of_ble_eq_true rfl), (Nat.le_of_ble_eq_true rfl)⟩) hK hW hA hz hs rfl hl.1 rfl (Nat.le_of_ble_eq_true rfl) dX4_pay_3 ⟨(Nat.le_of_ble_eq_true rfl), (Nat.le_of_ble_eq_true rfl)⟩ (fun E ce q H locs hE hW h1 h2 h3 => hpass E ce q H locs _ _ _ _ _ (Nat.le_of_ble_eq_true rfl) (Nat.le_of_ble_eq_true rfl) hE hW h1 h2 h3) (fun _ H locs hw hW => ?_)
  refine lv_iload_n hx hb dX4_pay_6 rfl (lv_at hl 2 rfl) ?_
  refine lv_iconst (v := 1) hx hb dX4_pay_7 (by decide) ?_
  refine lv_bipush (v := 99) hx hb dX4_pay_8 (by decide) ?_
  refine kS_Xv (As := [.int p2, .int 1, .int 99]) (rest := []) ⟨hx, hb, hml, hown, hts⟩ (ok_X4_needRange l hst D cI cJ a _ _ _ _ _ _ _ hw) (va_cwS 3 hts gX4_pay_X4_needRange rfl rfl rfl (by decide +kernel) ⟨(Nat.le_of_ble_eq_true rfl), (Nat.le_of_ble_eq_true rfl)⟩) hK hW hA hz hs rfl hl.1 rfl (Nat.le_of_ble_eq_true rfl) dX4_pay_10 ⟨(Nat.le_of_ble_eq_true rfl), (Nat.le_of_ble_eq_true rfl)⟩ (fun E ce q H locs hE hW h1 h2 h3 => hpass E ce q H locs _ _ _ _ _ (Nat.le_of_ble_eq_true rfl) (Nat.le_of_ble_eq_true rfl) hE hW h1 h2 h3) (fun _ H locs hw hW => ?_)
  refine lv_aload_n hx hb dX4_pay_13 rfl (lv_at hl 0 rfl) ?_
  refine va_get (D := D) (ci := 4) (v := .ref (a 1)) (C := RX4) (T := TX4) (N := 4) hx hb hts hinX4 hown hK hW.1 0 rfl rfl 0 (by decide) (hts _ (List.mem_of_getElem? (i := 1) rfl)) (fun _ h9 => h9) rfl dX4_pay_14 ?_
  refine lv_sipush (v := 166) hx hb dX4_pay_17 (by decide) ?_
  refine kV_Mi (As := [.int 166]) (rest := []) ⟨hx, hb, hml, hown, hts⟩ (ok_X2_get_ l D cI cJ a _ _ _ _ hw) (cwV 1 hts gX4_pay_X2_get_ rfl rfl rfl (by decide +kernel) ⟨Nat.le_of_ble_eq_true rfl, Nat.le_of_ble_eq_true rfl⟩) hK hW hA 1 rfl rfl rfl hl.1 rfl (Nat.le_of_ble_eq_true rfl) dX4_pay_20 ⟨Nat.le_of_ble_eq_true rfl, Nat.le_of_ble_eq_true rfl⟩ (fun r_1 _ H locs hw hW => ?_)
  refine lv_iload_n hx hb dX4_pay_23 rfl (lv_at hl 2 rfl) ?_
  refine lv_iadd hx hb dX4_pay_24 ?_
  refine lv_sipush (v := 9999) hx hb dX4_pay_25 (by decide) ?_
  refine lv_icmp_gt (tgt := 35) hx hb dX4_pay_28 (by decide) (fun hc => ?_) (fun hc => ?_)
  · have hw := hw.1 hc
    refine lv_iconst (v := 0) hx hb dX4_pay_35 (by decide) ?_
    refine kS_Xv (As := [.int 0]) (rest := []) ⟨hx, hb, hml, hown, hts⟩ (ok_X4_needState l hst D cI cJ a _ _ _ _ _ hw) (va_cwS 1 hts gX4_pay_X4_needState rfl rfl rfl (by decide +kernel) ⟨(Nat.le_of_ble_eq_true rfl), (Nat.le_of_ble_eq_true rfl)⟩) hK hW hA hz hs rfl hl.1 rfl (Nat.le_of_ble_eq_true rfl) dX4_pay_36 ⟨(Nat.le_of_ble_eq_true rfl), (Nat.le_of_ble_eq_true rfl)⟩ (fun E ce q H locs hE hW h1 h2 h3 => hpass E ce q H locs _ _ _ _ _ (Nat.le_of_ble_eq_true rfl) (Nat.le_of_ble_eq_true rfl) hE hW h1 h2 h3) (fun _ H locs hw hW => ?_)
    refine lv_aload_n hx hb dX4_pay_39 rfl (lv_at hl 0 rfl) ?_
    refine va_get (D := D) (ci := 4) (v := .ref (a 6)) (C := RX4) (T := TX4) (N := 4) hx hb hts hinX4 hown hK hW.1 0 rfl rfl 2 (by decide) (hts _ (List.mem_of_getElem? (i := 2) rfl)) (fun _ h9 => h9) rfl dX4_pay_40 ?_
    refine lv_aload_n hx hb dX4_pay_43 rfl (lv_at hl 0 rfl) ?_
    refine va_get (D := D) (ci := 4) (v := .ref (a 1)) (C := RX4) (T := TX4) (N := 4) hx hb hts hinX4 hown hK hW.1 0 rfl rfl 0 (by decide) (hts _ (List.mem_of_getElem? (i := 1) rfl)) (fun _ h9 => h9) rfl dX4_pay_44 ?_
    refine kV_Mv (As := [.ref (a 1)]) (rest := []) ⟨hx, hb, hml, hown, hts⟩ (ok_X0_save l D cI cJ a _ _ _ hw) (cwV 1 hts gX4_pay_X0_save rfl rfl rfl (by decide +kernel) ⟨Nat.le_of_ble_eq_true rfl, Nat.le_of_ble_eq_true rfl⟩) hK hW hA 6 rfl rfl rfl hl.1 rfl (Nat.le_of_ble_eq_true rfl) dX4_pay_47 ⟨Nat.le_of_ble_eq_true rfl, Nat.le_of_ble_eq_true rfl⟩ (fun σ_2 H locs hw hW => ?_)
    refine lv_aload_n hx hb dX4_pay_50 rfl (lv_at hl 0 rfl) ?_
    refine va_get (D := D) (ci := 4) (v := .ref (a 1)) (C := RX4) (T := TX4) (N := 4) hx hb hts hinX4 hown hK hW.1 0 rfl rfl 0 (by decide) (hts _ (List.mem_of_getElem? (i := 1) rfl)) (fun _ h9 => h9) rfl dX4_pay_51 ?_
    refine lv_sipush (v := 166) hx hb dX4_pay_54 (by decide) ?_
    refine lv_iconst (v := 0) hx hb dX4_pay_57 (by decide) ?_
    refine lv_iload_n hx hb dX4_pay_58 rfl (lv_at hl 2 rfl) ?_
    refine kV_Mv (As := [.int 166, .int 0, .int p2]) (rest := []) ⟨hx, hb, hml, hown, hts⟩ (ok_X2_add l D cI cJ a _ _ _ _ _ _ hw) (cwV 3 hts gX4_pay_X2_add rfl rfl rfl (by decide +kernel) ⟨Nat.le_of_ble_eq_true rfl, Nat.le_of_ble_eq_true rfl⟩) hK hW hA 1 rfl rfl rfl hl.1 rfl (Nat.le_of_ble_eq_true rfl) dX4_pay_59 ⟨Nat.le_of_ble_eq_true rfl, Nat.le_of_ble_eq_true rfl⟩ (fun σ_3 H locs hw hW => ?_)
    refine lv_aload_n hx hb dX4_pay_62 rfl (lv_at hl 0 rfl) ?_
    refine va_get (D := D) (ci := 4) (v := .ref (a 1)) (C := RX4) (T := TX4) (N := 4) hx hb hts hinX4 hown hK hW.1 0 rfl rfl 0 (by decide) (hts _ (List.mem_of_getElem? (i := 1) rfl)) (fun _ h9 => h9) rfl dX4_pay_63 ?_
    refine lv_bipush (v := 30) hx hb dX4_pay_66 (by decide) ?_
    refine lv_iload_n hx hb dX4_pay_68 rfl (lv_at hl 1 rfl) ?_
    refine lv_iload_n hx hb dX4_pay_69 rfl (lv_at hl 2 rfl) ?_
    refine kV_Mv (As := [.int 30, .int p1, .int p2]) (rest := []) ⟨hx, hb, hml, hown, hts⟩ (ok_X2_add l D cI cJ a _ _ _ _ _ _ hw) (cwV 3 hts gX4_pay_X2_add rfl rfl rfl (by decide +kernel) ⟨Nat.le_of_ble_eq_true rfl, Nat.le_of_ble_eq_true rfl⟩) hK hW hA 1 rfl rfl rfl hl.1 rfl (Nat.le_of_ble_eq_true rfl) dX4_pay_70 ⟨Nat.le_of_ble_eq_true rfl, Nat.le_of_ble_eq_true rfl⟩ (fun σ_4 H locs hw hW => ?_)
    refine lv_aload_n hx hb dX4_pay_73 rfl (lv_at hl 0 rfl) ?_
    refine va_get (D := D) (ci := 4) (v := .ref (a 1)) (C := RX4) (T := TX4) (N := 4) hx hb hts hinX4 hown hK hW.1 0 rfl rfl 0 (by decide) (hts _ (List.mem_of_getElem? (i := 1) rfl)) (fun _ h9 => h9) rfl dX4_pay_74 ?_
    refine lv_bipush (v := 30) hx hb dX4_pay_77 (by decide) ?_
    refine lv_iload_n hx hb dX4_pay_79 rfl (lv_at hl 1 rfl) ?_
    refine kV_Mi (As := [.int 30, .int p1]) (rest := []) ⟨hx, hb, hml, hown, hts⟩ (ok_X2_get l D cI cJ a _ _ _ _ _ hw) (cwV 2 hts gX4_pay_X2_get rfl rfl rfl (by decide +kernel) ⟨Nat.le_of_ble_eq_true rfl, Nat.le_of_ble_eq_true rfl⟩) hK hW hA 1 rfl rfl rfl hl.1 rfl (Nat.le_of_ble_eq_true rfl) dX4_pay_80 ⟨Nat.le_of_ble_eq_true rfl, Nat.le_of_ble_eq_true rfl⟩ (fun r_5 _ H locs hw hW => ?_)
    exact hret _ σ_4 _ _ _ _ _ _ (Nat.le_of_ble_eq_true rfl) (Nat.le_of_ble_eq_true rfl) hw hW dX4_pay_83
  · have hw := hw.2 hc
    refine lv_iconst (v := 1) hx hb dX4_pay_31 (by decide) ?_
    refine lv_goto (tgt := 36) hx hb dX4_pay_32 (by decide) ?_
    refine kS_Xv (As := [.int 1]) (rest := []) ⟨hx, hb, hml, hown, hts⟩ (ok_X4_needState l hst D cI cJ a _ _ _ _ _ hw) (va_cwS 1 hts gX4_pay_X4_needState rfl rfl rfl (by decide +kernel) ⟨(Nat.le_of_ble_eq_true rfl), (Nat.le_of_ble_eq_true rfl)⟩) hK hW hA hz hs rfl hl.1 rfl (Nat.le_of_ble_eq_true rfl) dX4_pay_36 ⟨(Nat.le_of_ble_eq_true rfl), (Nat.le_of_ble_eq_true rfl)⟩ (fun E ce q H locs hE hW h1 h2 h3 => hpass E ce q H locs _ _ _ _ _ (Nat.le_of_ble_eq_true rfl) (Nat.le_of_ble_eq_true rfl) hE hW h1 h2 h3) (fun _ H locs hw hW => ?_)
    refine lv_aload_n hx hb dX4_pay_39 rfl (lv_at hl 0 rfl) ?_
    refine va_get (D := D) (ci := 4) (v := .ref (a 6)) (C := RX4) (T := TX4) (N := 4) hx hb hts hinX4 hown hK hW.1 0 rfl rfl 2 (by decide) (hts _ (List.mem_of_getElem? (i := 2) rfl)) (fun _ h9 => h9) rfl dX4_pay_40 ?_
    refine lv_aload_n hx hb dX4_pay_43 rfl (lv_at hl 0 rfl) ?_
    refine va_get (D := D) (ci := 4) (v := .ref (a 1)) (C := RX4) (T := TX4) (N := 4) hx hb hts hinX4 hown hK hW.1 0 rfl rfl 0 (by decide) (hts _ (List.mem_of_getElem? (i := 1) rfl)) (fun _ h9 => h9) rfl dX4_pay_44 ?_
    refine kV_Mv (As := [.ref (a 1)]) (rest := []) ⟨hx, hb, hml, hown, hts⟩ (ok_X0_save l D cI cJ a _ _ _ hw) (cwV 1 hts gX4_pay_X0_save rfl rfl rfl (by decide +kernel) ⟨Nat.le_of_ble_eq_true rfl, Nat.le_of_ble_eq_true rfl⟩) hK hW hA 6 rfl rfl rfl hl.1 rfl (Nat.le_of_ble_eq_true rfl) dX4_pay_47 ⟨Nat.le_of_ble_eq_true rfl, Nat.le_of_ble_eq_true rfl⟩ (fun σ_6 H locs hw hW => ?_)
    refine lv_aload_n hx hb dX4_pay_50 rfl (lv_at hl 0 rfl) ?_
    refine va_get (D := D) (ci := 4) (v := .ref (a 1)) (C := RX4) (T := TX4) (N := 4) hx hb hts hinX4 hown hK hW.1 0 rfl rfl 0 (by decide) (hts _ (List.mem_of_getElem? (i := 1) rfl)) (fun _ h9 => h9) rfl dX4_pay_51 ?_
    refine lv_sipush (v := 166) hx hb dX4_pay_54 (by decide) ?_
    refine lv_iconst (v := 0) hx hb dX4_pay_57 (by decide) ?_
    refine lv_iload_n hx hb dX4_pay_58 rfl (lv_at hl 2 rfl) ?_
    refine kV_Mv (As := [.int 166, .int 0, .int p2]) (rest := []) ⟨hx, hb, hml, hown, hts⟩ (ok_X2_add l D cI cJ a _ _ _ _ _ _ hw) (cwV 3 hts gX4_pay_X2_add rfl rfl rfl (by decide +kernel) ⟨Nat.le_of_ble_eq_true rfl, Nat.le_of_ble_eq_true rfl⟩) hK hW hA 1 rfl rfl rfl hl.1 rfl (Nat.le_of_ble_eq_true rfl) dX4_pay_59 ⟨Nat.le_of_ble_eq_true rfl, Nat.le_of_ble_eq_true rfl⟩ (fun σ_7 H locs hw hW => ?_)
    refine lv_aload_n hx hb dX4_pay_62 rfl (lv_at hl 0 rfl) ?_
    refine va_get (D := D) (ci := 4) (v := .ref (a 1)) (C := RX4) (T := TX4) (N := 4) hx hb hts hinX4 hown hK hW.1 0 rfl rfl 0 (by decide) (hts _ (List.mem_of_getElem? (i := 1) rfl)) (fun _ h9 => h9) rfl dX4_pay_63 ?_
    refine lv_bipush (v := 30) hx hb dX4_pay_66 (by decide) ?_
    refine lv_iload_n hx hb dX4_pay_68 rfl (lv_at hl 1 rfl) ?_
    refine lv_iload_n hx hb dX4_pay_69 rfl (lv_at hl 2 rfl) ?_
    refine kV_Mv (As := [.int 30, .int p1, .int p2]) (rest := []) ⟨hx, hb, hml, hown, hts⟩ (ok_X2_add l D cI cJ a _ _ _ _ _ _ hw) (cwV 3 hts gX4_pay_X2_add rfl rfl rfl (by decide +kernel) ⟨Nat.le_of_ble_eq_true rfl, Nat.le_of_ble_eq_true rfl⟩) hK hW hA 1 rfl rfl rfl hl.1 rfl (Nat.le_of_ble_eq_true rfl) dX4_pay_70 ⟨Nat.le_of_ble_eq_true rfl, Nat.le_of_ble_eq_true rfl⟩ (fun σ_8 H locs hw hW => ?_)
    refine lv_aload_n hx hb dX4_pay_73 rfl (lv_at hl 0 rfl) ?_
    refine va_get (D := D) (ci := 4) (v := .ref (a 1)) (C := RX4) (T := TX4) (N := 4) hx hb hts hinX4 hown hK hW.1 0 rfl rfl 0 (by decide) (hts _ (List.mem_of_getElem? (i := 1) rfl)) (fun _ h9 => h9) rfl dX4_pay_74 ?_
    refine lv_bipush (v := 30) hx hb dX4_pay_77 (by decide) ?_
    refine lv_iload_n hx hb dX4_pay_79 rfl (lv_at hl 1 rfl) ?_
    refine kV_Mi (As := [.int 30, .int p1]) (rest := []) ⟨hx, hb, hml, hown, hts⟩ (ok_X2_get l D cI cJ a _ _ _ _ _ hw) (cwV 2 hts gX4_pay_X2_get rfl rfl rfl (by decide +kernel) ⟨Nat.le_of_ble_eq_true rfl, Nat.le_of_ble_eq_true rfl⟩) hK hW hA 1 rfl rfl rfl hl.1 rfl (Nat.le_of_ble_eq_true rfl) dX4_pay_80 ⟨Nat.le_of_ble_eq_true rfl, Nat.le_of_ble_eq_true rfl⟩ (fun r_9 _ H locs hw hW => ?_)
    exact hret _ σ_8 _ _ _ _ _ _ (Nat.le_of_ble_eq_true rfl) (Nat.le_of_ble_eq_true rfl) hw hW dX4_pay_83
def wp_X4_set (σ : CS) (p1 : Int32) (p2 : Int32) (post : Int32 → CS → Prop) (px : String → Prop) : Prop := wp_X4_needPlace σ p1 3 (wp_X2_mostOfSetting p1 (fun r_1 => wp_X4_needRange σ p2 0 r_1 (wp_X0_save σ (fun σ_2 => wp_X2_get σ_2 162 p1 (fun r_3 => wp_X2_put σ_2 162 p1 p2 (fun σ_4 => post r_3 σ_4)))) px)) px
abbrev rm_X4_set : Room := { frames := 9, cells := 2, slots := 12, locals := 162 }
theorem in_X4_set_X4 : ∀ w ∈ wsX40, w ∈ wsX4_set := fun w h => List.mem_cons_of_mem _ (List.mem_append_left _ (List.mem_append_left _ (List.mem_append_left _ (List.mem_append_left _ (List.mem_append_right _ (h))))))
set_option maxHeartbeats 4000000 in
set_option maxRecDepth 100000 in
theorem ok_X4_set (l : Launch) (hst : l.stackTraces = false) (D : va_G) (cI cJ : ClassId) (a : Nat → Nat) (sz : Nat) (σ : CS) (p1 : Int32) (p2 : Int32) (post : Int32 → CS → Prop) (px : String → Prop) (hw : wp_X4_set σ p1 p2 post px) : Xi l yX4_set wsX4_set rm_X4_set [.ref (a 0), .int p1, .int p2] D (tysIJ cI cJ) (cW cI cJ a σ) sz post (cW cI cJ a) px 2 12 := by
  refine s_Xi hst (by decide) rfl (Nat.le_of_ble_eq_true rfl) ?_
  intro p e s m args below meth c A Q hx hb hml hts hown hin hK hA hz hs hret hpass hthr1 hthr2 H locs ls hW hl
  have hown : s.vm.findClass RX4 = some m.cls := hown
  have hl : lv_has ls 4 [(0, .ref (a 0)), (1, .int p1), (2, .int p2)] := hl
  have hinX4 := in_X4_set_X4
  refine lv_iload_n hx hb dX4_set_0 rfl (lv_at hl 1 rfl) ?_
  refine lv_iconst (v := 3) hx hb dX4_set_1 (by decide) ?_
  refine kS_Xv (As := [.int p1, .int 3]) (rest := []) ⟨hx, hb, hml, hown, hts⟩ (ok_X4_needPlace l hst D cI cJ a _ _ _ _ _ _ hw) (va_cwS 2 hts gX4_set_X4_needPlace rfl rfl rfl (by decide +kernel) ⟨(Nat.le_of_ble_eq_true rfl), (Nat.le_of_ble_eq_true rfl)⟩) hK hW hA hz hs rfl hl.1 rfl (Nat.le_of_ble_eq_true rfl) dX4_set_2 ⟨(Nat.le_of_ble_eq_true rfl), (Nat.le_of_ble_eq_true rfl)⟩ (fun E ce q H locs hE hW h1 h2 h3 => hpass E ce q H locs _ _ _ _ _ (Nat.le_of_ble_eq_true rfl) (Nat.le_of_ble_eq_true rfl) hE hW h1 h2 h3) (fun _ H locs hw hW => ?_)
  refine lv_iload_n hx hb dX4_set_5 rfl (lv_at hl 2 rfl) ?_
  refine lv_iconst (v := 0) hx hb dX4_set_6 (by decide) ?_
  refine lv_iload_n hx hb dX4_set_7 rfl (lv_at hl 1 rfl) ?_
  refine kS_Pi (As := [.int p1]) (rest := [.int 0, .int p2]) ⟨hx, hb, hml, hown, hts⟩ (ok_X2_mostOfSetting l _ _ hw) (va_cwS 1 hts gX4_set_X2_mostOfSetting rfl rfl rfl (by decide +kernel) ⟨Nat.le_of_ble_eq_true rfl, Nat.le_of_ble_eq_true rfl⟩) hW.2.2 rfl hl.1 rfl (Nat.le_of_ble_eq_true rfl) dX4_set_8 ⟨Nat.le_of_ble_eq_true rfl, Nat.le_of_ble_eq_true rfl⟩ (fun r_1 H locs hw hk hS => ?_)
  have hW := hW.kept hk hS
  refine kS_Xv (As := [.int p2, .int 0, .int r_1]) (rest := []) ⟨hx, hb, hml, hown, hts⟩ (ok_X4_needRange l hst D cI cJ a _ _ _ _ _ _ _ hw) (va_cwS 3 hts gX4_set_X4_needRange rfl rfl rfl (by decide +kernel) ⟨(Nat.le_of_ble_eq_true rfl), (Nat.le_of_ble_eq_true rfl)⟩) hK hW hA hz hs rfl hl.1 rfl (Nat.le_of_ble_eq_true rfl) dX4_set_11 ⟨(Nat.le_of_ble_eq_true rfl), (Nat.le_of_ble_eq_true rfl)⟩ (fun E ce q H locs hE hW h1 h2 h3 => hpass E ce q H locs _ _ _ _ _ (Nat.le_of_ble_eq_true rfl) (Nat.le_of_ble_eq_true rfl) hE hW h1 h2 h3) (fun _ H locs hw hW => ?_)
  refine lv_aload_n hx hb dX4_set_14 rfl (lv_at hl 0 rfl) ?_
  refine va_get (D := D) (ci := 4) (v := .ref (a 6)) (C := RX4) (T := TX4) (N := 4) hx hb hts hinX4 hown hK hW.1 0 rfl rfl 2 (by decide) (hts _ (List.mem_of_getElem? (i := 1) rfl)) (fun _ h9 => h9) rfl dX4_set_15 ?_
  refine lv_aload_n hx hb dX4_set_18 rfl (lv_at hl 0 rfl) ?_
  refine va_get (D := D) (ci := 4) (v := .ref (a 1)) (C := RX4) (T := TX4) (N := 4) hx hb hts hinX4 hown hK hW.1 0 rfl rfl 0 (by decide) (hts _ (List.mem_of_getElem? (i := 2) rfl)) (fun _ h9 => h9) rfl dX4_set_19 ?_
  refine kV_Mv (As := [.ref (a 1)]) (rest := []) ⟨hx, hb, hml, hown, hts⟩ (ok_X0_save l D cI cJ a _ _ _ hw) (cwV 1 hts gX4_set_X0_save rfl rfl rfl (by decide +kernel) ⟨Nat.le_of_ble_eq_true rfl, Nat.le_of_ble_eq_true rfl⟩) hK hW hA 6 rfl rfl rfl hl.1 rfl (Nat.le_of_ble_eq_true rfl) dX4_set_22 ⟨Nat.le_of_ble_eq_true rfl, Nat.le_of_ble_eq_true rfl⟩ (fun σ_2 H locs hw hW => ?_)
  refine lv_aload_n hx hb dX4_set_25 rfl (lv_at hl 0 rfl) ?_
  refine va_get (D := D) (ci := 4) (v := .ref (a 1)) (C := RX4) (T := TX4) (N := 4) hx hb hts hinX4 hown hK hW.1 0 rfl rfl 0 (by decide) (hts _ (List.mem_of_getElem? (i := 2) rfl)) (fun _ h9 => h9) rfl dX4_set_26 ?_
  refine lv_sipush (v := 162) hx hb dX4_set_29 (by decide) ?_
  refine lv_iload_n hx hb dX4_set_32 rfl (lv_at hl 1 rfl) ?_
  refine kV_Mi (As := [.int 162, .int p1]) (rest := []) ⟨hx, hb, hml, hown, hts⟩ (ok_X2_get l D cI cJ a _ _ _ _ _ hw) (cwV 2 hts gX4_set_X2_get rfl rfl rfl (by decide +kernel) ⟨Nat.le_of_ble_eq_true rfl, Nat.le_of_ble_eq_true rfl⟩) hK hW hA 1 rfl rfl rfl hl.1 rfl (Nat.le_of_ble_eq_true rfl) dX4_set_33 ⟨Nat.le_of_ble_eq_true rfl, Nat.le_of_ble_eq_true rfl⟩ (fun r_3 _ H locs hw hW => ?_)
  refine lv_istore_n (lv' := [(3, .int r_3), (0, .ref (a 0)), (1, .int p1), (2, .int p2)]) hx hb dX4_set_36 rfl hl (by decide) rfl (fun ls hl => ?_)
  refine lv_aload_n hx hb dX4_set_37 rfl (lv_at hl 1 rfl) ?_
  refine va_get (D := D) (ci := 4) (v := .ref (a 1)) (C := RX4) (T := TX4) (N := 4) hx hb hts hinX4 hown hK hW.1 0 rfl rfl 0 (by decide) (hts _ (List.mem_of_getElem? (i := 2) rfl)) (fun _ h9 => h9) rfl dX4_set_38 ?_
  refine lv_sipush (v := 162) hx hb dX4_set_41 (by decide) ?_
  refine lv_iload_n hx hb dX4_set_44 rfl (lv_at hl 2 rfl) ?_
  refine lv_iload_n hx hb dX4_set_45 rfl (lv_at hl 3 rfl) ?_
  refine kV_Mv (As := [.int 162, .int p1, .int p2]) (rest := []) ⟨hx, hb, hml, hown, hts⟩ (ok_X2_put l D cI cJ a _ _ _ _ _ _ hw) (cwV 3 hts gX4_set_X2_put rfl rfl rfl (by decide +kernel) ⟨Nat.le_of_ble_eq_true rfl, Nat.le_of_ble_eq_true rfl⟩) hK hW hA 1 rfl rfl rfl hl.1 rfl (Nat.le_of_ble_eq_true rfl) dX4_set_46 ⟨Nat.le_of_ble_eq_true rfl, Nat.le_of_ble_eq_true rfl⟩ (fun σ_4 H locs hw hW => ?_)
  refine lv_iload_n hx hb dX4_set_49 rfl (lv_at hl 0 rfl) ?_
  exact hret _ σ_4 _ _ _ _ _ _ (Nat.le_of_ble_eq_true rfl) (Nat.le_of_ble_eq_true rfl) hw hW dX4_set_50
def wp_X4_bid (σ : CS) (p1 : Int32) (p2 : Int32) (p3 : Int32) (post : Int32 → CS → Prop) (px : String → Prop) : Prop := wp_X4_needPlace σ p1 6 (wp_X4_needPlace σ p2 6 (wp_X4_needRange σ p3 1 99 (wp_X2_whyNotSealed σ p1 p2 p3 (fun r_1 => ((¬ r_1 = 0 → wp_X4_needState σ 0 (wp_X0_save σ (fun σ_2 => wp_X2_sealBid σ_2 p1 p2 p3 (fun r_3 σ_4 => post r_3 σ_4))) px) ∧ (r_1 = 0 → wp_X4_needState σ 1 (wp_X0_save σ (fun σ_5 => wp_X2_sealBid σ_5 p1 p2 p3 (fun r_6 σ_7 => post r_6 σ_7))) px)))) px) px) px
abbrev rm_X4_bid : Room := { frames := 9, cells := 4, slots := 24, locals := 162 }
theorem in_X4_bid_X4 : ∀ w ∈ wsX40, w ∈ wsX4_bid := fun w h => List.mem_cons_of_mem _ (List.mem_append_left _ (List.mem_append_left _ (List.mem_append_left _ (List.mem_append_left _ (List.mem_append_left _ (List.mem_append_right _ (h)))))))
set_option maxHeartbeats 4000000 in
set_option maxRecDepth 100000 in
theorem ok_X4_bid (l : Launch) (hst : l.stackTraces = false) (D : va_G) (cI cJ : ClassId) (a : Nat → Nat) (sz : Nat) (σ : CS) (p1 : Int32) (p2 : Int32) (p3 : Int32) (post : Int32 → CS → Prop) (px : String → Prop) (hw : wp_X4_bid σ p1 p2 p3 post px) : Xi l yX4_bid wsX4_bid rm_X4_bid [.ref (a 0), .int p1, .int p2, .int p3] D (tysIJ cI cJ) (cW cI cJ a σ) sz post (cW cI cJ a) px 4 24 := by
  refine s_Xi hst (by decide) rfl (Nat.le_of_ble_eq_true rfl) ?_
  intro p e s m args below meth c A Q hx hb hml hts hown hin hK hA hz hs hret hpass hthr1 hthr2 H locs ls hW hl
  have hown : s.vm.findClass RX4 = some m.cls := hown
  have hl : lv_has ls 4 [(0, .ref (a 0)), (1, .int p1), (2, .int p2), (3, .int p3)] := hl
  have hinX4 := in_X4_bid_X4
  refine lv_iload_n hx hb dX4_bid_0 rfl (lv_at hl 1 rfl) ?_
  refine lv_bipush (v := 6) hx hb dX4_bid_1 (by decide) ?_
  refine kS_Xv (As := [.int p1, .int 6]) (rest := []) ⟨hx, hb, hml, hown, hts⟩ (ok_X4_needPlace l hst D cI cJ a _ _ _ _ _ _ hw) (va_cwS 2 hts gX4_bid_X4_needPlace rfl rfl rfl (by decide +kernel) ⟨(Nat.le_of_ble_eq_true rfl), (Nat.le_of_ble_eq_true rfl)⟩) hK hW hA hz hs rfl hl.1 rfl (Nat.le_of_ble_eq_true rfl) dX4_bid_3 ⟨(Nat.le_of_ble_eq_true rfl), (Nat.le_of_ble_eq_true rfl)⟩ (fun E ce q H locs hE hW h1 h2 h3 => hpass E ce q H locs _ _ _ _ _ (Nat.le_of_ble_eq_true rfl) (Nat.le_of_ble_eq_true rfl) hE hW h1 h2 h3) (fun _ H locs hw hW => ?_)
  refine lv_iload_n hx hb dX4_bid_6 rfl (lv_at hl 2 rfl) ?_
  refine lv_bipush (v := 6) hx hb dX4_bid_7 (by decide) ?_
  refine kS_Xv (As := [.int p2, .int 6]) (rest := []) ⟨hx, hb, hml, hown, hts⟩ (ok_X4_needPlace l hst D cI cJ a _ _ _ _ _ _ hw) (va_cwS 2 hts gX4_bid_X4_needPlace rfl rfl rfl (by decide +kernel) ⟨(Nat.le_of_ble_eq_true rfl), (Nat.le_of_ble_eq_true rfl)⟩) hK hW hA hz hs rfl hl.1 rfl (Nat.le_of_ble_eq_true rfl) dX4_bid_9 ⟨(Nat.le_of_ble_eq_true rfl), (Nat.le_of_ble_eq_true rfl)⟩ (fun E ce q H locs hE hW h1 h2 h3 => hpass E ce q H locs _ _ _ _ _ (Nat.le_of_ble_eq_true rfl) (Nat.le_of_ble_eq_true rfl) hE hW h1 h2 h3) (fun _ H locs hw hW => ?_)
  refine lv_iload_n hx hb dX4_bid_12 rfl (lv_at hl 3 rfl) ?_
  refine lv_iconst (v := 1) hx hb dX4_bid_13 (by decide) ?_
  refine lv_bipush (v := 99) hx hb dX4_bid_14 (by decide) ?_
  refine kS_Xv (As := [.int p3, .int 1, .int 99]) (rest := []) ⟨hx, hb, hml, hown, hts⟩ (ok_X4_needRange l hst D cI cJ a _ _ _ _ _ _ _ hw) (va_cwS 3 hts gX4_bid_X4_needRange rfl rfl rfl (by decide +kernel) ⟨(Nat.le_of_ble_eq_true rfl), (Nat.le_of_ble_eq_true rfl)⟩) hK hW hA hz hs rfl hl.1 rfl (Nat.le_of_ble_eq_true rfl) dX4_bid_16 ⟨(Nat.le_of_ble_eq_true rfl), (Nat.le_of_ble_eq_true rfl)⟩ (fun E ce q H locs hE hW h1 h2 h3 => hpass E ce q H locs _ _ _ _ _ (Nat.le_of_ble_eq_true rfl) (Nat.le_of_ble_eq_true rfl) hE hW h1 h2 h3) (fun _ H locs hw hW => ?_)
  refine lv_aload_n hx hb dX4_bid_19 rfl (lv_at hl 0 rfl) ?_
  refine va_get (D := D) (ci := 4) (v := .ref (a 1)) (C := RX4) (T := TX4) (N := 4) hx hb hts hinX4 hown hK hW.1 0 rfl rfl 0 (by decide) (hts _ (List.mem_of_getElem? (i := 1) rfl)) (fun _ h9 => h9) rfl dX4_bid_20 ?_
  refine lv_iload_n hx hb dX4_bid_23 rfl (lv_at hl 1 rfl) ?_
  refine lv_iload_n hx hb dX4_bid_24 rfl (lv_at hl 2 rfl) ?_
  refine lv_iload_n hx hb dX4_bid_25 rfl (lv_at hl 3 rfl) ?_
  refine kV_Mi (As := [.int p1, .int p2, .int p3]) (rest := []) ⟨hx, hb, hml, hown, hts⟩ (ok_X2_whyNotSealed l D cI cJ a _ _ _ _ _ _ hw) (cwV 3 hts gX4_bid_X2_whyNotSealed rfl rfl rfl (by decide +kernel) ⟨Nat.le_of_ble_eq_true rfl, Nat.le_of_ble_eq_true rfl⟩) hK hW hA 1 rfl rfl rfl hl.1 rfl (Nat.le_of_ble_eq_true rfl) dX4_bid_26 ⟨Nat.le_of_ble_eq_true rfl, Nat.le_of_ble_eq_true rfl⟩ (fun r_1 _ H locs hw hW => ?_)
  refine lv_if_ne (tgt := 36) hx hb dX4_bid_29 (by decide) (fun hc => ?_) (fun hc => ?_)
  · have hw := hw.1 hc
    refine lv_iconst (v := 0) hx hb dX4_bid_36 (by decide) ?_
    refine kS_Xv (As := [.int 0]) (rest := []) ⟨hx, hb, hml, hown, hts⟩ (ok_X4_needState l hst D cI cJ a _ _ _ _ _ hw) (va_cwS 1 hts gX4_bid_X4_needState rfl rfl rfl (by decide +kernel) ⟨(Nat.le_of_ble_eq_true rfl), (Nat.le_of_ble_eq_true rfl)⟩) hK hW hA hz hs rfl hl.1 rfl (Nat.le_of_ble_eq_true rfl) dX4_bid_37 ⟨(Nat.le_of_ble_eq_true rfl), (Nat.le_of_ble_eq_true rfl)⟩ (fun E ce q H locs hE hW h1 h2 h3 => hpass E ce q H locs _ _ _ _ _ (Nat.le_of_ble_eq_true rfl) (Nat.le_of_ble_eq_true rfl) hE hW h1 h2 h3) (fun _ H locs hw hW => ?_)
    refine lv_aload_n hx hb dX4_bid_40 rfl (lv_at hl 0 rfl) ?_
    refine va_get (D := D) (ci := 4) (v := .ref (a 6)) (C := RX4) (T := TX4) (N := 4) hx hb hts hinX4 hown hK hW.1 0 rfl rfl 2 (by decide) (hts _ (List.mem_of_getElem? (i := 2) rfl)) (fun _ h9 => h9) rfl dX4_bid_41 ?_
    refine lv_aload_n hx hb dX4_bid_44 rfl (lv_at hl 0 rfl) ?_
    refine va_get (D := D) (ci := 4) (v := .ref (a 1)) (C := RX4) (T := TX4) (N := 4) hx hb hts hinX4 hown hK hW.1 0 rfl rfl 0 (by decide) (hts _ (List.mem_of_getElem? (i := 1) rfl)) (fun _ h9 => h9) rfl dX4_bid_45 ?_
    refine kV_Mv (As := [.ref (a 1)]) (rest := []) ⟨hx, hb, hml, hown, hts⟩ (ok_X0_save l D cI cJ a _ _ _ hw) (cwV 1 hts gX4_bid_X0_save rfl rfl rfl (by decide +kernel) ⟨Nat.le_of_ble_eq_true rfl, Nat.le_of_ble_eq_true rfl⟩) hK hW hA 6 rfl rfl rfl hl.1 rfl (Nat.le_of_ble_eq_true rfl) dX4_bid_48 ⟨Nat.le_of_ble_eq_true rfl, Nat.le_of_ble_eq_true rfl⟩ (fun σ_2 H locs hw hW => ?_)
    refine lv_aload_n hx hb dX4_bid_51 rfl (lv_at hl 0 rfl) ?_
    refine va_get (D := D) (ci := 4) (v := .ref (a 1)) (C := RX4) (T := TX4) (N := 4) hx hb hts hinX4 hown hK hW.1 0 rfl rfl 0 (by decide) (hts _ (List.mem_of_getElem? (i := 1) rfl)) (fun _ h9 => h9) rfl dX4_bid_52 ?_
    refine lv_iload_n hx hb dX4_bid_55 rfl (lv_at hl 1 rfl) ?_
    refine lv_iload_n hx hb dX4_bid_56 rfl (lv_at hl 2 rfl) ?_
    refine lv_iload_n hx hb dX4_bid_57 rfl (lv_at hl 3 rfl) ?_
    refine kV_Mi (As := [.int p1, .int p2, .int p3]) (rest := []) ⟨hx, hb, hml, hown, hts⟩ (ok_X2_sealBid l D cI cJ a _ _ _ _ _ _ hw) (cwV 3 hts gX4_bid_X2_sealBid rfl rfl rfl (by decide +kernel) ⟨Nat.le_of_ble_eq_true rfl, Nat.le_of_ble_eq_true rfl⟩) hK hW hA 1 rfl rfl rfl hl.1 rfl (Nat.le_of_ble_eq_true rfl) dX4_bid_58 ⟨Nat.le_of_ble_eq_true rfl, Nat.le_of_ble_eq_true rfl⟩ (fun r_3 σ_4 H locs hw hW => ?_)
    exact hret _ σ_4 _ _ _ _ _ _ (Nat.le_of_ble_eq_true rfl) (Nat.le_of_ble_eq_true rfl) hw hW dX4_bid_61
  · have hw := hw.2 hc
    refine lv_iconst (v := 1) hx hb dX4_bid_32 (by decide) ?_
    refine lv_goto (tgt := 37) hx hb dX4_bid_33 (by decide) ?_
    refine kS_Xv (As := [.int 1]) (rest := []) ⟨hx, hb, hml, hown, hts⟩ (ok_X4_needState l hst D cI cJ a _ _ _ _ _ hw) (va_cwS 1 hts gX4_bid_X4_needState rfl rfl rfl (by decide +kernel) ⟨(Nat.le_of_ble_eq_true rfl), (Nat.le_of_ble_eq_true rfl)⟩) hK hW hA hz hs rfl hl.1 rfl (Nat.le_of_ble_eq_true rfl) dX4_bid_37 ⟨(Nat.le_of_ble_eq_true rfl), (Nat.le_of_ble_eq_true rfl)⟩ (fun E ce q H locs hE hW h1 h2 h3 => hpass E ce q H locs _ _ _ _ _ (Nat.le_of_ble_eq_true rfl) (Nat.le_of_ble_eq_true rfl) hE hW h1 h2 h3) (fun _ H locs hw hW => ?_)
    refine lv_aload_n hx hb dX4_bid_40 rfl (lv_at hl 0 rfl) ?_
    refine va_get (D := D) (ci := 4) (v := .ref (a 6)) (C := RX4) (T := TX4) (N := 4) hx hb hts hinX4 hown hK hW.1 0 rfl rfl 2 (by decide) (hts _ (List.mem_of_getElem? (i := 2) rfl)) (fun _ h9 => h9) rfl dX4_bid_41 ?_
    refine lv_aload_n hx hb dX4_bid_44 rfl (lv_at hl 0 rfl) ?_
    refine va_get (D := D) (ci := 4) (v := .ref (a 1)) (C := RX4) (T := TX4) (N := 4) hx hb hts hinX4 hown hK hW.1 0 rfl rfl 0 (by decide) (hts _ (List.mem_of_getElem? (i := 1) rfl)) (fun _ h9 => h9) rfl dX4_bid_45 ?_
    refine kV_Mv (As := [.ref (a 1)]) (rest := []) ⟨hx, hb, hml, hown, hts⟩ (ok_X0_save l D cI cJ a _ _ _ hw) (cwV 1 hts gX4_bid_X0_save rfl rfl rfl (by decide +kernel) ⟨Nat.le_of_ble_eq_true rfl, Nat.le_of_ble_eq_true rfl⟩) hK hW hA 6 rfl rfl rfl hl.1 rfl (Nat.le_of_ble_eq_true rfl) dX4_bid_48 ⟨Nat.le_of_ble_eq_true rfl, Nat.le_of_ble_eq_true rfl⟩ (fun σ_5 H locs hw hW => ?_)
    refine lv_aload_n hx hb dX4_bid_51 rfl (lv_at hl 0 rfl) ?_
    refine va_get (D := D) (ci := 4) (v := .ref (a 1)) (C := RX4) (T := TX4) (N := 4) hx hb hts hinX4 hown hK hW.1 0 rfl rfl 0 (by decide) (hts _ (List.mem_of_getElem? (i := 1) rfl)) (fun _ h9 => h9) rfl dX4_bid_52 ?_
    refine lv_iload_n hx hb dX4_bid_55 rfl (lv_at hl 1 rfl) ?_
    refine lv_iload_n hx hb dX4_bid_56 rfl (lv_at hl 2 rfl) ?_
    refine lv_iload_n hx hb dX4_bid_57 rfl (lv_at hl 3 rfl) ?_
    refine kV_Mi (As := [.int p1, .int p2, .int p3]) (rest := []) ⟨hx, hb, hml, hown, hts⟩ (ok_X2_sealBid l D cI cJ a _ _ _ _ _ _ hw) (cwV 3 hts gX4_bid_X2_sealBid rfl rfl rfl (by decide +kernel) ⟨Nat.le_of_ble_eq_true rfl, Nat.le_of_ble_eq_true rfl⟩) hK hW hA 1 rfl rfl rfl hl.1 rfl (Nat.le_of_ble_eq_true rfl) dX4_bid_58 ⟨Nat.le_of_ble_eq_true rfl, Nat.le_of_ble_eq_true rfl⟩ (fun r_6 σ_7 H locs hw hW => ?_)
    exact hret _ σ_7 _ _ _ _ _ _ (Nat.le_of_ble_eq_true rfl) (Nat.le_of_ble_eq_true rfl) hw hW dX4_bid_61
def wp_X4_withdraw (σ : CS) (p1 : Int32) (p2 : Int32) (post : Int32 → CS → Prop) (px : String → Prop) : Prop := wp_X4_needPlace σ p1 6 (wp_X4_needPlace σ p2 6 (wp_X2_whyNotWithdrawn σ p1 p2 (fun r_1 => ((¬ r_1 = 0 → wp_X4_needState σ 0 (wp_X0_save σ (fun σ_2 => wp_X2_takeBack σ_2 p1 p2 (fun r_3 σ_4 => post r_3 σ_4))) px) ∧ (r_1 = 0 → wp_X4_needState σ 1 (wp_X0_save σ (fun σ_5 => wp_X2_takeBack σ_5 p1 p2 (fun r_6 σ_7 => post r_6 σ_7))) px)))) px) px
abbrev rm_X4_withdraw : Room := { frames := 9, cells := 3, slots := 18, locals := 161 }
theorem in_X4_withdraw_X4 : ∀ w ∈ wsX40, w ∈ wsX4_withdraw := fun w h => List.mem_cons_of_mem _ (List.mem_append_left _ (List.mem_append_left _ (List.mem_append_left _ (List.mem_append_left _ (List.mem_append_right _ (h))))))
set_option maxHeartbeats 4000000 in
set_option maxRecDepth 100000 in
theorem ok_X4_withdraw (l : Launch) (hst : l.stackTraces = false) (D : va_G) (cI cJ : ClassId) (a : Nat → Nat) (sz : Nat) (σ : CS) (p1 : Int32) (p2 : Int32) (post : Int32 → CS → Prop) (px : String → Prop) (hw : wp_X4_withdraw σ p1 p2 post px) : Xi l yX4_withdraw wsX4_withdraw rm_X4_withdraw [.ref (a 0), .int p1, .int p2] D (tysIJ cI cJ) (cW cI cJ a σ) sz post (cW cI cJ a) px 3 18 := by
  refine s_Xi hst (by decide) rfl (Nat.le_of_ble_eq_true rfl) ?_
  intro p e s m args below meth c A Q hx hb hml hts hown hin hK hA hz hs hret hpass hthr1 hthr2 H locs ls hW hl
  have hown : s.vm.findClass RX4 = some m.cls := hown
  have hl : lv_has ls 3 [(0, .ref (a 0)), (1, .int p1), (2, .int p2)] := hl
  have hinX4 := in_X4_withdraw_X4
  refine lv_iload_n hx hb dX4_withdraw_0 rfl (lv_at hl 1 rfl) ?_
  refine lv_bipush (v := 6) hx hb dX4_withdraw_1 (by decide) ?_
  refine kS_Xv (As := [.int p1, .int 6]) (rest := []) ⟨hx, hb, hml, hown, hts⟩ (ok_X4_needPlace l hst D cI cJ a _ _ _ _ _ _ hw) (va_cwS 2 hts gX4_withdraw_X4_needPlace rfl rfl rfl (by decide +kernel) ⟨(Nat.le_of_ble_eq_true rfl), (Nat.le_of_ble_eq_true rfl)⟩) hK hW hA hz hs rfl hl.1 rfl (Nat.le_of_ble_eq_true rfl) dX4_withdraw_3 ⟨(Nat.le_of_ble_eq_true rfl), (Nat.le_of_ble_eq_true rfl)⟩ (fun E ce q H locs hE hW h1 h2 h3 => hpass E ce q H locs _ _ _ _ _ (Nat.le_of_ble_eq_true rfl) (Nat.le_of_ble_eq_true rfl) hE hW h1 h2 h3) (fun _ H locs hw hW => ?_)
  refine lv_iload_n hx hb dX4_withdraw_6 rfl (lv_at hl 2 rfl) ?_
  refine lv_bipush (v := 6) hx hb dX4_withdraw_7 (by decide) ?_
  refine kS_Xv (As := [.int p2, .int 6]) (rest := []) ⟨hx, hb, hml, hown, hts⟩ (ok_X4_needPlace l hst D cI cJ a _ _ _ _ _ _ hw) (va_cwS 2 hts gX4_withdraw_X4_needPlace rfl rfl rfl (by decide +kernel) ⟨(Nat.le_of_ble_eq_true rfl), (Nat.le_of_ble_eq_true rfl)⟩) hK hW hA hz hs rfl hl.1 rfl (Nat.le_of_ble_eq_true rfl) dX4_withdraw_9 ⟨(Nat.le_of_ble_eq_true rfl), (Nat.le_of_ble_eq_true rfl)⟩ (fun E ce q H locs hE hW h1 h2 h3 => hpass E ce q H locs _ _ _ _ _ (Nat.le_of_ble_eq_true rfl) (Nat.le_of_ble_eq_true rfl) hE hW h1 h2 h3) (fun _ H locs hw hW => ?_)
  refine lv_aload_n hx hb dX4_withdraw_12 rfl (lv_at hl 0 rfl) ?_
  refine va_get (D := D) (ci := 4) (v := .ref (a 1)) (C := RX4) (T := TX4) (N := 4) hx hb hts hinX4 hown hK hW.1 0 rfl rfl 0 (by decide) (hts _ (List.mem_of_getElem? (i := 1) rfl)) (fun _ h9 => h9) rfl dX4_withdraw_13 ?_
  refine lv_iload_n hx hb dX4_withdraw_16 rfl (lv_at hl 1 rfl) ?_
  refine lv_iload_n hx hb dX4_withdraw_17 rfl (lv_at hl 2 rfl) ?_
  refine kV_Mi (As := [.int p1, .int p2]) (rest := []) ⟨hx, hb, hml, hown, hts⟩ (ok_X2_whyNotWithdrawn l D cI cJ a _ _ _ _ _ hw) (cwV 2 hts gX4_withdraw_X2_whyNotWithdrawn rfl rfl rfl (by decide +kernel) ⟨Nat.le_of_ble_eq_true rfl, Nat.le_of_ble_eq_true rfl⟩) hK hW hA 1 rfl rfl rfl hl.1 rfl (Nat.le_of_ble_eq_true rfl) dX4_withdraw_18 ⟨Nat.le_of_ble_eq_true rfl, Nat.le_of_ble_eq_true rfl⟩ (fun r_1 _ H locs hw hW => ?_)
  refine lv_if_ne (tgt := 28) hx hb dX4_withdraw_21 (by decide) (fun hc => ?_) (fun hc => ?_)
  · have hw := hw.1 hc
    refine lv_iconst (v := 0) hx hb dX4_withdraw_28 (by decide) ?_
    refine kS_Xv (As := [.int 0]) (rest := []) ⟨hx, hb, hml, hown, hts⟩ (ok_X4_needState l hst D cI cJ a _ _ _ _ _ hw) (va_cwS 1 hts gX4_withdraw_X4_needState rfl rfl rfl (by decide +kernel) ⟨(Nat.le_of_ble_eq_true rfl), (Nat.le_of_ble_eq_true rfl)⟩) hK hW hA hz hs rfl hl.1 rfl (Nat.le_of_ble_eq_true rfl) dX4_withdraw_29 ⟨(Nat.le_of_ble_eq_true rfl), (Nat.le_of_ble_eq_true rfl)⟩ (fun E ce q H locs hE hW h1 h2 h3 => hpass E ce q H locs _ _ _ _ _ (Nat.le_of_ble_eq_true rfl) (Nat.le_of_ble_eq_true rfl) hE hW h1 h2 h3) (fun _ H locs hw hW => ?_)
    refine lv_aload_n hx hb dX4_withdraw_32 rfl (lv_at hl 0 rfl) ?_
    refine va_get (D := D) (ci := 4) (v := .ref (a 6)) (C := RX4) (T := TX4) (N := 4) hx hb hts hinX4 hown hK hW.1 0 rfl rfl 2 (by decide) (hts _ (List.mem_of_getElem? (i := 2) rfl)) (fun _ h9 => h9) rfl dX4_withdraw_33 ?_
    refine lv_aload_n hx hb dX4_withdraw_36 rfl (lv_at hl 0 rfl) ?_
    refine va_get (D := D) (ci := 4) (v := .ref (a 1)) (C := RX4) (T := TX4) (N := 4) hx hb hts hinX4 hown hK hW.1 0 rfl rfl 0 (by decide) (hts _ (List.mem_of_getElem? (i := 1) rfl)) (fun _ h9 => h9) rfl dX4_withdraw_37 ?_
    refine kV_Mv (As := [.ref (a 1)]) (rest := []) ⟨hx, hb, hml, hown, hts⟩ (ok_X0_save l D cI cJ a _ _ _ hw) (cwV 1 hts gX4_withdraw_X0_save rfl rfl rfl (by decide +kernel) ⟨Nat.le_of_ble_eq_true rfl, Nat.le_of_ble_eq_true rfl⟩) hK hW hA 6 rfl rfl rfl hl.1 rfl (Nat.le_of_ble_eq_true rfl) dX4_withdraw_40 ⟨Nat.le_of_ble_eq_true rfl, Nat.le_of_ble_eq_true rfl⟩ (fun σ_2 H locs hw hW => ?_)
    refine lv_aload_n hx hb dX4_withdraw_43 rfl (lv_at hl 0 rfl) ?_
    refine va_get (D := D) (ci := 4) (v := .ref (a 1)) (C := RX4) (T := TX4) (N := 4) hx hb hts hinX4 hown hK hW.1 0 rfl rfl 0 (by decide) (hts _ (List.mem_of_getElem? (i := 1) rfl)) (fun _ h9 => h9) rfl dX4_withdraw_44 ?_
    refine lv_iload_n hx hb dX4_withdraw_47 rfl (lv_at hl 1 rfl) ?_
    refine lv_iload_n hx hb dX4_withdraw_48 rfl (lv_at hl 2 rfl) ?_
    refine kV_Mi (As := [.int p1, .int p2]) (rest := []) ⟨hx, hb, hml, hown, hts⟩ (ok_X2_takeBack l D cI cJ a _ _ _ _ _ hw) (cwV 2 hts gX4_withdraw_X2_takeBack rfl rfl rfl (by decide +kernel) ⟨Nat.le_of_ble_eq_true rfl, Nat.le_of_ble_eq_true rfl⟩) hK hW hA 1 rfl rfl rfl hl.1 rfl (Nat.le_of_ble_eq_true rfl) dX4_withdraw_49 ⟨Nat.le_of_ble_eq_true rfl, Nat.le_of_ble_eq_true rfl⟩ (fun r_3 σ_4 H locs hw hW => ?_)
    exact hret _ σ_4 _ _ _ _ _ _ (Nat.le_of_ble_eq_true rfl) (Nat.le_of_ble_eq_true rfl) hw hW dX4_withdraw_52
  · have hw := hw.2 hc
    refine lv_iconst (v := 1) hx hb dX4_withdraw_24 (by decide) ?_
    refine lv_goto (tgt := 29) hx hb dX4_withdraw_25 (by decide) ?_
    refine kS_Xv (As := [.int 1]) (rest := []) ⟨hx, hb, hml, hown, hts⟩ (ok_X4_needState l hst D cI cJ a _ _ _ _ _ hw) (va_cwS 1 hts gX4_withdraw_X4_needState rfl rfl rfl (by decide +kernel) ⟨(Nat.le_of_ble_eq_true rfl), (Nat.le_of_ble_eq_true rfl)⟩) hK hW hA hz hs rfl hl.1 rfl (Nat.le_of_ble_eq_true rfl) dX4_withdraw_29 ⟨(Nat.le_of_ble_eq_true rfl), (Nat.le_of_ble_eq_true rfl)⟩ (fun E ce q H locs hE hW h1 h2 h3 => hpass E ce q H locs _ _ _ _ _ (Nat.le_of_ble_eq_true rfl) (Nat.le_of_ble_eq_true rfl) hE hW h1 h2 h3) (fun _ H locs hw hW => ?_)
    refine lv_aload_n hx hb dX4_withdraw_32 rfl (lv_at hl 0 rfl) ?_
    refine va_get (D := D) (ci := 4) (v := .ref (a 6)) (C := RX4) (T := TX4) (N := 4) hx hb hts hinX4 hown hK hW.1 0 rfl rfl 2 (by decide) (hts _ (List.mem_of_getElem? (i := 2) rfl)) (fun _ h9 => h9) rfl dX4_withdraw_33 ?_
    refine lv_aload_n hx hb dX4_withdraw_36 rfl (lv_at hl 0 rfl) ?_
    refine va_get (D := D) (ci := 4) (v := .ref (a 1)) (C := RX4) (T := TX4) (N := 4) hx hb hts hinX4 hown hK hW.1 0 rfl rfl 0 (by decide) (hts _ (List.mem_of_getElem? (i := 1) rfl)) (fun _ h9 => h9) rfl dX4_withdraw_37 ?_
    refine kV_Mv (As := [.ref (a 1)]) (rest := []) ⟨hx, hb, hml, hown, hts⟩ (ok_X0_save l D cI cJ a _ _ _ hw) (cwV 1 hts gX4_withdraw_X0_save rfl rfl rfl (by decide +kernel) ⟨Nat.le_of_ble_eq_true rfl, Nat.le_of_ble_eq_true rfl⟩) hK hW hA 6 rfl rfl rfl hl.1 rfl (Nat.le_of_ble_eq_true rfl) dX4_withdraw_40 ⟨Nat.le_of_ble_eq_true rfl, Nat.le_of_ble_eq_true rfl⟩ (fun σ_5 H locs hw hW => ?_)
    refine lv_aload_n hx hb dX4_withdraw_43 rfl (lv_at hl 0 rfl) ?_
    refine va_get (D := D) (ci := 4) (v := .ref (a 1)) (C := RX4) (T := TX4) (N := 4) hx hb hts hinX4 hown hK hW.1 0 rfl rfl 0 (by decide) (hts _ (List.mem_of_getElem? (i := 1) rfl)) (fun _ h9 => h9) rfl dX4_withdraw_44 ?_
    refine lv_iload_n hx hb dX4_withdraw_47 rfl (lv_at hl 1 rfl) ?_
    refine lv_iload_n hx hb dX4_withdraw_48 rfl (lv_at hl 2 rfl) ?_
    refine kV_Mi (As := [.int p1, .int p2]) (rest := []) ⟨hx, hb, hml, hown, hts⟩ (ok_X2_takeBack l D cI cJ a _ _ _ _ _ hw) (cwV 2 hts gX4_withdraw_X2_takeBack rfl rfl rfl (by decide +kernel) ⟨Nat.le_of_ble_eq_true rfl, Nat.le_of_ble_eq_true rfl⟩) hK hW hA 1 rfl rfl rfl hl.1 rfl (Nat.le_of_ble_eq_true rfl) dX4_withdraw_49 ⟨Nat.le_of_ble_eq_true rfl, Nat.le_of_ble_eq_true rfl⟩ (fun r_6 σ_7 H locs hw hW => ?_)
    exact hret _ σ_7 _ _ _ _ _ _ (Nat.le_of_ble_eq_true rfl) (Nat.le_of_ble_eq_true rfl) hw hW dX4_withdraw_52
def wp_X4_pause (σ : CS) (p1 : Int32) (post : Int32 → CS → Prop) (px : String → Prop) : Prop := wp_X4_needRange σ p1 1 23 (wp_X0_save σ (fun σ_1 => wp_X2_passHours σ_1 p1 (fun r_2 σ_3 => post r_2 σ_3))) px
abbrev rm_X4_pause : Room := { frames := 9, cells := 1, slots := 6, locals := 162 }
theorem in_X4_pause_X4 : ∀ w ∈ wsX40, w ∈ wsX4_pause := fun w h => List.mem_cons_of_mem _ (List.mem_append_left _ (List.mem_append_left _ (List.mem_append_left _ (List.mem_append_right _ (h)))))
set_option maxHeartbeats 4000000 in
set_option maxRecDepth 100000 in
theorem ok_X4_pause (l : Launch) (hst : l.stackTraces = false) (D : va_G) (cI cJ : ClassId) (a : Nat → Nat) (sz : Nat) (σ : CS) (p1 : Int32) (post : Int32 → CS → Prop) (px : String → Prop) (hw : wp_X4_pause σ p1 post px) : Xi l yX4_pause wsX4_pause rm_X4_pause [.ref (a 0), .int p1] D (tysIJ cI cJ) (cW cI cJ a σ) sz post (cW cI cJ a) px 1 6 := by
  refine s_Xi hst (by decide) rfl (Nat.le_of_ble_eq_true rfl) ?_
  intro p e s m args below meth c A Q hx hb hml hts hown hin hK hA hz hs hret hpass hthr1 hthr2 H locs ls hW hl
  have hown : s.vm.findClass RX4 = some m.cls := hown
  have hl : lv_has ls 2 [(0, .ref (a 0)), (1, .int p1)] := hl
  have hinX4 := in_X4_pause_X4
  refine lv_iload_n hx hb dX4_pause_0 rfl (lv_at hl 1 rfl) ?_
  refine lv_iconst (v := 1) hx hb dX4_pause_1 (by decide) ?_
  refine lv_bipush (v := 23) hx hb dX4_pause_2 (by decide) ?_
  refine kS_Xv (As := [.int p1, .int 1, .int 23]) (rest := []) ⟨hx, hb, hml, hown, hts⟩ (ok_X4_needRange l hst D cI cJ a _ _ _ _ _ _ _ hw) (va_cwS 3 hts gX4_pause_X4_needRange rfl rfl rfl (by decide +kernel) ⟨(Nat.le_of_ble_eq_true rfl), (Nat.le_of_ble_eq_true rfl)⟩) hK hW hA hz hs rfl hl.1 rfl (Nat.le_of_ble_eq_true rfl) dX4_pause_4 ⟨(Nat.le_of_ble_eq_true rfl), (Nat.le_of_ble_eq_true rfl)⟩ (fun E ce q H locs hE hW h1 h2 h3 => hpass E ce q H locs _ _ _ _ _ (Nat.le_of_ble_eq_true rfl) (Nat.le_of_ble_eq_true rfl) hE hW h1 h2 h3) (fun _ H locs hw hW => ?_)
  refine lv_aload_n hx hb dX4_pause_7 rfl (lv_at hl 0 rfl) ?_
  refine va_get (D := D) (ci := 4) (v := .ref (a 6)) (C := RX4) (T := TX4) (N := 4) hx hb hts hinX4 hown hK hW.1 0 rfl rfl 2 (by decide) (hts _ (List.mem_of_getElem? (i := 1) rfl)) (fun _ h9 => h9) rfl dX4_pause_8 ?_
  refine lv_aload_n hx hb dX4_pause_11 rfl (lv_at hl 0 rfl) ?_
  refine va_get (D := D) (ci := 4) (v := .ref (a 1)) (C := RX4) (T := TX4) (N := 4) hx hb hts hinX4 hown hK hW.1 0 rfl rfl 0 (by decide) (hts _ (List.mem_of_getElem? (i := 2) rfl)) (fun _ h9 => h9) rfl dX4_pause_12 ?_
  refine kV_Mv (As := [.ref (a 1)]) (rest := []) ⟨hx, hb, hml, hown, hts⟩ (ok_X0_save l D cI cJ a _ _ _ hw) (cwV 1 hts gX4_pause_X0_save rfl rfl rfl (by decide +kernel) ⟨Nat.le_of_ble_eq_true rfl, Nat.le_of_ble_eq_true rfl⟩) hK hW hA 6 rfl rfl rfl hl.1 rfl (Nat.le_of_ble_eq_true rfl) dX4_pause_15 ⟨Nat.le_of_ble_eq_true rfl, Nat.le_of_ble_eq_true rfl⟩ (fun σ_1 H locs hw hW => ?_)
  refine lv_aload_n hx hb dX4_pause_18 rfl (lv_at hl 0 rfl) ?_
  refine va_get (D := D) (ci := 4) (v := .ref (a 1)) (C := RX4) (T := TX4) (N := 4) hx hb hts hinX4 hown hK hW.1 0 rfl rfl 0 (by decide) (hts _ (List.mem_of_getElem? (i := 2) rfl)) (fun _ h9 => h9) rfl dX4_pause_19 ?_
  refine lv_iload_n hx hb dX4_pause_22 rfl (lv_at hl 1 rfl) ?_
  refine kV_Mi (As := [.int p1]) (rest := []) ⟨hx, hb, hml, hown, hts⟩ (ok_X2_passHours l D cI cJ a _ _ _ _ hw) (cwV 1 hts gX4_pause_X2_passHours rfl rfl rfl (by decide +kernel) ⟨Nat.le_of_ble_eq_true rfl, Nat.le_of_ble_eq_true rfl⟩) hK hW hA 1 rfl rfl rfl hl.1 rfl (Nat.le_of_ble_eq_true rfl) dX4_pause_23 ⟨Nat.le_of_ble_eq_true rfl, Nat.le_of_ble_eq_true rfl⟩ (fun r_2 σ_3 H locs hw hW => ?_)
  exact hret _ σ_3 _ _ _ _ _ _ (Nat.le_of_ble_eq_true rfl) (Nat.le_of_ble_eq_true rfl) hw hW dX4_pause_26
def wp_X4_findSharing (σ : CS) (post : CS → Prop) : Prop := wp_X1_readBids σ (fun σ_1 => wp_X1_find σ_1 (-1) (fun σ_2 => post σ_2))
abbrev rm_X4_findSharing : Room := { frames := 3, cells := 0, slots := 0, locals := 89 }
theorem in_X4_findSharing_X4 : ∀ w ∈ wsX40, w ∈ wsX4_findSharing := fun w h => List.mem_cons_of_mem _ (List.mem_append_left _ (List.mem_append_left _ (List.mem_append_right _ (h))))
set_option maxHeartbeats 4000000 in
set_option maxRecDepth 100000 in
theorem ok_X4_findSharing (l : Launch) (D : va_G) (cI cJ : ClassId) (a : Nat → Nat) (sz : Nat) (σ : CS) (post : CS → Prop) (hw : wp_X4_findSharing σ post) : Mv l yX4_findSharing wsX4_findSharing rm_X4_findSharing [.ref (a 0)] D (tysIJ cI cJ) (cW cI cJ a σ) sz post (cW cI cJ a) := by
  refine s_Mv (by decide) rfl (Nat.le_of_ble_eq_true rfl) ?_
  intro p e s m args below meth c A Q hx hb hml hts hown hin hK hA hret H locs ls hW hl
  have hown : s.vm.findClass RX4 = some m.cls := hown
  have hl : lv_has ls 1 [(0, .ref (a 0))] := hl
  have hinX4 := in_X4_findSharing_X4
  refine lv_aload_n hx hb dX4_findSharing_0 rfl (lv_at hl 0 rfl) ?_
  refine va_get (D := D) (ci := 4) (v := .ref (a 3)) (C := RX4) (T := TX4) (N := 4) hx hb hts hinX4 hown hK hW.1 0 rfl rfl 1 (by decide) (hts _ (List.mem_of_getElem? (i := 1) rfl)) (fun _ h9 => h9) rfl dX4_findSharing_1 ?_
  refine lv_aload_n hx hb dX4_findSharing_4 rfl (lv_at hl 0 rfl) ?_
  refine va_get (D := D) (ci := 4) (v := .ref (a 1)) (C := RX4) (T := TX4) (N := 4) hx hb hts hinX4 hown hK hW.1 0 rfl rfl 0 (by decide) (hts _ (List.mem_of_getElem? (i := 2) rfl)) (fun _ h9 => h9) rfl dX4_findSharing_5 ?_
  refine kV_Mv (As := [.ref (a 1)]) (rest := []) ⟨hx, hb, hml, hown, hts⟩ (ok_X1_readBids l D cI cJ a _ _ _ hw) (cwV 1 hts gX4_findSharing_X1_readBids rfl rfl rfl (by decide +kernel) ⟨Nat.le_of_ble_eq_true rfl, Nat.le_of_ble_eq_true rfl⟩) hK hW hA 3 rfl rfl rfl hl.1 rfl (Nat.le_of_ble_eq_true rfl) dX4_findSharing_8 ⟨Nat.le_of_ble_eq_true rfl, Nat.le_of_ble_eq_true rfl⟩ (fun σ_1 H locs hw hW => ?_)
  refine lv_aload_n hx hb dX4_findSharing_11 rfl (lv_at hl 0 rfl) ?_
  refine va_get (D := D) (ci := 4) (v := .ref (a 3)) (C := RX4) (T := TX4) (N := 4) hx hb hts hinX4 hown hK hW.1 0 rfl rfl 1 (by decide) (hts _ (List.mem_of_getElem? (i := 1) rfl)) (fun _ h9 => h9) rfl dX4_findSharing_12 ?_
  refine lv_iconst (v := (-1)) hx hb dX4_findSharing_15 (by decide) ?_
  refine kV_Mv (As := [.int (-1)]) (rest := []) ⟨hx, hb, hml, hown, hts⟩ (ok_X1_find l D cI cJ a _ _ _ _ hw) (cwV 1 hts gX4_findSharing_X1_find rfl rfl rfl (by decide +kernel) ⟨Nat.le_of_ble_eq_true rfl, Nat.le_of_ble_eq_true rfl⟩) hK hW hA 3 rfl rfl rfl hl.1 rfl (Nat.le_of_ble_eq_true rfl) dX4_findSharing_16 ⟨Nat.le_of_ble_eq_true rfl, Nat.le_of_ble_eq_true rfl⟩ (fun σ_2 H locs hw hW => ?_)
  exact hret σ_2 _ _ _ _ hw hW dX4_findSharing_19
def wp_X4_shareOut (σ : CS) (post : Int32 → CS → Prop) : Prop := wp_X4_findSharing σ (fun σ_1 => wp_X2_openBids σ_1 (fun σ_2 => ∃ I3 : Nat → Int32 → Int32 → CS → Prop, (∃ n : Nat, I3 n 0 0 (σ_2)) ∧ ∀ (n3 : Nat) (v1_3 : Int32) (v2_3 : Int32) (σ_3 : CS), I3 n3 v1_3 v2_3 σ_3 → ((6 ≤ v2_3 → post v1_3 σ_3) ∧ (¬ 6 ≤ v2_3 → wp_X1_ownerOf σ_3 v2_3 (fun r_4 => ((r_4 = (-1) → ∀ v2_5 : Int32, v2_5 = v2_3 + 1 → ∃ n' : Nat, n' < n3 ∧ I3 n' v1_3 v2_5 (σ_3)) ∧ (¬ r_4 = (-1) → wp_X1_priceOf σ_3 v2_3 (fun r_6 => wp_X2_giveSpot σ_3 v2_3 r_4 r_6 (fun σ_7 => ∀ v1_8 : Int32, v1_8 = v1_3 + 1 → ∀ v2_9 : Int32, v2_9 = v2_3 + 1 → ∃ n' : Nat, n' < n3 ∧ I3 n' v1_8 v2_9 (σ_7))))))))))
abbrev rm_X4_shareOut : Room := { frames := 4, cells := 0, slots := 0, locals := 109 }
theorem in_X4_shareOut_X4 : ∀ w ∈ wsX40, w ∈ wsX4_shareOut := fun w h => List.mem_cons_of_mem _ (List.mem_append_left _ (List.mem_append_left _ (List.mem_append_right _ (h))))
set_option maxHeartbeats 4000000 in
set_option maxRecDepth 100000 in
theorem ok_X4_shareOut (l : Launch) (D : va_G) (cI cJ : ClassId) (a : Nat → Nat) (sz : Nat) (σ : CS) (post : Int32 → CS → Prop) (hw : wp_X4_shareOut σ post) : Mi l yX4_shareOut wsX4_shareOut rm_X4_shareOut [.ref (a 0)] D (tysIJ cI cJ) (cW cI cJ a σ) sz post (cW cI cJ a) := by
  refine s_Mi (by decide) rfl (Nat.le_of_ble_eq_true rfl) ?_
  intro p e s m args below meth c A Q hx hb hml hts hown hin hK hA hret H locs ls hW hl
  have hown : s.vm.findClass RX4 = some m.cls := hown
  have hl : lv_has ls 4 [(0, .ref (a 0))] := hl
  have hinX4 := in_X4_shareOut_X4
  refine lv_aload_n hx hb dX4_shareOut_0 rfl (lv_at hl 0 rfl) ?_
  refine kV_Mv (As := []) (rest := []) ⟨hx, hb, hml, hown, hts⟩ (ok_X4_findSharing l D cI cJ a _ _ _ hw) (cwV 0 hts gX4_shareOut_X4_findSharing rfl rfl rfl (by decide +kernel) ⟨Nat.le_of_ble_eq_true rfl, Nat.le_of_ble_eq_true rfl⟩) hK hW hA 0 rfl rfl rfl hl.1 rfl (Nat.le_of_ble_eq_true rfl) dX4_shareOut_1 ⟨Nat.le_of_ble_eq_true rfl, Nat.le_of_ble_eq_true rfl⟩ (fun σ_1 H locs hw hW => ?_)
  refine lv_aload_n hx hb dX4_shareOut_4 rfl (lv_at hl 0 rfl) ?_
  refine va_get (D := D) (ci := 4) (v := .ref (a 1)) (C := RX4) (T := TX4) (N := 4) hx hb hts hinX4 hown hK hW.1 0 rfl rfl 0 (by decide) (hts _ (List.mem_of_getElem? (i := 1) rfl)) (fun _ h9 => h9) rfl dX4_shareOut_5 ?_
  refine kV_Mv (As := []) (rest := []) ⟨hx, hb, hml, hown, hts⟩ (ok_X2_openBids l D cI cJ a _ _ _ hw) (cwV 0 hts gX4_shareOut_X2_openBids rfl rfl rfl (by decide +kernel) ⟨Nat.le_of_ble_eq_true rfl, Nat.le_of_ble_eq_true rfl⟩) hK hW hA 1 rfl rfl rfl hl.1 rfl (Nat.le_of_ble_eq_true rfl) dX4_shareOut_8 ⟨Nat.le_of_ble_eq_true rfl, Nat.le_of_ble_eq_true rfl⟩ (fun σ_2 H locs hw hW => ?_)
  refine lv_iconst (v := 0) hx hb dX4_shareOut_11 (by decide) ?_
  refine lv_istore_n (lv' := [(1, .int 0), (0, .ref (a 0))]) hx hb dX4_shareOut_12 rfl hl (by decide) rfl (fun ls hl => ?_)
  refine lv_iconst (v := 0) hx hb dX4_shareOut_13 (by decide) ?_
  refine lv_istore_n (lv' := [(2, .int 0), (1, .int 0), (0, .ref (a 0))]) hx hb dX4_shareOut_14 rfl hl (by decide) rfl (fun ls hl => ?_)
  obtain ⟨I3, ⟨n3, hI3⟩, hJ3⟩ := hw
  have hl : lv_has ls 4 [(0, .ref (a 0)), (1, .int 0), (2, .int 0)] := lv_sub hl [2, 1, 0] rfl
  suffices LP3 : ∀ (n : Nat) (v1_3 : Int32) (v2_3 : Int32) (σ_3 : CS) (H : Heap) (locs : List Loc) (ls : Array Slot), I3 n v1_3 v2_3 σ_3 → Wd D A s.heap (cW cI cJ a σ_3) H locs → lv_has ls 4 [(0, .ref (a 0)), (1, .int v1_3), (2, .int v2_3)] → W p l e rm_X4_shareOut s m args below meth c H locs 0 0 Q (F0 m 15 ls []) from LP3 n3 0 0 _ H locs ls hI3 hW hl
  intro n3
  induction n3 using Nat.strongRecOn with
  | ind n3 ih3 =>
    intro v1_3 v2_3 σ_3 H locs ls hIn hW hl
    have hw := hJ3 n3 v1_3 v2_3 σ_3 hIn
    refine lv_iload_n hx hb dX4_shareOut_15 rfl (lv_at hl 2 rfl) ?_
    refine lv_bipush (v := 6) hx hb dX4_shareOut_16 (by decide) ?_
    refine lv_icmp_ge (tgt := 65) hx hb dX4_shareOut_18 (by decide) (fun hc => ?_) (fun hc => ?_)
    · have hw := hw.1 hc
      refine lv_iload_n hx hb dX4_shareOut_65 rfl (lv_at hl 1 rfl) ?_
      exact hret _ σ_3 _ _ _ _ hw hW dX4_shareOut_66
    · have hw := hw.2 hc
      refine lv_aload_n hx hb dX4_shareOut_21 rfl (lv_at hl 0 rfl) ?_
      refine va_get (D := D) (ci := 4) (v := .ref (a 3)) (C := RX4) (T := TX4) (N := 4) hx hb hts hinX4 hown hK hW.1 0 rfl rfl 1 (by decide) (hts _ (List.mem_of_getElem? (i := 2) rfl)) (fun _ h9 => h9) rfl dX4_shareOut_22 ?_
      refine lv_iload_n hx hb dX4_shareOut_25 rfl (lv_at hl 2 rfl) ?_
      refine kV_Mi (As := [.int v2_3]) (rest := []) ⟨hx, hb, hml, hown, hts⟩ (ok_X1_ownerOf l D cI cJ a _ _ _ _ hw) (cwV 1 hts gX4_shareOut_X1_ownerOf rfl rfl rfl (by decide +kernel) ⟨Nat.le_of_ble_eq_true rfl, Nat.le_of_ble_eq_true rfl⟩) hK hW hA 3 rfl rfl rfl hl.1 rfl (Nat.le_of_ble_eq_true rfl) dX4_shareOut_26 ⟨Nat.le_of_ble_eq_true rfl, Nat.le_of_ble_eq_true rfl⟩ (fun r_4 _ H locs hw hW => ?_)
      refine lv_istore_n (lv' := [(3, .int r_4), (0, .ref (a 0)), (1, .int v1_3), (2, .int v2_3)]) hx hb dX4_shareOut_29 rfl hl (by decide) rfl (fun ls hl => ?_)
      refine lv_iload_n hx hb dX4_shareOut_30 rfl (lv_at hl 0 rfl) ?_
      refine lv_iconst (v := (-1)) hx hb dX4_shareOut_31 (by decide) ?_
      refine lv_icmp_eq (tgt := 59) hx hb dX4_shareOut_32 (by decide) (fun hc => ?_) (fun hc => ?_)
      · have hw := hw.1 hc
        obtain ⟨v2_5, ev2_5⟩ : ∃ y : Int32, y = v2_3 + 1 := ⟨_, rfl⟩
        have hw := hw v2_5 ev2_5
        refine lv_iinc (v := v2_5) (lv' := [(2, .int v2_5), (3, .int r_4), (0, .ref (a 0)), (1, .int v1_3)]) hx hb dX4_shareOut_59 hl (k := 3) rfl (by rw [ev2_5]; rfl) (by decide) rfl (fun ls hl => ?_)
        refine lv_goto (tgt := 15) hx hb dX4_shareOut_62 (by decide) ?_
        obtain ⟨n9, hlt9, hI9⟩ := hw
        exact ih3 n9 hlt9 _ _ _ _ _ _ hI9 hW (lv_sub hl [2, 3, 0] rfl)
      · have hw := hw.2 hc
        refine lv_aload_n hx hb dX4_shareOut_35 rfl (lv_at hl 1 rfl) ?_
        refine va_get (D := D) (ci := 4) (v := .ref (a 1)) (C := RX4) (T := TX4) (N := 4) hx hb hts hinX4 hown hK hW.1 0 rfl rfl 0 (by decide) (hts _ (List.mem_of_getElem? (i := 1) rfl)) (fun _ h9 => h9) rfl dX4_shareOut_36 ?_
        refine lv_iload_n hx hb dX4_shareOut_39 rfl (lv_at hl 3 rfl) ?_
        refine lv_iload_n hx hb dX4_shareOut_40 rfl (lv_at hl 0 rfl) ?_
        refine lv_aload_n hx hb dX4_shareOut_41 rfl (lv_at hl 1 rfl) ?_
        refine va_get (D := D) (ci := 4) (v := .ref (a 3)) (C := RX4) (T := TX4) (N := 4) hx hb hts hinX4 hown hK hW.1 0 rfl rfl 1 (by decide) (hts _ (List.mem_of_getElem? (i := 2) rfl)) (fun _ h9 => h9) rfl dX4_shareOut_42 ?_
        refine lv_iload_n hx hb dX4_shareOut_45 rfl (lv_at hl 3 rfl) ?_
        refine lv_aload_n hx hb dX4_shareOut_46 rfl (lv_at hl 1 rfl) ?_
        refine va_get (D := D) (ci := 4) (v := .ref (a 1)) (C := RX4) (T := TX4) (N := 4) hx hb hts hinX4 hown hK hW.1 0 rfl rfl 0 (by decide) (hts _ (List.mem_of_getElem? (i := 1) rfl)) (fun _ h9 => h9) rfl dX4_shareOut_47 ?_
        refine kV_Mi (As := [.int v2_3, .ref (a 1)]) (rest := [.int r_4, .int v2_3, .ref (a 1)]) ⟨hx, hb, hml, hown, hts⟩ (ok_X1_priceOf l D cI cJ a _ _ _ _ hw) (cwV 2 hts gX4_shareOut_X1_priceOf rfl rfl rfl (by decide +kernel) ⟨Nat.le_of_ble_eq_true rfl, Nat.le_of_ble_eq_true rfl⟩) hK hW hA 3 rfl rfl rfl hl.1 rfl (Nat.le_of_ble_eq_true rfl) dX4_shareOut_50 ⟨Nat.le_of_ble_eq_true rfl, Nat.le_of_ble_eq_true rfl⟩ (fun r_6 _ H locs hw hW => ?_)
        refine kV_Mv (As := [.int v2_3, .int r_4, .int r_6]) (rest := []) ⟨hx, hb, hml, hown, hts⟩ (ok_X2_giveSpot l D cI cJ a _ _ _ _ _ _ hw) (cwV 3 hts gX4_shareOut_X2_giveSpot rfl rfl rfl (by decide +kernel) ⟨Nat.le_of_ble_eq_true rfl, Nat.le_of_ble_eq_true rfl⟩) hK hW hA 1 rfl rfl rfl hl.1 rfl (Nat.le_of_ble_eq_true rfl) dX4_shareOut_53 ⟨Nat.le_of_ble_eq_true rfl, Nat.le_of_ble_eq_true rfl⟩ (fun σ_7 H locs hw hW => ?_)
        obtain ⟨v1_8, ev1_8⟩ : ∃ y : Int32, y = v1_3 + 1 := ⟨_, rfl⟩
        have hw := hw v1_8 ev1_8
        refine lv_iinc (v := v1_8) (lv' := [(1, .int v1_8), (3, .int r_4), (0, .ref (a 0)), (2, .int v2_3)]) hx hb dX4_shareOut_56 hl (k := 2) rfl (by rw [ev1_8]; rfl) (by decide) rfl (fun ls hl => ?_)
        obtain ⟨v2_9, ev2_9⟩ : ∃ y : Int32, y = v2_3 + 1 := ⟨_, rfl⟩
        have hw := hw v2_9 ev2_9
        refine lv_iinc (v := v2_9) (lv' := [(2, .int v2_9), (1, .int v1_8), (3, .int r_4), (0, .ref (a 0))]) hx hb dX4_shareOut_59 hl (k := 3) rfl (by rw [ev2_9]; rfl) (by decide) rfl (fun ls hl => ?_)
        refine lv_goto (tgt := 15) hx hb dX4_shareOut_62 (by decide) ?_
        obtain ⟨n9, hlt9, hI9⟩ := hw
        exact ih3 n9 hlt9 _ _ _ _ _ _ hI9 hW (lv_sub hl [3, 1, 0] rfl)
def wp_X4_open (σ : CS) (post : Int32 → CS → Prop) (px : String → Prop) : Prop := wp_X2_isOpened σ (fun r_1 => ((¬ r_1 = 0 → wp_X4_needState σ 0 (wp_X0_save σ (fun σ_2 => wp_X4_shareOut σ_2 (fun r_3 σ_4 => post r_3 σ_4))) px) ∧ (r_1 = 0 → wp_X4_needState σ 1 (wp_X0_save σ (fun σ_5 => wp_X4_shareOut σ_5 (fun r_6 σ_7 => post r_6 σ_7))) px)))
abbrev rm_X4_open : Room := { frames := 9, cells := 1, slots := 6, locals := 160 }
theorem in_X4_open_X4 : ∀ w ∈ wsX40, w ∈ wsX4_open := fun w h => List.mem_cons_of_mem _ (List.mem_append_left _ (List.mem_append_left _ (List.mem_append_left _ (List.mem_append_left _ (List.mem_append_right _ (h))))))
set_option maxHeartbeats 4000000 in
set_option maxRecDepth 100000 in
theorem ok_X4_open (l : Launch) (hst : l.stackTraces = false) (D : va_G) (cI cJ : ClassId) (a : Nat → Nat) (sz : Nat) (σ : CS) (post : Int32 → CS → Prop) (px : String → Prop) (hw : wp_X4_open σ post px) : Xi l yX4_open wsX4_open rm_X4_open [.ref (a 0)] D (tysIJ cI cJ) (cW cI cJ a σ) sz post (cW cI cJ a) px 1 6 := by
  refine s_Xi hst (by decide) rfl (Nat.le_of_ble_eq_true rfl) ?_
  intro p e s m args below meth c A Q hx hb hml hts hown hin hK hA hz hs hret hpass hthr1 hthr2 H locs ls hW hl
  have hown : s.vm.findClass RX4 = some m.cls := hown
  have hl : lv_has ls 1 [(0, .ref (a 0))] := hl
  have hinX4 := in_X4_open_X4
  refine lv_aload_n hx hb dX4_open_0 rfl (lv_at hl 0 rfl) ?_
  refine va_get (D := D) (ci := 4) (v := .ref (a 1)) (C := RX4) (T := TX4) (N := 4) hx hb hts hinX4 hown hK hW.1 0 rfl rfl 0 (by decide) (hts _ (List.mem_of_getElem? (i := 1) rfl)) (fun _ h9 => h9) rfl dX4_open_1 ?_
  refine kV_Mi (As := []) (rest := []) ⟨hx, hb, hml, hown, hts⟩ (ok_X2_isOpened l D cI cJ a _ _ _ hw) (cwV 0 hts gX4_open_X2_isOpened rfl rfl rfl (by decide +kernel) ⟨Nat.le_of_ble_eq_true rfl, Nat.le_of_ble_eq_true rfl⟩) hK hW hA 1 rfl rfl rfl hl.1 rfl (Nat.le_of_ble_eq_true rfl) dX4_open_4 ⟨Nat.le_of_ble_eq_true rfl, Nat.le_of_ble_eq_true rfl⟩ (fun r_1 _ H locs hw hW => ?_)
  refine lv_if_ne (tgt := 14) hx hb dX4_open_7 (by decide) (fun hc => ?_) (fun hc => ?_)
  · have hw := hw.1 hc
    refine lv_iconst (v := 0) hx hb dX4_open_14 (by decide) ?_
    refine kS_Xv (As := [.int 0]) (rest := []) ⟨hx, hb, hml, hown, hts⟩ (ok_X4_needState l hst D cI cJ a _ _ _ _ _ hw) (va_cwS 1 hts gX4_open_X4_needState rfl rfl rfl (by decide +kernel) ⟨(Nat.le_of_ble_eq_true rfl), (Nat.le_of_ble_eq_true rfl)⟩) hK hW hA hz hs rfl hl.1 rfl (Nat.le_of_ble_eq_true rfl) dX4_open_15 ⟨(Nat.le_of_ble_eq_true rfl), (Nat.le_of_ble_eq_true rfl)⟩ (fun E ce q H locs hE hW h1 h2 h3 => hpass E ce q H locs _ _ _ _ _ (Nat.le_of_ble_eq_true rfl) (Nat.le_of_ble_eq_true rfl) hE hW h1 h2 h3) (fun _ H locs hw hW => ?_)
    refine lv_aload_n hx hb dX4_open_18 rfl (lv_at hl 0 rfl) ?_
    refine va_get (D := D) (ci := 4) (v := .ref (a 6)) (C := RX4) (T := TX4) (N := 4) hx hb hts hinX4 hown hK hW.1 0 rfl rfl 2 (by decide) (hts _ (List.mem_of_getElem? (i := 2) rfl)) (fun _ h9 => h9) rfl dX4_open_19 ?_
    refine lv_aload_n hx hb dX4_open_22 rfl (lv_at hl 0 rfl) ?_
    refine va_get (D := D) (ci := 4) (v := .ref (a 1)) (C := RX4) (T := TX4) (N := 4) hx hb hts hinX4 hown hK hW.1 0 rfl rfl 0 (by decide) (hts _ (List.mem_of_getElem? (i := 1) rfl)) (fun _ h9 => h9) rfl dX4_open_23 ?_
    refine kV_Mv (As := [.ref (a 1)]) (rest := []) ⟨hx, hb, hml, hown, hts⟩ (ok_X0_save l D cI cJ a _ _ _ hw) (cwV 1 hts gX4_open_X0_save rfl rfl rfl (by decide +kernel) ⟨Nat.le_of_ble_eq_true rfl, Nat.le_of_ble_eq_true rfl⟩) hK hW hA 6 rfl rfl rfl hl.1 rfl (Nat.le_of_ble_eq_true rfl) dX4_open_26 ⟨Nat.le_of_ble_eq_true rfl, Nat.le_of_ble_eq_true rfl⟩ (fun σ_2 H locs hw hW => ?_)
    refine lv_aload_n hx hb dX4_open_29 rfl (lv_at hl 0 rfl) ?_
    refine kV_Mi (As := []) (rest := []) ⟨hx, hb, hml, hown, hts⟩ (ok_X4_shareOut l D cI cJ a _ _ _ hw) (cwV 0 hts gX4_open_X4_shareOut rfl rfl rfl (by decide +kernel) ⟨Nat.le_of_ble_eq_true rfl, Nat.le_of_ble_eq_true rfl⟩) hK hW hA 0 rfl rfl rfl hl.1 rfl (Nat.le_of_ble_eq_true rfl) dX4_open_30 ⟨Nat.le_of_ble_eq_true rfl, Nat.le_of_ble_eq_true rfl⟩ (fun r_3 σ_4 H locs hw hW => ?_)
    exact hret _ σ_4 _ _ _ _ _ _ (Nat.le_of_ble_eq_true rfl) (Nat.le_of_ble_eq_true rfl) hw hW dX4_open_33
  · have hw := hw.2 hc
    refine lv_iconst (v := 1) hx hb dX4_open_10 (by decide) ?_
    refine lv_goto (tgt := 15) hx hb dX4_open_11 (by decide) ?_
    refine kS_Xv (As := [.int 1]) (rest := []) ⟨hx, hb, hml, hown, hts⟩ (ok_X4_needState l hst D cI cJ a _ _ _ _ _ hw) (va_cwS 1 hts gX4_open_X4_needState rfl rfl rfl (by decide +kernel) ⟨(Nat.le_of_ble_eq_true rfl), (Nat.le_of_ble_eq_true rfl)⟩) hK hW hA hz hs rfl hl.1 rfl (Nat.le_of_ble_eq_true rfl) dX4_open_15 ⟨(Nat.le_of_ble_eq_true rfl), (Nat.le_of_ble_eq_true rfl)⟩ (fun E ce q H locs hE hW h1 h2 h3 => hpass E ce q H locs _ _ _ _ _ (Nat.le_of_ble_eq_true rfl) (Nat.le_of_ble_eq_true rfl) hE hW h1 h2 h3) (fun _ H locs hw hW => ?_)
    refine lv_aload_n hx hb dX4_open_18 rfl (lv_at hl 0 rfl) ?_
    refine va_get (D := D) (ci := 4) (v := .ref (a 6)) (C := RX4) (T := TX4) (N := 4) hx hb hts hinX4 hown hK hW.1 0 rfl rfl 2 (by decide) (hts _ (List.mem_of_getElem? (i := 2) rfl)) (fun _ h9 => h9) rfl dX4_open_19 ?_
    refine lv_aload_n hx hb dX4_open_22 rfl (lv_at hl 0 rfl) ?_
    refine va_get (D := D) (ci := 4) (v := .ref (a 1)) (C := RX4) (T := TX4) (N := 4) hx hb hts hinX4 hown hK hW.1 0 rfl rfl 0 (by decide) (hts _ (List.mem_of_getElem? (i := 1) rfl)) (fun _ h9 => h9) rfl dX4_open_23 ?_
    refine kV_Mv (As := [.ref (a 1)]) (rest := []) ⟨hx, hb, hml, hown, hts⟩ (ok_X0_save l D cI cJ a _ _ _ hw) (cwV 1 hts gX4_open_X0_save rfl rfl rfl (by decide +kernel) ⟨Nat.le_of_ble_eq_true rfl, Nat.le_of_ble_eq_true rfl⟩) hK hW hA 6 rfl rfl rfl hl.1 rfl (Nat.le_of_ble_eq_true rfl) dX4_open_26 ⟨Nat.le_of_ble_eq_true rfl, Nat.le_of_ble_eq_true rfl⟩ (fun σ_5 H locs hw hW => ?_)
    refine lv_aload_n hx hb dX4_open_29 rfl (lv_at hl 0 rfl) ?_
    refine kV_Mi (As := []) (rest := []) ⟨hx, hb, hml, hown, hts⟩ (ok_X4_shareOut l D cI cJ a _ _ _ hw) (cwV 0 hts gX4_open_X4_shareOut rfl rfl rfl (by decide +kernel) ⟨Nat.le_of_ble_eq_true rfl, Nat.le_of_ble_eq_true rfl⟩) hK hW hA 0 rfl rfl rfl hl.1 rfl (Nat.le_of_ble_eq_true rfl) dX4_open_30 ⟨Nat.le_of_ble_eq_true rfl, Nat.le_of_ble_eq_true rfl⟩ (fun r_6 σ_7 H locs hw hW => ?_)
    exact hret _ σ_7 _ _ _ _ _ _ (Nat.le_of_ble_eq_true rfl) (Nat.le_of_ble_eq_true rfl) hw hW dX4_open_33
def wp_X4_fish (σ : CS) (p1 : Int32) (post : Int32 → CS → Prop) (px : String → Prop) : Prop := wp_X4_needPlace σ p1 6 (wp_X2_canFish σ p1 (fun r_1 => wp_X4_needState σ r_1 (wp_X0_save σ (fun σ_2 => wp_X2_catchFish σ_2 p1 (fun r_3 σ_4 => post r_3 σ_4))) px)) px
abbrev rm_X4_fish : Room := { frames := 9, cells := 2, slots := 12, locals := 161 }
theorem in_X4_fish_X4 : ∀ w ∈ wsX40, w ∈ wsX4_fish := fun w h => List.mem_cons_of_mem _ (List.mem_append_left _ (List.mem_append_left _ (List.mem_append_left _ (List.mem_append_left _ (List.mem_append_right _ (h))))))
set_option maxHeartbeats 4000000 in
set_option maxRecDepth 100000 in
theorem ok_X4_fish (l : Launch) (hst : l.stackTraces = false) (D : va_G) (cI cJ : ClassId) (a : Nat → Nat) (sz : Nat) (σ : CS) (p1 : Int32) (post : Int32 → CS → Prop) (px : String → Prop) (hw : wp_X4_fish σ p1 post px) : Xi l yX4_fish wsX4_fish rm_X4_fish [.ref (a 0), .int p1] D (tysIJ cI cJ) (cW cI cJ a σ) sz post (cW cI cJ a) px 2 12 := by
  refine s_Xi hst (by decide) rfl (Nat.le_of_ble_eq_true rfl) ?_
  intro p e s m args below meth c A Q hx hb hml hts hown hin hK hA hz hs hret hpass hthr1 hthr2 H locs ls hW hl
  have hown : s.vm.findClass RX4 = some m.cls := hown
  have hl : lv_has ls 2 [(0, .ref (a 0)), (1, .int p1)] := hl
  have hinX4 := in_X4_fish_X4
  refine lv_iload_n hx hb dX4_fish_0 rfl (lv_at hl 1 rfl) ?_
  refine lv_bipush (v := 6) hx hb dX4_fish_1 (by decide) ?_
  refine kS_Xv (As := [.int p1, .int 6]) (rest := []) ⟨hx, hb, hml, hown, hts⟩ (ok_X4_needPlace l hst D cI cJ a _ _ _ _ _ _ hw) (va_cwS 2 hts gX4_fish_X4_needPlace rfl rfl rfl (by decide +kernel) ⟨(Nat.le_of_ble_eq_true rfl), (Nat.le_of_ble_eq_true rfl)⟩) hK hW hA hz hs rfl hl.1 rfl (Nat.le_of_ble_eq_true rfl) dX4_fish_3 ⟨(Nat.le_of_ble_eq_true rfl), (Nat.le_of_ble_eq_true rfl)⟩ (fun E ce q H locs hE hW h1 h2 h3 => hpass E ce q H locs _ _ _ _ _ (Nat.le_of_ble_eq_true rfl) (Nat.le_of_ble_eq_true rfl) hE hW h1 h2 h3) (fun _ H locs hw hW => ?_)
  refine lv_aload_n hx hb dX4_fish_6 rfl (lv_at hl 0 rfl) ?_
  refine va_get (D := D) (ci := 4) (v := .ref (a 1)) (C := RX4) (T := TX4) (N := 4) hx hb hts hinX4 hown hK hW.1 0 rfl rfl 0 (by decide) (hts _ (List.mem_of_getElem? (i := 1) rfl)) (fun _ h9 => h9) rfl dX4_fish_7 ?_
  refine lv_iload_n hx hb dX4_fish_10 rfl (lv_at hl 1 rfl) ?_
  refine kV_Mi (As := [.int p1]) (rest := []) ⟨hx, hb, hml, hown, hts⟩ (ok_X2_canFish l D cI cJ a _ _ _ _ hw) (cwV 1 hts gX4_fish_X2_canFish rfl rfl rfl (by decide +kernel) ⟨Nat.le_of_ble_eq_true rfl, Nat.le_of_ble_eq_true rfl⟩) hK hW hA 1 rfl rfl rfl hl.1 rfl (Nat.le_of_ble_eq_true rfl) dX4_fish_11 ⟨Nat.le_of_ble_eq_true rfl, Nat.le_of_ble_eq_true rfl⟩ (fun r_1 _ H locs hw hW => ?_)
  refine kS_Xv (As := [.int r_1]) (rest := []) ⟨hx, hb, hml, hown, hts⟩ (ok_X4_needState l hst D cI cJ a _ _ _ _ _ hw) (va_cwS 1 hts gX4_fish_X4_needState rfl rfl rfl (by decide +kernel) ⟨(Nat.le_of_ble_eq_true rfl), (Nat.le_of_ble_eq_true rfl)⟩) hK hW hA hz hs rfl hl.1 rfl (Nat.le_of_ble_eq_true rfl) dX4_fish_14 ⟨(Nat.le_of_ble_eq_true rfl), (Nat.le_of_ble_eq_true rfl)⟩ (fun E ce q H locs hE hW h1 h2 h3 => hpass E ce q H locs _ _ _ _ _ (Nat.le_of_ble_eq_true rfl) (Nat.le_of_ble_eq_true rfl) hE hW h1 h2 h3) (fun _ H locs hw hW => ?_)
  refine lv_aload_n hx hb dX4_fish_17 rfl (lv_at hl 0 rfl) ?_
  refine va_get (D := D) (ci := 4) (v := .ref (a 6)) (C := RX4) (T := TX4) (N := 4) hx hb hts hinX4 hown hK hW.1 0 rfl rfl 2 (by decide) (hts _ (List.mem_of_getElem? (i := 2) rfl)) (fun _ h9 => h9) rfl dX4_fish_18 ?_
  refine lv_aload_n hx hb dX4_fish_21 rfl (lv_at hl 0 rfl) ?_
  refine va_get (D := D) (ci := 4) (v := .ref (a 1)) (C := RX4) (T := TX4) (N := 4) hx hb hts hinX4 hown hK hW.1 0 rfl rfl 0 (by decide) (hts _ (List.mem_of_getElem? (i := 1) rfl)) (fun _ h9 => h9) rfl dX4_fish_22 ?_
  refine kV_Mv (As := [.ref (a 1)]) (rest := []) ⟨hx, hb, hml, hown, hts⟩ (ok_X0_save l D cI cJ a _ _ _ hw) (cwV 1 hts gX4_fish_X0_save rfl rfl rfl (by decide +kernel) ⟨Nat.le_of_ble_eq_true rfl, Nat.le_of_ble_eq_true rfl⟩) hK hW hA 6 rfl rfl rfl hl.1 rfl (Nat.le_of_ble_eq_true rfl) dX4_fish_25 ⟨Nat.le_of_ble_eq_true rfl, Nat.le_of_ble_eq_true rfl⟩ (fun σ_2 H locs hw hW => ?_)
  refine lv_aload_n hx hb dX4_fish_28 rfl (lv_at hl 0 rfl) ?_
  refine va_get (D := D) (ci := 4) (v := .ref (a 1)) (C := RX4) (T := TX4) (N := 4) hx hb hts hinX4 hown hK hW.1 0 rfl rfl 0 (by decide) (hts _ (List.mem_of_getElem? (i := 1) rfl)) (fun _ h9 => h9) rfl dX4_fish_29 ?_
  refine lv_iload_n hx hb dX4_fish_32 rfl (lv_at hl 1 rfl) ?_
  refine kV_Mi (As := [.int p1]) (rest := []) ⟨hx, hb, hml, hown, hts⟩ (ok_X2_catchFish l D cI cJ a _ _ _ _ hw) (cwV 1 hts gX4_fish_X2_catchFish rfl rfl rfl (by decide +kernel) ⟨Nat.le_of_ble_eq_true rfl, Nat.le_of_ble_eq_true rfl⟩) hK hW hA 1 rfl rfl rfl hl.1 rfl (Nat.le_of_ble_eq_true rfl) dX4_fish_33 ⟨Nat.le_of_ble_eq_true rfl, Nat.le_of_ble_eq_true rfl⟩ (fun r_3 σ_4 H locs hw hW => ?_)
  exact hret _ σ_4 _ _ _ _ _ _ (Nat.le_of_ble_eq_true rfl) (Nat.le_of_ble_eq_true rfl) hw hW dX4_fish_36
def wp_X4_nextDay (σ : CS) (post : Int32 → CS → Prop) : Prop := wp_X0_save σ (fun σ_1 => wp_X2_beginDay σ_1 (fun r_2 σ_3 => post r_2 σ_3))
abbrev rm_X4_nextDay : Room := { frames := 4, cells := 0, slots := 0, locals := 89 }
theorem in_X4_nextDay_X4 : ∀ w ∈ wsX40, w ∈ wsX4_nextDay := fun w h => List.mem_cons_of_mem _ (List.mem_append_left _ (List.mem_append_left _ (List.mem_append_right _ (h))))
set_option maxHeartbeats 4000000 in
set_option maxRecDepth 100000 in
theorem ok_X4_nextDay (l : Launch) (D : va_G) (cI cJ : ClassId) (a : Nat → Nat) (sz : Nat) (σ : CS) (post : Int32 → CS → Prop) (hw : wp_X4_nextDay σ post) : Mi l yX4_nextDay wsX4_nextDay rm_X4_nextDay [.ref (a 0)] D (tysIJ cI cJ) (cW cI cJ a σ) sz post (cW cI cJ a) := by
  refine s_Mi (by decide) rfl (Nat.le_of_ble_eq_true rfl) ?_
  intro p e s m args below meth c A Q hx hb hml hts hown hin hK hA hret H locs ls hW hl
  have hown : s.vm.findClass RX4 = some m.cls := hown
  have hl : lv_has ls 1 [(0, .ref (a 0))] := hl
  have hinX4 := in_X4_nextDay_X4
  refine lv_aload_n hx hb dX4_nextDay_0 rfl (lv_at hl 0 rfl) ?_
  refine va_get (D := D) (ci := 4) (v := .ref (a 6)) (C := RX4) (T := TX4) (N := 4) hx hb hts hinX4 hown hK hW.1 0 rfl rfl 2 (by decide) (hts _ (List.mem_of_getElem? (i := 1) rfl)) (fun _ h9 => h9) rfl dX4_nextDay_1 ?_
  refine lv_aload_n hx hb dX4_nextDay_4 rfl (lv_at hl 0 rfl) ?_
  refine va_get (D := D) (ci := 4) (v := .ref (a 1)) (C := RX4) (T := TX4) (N := 4) hx hb hts hinX4 hown hK hW.1 0 rfl rfl 0 (by decide) (hts _ (List.mem_of_getElem? (i := 2) rfl)) (fun _ h9 => h9) rfl dX4_nextDay_5 ?_
  refine kV_Mv (As := [.ref (a 1)]) (rest := []) ⟨hx, hb, hml, hown, hts⟩ (ok_X0_save l D cI cJ a _ _ _ hw) (cwV 1 hts gX4_nextDay_X0_save rfl rfl rfl (by decide +kernel) ⟨Nat.le_of_ble_eq_true rfl, Nat.le_of_ble_eq_true rfl⟩) hK hW hA 6 rfl rfl rfl hl.1 rfl (Nat.le_of_ble_eq_true rfl) dX4_nextDay_8 ⟨Nat.le_of_ble_eq_true rfl, Nat.le_of_ble_eq_true rfl⟩ (fun σ_1 H locs hw hW => ?_)
  refine lv_aload_n hx hb dX4_nextDay_11 rfl (lv_at hl 0 rfl) ?_
  refine va_get (D := D) (ci := 4) (v := .ref (a 1)) (C := RX4) (T := TX4) (N := 4) hx hb hts hinX4 hown hK hW.1 0 rfl rfl 0 (by decide) (hts _ (List.mem_of_getElem? (i := 2) rfl)) (fun _ h9 => h9) rfl dX4_nextDay_12 ?_
  refine kV_Mi (As := []) (rest := []) ⟨hx, hb, hml, hown, hts⟩ (ok_X2_beginDay l D cI cJ a _ _ _ hw) (cwV 0 hts gX4_nextDay_X2_beginDay rfl rfl rfl (by decide +kernel) ⟨Nat.le_of_ble_eq_true rfl, Nat.le_of_ble_eq_true rfl⟩) hK hW hA 1 rfl rfl rfl hl.1 rfl (Nat.le_of_ble_eq_true rfl) dX4_nextDay_15 ⟨Nat.le_of_ble_eq_true rfl, Nat.le_of_ble_eq_true rfl⟩ (fun r_2 σ_3 H locs hw hW => ?_)
  exact hret _ σ_3 _ _ _ _ hw hW dX4_nextDay_18
def wp_X4_append (σ : CS) (p1 : Int32) (post : Int32 → CS → Prop) (px : String → Prop) : Prop := wp_X4_needRange σ p1 33 126 (wp_X3_isFull σ (fun r_1 => ((¬ r_1 = 0 → wp_X4_needState σ 0 (wp_X3_add σ p1 (fun r_2 σ_3 => post r_2 σ_3)) px) ∧ (r_1 = 0 → wp_X4_needState σ 1 (wp_X3_add σ p1 (fun r_4 σ_5 => post r_4 σ_5)) px)))) px
abbrev rm_X4_append : Room := { frames := 9, cells := 2, slots := 12, locals := 162 }
theorem in_X4_append_X4 : ∀ w ∈ wsX40, w ∈ wsX4_append := fun w h => List.mem_cons_of_mem _ (List.mem_append_left _ (List.mem_append_left _ (List.mem_append_left _ (List.mem_append_right _ (h)))))
set_option maxHeartbeats 4000000 in
set_option maxRecDepth 100000 in
theorem ok_X4_append (l : Launch) (hst : l.stackTraces = false) (D : va_G) (cI cJ : ClassId) (a : Nat → Nat) (sz : Nat) (σ : CS) (p1 : Int32) (post : Int32 → CS → Prop) (px : String → Prop) (hw : wp_X4_append σ p1 post px) : Xi l yX4_append wsX4_append rm_X4_append [.ref (a 0), .int p1] D (tysIJ cI cJ) (cW cI cJ a σ) sz post (cW cI cJ a) px 2 12 := by
  refine s_Xi hst (by decide) rfl (Nat.le_of_ble_eq_true rfl) ?_
  intro p e s m args below meth c A Q hx hb hml hts hown hin hK hA hz hs hret hpass hthr1 hthr2 H locs ls hW hl
  have hown : s.vm.findClass RX4 = some m.cls := hown
  have hl : lv_has ls 2 [(0, .ref (a 0)), (1, .int p1)] := hl
  have hinX4 := in_X4_append_X4
  refine lv_iload_n hx hb dX4_append_0 rfl (lv_at hl 1 rfl) ?_
  refine lv_bipush (v := 33) hx hb dX4_append_1 (by decide) ?_
  refine lv_bipush (v := 126) hx hb dX4_append_3 (by decide) ?_
  refine kS_Xv (As := [.int p1, .int 33, .int 126]) (rest := []) ⟨hx, hb, hml, hown, hts⟩ (ok_X4_needRange l hst D cI cJ a _ _ _ _ _ _ _ hw) (va_cwS 3 hts gX4_append_X4_needRange rfl rfl rfl (by decide +kernel) ⟨(Nat.le_of_ble_eq_true rfl), (Nat.le_of_ble_eq_true rfl)⟩) hK hW hA hz hs rfl hl.1 rfl (Nat.le_of_ble_eq_true rfl) dX4_append_5 ⟨(Nat.le_of_ble_eq_true rfl), (Nat.le_of_ble_eq_true rfl)⟩ (fun E ce q H locs hE hW h1 h2 h3 => hpass E ce q H locs _ _ _ _ _ (Nat.le_of_ble_eq_true rfl) (Nat.le_of_ble_eq_true rfl) hE hW h1 h2 h3) (fun _ H locs hw hW => ?_)
  refine lv_aload_n hx hb dX4_append_8 rfl (lv_at hl 0 rfl) ?_
  refine va_get (D := D) (ci := 4) (v := .ref (a 9)) (C := RX4) (T := TX4) (N := 4) hx hb hts hinX4 hown hK hW.1 0 rfl rfl 3 (by decide) (hts _ (List.mem_of_getElem? (i := 1) rfl)) (fun _ h9 => h9) rfl dX4_append_9 ?_
  refine kV_Mi (As := []) (rest := []) ⟨hx, hb, hml, hown, hts⟩ (ok_X3_isFull l D cI cJ a _ _ _ hw) (cwV 0 hts gX4_append_X3_isFull rfl rfl rfl (by decide +kernel) ⟨Nat.le_of_ble_eq_true rfl, Nat.le_of_ble_eq_true rfl⟩) hK hW hA 9 rfl rfl rfl hl.1 rfl (Nat.le_of_ble_eq_true rfl) dX4_append_12 ⟨Nat.le_of_ble_eq_true rfl, Nat.le_of_ble_eq_true rfl⟩ (fun r_1 _ H locs hw hW => ?_)
  refine lv_if_ne (tgt := 22) hx hb dX4_append_15 (by decide) (fun hc => ?_) (fun hc => ?_)
  · have hw := hw.1 hc
    refine lv_iconst (v := 0) hx hb dX4_append_22 (by decide) ?_
    refine kS_Xv (As := [.int 0]) (rest := []) ⟨hx, hb, hml, hown, hts⟩ (ok_X4_needState l hst D cI cJ a _ _ _ _ _ hw) (va_cwS 1 hts gX4_append_X4_needState rfl rfl rfl (by decide +kernel) ⟨(Nat.le_of_ble_eq_true rfl), (Nat.le_of_ble_eq_true rfl)⟩) hK hW hA hz hs rfl hl.1 rfl (Nat.le_of_ble_eq_true rfl) dX4_append_23 ⟨(Nat.le_of_ble_eq_true rfl), (Nat.le_of_ble_eq_true rfl)⟩ (fun E ce q H locs hE hW h1 h2 h3 => hpass E ce q H locs _ _ _ _ _ (Nat.le_of_ble_eq_true rfl) (Nat.le_of_ble_eq_true rfl) hE hW h1 h2 h3) (fun _ H locs hw hW => ?_)
    refine lv_aload_n hx hb dX4_append_26 rfl (lv_at hl 0 rfl) ?_
    refine va_get (D := D) (ci := 4) (v := .ref (a 9)) (C := RX4) (T := TX4) (N := 4) hx hb hts hinX4 hown hK hW.1 0 rfl rfl 3 (by decide) (hts _ (List.mem_of_getElem? (i := 1) rfl)) (fun _ h9 => h9) rfl dX4_append_27 ?_
    refine lv_iload_n hx hb dX4_append_30 rfl (lv_at hl 1 rfl) ?_
    refine kV_Mi (As := [.int p1]) (rest := []) ⟨hx, hb, hml, hown, hts⟩ (ok_X3_add l D cI cJ a _ _ _ _ hw) (cwV 1 hts gX4_append_X3_add rfl rfl rfl (by decide +kernel) ⟨Nat.le_of_ble_eq_true rfl, Nat.le_of_ble_eq_true rfl⟩) hK hW hA 9 rfl rfl rfl hl.1 rfl (Nat.le_of_ble_eq_true rfl) dX4_append_31 ⟨Nat.le_of_ble_eq_true rfl, Nat.le_of_ble_eq_true rfl⟩ (fun r_2 σ_3 H locs hw hW => ?_)
    exact hret _ σ_3 _ _ _ _ _ _ (Nat.le_of_ble_eq_true rfl) (Nat.le_of_ble_eq_true rfl) hw hW dX4_append_34
  · have hw := hw.2 hc
    refine lv_iconst (v := 1) hx hb dX4_append_18 (by decide) ?_
    refine lv_goto (tgt := 23) hx hb dX4_append_19 (by decide) ?_
    refine kS_Xv (As := [.int 1]) (rest := []) ⟨hx, hb, hml, hown, hts⟩ (ok_X4_needState l hst D cI cJ a _ _ _ _ _ hw) (va_cwS 1 hts gX4_append_X4_needState rfl rfl rfl (by decide +kernel) ⟨(Nat.le_of_ble_eq_true rfl), (Nat.le_of_ble_eq_true rfl)⟩) hK hW hA hz hs rfl hl.1 rfl (Nat.le_of_ble_eq_true rfl) dX4_append_23 ⟨(Nat.le_of_ble_eq_true rfl), (Nat.le_of_ble_eq_true rfl)⟩ (fun E ce q H locs hE hW h1 h2 h3 => hpass E ce q H locs _ _ _ _ _ (Nat.le_of_ble_eq_true rfl) (Nat.le_of_ble_eq_true rfl) hE hW h1 h2 h3) (fun _ H locs hw hW => ?_)
    refine lv_aload_n hx hb dX4_append_26 rfl (lv_at hl 0 rfl) ?_
    refine va_get (D := D) (ci := 4) (v := .ref (a 9)) (C := RX4) (T := TX4) (N := 4) hx hb hts hinX4 hown hK hW.1 0 rfl rfl 3 (by decide) (hts _ (List.mem_of_getElem? (i := 1) rfl)) (fun _ h9 => h9) rfl dX4_append_27 ?_
    refine lv_iload_n hx hb dX4_append_30 rfl (lv_at hl 1 rfl) ?_
    refine kV_Mi (As := [.int p1]) (rest := []) ⟨hx, hb, hml, hown, hts⟩ (ok_X3_add l D cI cJ a _ _ _ _ hw) (cwV 1 hts gX4_append_X3_add rfl rfl rfl (by decide +kernel) ⟨Nat.le_of_ble_eq_true rfl, Nat.le_of_ble_eq_true rfl⟩) hK hW hA 9 rfl rfl rfl hl.1 rfl (Nat.le_of_ble_eq_true rfl) dX4_append_31 ⟨Nat.le_of_ble_eq_true rfl, Nat.le_of_ble_eq_true rfl⟩ (fun r_4 σ_5 H locs hw hW => ?_)
    exact hret _ σ_5 _ _ _ _ _ _ (Nat.le_of_ble_eq_true rfl) (Nat.le_of_ble_eq_true rfl) hw hW dX4_append_34
def wp_X4_clearBuffer (σ : CS) (post : Int32 → CS → Prop) : Prop := wp_X3_empty σ (fun r_1 σ_2 => post r_1 σ_2)
abbrev rm_X4_clearBuffer : Room := { frames := 1, cells := 0, slots := 0, locals := 21 }
theorem in_X4_clearBuffer_X4 : ∀ w ∈ wsX40, w ∈ wsX4_clearBuffer := fun w h => List.mem_cons_of_mem _ (List.mem_append_left _ (List.mem_append_right _ (h)))
set_option maxHeartbeats 4000000 in
set_option maxRecDepth 100000 in
theorem ok_X4_clearBuffer (l : Launch) (D : va_G) (cI cJ : ClassId) (a : Nat → Nat) (sz : Nat) (σ : CS) (post : Int32 → CS → Prop) (hw : wp_X4_clearBuffer σ post) : Mi l yX4_clearBuffer wsX4_clearBuffer rm_X4_clearBuffer [.ref (a 0)] D (tysIJ cI cJ) (cW cI cJ a σ) sz post (cW cI cJ a) := by
  refine s_Mi (by decide) rfl (Nat.le_of_ble_eq_true rfl) ?_
  intro p e s m args below meth c A Q hx hb hml hts hown hin hK hA hret H locs ls hW hl
  have hown : s.vm.findClass RX4 = some m.cls := hown
  have hl : lv_has ls 1 [(0, .ref (a 0))] := hl
  have hinX4 := in_X4_clearBuffer_X4
  refine lv_aload_n hx hb dX4_clearBuffer_0 rfl (lv_at hl 0 rfl) ?_
  refine va_get (D := D) (ci := 4) (v := .ref (a 9)) (C := RX4) (T := TX4) (N := 4) hx hb hts hinX4 hown hK hW.1 0 rfl rfl 3 (by decide) (hts _ (List.mem_of_getElem? (i := 1) rfl)) (fun _ h9 => h9) rfl dX4_clearBuffer_1 ?_
  refine kV_Mi (As := []) (rest := []) ⟨hx, hb, hml, hown, hts⟩ (ok_X3_empty l D cI cJ a _ _ _ hw) (cwV 0 hts gX4_clearBuffer_X3_empty rfl rfl rfl (by decide +kernel) ⟨Nat.le_of_ble_eq_true rfl, Nat.le_of_ble_eq_true rfl⟩) hK hW hA 9 rfl rfl rfl hl.1 rfl (Nat.le_of_ble_eq_true rfl) dX4_clearBuffer_4 ⟨Nat.le_of_ble_eq_true rfl, Nat.le_of_ble_eq_true rfl⟩ (fun r_1 σ_2 H locs hw hW => ?_)
  exact hret _ σ_2 _ _ _ _ hw hW dX4_clearBuffer_7
def wp_X4_firstError (σ : CS) (post : Int32 → Prop) : Prop := wp_X3_firstWrong σ (fun r_1 => post r_1)
abbrev rm_X4_firstError : Room := { frames := 4, cells := 0, slots := 0, locals := 85 }
theorem in_X4_firstError_X4 : ∀ w ∈ wsX40, w ∈ wsX4_firstError := fun w h => List.mem_cons_of_mem _ (List.mem_append_left _ (List.mem_append_right _ (h)))
set_option maxHeartbeats 4000000 in
set_option maxRecDepth 100000 in
theorem ok_X4_firstError (l : Launch) (D : va_G) (cI cJ : ClassId) (a : Nat → Nat) (sz : Nat) (σ : CS) (post : Int32 → Prop) (hw : wp_X4_firstError σ post) : Mi l yX4_firstError wsX4_firstError rm_X4_firstError [.ref (a 0)] D (tysIJ cI cJ) (cW cI cJ a σ) sz (fun r (_ : Unit) => post r) (fun _ => cW cI cJ a σ) := by
  refine s_Mi (by decide) rfl (Nat.le_of_ble_eq_true rfl) ?_
  intro p e s m args below meth c A Q hx hb hml hts hown hin hK hA hret H locs ls hW hl
  have hown : s.vm.findClass RX4 = some m.cls := hown
  have hl : lv_has ls 1 [(0, .ref (a 0))] := hl
  have hinX4 := in_X4_firstError_X4
  refine lv_aload_n hx hb dX4_firstError_0 rfl (lv_at hl 0 rfl) ?_
  refine va_get (D := D) (ci := 4) (v := .ref (a 9)) (C := RX4) (T := TX4) (N := 4) hx hb hts hinX4 hown hK hW.1 0 rfl rfl 3 (by decide) (hts _ (List.mem_of_getElem? (i := 1) rfl)) (fun _ h9 => h9) rfl dX4_firstError_1 ?_
  refine kV_Mi (As := []) (rest := []) ⟨hx, hb, hml, hown, hts⟩ (ok_X3_firstWrong l D cI cJ a _ _ _ hw) (cwV 0 hts gX4_firstError_X3_firstWrong rfl rfl rfl (by decide +kernel) ⟨Nat.le_of_ble_eq_true rfl, Nat.le_of_ble_eq_true rfl⟩) hK hW hA 9 rfl rfl rfl hl.1 rfl (Nat.le_of_ble_eq_true rfl) dX4_firstError_4 ⟨Nat.le_of_ble_eq_true rfl, Nat.le_of_ble_eq_true rfl⟩ (fun r_1 _ H locs hw hW => ?_)
  exact hret _ () _ _ _ _ hw hW dX4_firstError_7
def wp_X4_sealIfPossible (σ : CS) (p1 : Int32) (p2 : Int32) (p3 : Int32) (post : Int32 → CS → Prop) : Prop := wp_X2_whyNotSealed σ p1 p2 p3 (fun r_1 => ((r_1 = 0 → wp_X2_sealBid σ p1 p2 p3 (fun r_2 σ_3 => post 1 σ_3)) ∧ (¬ r_1 = 0 → post 0 σ)))
abbrev rm_X4_sealIfPossible : Room := { frames := 4, cells := 0, slots := 0, locals := 91 }
theorem in_X4_sealIfPossible_X4 : ∀ w ∈ wsX40, w ∈ wsX4_sealIfPossible := fun w h => List.mem_cons_of_mem _ (List.mem_append_left _ (List.mem_append_right _ (h)))
set_option maxHeartbeats 4000000 in
set_option maxRecDepth 100000 in
theorem ok_X4_sealIfPossible (l : Launch) (D : va_G) (cI cJ : ClassId) (a : Nat → Nat) (sz : Nat) (σ : CS) (p1 : Int32) (p2 : Int32) (p3 : Int32) (post : Int32 → CS → Prop) (hw : wp_X4_sealIfPossible σ p1 p2 p3 post) : Mi l yX4_sealIfPossible wsX4_sealIfPossible rm_X4_sealIfPossible [.ref (a 0), .int p1, .int p2, .int p3] D (tysIJ cI cJ) (cW cI cJ a σ) sz post (cW cI cJ a) := by
  refine s_Mz (by decide) rfl (Nat.le_of_ble_eq_true rfl) ?_
  intro p e s m args below meth c A Q hx hb hml hts hown hin hK hA hret H locs ls hW hl
  have hown : s.vm.findClass RX4 = some m.cls := hown
  have hl : lv_has ls 4 [(0, .ref (a 0)), (1, .int p1), (2, .int p2), (3, .int p3)] := hl
  have hinX4 := in_X4_sealIfPossible_X4
  refine lv_aload_n hx hb dX4_sealIfPossible_0 rfl (lv_at hl 0 rfl) ?_
  refine va_get (D := D) (ci := 4) (v := .ref (a 1)) (C := RX4) (T := TX4) (N := 4) hx hb hts hinX4 hown hK hW.1 0 rfl rfl 0 (by decide) (hts _ (List.mem_of_getElem? (i := 1) rfl)) (fun _ h9 => h9) rfl dX4_sealIfPossible_1 ?_
  refine lv_iload_n hx hb dX4_sealIfPossible_4 rfl (lv_at hl 1 rfl) ?_
  refine lv_iload_n hx hb dX4_sealIfPossible_5 rfl (lv_at hl 2 rfl) ?_
  refine lv_iload_n hx hb dX4_sealIfPossible_6 rfl (lv_at hl 3 rfl) ?_
  refine kV_Mi (As := [.int p1, .int p2, .int p3]) (rest := []) ⟨hx, hb, hml, hown, hts⟩ (ok_X2_whyNotSealed l D cI cJ a _ _ _ _ _ _ hw) (cwV 3 hts gX4_sealIfPossible_X2_whyNotSealed rfl rfl rfl (by decide +kernel) ⟨Nat.le_of_ble_eq_true rfl, Nat.le_of_ble_eq_true rfl⟩) hK hW hA 1 rfl rfl rfl hl.1 rfl (Nat.le_of_ble_eq_true rfl) dX4_sealIfPossible_7 ⟨Nat.le_of_ble_eq_true rfl, Nat.le_of_ble_eq_true rfl⟩ (fun r_1 _ H locs hw hW => ?_)
  refine lv_if_eq (tgt := 15) hx hb dX4_sealIfPossible_10 (by decide) (fun hc => ?_) (fun hc => ?_)
  · have hw := hw.1 hc
    refine lv_aload_n hx hb dX4_sealIfPossible_15 rfl (lv_at hl 0 rfl) ?_
    refine va_get (D := D) (ci := 4) (v := .ref (a 1)) (C := RX4) (T := TX4) (N := 4) hx hb hts hinX4 hown hK hW.1 0 rfl rfl 0 (by decide) (hts _ (List.mem_of_getElem? (i := 1) rfl)) (fun _ h9 => h9) rfl dX4_sealIfPossible_16 ?_
    refine lv_iload_n hx hb dX4_sealIfPossible_19 rfl (lv_at hl 1 rfl) ?_
    refine lv_iload_n hx hb dX4_sealIfPossible_20 rfl (lv_at hl 2 rfl) ?_
    refine lv_iload_n hx hb dX4_sealIfPossible_21 rfl (lv_at hl 3 rfl) ?_
    refine kV_Mi (As := [.int p1, .int p2, .int p3]) (rest := []) ⟨hx, hb, hml, hown, hts⟩ (ok_X2_sealBid l D cI cJ a _ _ _ _ _ _ hw) (cwV 3 hts gX4_sealIfPossible_X2_sealBid rfl rfl rfl (by decide +kernel) ⟨Nat.le_of_ble_eq_true rfl, Nat.le_of_ble_eq_true rfl⟩) hK hW hA 1 rfl rfl rfl hl.1 rfl (Nat.le_of_ble_eq_true rfl) dX4_sealIfPossible_22 ⟨Nat.le_of_ble_eq_true rfl, Nat.le_of_ble_eq_true rfl⟩ (fun r_2 σ_3 H locs hw hW => ?_)
    refine lv_pop hx hb dX4_sealIfPossible_25 rfl ?_
    refine lv_iconst (v := 1) hx hb dX4_sealIfPossible_26 (by decide) ?_
    exact hret _ σ_3 _ _ _ _ (by decide) hw hW dX4_sealIfPossible_27
  · have hw := hw.2 hc
    refine lv_iconst (v := 0) hx hb dX4_sealIfPossible_13 (by decide) ?_
    exact hret _ σ _ _ _ _ (by decide) hw hW dX4_sealIfPossible_14
def wp_X4_takeBackIfPossible (σ : CS) (p1 : Int32) (p2 : Int32) (post : Int32 → CS → Prop) : Prop := wp_X2_whyNotWithdrawn σ p1 p2 (fun r_1 => ((r_1 = 0 → wp_X2_takeBack σ p1 p2 (fun r_2 σ_3 => post 1 σ_3)) ∧ (¬ r_1 = 0 → post 0 σ)))
abbrev rm_X4_takeBackIfPossible : Room := { frames := 4, cells := 0, slots := 0, locals := 92 }
theorem in_X4_takeBackIfPossible_X4 : ∀ w ∈ wsX40, w ∈ wsX4_takeBackIfPossible := fun w h => List.mem_cons_of_mem _ (List.mem_append_left _ (List.mem_append_right _ (h)))
set_option maxHeartbeats 4000000 in
set_option maxRecDepth 100000 in
theorem ok_X4_takeBackIfPossible (l : Launch) (D : va_G) (cI cJ : ClassId) (a : Nat → Nat) (sz : Nat) (σ : CS) (p1 : Int32) (p2 : Int32) (post : Int32 → CS → Prop) (hw : wp_X4_takeBackIfPossible σ p1 p2 post) : Mi l yX4_takeBackIfPossible wsX4_takeBackIfPossible rm_X4_takeBackIfPossible [.ref (a 0), .int p1, .int p2] D (tysIJ cI cJ) (cW cI cJ a σ) sz post (cW cI cJ a) := by
  refine s_Mz (by decide) rfl (Nat.le_of_ble_eq_true rfl) ?_
  intro p e s m args below meth c A Q hx hb hml hts hown hin hK hA hret H locs ls hW hl
  have hown : s.vm.findClass RX4 = some m.cls := hown
  have hl : lv_has ls 3 [(0, .ref (a 0)), (1, .int p1), (2, .int p2)] := hl
  have hinX4 := in_X4_takeBackIfPossible_X4
  refine lv_aload_n hx hb dX4_takeBackIfPossible_0 rfl (lv_at hl 0 rfl) ?_
  refine va_get (D := D) (ci := 4) (v := .ref (a 1)) (C := RX4) (T := TX4) (N := 4) hx hb hts hinX4 hown hK hW.1 0 rfl rfl 0 (by decide) (hts _ (List.mem_of_getElem? (i := 1) rfl)) (fun _ h9 => h9) rfl dX4_takeBackIfPossible_1 ?_
  refine lv_iload_n hx hb dX4_takeBackIfPossible_4 rfl (lv_at hl 1 rfl) ?_
  refine lv_iload_n hx hb dX4_takeBackIfPossible_5 rfl (lv_at hl 2 rfl) ?_
  refine kV_Mi (As := [.int p1, .int p2]) (rest := []) ⟨hx, hb, hml, hown, hts⟩ (ok_X2_whyNotWithdrawn l D cI cJ a _ _ _ _ _ hw) (cwV 2 hts gX4_takeBackIfPossible_X2_whyNotWithdrawn rfl rfl rfl (by decide +kernel) ⟨Nat.le_of_ble_eq_true rfl, Nat.le_of_ble_eq_true rfl⟩) hK hW hA 1 rfl rfl rfl hl.1 rfl (Nat.le_of_ble_eq_true rfl) dX4_takeBackIfPossible_6 ⟨Nat.le_of_ble_eq_true rfl, Nat.le_of_ble_eq_true rfl⟩ (fun r_1 _ H locs hw hW => ?_)
  refine lv_if_eq (tgt := 14) hx hb dX4_takeBackIfPossible_9 (by decide) (fun hc => ?_) (fun hc => ?_)
  · have hw := hw.1 hc
    refine lv_aload_n hx hb dX4_takeBackIfPossible_14 rfl (lv_at hl 0 rfl) ?_
    refine va_get (D := D) (ci := 4) (v := .ref (a 1)) (C := RX4) (T := TX4) (N := 4) hx hb hts hinX4 hown hK hW.1 0 rfl rfl 0 (by decide) (hts _ (List.mem_of_getElem? (i := 1) rfl)) (fun _ h9 => h9) rfl dX4_takeBackIfPossible_15 ?_
    refine lv_iload_n hx hb dX4_takeBackIfPossible_18 rfl (lv_at hl 1 rfl) ?_
    refine lv_iload_n hx hb dX4_takeBackIfPossible_19 rfl (lv_at hl 2 rfl) ?_
    refine kV_Mi (As := [.int p1, .int p2]) (rest := []) ⟨hx, hb, hml, hown, hts⟩ (ok_X2_takeBack l D cI cJ a _ _ _ _ _ hw) (cwV 2 hts gX4_takeBackIfPossible_X2_takeBack rfl rfl rfl (by decide +kernel) ⟨Nat.le_of_ble_eq_true rfl, Nat.le_of_ble_eq_true rfl⟩) hK hW hA 1 rfl rfl rfl hl.1 rfl (Nat.le_of_ble_eq_true rfl) dX4_takeBackIfPossible_20 ⟨Nat.le_of_ble_eq_true rfl, Nat.le_of_ble_eq_true rfl⟩ (fun r_2 σ_3 H locs hw hW => ?_)
    refine lv_pop hx hb dX4_takeBackIfPossible_23 rfl ?_
    refine lv_iconst (v := 1) hx hb dX4_takeBackIfPossible_24 (by decide) ?_
    exact hret _ σ_3 _ _ _ _ (by decide) hw hW dX4_takeBackIfPossible_25
  · have hw := hw.2 hc
    refine lv_iconst (v := 0) hx hb dX4_takeBackIfPossible_12 (by decide) ?_
    exact hret _ σ _ _ _ _ (by decide) hw hW dX4_takeBackIfPossible_13
def wp_X4_fishIfPossible (σ : CS) (p1 : Int32) (post : Int32 → CS → Prop) : Prop := wp_X2_canFish σ p1 (fun r_1 => ((¬ r_1 = 0 → wp_X2_catchFish σ p1 (fun r_2 σ_3 => post 1 σ_3)) ∧ (r_1 = 0 → post 0 σ)))
abbrev rm_X4_fishIfPossible : Room := { frames := 4, cells := 0, slots := 0, locals := 94 }
theorem in_X4_fishIfPossible_X4 : ∀ w ∈ wsX40, w ∈ wsX4_fishIfPossible := fun w h => List.mem_cons_of_mem _ (List.mem_append_left _ (List.mem_append_right _ (h)))
set_option maxHeartbeats 4000000 in
set_option maxRecDepth 100000 in
theorem ok_X4_fishIfPossible (l : Launch) (D : va_G) (cI cJ : ClassId) (a : Nat → Nat) (sz : Nat) (σ : CS) (p1 : Int32) (post : Int32 → CS → Prop) (hw : wp_X4_fishIfPossible σ p1 post) : Mi l yX4_fishIfPossible wsX4_fishIfPossible rm_X4_fishIfPossible [.ref (a 0), .int p1] D (tysIJ cI cJ) (cW cI cJ a σ) sz post (cW cI cJ a) := by
  refine s_Mz (by decide) rfl (Nat.le_of_ble_eq_true rfl) ?_
  intro p e s m args below meth c A Q hx hb hml hts hown hin hK hA hret H locs ls hW hl
  have hown : s.vm.findClass RX4 = some m.cls := hown
  have hl : lv_has ls 2 [(0, .ref (a 0)), (1, .int p1)] := hl
  have hinX4 := in_X4_fishIfPossible_X4
  refine lv_aload_n hx hb dX4_fishIfPossible_0 rfl (lv_at hl 0 rfl) ?_
  refine va_get (D := D) (ci := 4) (v := .ref (a 1)) (C := RX4) (T := TX4) (N := 4) hx hb hts hinX4 hown hK hW.1 0 rfl rfl 0 (by decide) (hts _ (List.mem_of_getElem? (i := 1) rfl)) (fun _ h9 => h9) rfl dX4_fishIfPossible_1 ?_
  refine lv_iload_n hx hb dX4_fishIfPossible_4 rfl (lv_at hl 1 rfl) ?_
  refine kV_Mi (As := [.int p1]) (rest := []) ⟨hx, hb, hml, hown, hts⟩ (ok_X2_canFish l D cI cJ a _ _ _ _ hw) (cwV 1 hts gX4_fishIfPossible_X2_canFish rfl rfl rfl (by decide +kernel) ⟨Nat.le_of_ble_eq_true rfl, Nat.le_of_ble_eq_true rfl⟩) hK hW hA 1 rfl rfl rfl hl.1 rfl (Nat.le_of_ble_eq_true rfl) dX4_fishIfPossible_5 ⟨Nat.le_of_ble_eq_true rfl, Nat.le_of_ble_eq_true rfl⟩ (fun r_1 _ H locs hw hW => ?_)
  refine lv_if_ne (tgt := 13) hx hb dX4_fishIfPossible_8 (by decide) (fun hc => ?_) (fun hc => ?_)
  · have hw := hw.1 hc
    refine lv_aload_n hx hb dX4_fishIfPossible_13 rfl (lv_at hl 0 rfl) ?_
    refine va_get (D := D) (ci := 4) (v := .ref (a 1)) (C := RX4) (T := TX4) (N := 4) hx hb hts hinX4 hown hK hW.1 0 rfl rfl 0 (by decide) (hts _ (List.mem_of_getElem? (i := 1) rfl)) (fun _ h9 => h9) rfl dX4_fishIfPossible_14 ?_
    refine lv_iload_n hx hb dX4_fishIfPossible_17 rfl (lv_at hl 1 rfl) ?_
    refine kV_Mi (As := [.int p1]) (rest := []) ⟨hx, hb, hml, hown, hts⟩ (ok_X2_catchFish l D cI cJ a _ _ _ _ hw) (cwV 1 hts gX4_fishIfPossible_X2_catchFish rfl rfl rfl (by decide +kernel) ⟨Nat.le_of_ble_eq_true rfl, Nat.le_of_ble_eq_true rfl⟩) hK hW hA 1 rfl rfl rfl hl.1 rfl (Nat.le_of_ble_eq_true rfl) dX4_fishIfPossible_18 ⟨Nat.le_of_ble_eq_true rfl, Nat.le_of_ble_eq_true rfl⟩ (fun r_2 σ_3 H locs hw hW => ?_)
    refine lv_pop hx hb dX4_fishIfPossible_21 rfl ?_
    refine lv_iconst (v := 1) hx hb dX4_fishIfPossible_22 (by decide) ?_
    exact hret _ σ_3 _ _ _ _ (by decide) hw hW dX4_fishIfPossible_23
  · have hw := hw.2 hc
    refine lv_iconst (v := 0) hx hb dX4_fishIfPossible_11 (by decide) ?_
    exact hret _ σ _ _ _ _ (by decide) hw hW dX4_fishIfPossible_12
def wp_X4_doPart (σ : CS) (p1 : Int32) (p2 : Int32) (post : Int32 → CS → Prop) : Prop := wp_X3_digit σ (p1 + 1) (fun r_1 => wp_X3_digit σ (p1 + 2) (fun r_2 => wp_X3_code σ p1 (fun r_3 => ∀ w_4 : Int32, w_4 = r_3 → ((w_4 = 98 → wp_X3_number σ (p1 + 3) p2 (fun r_5 => wp_X4_sealIfPossible σ r_1 r_2 r_5 (fun r_6 σ_7 => (narrow .boolean (.int r_6) = .int r_6 ∧ post r_6 σ_7)))) ∧ (¬ w_4 = 98 → ((w_4 = 102 → wp_X4_fishIfPossible σ r_1 (fun r_8 σ_9 => (narrow .boolean (.int r_8) = .int r_8 ∧ post r_8 σ_9))) ∧ (¬ w_4 = 102 → ((w_4 = 104 → wp_X3_number σ (p1 + 1) p2 (fun r_10 => wp_X2_passHours σ r_10 (fun r_11 σ_12 => post 1 σ_12))) ∧ (¬ w_4 = 104 → ((w_4 = 111 → wp_X2_isOpened σ (fun r_13 => ((r_13 = 0 → wp_X4_shareOut σ (fun r_14 σ_15 => post 1 σ_15)) ∧ (¬ r_13 = 0 → post 0 σ)))) ∧ (¬ w_4 = 111 → ((w_4 = 119 → wp_X4_takeBackIfPossible σ r_1 r_2 (fun r_16 σ_17 => (narrow .boolean (.int r_16) = .int r_16 ∧ post r_16 σ_17))) ∧ (¬ w_4 = 119 → wp_X2_beginDay σ (fun r_18 σ_19 => post 1 σ_19))))))))))))))
abbrev rm_X4_doPart : Room := { frames := 5, cells := 0, slots := 0, locals := 132 }
theorem in_X4_doPart_X4 : ∀ w ∈ wsX40, w ∈ wsX4_doPart := fun w h => List.mem_cons_of_mem _ (List.mem_append_left _ (List.mem_append_left _ (List.mem_append_left _ (List.mem_append_right _ (h)))))
set_option maxHeartbeats 4000000 in
set_option maxRecDepth 100000 in
theorem ok_X4_doPart (l : Launch) (D : va_G) (cI cJ : ClassId) (a : Nat → Nat) (sz : Nat) (σ : CS) (p1 : Int32) (p2 : Int32) (post : Int32 → CS → Prop) (hw : wp_X4_doPart σ p1 p2 post) : Mi l yX4_doPart wsX4_doPart rm_X4_doPart [.ref (a 0), .int p1, .int p2] D (tysIJ cI cJ) (cW cI cJ a σ) sz post (cW cI cJ a) := by
  refine s_Mz (by decide) rfl (Nat.le_of_ble_eq_true rfl) ?_
  intro p e s m args below meth c A Q hx hb hml hts hown hin hK hA hret H locs ls hW hl
  have hown : s.vm.findClass RX4 = some m.cls := hown
  have hl : lv_has ls 5 [(0, .ref (a 0)), (1, .int p1), (2, .int p2)] := hl
  have hinX4 := in_X4_doPart_X4
  refine lv_aload_n hx hb dX4_doPart_0 rfl (lv_at hl 0 rfl) ?_
  refine va_get (D := D) (ci := 4) (v := .ref (a 9)) (C := RX4) (T := TX4) (N := 4) hx hb hts hinX4 hown hK hW.1 0 rfl rfl 3 (by decide) (hts _ (List.mem_of_getElem? (i := 1) rfl)) (fun _ h9 => h9) rfl dX4_doPart_1 ?_
  refine lv_iload_n hx hb dX4_doPart_4 rfl (lv_at hl 1 rfl) ?_
  refine lv_iconst (v := 1) hx hb dX4_doPart_5 (by decide) ?_
  refine lv_iadd hx hb dX4_doPart_6 ?_
  refine kV_Mi (As := [.int (p1 + 1)]) (rest := []) ⟨hx, hb, hml, hown, hts⟩ (ok_X3_digit l D cI cJ a _ _ _ _ hw) (cwV 1 hts gX4_doPart_X3_digit rfl rfl rfl (by decide +kernel) ⟨Nat.le_of_ble_eq_true rfl, Nat.le_of_ble_eq_true rfl⟩) hK hW hA 9 rfl rfl rfl hl.1 rfl (Nat.le_of_ble_eq_true rfl) dX4_doPart_7 ⟨Nat.le_of_ble_eq_true rfl, Nat.le_of_ble_eq_true rfl⟩ (fun r_1 _ H locs hw hW => ?_)
  refine lv_istore_n (lv' := [(3, .int r_1), (0, .ref (a 0)), (1, .int p1), (2, .int p2)]) hx hb dX4_doPart_10 rfl hl (by decide) rfl (fun ls hl => ?_)
  refine lv_aload_n hx hb dX4_doPart_11 rfl (lv_at hl 1 rfl) ?_
  refine va_get (D := D) (ci := 4) (v := .ref (a 9)) (C := RX4) (T := TX4) (N := 4) hx hb hts hinX4 hown hK hW.1 0 rfl rfl 3 (by decide) (hts _ (List.mem_of_getElem? (i := 1) rfl)) (fun _ h9 => h9) rfl dX4_doPart_12 ?_
  refine lv_iload_n hx hb dX4_doPart_15 rfl (lv_at hl 2 rfl) ?_
  refine lv_iconst (v := 2) hx hb dX4_doPart_16 (by decide) ?_
  refine lv_iadd hx hb dX4_doPart_17 ?_
  refine kV_Mi (As := [.int (p1 + 2)]) (rest := []) ⟨hx, hb, hml, hown, hts⟩ (ok_X3_digit l D cI cJ a _ _ _ _ hw) (cwV 1 hts gX4_doPart_X3_digit rfl rfl rfl (by decide +kernel) ⟨Nat.le_of_ble_eq_true rfl, Nat.le_of_ble_eq_true rfl⟩) hK hW hA 9 rfl rfl rfl hl.1 rfl (Nat.le_of_ble_eq_true rfl) dX4_doPart_18 ⟨Nat.le_of_ble_eq_true rfl, Nat.le_of_ble_eq_true rfl⟩ (fun r_2 _ H locs hw hW => ?_)
  refine lv_istore (lv' := [(4, .int r_2), (3, .int r_1), (0, .ref (a 0)), (1, .int p1), (2, .int p2)]) hx hb dX4_doPart_21 hl (by decide) rfl (fun ls hl => ?_)
  refine lv_aload_n hx hb dX4_doPart_23 rfl (lv_at hl 2 rfl) ?_
  refine va_get (D := D) (ci := 4) (v := .ref (a 9)) (C := RX4) (T := TX4) (N := 4) hx hb hts hinX4 hown hK hW.1 0 rfl rfl 3 (by decide) (hts _ (List.mem_of_getElem? (i := 1) rfl)) (fun _ h9 => h9) rfl dX4_doPart_24 ?_
  refine lv_iload_n hx hb dX4_doPart_27 rfl (lv_at hl 3 rfl) ?_
  refine kV_Mi (As := [.int p1]) (rest := []) ⟨hx, hb, hml, hown, hts⟩ (ok_X3_code l D cI cJ a _ _ _ _ hw) (cwV 1 hts gX4_doPart_X3_code rfl rfl rfl (by decide +kernel) ⟨Nat.le_of_ble_eq_true rfl, Nat.le_of_ble_eq_true rfl⟩) hK hW hA 9 rfl rfl rfl hl.1 rfl (Nat.le_of_ble_eq_true rfl) dX4_doPart_28 ⟨Nat.le_of_ble_eq_true rfl, Nat.le_of_ble_eq_true rfl⟩ (fun r_3 _ H locs hw hW => ?_)
  refine lv_topi (fun w_4 ew_4 => ?_)
  have hw := hw w_4 ew_4
  by_cases hs0 : w_4 = 98
  · have hw := hw.1 hs0
    refine lv_lookup (tgt := 80) (off := 49) hx hb dX4_doPart_31 (by decide) (by rw [hs0]; rfl) (by decide) ?_
    refine lv_aload_n hx hb dX4_doPart_80 rfl (lv_at hl 2 rfl) ?_
    refine lv_iload_n hx hb dX4_doPart_81 rfl (lv_at hl 1 rfl) ?_
    refine lv_iload hx hb dX4_doPart_82 (lv_at hl 0 rfl) ?_
    refine lv_aload_n hx hb dX4_doPart_84 rfl (lv_at hl 2 rfl) ?_
    refine va_get (D := D) (ci := 4) (v := .ref (a 9)) (C := RX4) (T := TX4) (N := 4) hx hb hts hinX4 hown hK hW.1 0 rfl rfl 3 (by decide) (hts _ (List.mem_of_getElem? (i := 1) rfl)) (fun _ h9 => h9) rfl dX4_doPart_85 ?_
    refine lv_iload_n hx hb dX4_doPart_88 rfl (lv_at hl 3 rfl) ?_
    refine lv_iconst (v := 3) hx hb dX4_doPart_89 (by decide) ?_
    refine lv_iadd hx hb dX4_doPart_90 ?_
    refine lv_iload_n hx hb dX4_doPart_91 rfl (lv_at hl 4 rfl) ?_
    refine kV_Mi (As := [.int (p1 + 3), .int p2]) (rest := [.int r_2, .int r_1, .ref (a 0)]) ⟨hx, hb, hml, hown, hts⟩ (ok_X3_number l D cI cJ a _ _ _ _ _ hw) (cwV 2 hts gX4_doPart_X3_number rfl rfl rfl (by decide +kernel) ⟨Nat.le_of_ble_eq_true rfl, Nat.le_of_ble_eq_true rfl⟩) hK hW hA 9 rfl rfl rfl hl.1 rfl (Nat.le_of_ble_eq_true rfl) dX4_doPart_92 ⟨Nat.le_of_ble_eq_true rfl, Nat.le_of_ble_eq_true rfl⟩ (fun r_5 _ H locs hw hW => ?_)
    refine kV_Mi (As := [.int r_1, .int r_2, .int r_5]) (rest := []) ⟨hx, hb, hml, hown, hts⟩ (ok_X4_sealIfPossible l D cI cJ a _ _ _ _ _ _ hw) (cwV 3 hts gX4_doPart_X4_sealIfPossible rfl rfl rfl (by decide +kernel) ⟨Nat.le_of_ble_eq_true rfl, Nat.le_of_ble_eq_true rfl⟩) hK hW hA 0 rfl rfl rfl hl.1 rfl (Nat.le_of_ble_eq_true rfl) dX4_doPart_95 ⟨Nat.le_of_ble_eq_true rfl, Nat.le_of_ble_eq_true rfl⟩ (fun r_6 σ_7 H locs hw hW => ?_)
    exact hret _ σ_7 _ _ _ _ hw.1 hw.2 hW dX4_doPart_98
  have hw := hw.2 hs0
  by_cases hs1 : w_4 = 102
  · have hw := hw.1 hs1
    refine lv_lookup (tgt := 147) (off := 116) hx hb dX4_doPart_31 (by decide) (by rw [hs1]; rfl) (by decide) ?_
    refine lv_aload_n hx hb dX4_doPart_147 rfl (lv_at hl 2 rfl) ?_
    refine lv_iload_n hx hb dX4_doPart_148 rfl (lv_at hl 1 rfl) ?_
    refine kV_Mi (As := [.int r_1]) (rest := []) ⟨hx, hb, hml, hown, hts⟩ (ok_X4_fishIfPossible l D cI cJ a _ _ _ _ hw) (cwV 1 hts gX4_doPart_X4_fishIfPossible rfl rfl rfl (by decide +kernel) ⟨Nat.le_of_ble_eq_true rfl, Nat.le_of_ble_eq_true rfl⟩) hK hW hA 0 rfl rfl rfl hl.1 rfl (Nat.le_of_ble_eq_true rfl) dX4_doPart_149 ⟨Nat.le_of_ble_eq_true rfl, Nat.le_of_ble_eq_true rfl⟩ (fun r_8 σ_9 H locs hw hW => ?_)
    exact hret _ σ_9 _ _ _ _ hw.1 hw.2 hW dX4_doPart_152
  have hw := hw.2 hs1
  by_cases hs2 : w_4 = 104
  · have hw := hw.1 hs2
    refine lv_lookup (tgt := 107) (off := 76) hx hb dX4_doPart_31 (by decide) (by rw [hs2]; rfl) (by decide) ?_
    refine lv_aload_n hx hb dX4_doPart_107 rfl (lv_at hl 2 rfl) ?_
    refine va_get (D := D) (ci := 4) (v := .ref (a 1)) (C := RX4) (T := TX4) (N := 4) hx hb hts hinX4 hown hK hW.1 0 rfl rfl 0 (by decide) (hts _ (List.mem_of_getElem? (i := 2) rfl)) (fun _ h9 => h9) rfl dX4_doPart_108 ?_
    refine lv_aload_n hx hb dX4_doPart_111 rfl (lv_at hl 2 rfl) ?_
    refine va_get (D := D) (ci := 4) (v := .ref (a 9)) (C := RX4) (T := TX4) (N := 4) hx hb hts hinX4 hown hK hW.1 0 rfl rfl 3 (by decide) (hts _ (List.mem_of_getElem? (i := 1) rfl)) (fun _ h9 => h9) rfl dX4_doPart_112 ?_
    refine lv_iload_n hx hb dX4_doPart_115 rfl (lv_at hl 3 rfl) ?_
    refine lv_iconst (v := 1) hx hb dX4_doPart_116 (by decide) ?_
    refine lv_iadd hx hb dX4_doPart_117 ?_
    refine lv_iload_n hx hb dX4_doPart_118 rfl (lv_at hl 4 rfl) ?_
    refine kV_Mi (As := [.int (p1 + 1), .int p2]) (rest := [.ref (a 1)]) ⟨hx, hb, hml, hown, hts⟩ (ok_X3_number l D cI cJ a _ _ _ _ _ hw) (cwV 2 hts gX4_doPart_X3_number rfl rfl rfl (by decide +kernel) ⟨Nat.le_of_ble_eq_true rfl, Nat.le_of_ble_eq_true rfl⟩) hK hW hA 9 rfl rfl rfl hl.1 rfl (Nat.le_of_ble_eq_true rfl) dX4_doPart_119 ⟨Nat.le_of_ble_eq_true rfl, Nat.le_of_ble_eq_true rfl⟩ (fun r_10 _ H locs hw hW => ?_)
    refine kV_Mi (As := [.int r_10]) (rest := []) ⟨hx, hb, hml, hown, hts⟩ (ok_X2_passHours l D cI cJ a _ _ _ _ hw) (cwV 1 hts gX4_doPart_X2_passHours rfl rfl rfl (by decide +kernel) ⟨Nat.le_of_ble_eq_true rfl, Nat.le_of_ble_eq_true rfl⟩) hK hW hA 1 rfl rfl rfl hl.1 rfl (Nat.le_of_ble_eq_true rfl) dX4_doPart_122 ⟨Nat.le_of_ble_eq_true rfl, Nat.le_of_ble_eq_true rfl⟩ (fun r_11 σ_12 H locs hw hW => ?_)
    refine lv_pop hx hb dX4_doPart_125 rfl ?_
    refine lv_iconst (v := 1) hx hb dX4_doPart_126 (by decide) ?_
    exact hret _ σ_12 _ _ _ _ (by decide) hw hW dX4_doPart_127
  have hw := hw.2 hs2
  by_cases hs3 : w_4 = 111
  · have hw := hw.1 hs3
    refine lv_lookup (tgt := 128) (off := 97) hx hb dX4_doPart_31 (by decide) (by rw [hs3]; rfl) (by decide) ?_
    refine lv_aload_n hx hb dX4_doPart_128 rfl (lv_at hl 2 rfl) ?_
    refine va_get (D := D) (ci := 4) (v := .ref (a 1)) (C := RX4) (T := TX4) (N := 4) hx hb hts hinX4 hown hK hW.1 0 rfl rfl 0 (by decide) (hts _ (List.mem_of_getElem? (i := 2) rfl)) (fun _ h9 => h9) rfl dX4_doPart_129 ?_
    refine kV_Mi (As := []) (rest := []) ⟨hx, hb, hml, hown, hts⟩ (ok_X2_isOpened l D cI cJ a _ _ _ hw) (cwV 0 hts gX4_doPart_X2_isOpened rfl rfl rfl (by decide +kernel) ⟨Nat.le_of_ble_eq_true rfl, Nat.le_of_ble_eq_true rfl⟩) hK hW hA 1 rfl rfl rfl hl.1 rfl (Nat.le_of_ble_eq_true rfl) dX4_doPart_132 ⟨Nat.le_of_ble_eq_true rfl, Nat.le_of_ble_eq_true rfl⟩ (fun r_13 _ H locs hw hW => ?_)
    refine lv_if_eq (tgt := 140) hx hb dX4_doPart_135 (by decide) (fun hc => ?_) (fun hc => ?_)
    · have hw := hw.1 hc
      refine lv_aload_n hx hb dX4_doPart_140 rfl (lv_at hl 2 rfl) ?_
      refine kV_Mi (As := []) (rest := []) ⟨hx, hb, hml, hown, hts⟩ (ok_X4_shareOut l D cI cJ a _ _ _ hw) (cwV 0 hts gX4_doPart_X4_shareOut rfl rfl rfl (by decide +kernel) ⟨Nat.le_of_ble_eq_true rfl, Nat.le_of_ble_eq_true rfl⟩) hK hW hA 0 rfl rfl rfl hl.1 rfl (Nat.le_of_ble_eq_true rfl) dX4_doPart_141 ⟨Nat.le_of_ble_eq_true rfl, Nat.le_of_ble_eq_true rfl⟩ (fun r_14 σ_15 H locs hw hW => ?_)
      refine lv_pop hx hb dX4_doPart_144 rfl ?_
      refine lv_iconst (v := 1) hx hb dX4_doPart_145 (by decide) ?_
      exact hret _ σ_15 _ _ _ _ (by decide) hw hW dX4_doPart_146
    · have hw := hw.2 hc
      refine lv_iconst (v := 0) hx hb dX4_doPart_138 (by decide) ?_
      exact hret _ σ _ _ _ _ (by decide) hw hW dX4_doPart_139
  have hw := hw.2 hs3
  by_cases hs4 : w_4 = 119
  · have hw := hw.1 hs4
    refine lv_lookup (tgt := 99) (off := 68) hx hb dX4_doPart_31 (by decide) (by rw [hs4]; rfl) (by decide) ?_
    refine lv_aload_n hx hb dX4_doPart_99 rfl (lv_at hl 2 rfl) ?_
    refine lv_iload_n hx hb dX4_doPart_100 rfl (lv_at hl 1 rfl) ?_
    refine lv_iload hx hb dX4_doPart_101 (lv_at hl 0 rfl) ?_
    refine kV_Mi (As := [.int r_1, .int r_2]) (rest := []) ⟨hx, hb, hml, hown, hts⟩ (ok_X4_takeBackIfPossible l D cI cJ a _ _ _ _ _ hw) (cwV 2 hts gX4_doPart_X4_takeBackIfPossible rfl rfl rfl (by decide +kernel) ⟨Nat.le_of_ble_eq_true rfl, Nat.le_of_ble_eq_true rfl⟩) hK hW hA 0 rfl rfl rfl hl.1 rfl (Nat.le_of_ble_eq_true rfl) dX4_doPart_103 ⟨Nat.le_of_ble_eq_true rfl, Nat.le_of_ble_eq_true rfl⟩ (fun r_16 σ_17 H locs hw hW => ?_)
    exact hret _ σ_17 _ _ _ _ hw.1 hw.2 hW dX4_doPart_106
  have hw := hw.2 hs4
  refine lv_lookup (tgt := 153) (off := 122) hx hb dX4_doPart_31 (by decide) (by show Op.lookupswitch.offset [(98, 49), (102, 116), (104, 76), (111, 97), (119, 68)] 122 w_4.toInt = 122; rw [lv_osw hs0 (by decide), lv_osw hs1 (by decide), lv_osw hs2 (by decide), lv_osw hs3 (by decide), lv_osw hs4 (by decide)]; rfl) (by decide) ?_
  refine lv_aload_n hx hb dX4_doPart_153 rfl (lv_at hl 2 rfl) ?_
  refine va_get (D := D) (ci := 4) (v := .ref (a 1)) (C := RX4) (T := TX4) (N := 4) hx hb hts hinX4 hown hK hW.1 0 rfl rfl 0 (by decide) (hts _ (List.mem_of_getElem? (i := 2) rfl)) (fun _ h9 => h9) rfl dX4_doPart_154 ?_
  refine kV_Mi (As := []) (rest := []) ⟨hx, hb, hml, hown, hts⟩ (ok_X2_beginDay l D cI cJ a _ _ _ hw) (cwV 0 hts gX4_doPart_X2_beginDay rfl rfl rfl (by decide +kernel) ⟨Nat.le_of_ble_eq_true rfl, Nat.le_of_ble_eq_true rfl⟩) hK hW hA 1 rfl rfl rfl hl.1 rfl (Nat.le_of_ble_eq_true rfl) dX4_doPart_157 ⟨Nat.le_of_ble_eq_true rfl, Nat.le_of_ble_eq_true rfl⟩ (fun r_18 σ_19 H locs hw hW => ?_)
  refine lv_pop hx hb dX4_doPart_160 rfl ?_
  refine lv_iconst (v := 1) hx hb dX4_doPart_161 (by decide) ?_
  exact hret _ σ_19 _ _ _ _ (by decide) hw hW dX4_doPart_162
def wp_X4_run (σ : CS) (post : Int32 → CS → Prop) (px : String → Prop) : Prop := wp_X3_isComplete σ (fun r_1 => ((¬ r_1 = 0 → wp_X0_save σ (fun σ_2 => ∃ I3 : Nat → Int32 → Int32 → Int32 → Int32 → CS → Prop, (∃ n : Nat, I3 n 0 0 1 0 (σ_2)) ∧ ∀ (n3 : Nat) (v1_3 : Int32) (v2_3 : Int32) (v3_3 : Int32) (v4_3 : Int32) (σ_3 : CS), I3 n3 v1_3 v2_3 v3_3 v4_3 σ_3 → ((v3_3 = 0 → wp_X3_empty σ_3 (fun r_4 σ_5 => post v1_3 σ_5)) ∧ (¬ v3_3 = 0 → wp_X3_length σ_3 (fun r_6 => ((r_6 < v4_3 → wp_X3_empty σ_3 (fun r_7 σ_8 => post v1_3 σ_8)) ∧ (¬ r_6 < v4_3 → wp_X3_isEndOfPart σ_3 v4_3 (fun r_9 => ((r_9 = 0 → ∀ v4_10 : Int32, v4_10 = v4_3 + 1 → ∃ n' : Nat, n' < n3 ∧ I3 n' v1_3 v2_3 v3_3 v4_10 (σ_3)) ∧ (¬ r_9 = 0 → wp_X4_doPart σ_3 v2_3 v4_3 (fun r_11 σ_12 => ((r_11 = 0 → ∀ v1_13 : Int32, v1_13 = (v1_3 + 0) → ∀ v2_14 : Int32, v2_14 = (v4_3 + 1) → ∀ v4_15 : Int32, v4_15 = v4_3 + 1 → ∃ n' : Nat, n' < n3 ∧ I3 n' v1_13 v2_14 r_11 v4_15 (σ_12)) ∧ (¬ r_11 = 0 → ∀ v1_16 : Int32, v1_16 = (v1_3 + 1) → ∀ v2_17 : Int32, v2_17 = (v4_3 + 1) → ∀ v4_18 : Int32, v4_18 = v4_3 + 1 → ∃ n' : Nat, n' < n3 ∧ I3 n' v1_16 v2_17 r_11 v4_18 (σ_12)))))))))))))) ∧ (r_1 = 0 → px "java/lang/IllegalArgumentException")))
abbrev rm_X4_run : Room := { frames := 8, cells := 1, slots := 6, locals := 156 }
theorem in_X4_run_X4 : ∀ w ∈ wsX40, w ∈ wsX4_run := fun w h => List.mem_cons_of_mem _ (List.mem_append_left _ (List.mem_append_left _ (List.mem_append_left _ (List.mem_append_left _ (List.mem_append_left _ (List.mem_append_right _ (h)))))))
set_option maxHeartbeats 4000000 in
set_option maxRecDepth 100000 in
theorem ok_X4_run (l : Launch) (hst : l.stackTraces = false) (D : va_G) (cI cJ : ClassId) (a : Nat → Nat) (sz : Nat) (σ : CS) (post : Int32 → CS → Prop) (px : String → Prop) (hw : wp_X4_run σ post px) : Xi l yX4_run wsX4_run rm_X4_run [.ref (a 0)] D (tysIJ cI cJ) (cW cI cJ a σ) sz post (cW cI cJ a) px 1 6 := by
  refine s_Xi hst (by decide) rfl (Nat.le_of_ble_eq_true rfl) ?_
  intro p e s m args below meth c A Q hx hb hml hts hown hin hK hA hz hs hret hpass hthr1 hthr2 H locs ls hW hl
  have hown : s.vm.findClass RX4 = some m.cls := hown
  have hl : lv_has ls 5 [(0, .ref (a 0))] := hl
  have hinX4 := in_X4_run_X4
  refine lv_aload_n hx hb dX4_run_0 rfl (lv_at hl 0 rfl) ?_
  refine va_get (D := D) (ci := 4) (v := .ref (a 9)) (C := RX4) (T := TX4) (N := 4) hx hb hts hinX4 hown hK hW.1 0 rfl rfl 3 (by decide) (hts _ (List.mem_of_getElem? (i := 3) rfl)) (fun _ h9 => h9) rfl dX4_run_1 ?_
  refine kV_Mi (As := []) (rest := []) ⟨hx, hb, hml, hown, hts⟩ (ok_X3_isComplete l D cI cJ a _ _ _ hw) (cwV 0 hts gX4_run_X3_isComplete rfl rfl rfl (by decide +kernel) ⟨Nat.le_of_ble_eq_true rfl, Nat.le_of_ble_eq_true rfl⟩) hK hW hA 9 rfl rfl rfl hl.1 rfl (Nat.le_of_ble_eq_true rfl) dX4_run_4 ⟨Nat.le_of_ble_eq_true rfl, Nat.le_of_ble_eq_true rfl⟩ (fun r_1 _ H locs hw hW => ?_)
  refine lv_if_ne (tgt := 20) hx hb dX4_run_7 (by decide) (fun hc => ?_) (fun hc => ?_)
  · have hw := hw.1 hc
    refine lv_aload_n hx hb dX4_run_20 rfl (lv_at hl 0 rfl) ?_
    refine va_get (D := D) (ci := 4) (v := .ref (a 6)) (C := RX4) (T := TX4) (N := 4) hx hb hts hinX4 hown hK hW.1 0 rfl rfl 2 (by decide) (hts _ (List.mem_of_getElem? (i := 4) rfl)) (fun _ h9 => h9) rfl dX4_run_21 ?_
    refine lv_aload_n hx hb dX4_run_24 rfl (lv_at hl 0 rfl) ?_
    refine va_get (D := D) (ci := 4) (v := .ref (a 1)) (C := RX4) (T := TX4) (N := 4) hx hb hts hinX4 hown hK hW.1 0 rfl rfl 0 (by decide) (hts _ (List.mem_of_getElem? (i := 5) rfl)) (fun _ h9 => h9) rfl dX4_run_25 ?_
    refine kV_Mv (As := [.ref (a 1)]) (rest := []) ⟨hx, hb, hml, hown, hts⟩ (ok_X0_save l D cI cJ a _ _ _ hw) (cwV 1 hts gX4_run_X0_save rfl rfl rfl (by decide +kernel) ⟨Nat.le_of_ble_eq_true rfl, Nat.le_of_ble_eq_true rfl⟩) hK hW hA 6 rfl rfl rfl hl.1 rfl (Nat.le_of_ble_eq_true rfl) dX4_run_28 ⟨Nat.le_of_ble_eq_true rfl, Nat.le_of_ble_eq_true rfl⟩ (fun σ_2 H locs hw hW => ?_)
    refine lv_iconst (v := 0) hx hb dX4_run_31 (by decide) ?_
    refine lv_istore_n (lv' := [(1, .int 0), (0, .ref (a 0))]) hx hb dX4_run_32 rfl hl (by decide) rfl (fun ls hl => ?_)
    refine lv_iconst (v := 0) hx hb dX4_run_33 (by decide) ?_
    refine lv_istore_n (lv' := [(2, .int 0), (1, .int 0), (0, .ref (a 0))]) hx hb dX4_run_34 rfl hl (by decide) rfl (fun ls hl => ?_)
    refine lv_iconst (v := 1) hx hb dX4_run_35 (by decide) ?_
    refine lv_istore_n (lv' := [(3, .int 1), (2, .int 0), (1, .int 0), (0, .ref (a 0))]) hx hb dX4_run_36 rfl hl (by decide) rfl (fun ls hl => ?_)
    refine lv_iconst (v := 0) hx hb dX4_run_37 (by decide) ?_
    refine lv_istore (lv' := [(4, .int 0), (3, .int 1), (2, .int 0), (1, .int 0), (0, .ref (a 0))]) hx hb dX4_run_38 hl (by decide) rfl (fun ls hl => ?_)
    obtain ⟨I3, ⟨n3, hI3⟩, hJ3⟩ := hw
    have hl : lv_has ls 5 [(0, .ref (a 0)), (1, .int 0), (2, .int 0), (3, .int 1), (4, .int 0)] := lv_sub hl [4, 3, 2, 1, 0] rfl
    suffices LP3 : ∀ (n : Nat) (v1_3 : Int32) (v2_3 : Int32) (v3_3 : Int32) (v4_3 : Int32) (σ_3 : CS) (H : Heap) (locs : List Loc) (ls : Array Slot), I3 n v1_3 v2_3 v3_3 v4_3 σ_3 → Wd D A s.heap (cW cI cJ a σ_3) H locs → lv_has ls 5 [(0, .ref (a 0)), (1, .int v1_3), (2, .int v2_3), (3, .int v3_3), (4, .int v4_3)] → W p l e rm_X4_run s m args below meth c H locs 0 0 Q (F0 m 40 ls []) from LP3 n3 0 0 1 0 _ H locs ls hI3 hW hl
    intro n3
    induction n3 using Nat.strongRecOn with
    | ind n3 ih3 =>
      intro v1_3 v2_3 v3_3 v4_3 σ_3 H locs ls hIn hW hl
      have hw := hJ3 n3 v1_3 v2_3 v3_3 v4_3 σ_3 hIn
      refine lv_iload_n hx hb dX4_run_40 rfl (lv_at hl 3 rfl) ?_
      refine lv_if_eq (tgt := 99) hx hb dX4_run_41 (by decide) (fun hc => ?_) (fun hc => ?_)
      · have hw := hw.1 hc
        refine lv_aload_n hx hb dX4_run_99 rfl (lv_at hl 0 rfl) ?_
        refine va_get (D := D) (ci := 4) (v := .ref (a 9)) (C := RX4) (T := TX4) (N := 4) hx hb hts hinX4 hown hK hW.1 0 rfl rfl 3 (by decide) (hts _ (List.mem_of_getElem? (i := 3) rfl)) (fun _ h9 => h9) rfl dX4_run_100 ?_
        refine kV_Mi (As := []) (rest := []) ⟨hx, hb, hml, hown, hts⟩ (ok_X3_empty l D cI cJ a _ _ _ hw) (cwV 0 hts gX4_run_X3_empty rfl rfl rfl (by decide +kernel) ⟨Nat.le_of_ble_eq_true rfl, Nat.le_of_ble_eq_true rfl⟩) hK hW hA 9 rfl rfl rfl hl.1 rfl (Nat.le_of_ble_eq_true rfl) dX4_run_103 ⟨Nat.le_of_ble_eq_true rfl, Nat.le_of_ble_eq_true rfl⟩ (fun r_4 σ_5 H locs hw hW => ?_)
        refine lv_pop hx hb dX4_run_106 rfl ?_
        refine lv_iload_n hx hb dX4_run_107 rfl (lv_at hl 1 rfl) ?_
        exact hret _ σ_5 _ _ _ _ _ _ (Nat.le_of_ble_eq_true rfl) (Nat.le_of_ble_eq_true rfl) hw hW dX4_run_108
      · have hw := hw.2 hc
        refine lv_iload hx hb dX4_run_44 (lv_at hl 4 rfl) ?_
        refine lv_aload_n hx hb dX4_run_46 rfl (lv_at hl 0 rfl) ?_
        refine va_get (D := D) (ci := 4) (v := .ref (a 9)) (C := RX4) (T := TX4) (N := 4) hx hb hts hinX4 hown hK hW.1 0 rfl rfl 3 (by decide) (hts _ (List.mem_of_getElem? (i := 3) rfl)) (fun _ h9 => h9) rfl dX4_run_47 ?_
        refine kV_Mi (As := []) (rest := [.int v4_3]) ⟨hx, hb, hml, hown, hts⟩ (ok_X3_length l D cI cJ a _ _ _ hw) (cwV 0 hts gX4_run_X3_length rfl rfl rfl (by decide +kernel) ⟨Nat.le_of_ble_eq_true rfl, Nat.le_of_ble_eq_true rfl⟩) hK hW hA 9 rfl rfl rfl hl.1 rfl (Nat.le_of_ble_eq_true rfl) dX4_run_50 ⟨Nat.le_of_ble_eq_true rfl, Nat.le_of_ble_eq_true rfl⟩ (fun r_6 _ H locs hw hW => ?_)
        refine lv_icmp_gt (tgt := 99) hx hb dX4_run_53 (by decide) (fun hc => ?_) (fun hc => ?_)
        · have hw := hw.1 hc
          refine lv_aload_n hx hb dX4_run_99 rfl (lv_at hl 0 rfl) ?_
          refine va_get (D := D) (ci := 4) (v := .ref (a 9)) (C := RX4) (T := TX4) (N := 4) hx hb hts hinX4 hown hK hW.1 0 rfl rfl 3 (by decide) (hts _ (List.mem_of_getElem? (i := 3) rfl)) (fun _ h9 => h9) rfl dX4_run_100 ?_
          refine kV_Mi (As := []) (rest := []) ⟨hx, hb, hml, hown, hts⟩ (ok_X3_empty l D cI cJ a _ _ _ hw) (cwV 0 hts gX4_run_X3_empty rfl rfl rfl (by decide +kernel) ⟨Nat.le_of_ble_eq_true rfl, Nat.le_of_ble_eq_true rfl⟩) hK hW hA 9 rfl rfl rfl hl.1 rfl (Nat.le_of_ble_eq_true rfl) dX4_run_103 ⟨Nat.le_of_ble_eq_true rfl, Nat.le_of_ble_eq_true rfl⟩ (fun r_7 σ_8 H locs hw hW => ?_)
          refine lv_pop hx hb dX4_run_106 rfl ?_
          refine lv_iload_n hx hb dX4_run_107 rfl (lv_at hl 1 rfl) ?_
          exact hret _ σ_8 _ _ _ _ _ _ (Nat.le_of_ble_eq_true rfl) (Nat.le_of_ble_eq_true rfl) hw hW dX4_run_108
        · have hw := hw.2 hc
          refine lv_aload_n hx hb dX4_run_56 rfl (lv_at hl 0 rfl) ?_
          refine va_get (D := D) (ci := 4) (v := .ref (a 9)) (C := RX4) (T := TX4) (N := 4) hx hb hts hinX4 hown hK hW.1 0 rfl rfl 3 (by decide) (hts _ (List.mem_of_getElem? (i := 3) rfl)) (fun _ h9 => h9) rfl dX4_run_57 ?_
          refine lv_iload hx hb dX4_run_60 (lv_at hl 4 rfl) ?_
          refine kV_Mi (As := [.int v4_3]) (rest := []) ⟨hx, hb, hml, hown, hts⟩ (ok_X3_isEndOfPart l D cI cJ a _ _ _ _ hw) (cwV 1 hts gX4_run_X3_isEndOfPart rfl rfl rfl (by decide +kernel) ⟨Nat.le_of_ble_eq_true rfl, Nat.le_of_ble_eq_true rfl⟩) hK hW hA 9 rfl rfl rfl hl.1 rfl (Nat.le_of_ble_eq_true rfl) dX4_run_62 ⟨Nat.le_of_ble_eq_true rfl, Nat.le_of_ble_eq_true rfl⟩ (fun r_9 _ H locs hw hW => ?_)
          refine lv_if_eq (tgt := 93) hx hb dX4_run_65 (by decide) (fun hc => ?_) (fun hc => ?_)
          · have hw := hw.1 hc
            obtain ⟨v4_10, ev4_10⟩ : ∃ y : Int32, y = v4_3 + 1 := ⟨_, rfl⟩
            have hw := hw v4_10 ev4_10
            refine lv_iinc (v := v4_10) (lv' := [(4, .int v4_10), (0, .ref (a 0)), (1, .int v1_3), (2, .int v2_3), (3, .int v3_3)]) hx hb dX4_run_93 hl (k := 4) rfl (by rw [ev4_10]; rfl) (by decide) rfl (fun ls hl => ?_)
            refine lv_goto (tgt := 40) hx hb dX4_run_96 (by decide) ?_
            obtain ⟨n9, hlt9, hI9⟩ := hw
            exact ih3 n9 hlt9 _ _ _ _ _ _ _ _ hI9 hW (lv_sub hl [1, 2, 3, 4, 0] rfl)
          · have hw := hw.2 hc
            refine lv_aload_n hx hb dX4_run_68 rfl (lv_at hl 0 rfl) ?_
            refine lv_iload_n hx hb dX4_run_69 rfl (lv_at hl 2 rfl) ?_
            refine lv_iload hx hb dX4_run_70 (lv_at hl 4 rfl) ?_
            refine kV_Mi (As := [.int v2_3, .int v4_3]) (rest := []) ⟨hx, hb, hml, hown, hts⟩ (ok_X4_doPart l D cI cJ a _ _ _ _ _ hw) (cwV 2 hts gX4_run_X4_doPart rfl rfl rfl (by decide +kernel) ⟨Nat.le_of_ble_eq_true rfl, Nat.le_of_ble_eq_true rfl⟩) hK hW hA 0 rfl rfl rfl hl.1 rfl (Nat.le_of_ble_eq_true rfl) dX4_run_72 ⟨Nat.le_of_ble_eq_true rfl, Nat.le_of_ble_eq_true rfl⟩ (fun r_11 σ_12 H locs hw hW => ?_)
            refine lv_istore_n (lv' := [(3, .int r_11), (0, .ref (a 0)), (1, .int v1_3), (2, .int v2_3), (4, .int v4_3)]) hx hb dX4_run_75 rfl hl (by decide) rfl (fun ls hl => ?_)
            refine lv_iload_n hx hb dX4_run_76 rfl (lv_at hl 2 rfl) ?_
            refine lv_iload_n hx hb dX4_run_77 rfl (lv_at hl 0 rfl) ?_
            refine lv_if_eq (tgt := 85) hx hb dX4_run_78 (by decide) (fun hc => ?_) (fun hc => ?_)
            · have hw := hw.1 hc
              refine lv_iconst (v := 0) hx hb dX4_run_85 (by decide) ?_
              refine lv_iadd hx hb dX4_run_86 ?_
              refine lv_topi (fun v1_13 ev1_13 => ?_)
              have hw := hw v1_13 ev1_13
              refine lv_istore_n (lv' := [(1, .int v1_13), (3, .int r_11), (0, .ref (a 0)), (2, .int v2_3), (4, .int v4_3)]) hx hb dX4_run_87 rfl hl (by decide) rfl (fun ls hl => ?_)
              refine lv_iload hx hb dX4_run_88 (lv_at hl 4 rfl) ?_
              refine lv_iconst (v := 1) hx hb dX4_run_90 (by decide) ?_
              refine lv_iadd hx hb dX4_run_91 ?_
              refine lv_topi (fun v2_14 ev2_14 => ?_)
              have hw := hw v2_14 ev2_14
              refine lv_istore_n (lv' := [(2, .int v2_14), (1, .int v1_13), (3, .int r_11), (0, .ref (a 0)), (4, .int v4_3)]) hx hb dX4_run_92 rfl hl (by decide) rfl (fun ls hl => ?_)
              obtain ⟨v4_15, ev4_15⟩ : ∃ y : Int32, y = v4_3 + 1 := ⟨_, rfl⟩
              have hw := hw v4_15 ev4_15
              refine lv_iinc (v := v4_15) (lv' := [(4, .int v4_15), (2, .int v2_14), (1, .int v1_13), (3, .int r_11), (0, .ref (a 0))]) hx hb dX4_run_93 hl (k := 4) rfl (by rw [ev4_15]; rfl) (by decide) rfl (fun ls hl => ?_)
              refine lv_goto (tgt := 40) hx hb dX4_run_96 (by decide) ?_
              obtain ⟨n9, hlt9, hI9⟩ := hw
              exact ih3 n9 hlt9 _ _ _ _ _ _ _ _ hI9 hW (lv_sub hl [4, 2, 1, 3, 0] rfl)
            · have hw := hw.2 hc
              refine lv_iconst (v := 1) hx hb dX4_run_81 (by decide) ?_
              refine lv_goto (tgt := 86) hx hb dX4_run_82 (by decide) ?_
              refine lv_iadd hx hb dX4_run_86 ?_
              refine lv_topi (fun v1_16 ev1_16 => ?_)
              have hw := hw v1_16 ev1_16
              refine lv_istore_n (lv' := [(1, .int v1_16), (3, .int r_11), (0, .ref (a 0)), (2, .int v2_3), (4, .int v4_3)]) hx hb dX4_run_87 rfl hl (by decide) rfl (fun ls hl => ?_)
              refine lv_iload hx hb dX4_run_88 (lv_at hl 4 rfl) ?_
              refine lv_iconst (v := 1) hx hb dX4_run_90 (by decide) ?_
              refine lv_iadd hx hb dX4_run_91 ?_
              refine lv_topi (fun v2_17 ev2_17 => ?_)
              have hw := hw v2_17 ev2_17
              refine lv_istore_n (lv' := [(2, .int v2_17), (1, .int v1_16), (3, .int r_11), (0, .ref (a 0)), (4, .int v4_3)]) hx hb dX4_run_92 rfl hl (by decide) rfl (fun ls hl => ?_)
              obtain ⟨v4_18, ev4_18⟩ : ∃ y : Int32, y = v4_3 + 1 := ⟨_, rfl⟩
              have hw := hw v4_18 ev4_18
              refine lv_iinc (v := v4_18) (lv' := [(4, .int v4_18), (2, .int v2_17), (1, .int v1_16), (3, .int r_11), (0, .ref (a 0))]) hx hb dX4_run_93 hl (k := 4) rfl (by rw [ev4_18]; rfl) (by decide) rfl (fun ls hl => ?_)
              refine lv_goto (tgt := 40) hx hb dX4_run_96 (by decide) ?_
              obtain ⟨n9, hlt9, hI9⟩ := hw
              exact ih3 n9 hlt9 _ _ _ _ _ _ _ _ hI9 hW (lv_sub hl [4, 2, 1, 3, 0] rfl)
  · have hw := hw.2 hc
    obtain ⟨sa, hsa⟩ := hs.1
    exact hthr1 "java/lang/IllegalArgumentException" "the buffer is not a complete auction" ["java/lang/RuntimeException", "java/lang/Exception"] 117 119 121 sa 10 _ _ H locs ls _ hw hW (by decide +kernel) (by decide +kernel) (hts _ (List.mem_of_getElem? (i := 1) rfl)) (hts _ (List.mem_of_getElem? (i := 2) rfl)) hsa (vx_hat (fun w h => hts w (List.mem_cons_of_mem _ (List.mem_append_right _ (h)))) atS_1 (atB_1 hs)) (by decide +kernel) hl.1 dX4_run_10 dX4_run_13 dX4_run_14 dX4_run_16 dX4_run_19 (by decide) (Nat.le_of_ble_eq_true rfl) (by decide) (by decide) (by decide) (by decide)
def wp_X4_keep (σ : CS) (post : Int32 → CS → Prop) : Prop := wp_X0_takeSnapshot σ (fun σ_1 => wp_X2_get_ σ_1 165 (fun r_2 => post r_2 σ_1))
abbrev rm_X4_keep : Room := { frames := 4, cells := 0, slots := 0, locals := 89 }
theorem in_X4_keep_X4 : ∀ w ∈ wsX40, w ∈ wsX4_keep := fun w h => List.mem_cons_of_mem _ (List.mem_append_left _ (List.mem_append_left _ (List.mem_append_right _ (h))))
set_option maxHeartbeats 4000000 in
set_option maxRecDepth 100000 in
theorem ok_X4_keep (l : Launch) (D : va_G) (cI cJ : ClassId) (a : Nat → Nat) (sz : Nat) (σ : CS) (post : Int32 → CS → Prop) (hw : wp_X4_keep σ post) : Mi l yX4_keep wsX4_keep rm_X4_keep [.ref (a 0)] D (tysIJ cI cJ) (cW cI cJ a σ) sz post (cW cI cJ a) := by
  refine s_Mi (by decide) rfl (Nat.le_of_ble_eq_true rfl) ?_
  intro p e s m args below meth c A Q hx hb hml hts hown hin hK hA hret H locs ls hW hl
  have hown : s.vm.findClass RX4 = some m.cls := hown
  have hl : lv_has ls 1 [(0, .ref (a 0))] := hl
  have hinX4 := in_X4_keep_X4
  refine lv_aload_n hx hb dX4_keep_0 rfl (lv_at hl 0 rfl) ?_
  refine va_get (D := D) (ci := 4) (v := .ref (a 6)) (C := RX4) (T := TX4) (N := 4) hx hb hts hinX4 hown hK hW.1 0 rfl rfl 2 (by decide) (hts _ (List.mem_of_getElem? (i := 1) rfl)) (fun _ h9 => h9) rfl dX4_keep_1 ?_
  refine lv_aload_n hx hb dX4_keep_4 rfl (lv_at hl 0 rfl) ?_
  refine va_get (D := D) (ci := 4) (v := .ref (a 1)) (C := RX4) (T := TX4) (N := 4) hx hb hts hinX4 hown hK hW.1 0 rfl rfl 0 (by decide) (hts _ (List.mem_of_getElem? (i := 2) rfl)) (fun _ h9 => h9) rfl dX4_keep_5 ?_
  refine kV_Mv (As := [.ref (a 1)]) (rest := []) ⟨hx, hb, hml, hown, hts⟩ (ok_X0_takeSnapshot l D cI cJ a _ _ _ hw) (cwV 1 hts gX4_keep_X0_takeSnapshot rfl rfl rfl (by decide +kernel) ⟨Nat.le_of_ble_eq_true rfl, Nat.le_of_ble_eq_true rfl⟩) hK hW hA 6 rfl rfl rfl hl.1 rfl (Nat.le_of_ble_eq_true rfl) dX4_keep_8 ⟨Nat.le_of_ble_eq_true rfl, Nat.le_of_ble_eq_true rfl⟩ (fun σ_1 H locs hw hW => ?_)
  refine lv_aload_n hx hb dX4_keep_11 rfl (lv_at hl 0 rfl) ?_
  refine va_get (D := D) (ci := 4) (v := .ref (a 1)) (C := RX4) (T := TX4) (N := 4) hx hb hts hinX4 hown hK hW.1 0 rfl rfl 0 (by decide) (hts _ (List.mem_of_getElem? (i := 2) rfl)) (fun _ h9 => h9) rfl dX4_keep_12 ?_
  refine lv_sipush (v := 165) hx hb dX4_keep_15 (by decide) ?_
  refine kV_Mi (As := [.int 165]) (rest := []) ⟨hx, hb, hml, hown, hts⟩ (ok_X2_get_ l D cI cJ a _ _ _ _ hw) (cwV 1 hts gX4_keep_X2_get_ rfl rfl rfl (by decide +kernel) ⟨Nat.le_of_ble_eq_true rfl, Nat.le_of_ble_eq_true rfl⟩) hK hW hA 1 rfl rfl rfl hl.1 rfl (Nat.le_of_ble_eq_true rfl) dX4_keep_18 ⟨Nat.le_of_ble_eq_true rfl, Nat.le_of_ble_eq_true rfl⟩ (fun r_2 _ H locs hw hW => ?_)
  exact hret _ σ_1 _ _ _ _ hw hW dX4_keep_21
def wp_X4_goBack (σ : CS) (post : Int32 → CS → Prop) (px : String → Prop) : Prop := wp_X0_hasSnapshot σ (fun r_1 => wp_X4_needState σ r_1 (wp_X0_save σ (fun σ_2 => wp_X0_restoreSnapshot σ_2 (fun σ_3 => wp_X2_get_ σ_3 165 (fun r_4 => post r_4 σ_3)))) px)
abbrev rm_X4_goBack : Room := { frames := 9, cells := 1, slots := 6, locals := 160 }
theorem in_X4_goBack_X4 : ∀ w ∈ wsX40, w ∈ wsX4_goBack := fun w h => List.mem_cons_of_mem _ (List.mem_append_left _ (List.mem_append_left _ (List.mem_append_left _ (List.mem_append_right _ (h)))))
set_option maxHeartbeats 4000000 in
set_option maxRecDepth 100000 in
theorem ok_X4_goBack (l : Launch) (hst : l.stackTraces = false) (D : va_G) (cI cJ : ClassId) (a : Nat → Nat) (sz : Nat) (σ : CS) (post : Int32 → CS → Prop) (px : String → Prop) (hw : wp_X4_goBack σ post px) : Xi l yX4_goBack wsX4_goBack rm_X4_goBack [.ref (a 0)] D (tysIJ cI cJ) (cW cI cJ a σ) sz post (cW cI cJ a) px 1 6 := by
  refine s_Xi hst (by decide) rfl (Nat.le_of_ble_eq_true rfl) ?_
  intro p e s m args below meth c A Q hx hb hml hts hown hin hK hA hz hs hret hpass hthr1 hthr2 H locs ls hW hl
  have hown : s.vm.findClass RX4 = some m.cls := hown
  have hl : lv_has ls 1 [(0, .ref (a 0))] := hl
  have hinX4 := in_X4_goBack_X4
  refine lv_aload_n hx hb dX4_goBack_0 rfl (lv_at hl 0 rfl) ?_
  refine va_get (D := D) (ci := 4) (v := .ref (a 6)) (C := RX4) (T := TX4) (N := 4) hx hb hts hinX4 hown hK hW.1 0 rfl rfl 2 (by decide) (hts _ (List.mem_of_getElem? (i := 1) rfl)) (fun _ h9 => h9) rfl dX4_goBack_1 ?_
  refine kV_Mi (As := []) (rest := []) ⟨hx, hb, hml, hown, hts⟩ (ok_X0_hasSnapshot l D cI cJ a _ _ _ hw) (cwV 0 hts gX4_goBack_X0_hasSnapshot rfl rfl rfl (by decide +kernel) ⟨Nat.le_of_ble_eq_true rfl, Nat.le_of_ble_eq_true rfl⟩) hK hW hA 6 rfl rfl rfl hl.1 rfl (Nat.le_of_ble_eq_true rfl) dX4_goBack_4 ⟨Nat.le_of_ble_eq_true rfl, Nat.le_of_ble_eq_true rfl⟩ (fun r_1 _ H locs hw hW => ?_)
  refine kS_Xv (As := [.int r_1]) (rest := []) ⟨hx, hb, hml, hown, hts⟩ (ok_X4_needState l hst D cI cJ a _ _ _ _ _ hw) (va_cwS 1 hts gX4_goBack_X4_needState rfl rfl rfl (by decide +kernel) ⟨(Nat.le_of_ble_eq_true rfl), (Nat.le_of_ble_eq_true rfl)⟩) hK hW hA hz hs rfl hl.1 rfl (Nat.le_of_ble_eq_true rfl) dX4_goBack_7 ⟨(Nat.le_of_ble_eq_true rfl), (Nat.le_of_ble_eq_true rfl)⟩ (fun E ce q H locs hE hW h1 h2 h3 => hpass E ce q H locs _ _ _ _ _ (Nat.le_of_ble_eq_true rfl) (Nat.le_of_ble_eq_true rfl) hE hW h1 h2 h3) (fun _ H locs hw hW => ?_)
  refine lv_aload_n hx hb dX4_goBack_10 rfl (lv_at hl 0 rfl) ?_
  refine va_get (D := D) (ci := 4) (v := .ref (a 6)) (C := RX4) (T := TX4) (N := 4) hx hb hts hinX4 hown hK hW.1 0 rfl rfl 2 (by decide) (hts _ (List.mem_of_getElem? (i := 1) rfl)) (fun _ h9 => h9) rfl dX4_goBack_11 ?_
  refine lv_aload_n hx hb dX4_goBack_14 rfl (lv_at hl 0 rfl) ?_
  refine va_get (D := D) (ci := 4) (v := .ref (a 1)) (C := RX4) (T := TX4) (N := 4) hx hb hts hinX4 hown hK hW.1 0 rfl rfl 0 (by decide) (hts _ (List.mem_of_getElem? (i := 2) rfl)) (fun _ h9 => h9) rfl dX4_goBack_15 ?_
  refine kV_Mv (As := [.ref (a 1)]) (rest := []) ⟨hx, hb, hml, hown, hts⟩ (ok_X0_save l D cI cJ a _ _ _ hw) (cwV 1 hts gX4_goBack_X0_save rfl rfl rfl (by decide +kernel) ⟨Nat.le_of_ble_eq_true rfl, Nat.le_of_ble_eq_true rfl⟩) hK hW hA 6 rfl rfl rfl hl.1 rfl (Nat.le_of_ble_eq_true rfl) dX4_goBack_18 ⟨Nat.le_of_ble_eq_true rfl, Nat.le_of_ble_eq_true rfl⟩ (fun σ_2 H locs hw hW => ?_)
  refine lv_aload_n hx hb dX4_goBack_21 rfl (lv_at hl 0 rfl) ?_
  refine va_get (D := D) (ci := 4) (v := .ref (a 6)) (C := RX4) (T := TX4) (N := 4) hx hb hts hinX4 hown hK hW.1 0 rfl rfl 2 (by decide) (hts _ (List.mem_of_getElem? (i := 1) rfl)) (fun _ h9 => h9) rfl dX4_goBack_22 ?_
  refine lv_aload_n hx hb dX4_goBack_25 rfl (lv_at hl 0 rfl) ?_
  refine va_get (D := D) (ci := 4) (v := .ref (a 1)) (C := RX4) (T := TX4) (N := 4) hx hb hts hinX4 hown hK hW.1 0 rfl rfl 0 (by decide) (hts _ (List.mem_of_getElem? (i := 2) rfl)) (fun _ h9 => h9) rfl dX4_goBack_26 ?_
  refine kV_Mv (As := [.ref (a 1)]) (rest := []) ⟨hx, hb, hml, hown, hts⟩ (ok_X0_restoreSnapshot l D cI cJ a _ _ _ hw) (cwV 1 hts gX4_goBack_X0_restoreSnapshot rfl rfl rfl (by decide +kernel) ⟨Nat.le_of_ble_eq_true rfl, Nat.le_of_ble_eq_true rfl⟩) hK hW hA 6 rfl rfl rfl hl.1 rfl (Nat.le_of_ble_eq_true rfl) dX4_goBack_29 ⟨Nat.le_of_ble_eq_true rfl, Nat.le_of_ble_eq_true rfl⟩ (fun σ_3 H locs hw hW => ?_)
  refine lv_aload_n hx hb dX4_goBack_32 rfl (lv_at hl 0 rfl) ?_
  refine va_get (D := D) (ci := 4) (v := .ref (a 1)) (C := RX4) (T := TX4) (N := 4) hx hb hts hinX4 hown hK hW.1 0 rfl rfl 0 (by decide) (hts _ (List.mem_of_getElem? (i := 2) rfl)) (fun _ h9 => h9) rfl dX4_goBack_33 ?_
  refine lv_sipush (v := 165) hx hb dX4_goBack_36 (by decide) ?_
  refine kV_Mi (As := [.int 165]) (rest := []) ⟨hx, hb, hml, hown, hts⟩ (ok_X2_get_ l D cI cJ a _ _ _ _ hw) (cwV 1 hts gX4_goBack_X2_get_ rfl rfl rfl (by decide +kernel) ⟨Nat.le_of_ble_eq_true rfl, Nat.le_of_ble_eq_true rfl⟩) hK hW hA 1 rfl rfl rfl hl.1 rfl (Nat.le_of_ble_eq_true rfl) dX4_goBack_39 ⟨Nat.le_of_ble_eq_true rfl, Nat.le_of_ble_eq_true rfl⟩ (fun r_4 _ H locs hw hW => ?_)
  exact hret _ σ_3 _ _ _ _ _ _ (Nat.le_of_ble_eq_true rfl) (Nat.le_of_ble_eq_true rfl) hw hW dX4_goBack_42
def wp_X4_undo (σ : CS) (post : Int32 → CS → Prop) (px : String → Prop) : Prop := wp_X0_savedStates σ (fun r_1 => ((r_1 ≤ 0 → wp_X4_needState σ 0 (wp_X0_restoreLatest σ (fun σ_2 => wp_X0_savedStates σ_2 (fun r_3 => post r_3 σ_2))) px) ∧ (¬ r_1 ≤ 0 → wp_X4_needState σ 1 (wp_X0_restoreLatest σ (fun σ_4 => wp_X0_savedStates σ_4 (fun r_5 => post r_5 σ_4))) px)))
abbrev rm_X4_undo : Room := { frames := 9, cells := 1, slots := 6, locals := 160 }
theorem in_X4_undo_X4 : ∀ w ∈ wsX40, w ∈ wsX4_undo := fun w h => List.mem_cons_of_mem _ (List.mem_append_left _ (List.mem_append_left _ (List.mem_append_left _ (List.mem_append_right _ (h)))))
set_option maxHeartbeats 4000000 in
set_option maxRecDepth 100000 in
theorem ok_X4_undo (l : Launch) (hst : l.stackTraces = false) (D : va_G) (cI cJ : ClassId) (a : Nat → Nat) (sz : Nat) (σ : CS) (post : Int32 → CS → Prop) (px : String → Prop) (hw : wp_X4_undo σ post px) : Xi l yX4_undo wsX4_undo rm_X4_undo [.ref (a 0)] D (tysIJ cI cJ) (cW cI cJ a σ) sz post (cW cI cJ a) px 1 6 := by
  refine s_Xi hst (by decide) rfl (Nat.le_of_ble_eq_true rfl) ?_
  intro p e s m args below meth c A Q hx hb hml hts hown hin hK hA hz hs hret hpass hthr1 hthr2 H locs ls hW hl
  have hown : s.vm.findClass RX4 = some m.cls := hown
  have hl : lv_has ls 1 [(0, .ref (a 0))] := hl
  have hinX4 := in_X4_undo_X4
  refine lv_aload_n hx hb dX4_undo_0 rfl (lv_at hl 0 rfl) ?_
  refine va_get (D := D) (ci := 4) (v := .ref (a 6)) (C := RX4) (T := TX4) (N := 4) hx hb hts hinX4 hown hK hW.1 0 rfl rfl 2 (by decide) (hts _ (List.mem_of_getElem? (i := 1) rfl)) (fun _ h9 => h9) rfl dX4_undo_1 ?_
  refine kV_Mi (As := []) (rest := []) ⟨hx, hb, hml, hown, hts⟩ (ok_X0_savedStates l D cI cJ a _ _ _ hw) (cwV 0 hts gX4_undo_X0_savedStates rfl rfl rfl (by decide +kernel) ⟨Nat.le_of_ble_eq_true rfl, Nat.le_of_ble_eq_true rfl⟩) hK hW hA 6 rfl rfl rfl hl.1 rfl (Nat.le_of_ble_eq_true rfl) dX4_undo_4 ⟨Nat.le_of_ble_eq_true rfl, Nat.le_of_ble_eq_true rfl⟩ (fun r_1 _ H locs hw hW => ?_)
  refine lv_if_le (tgt := 14) hx hb dX4_undo_7 (by decide) (fun hc => ?_) (fun hc => ?_)
  · have hw := hw.1 hc
    refine lv_iconst (v := 0) hx hb dX4_undo_14 (by decide) ?_
    refine kS_Xv (As := [.int 0]) (rest := []) ⟨hx, hb, hml, hown, hts⟩ (ok_X4_needState l hst D cI cJ a _ _ _ _ _ hw) (va_cwS 1 hts gX4_undo_X4_needState rfl rfl rfl (by decide +kernel) ⟨(Nat.le_of_ble_eq_true rfl), (Nat.le_of_ble_eq_true rfl)⟩) hK hW hA hz hs rfl hl.1 rfl (Nat.le_of_ble_eq_true rfl) dX4_undo_15 ⟨(Nat.le_of_ble_eq_true rfl), (Nat.le_of_ble_eq_true rfl)⟩ (fun E ce q H locs hE hW h1 h2 h3 => hpass E ce q H locs _ _ _ _ _ (Nat.le_of_ble_eq_true rfl) (Nat.le_of_ble_eq_true rfl) hE hW h1 h2 h3) (fun _ H locs hw hW => ?_)
    refine lv_aload_n hx hb dX4_undo_18 rfl (lv_at hl 0 rfl) ?_
    refine va_get (D := D) (ci := 4) (v := .ref (a 6)) (C := RX4) (T := TX4) (N := 4) hx hb hts hinX4 hown hK hW.1 0 rfl rfl 2 (by decide) (hts _ (List.mem_of_getElem? (i := 1) rfl)) (fun _ h9 => h9) rfl dX4_undo_19 ?_
    refine lv_aload_n hx hb dX4_undo_22 rfl (lv_at hl 0 rfl) ?_
    refine va_get (D := D) (ci := 4) (v := .ref (a 1)) (C := RX4) (T := TX4) (N := 4) hx hb hts hinX4 hown hK hW.1 0 rfl rfl 0 (by decide) (hts _ (List.mem_of_getElem? (i := 2) rfl)) (fun _ h9 => h9) rfl dX4_undo_23 ?_
    refine kV_Mv (As := [.ref (a 1)]) (rest := []) ⟨hx, hb, hml, hown, hts⟩ (ok_X0_restoreLatest l D cI cJ a _ _ _ hw) (cwV 1 hts gX4_undo_X0_restoreLatest rfl rfl rfl (by decide +kernel) ⟨Nat.le_of_ble_eq_true rfl, Nat.le_of_ble_eq_true rfl⟩) hK hW hA 6 rfl rfl rfl hl.1 rfl (Nat.le_of_ble_eq_true rfl) dX4_undo_26 ⟨Nat.le_of_ble_eq_true rfl, Nat.le_of_ble_eq_true rfl⟩ (fun σ_2 H locs hw hW => ?_)
    refine lv_aload_n hx hb dX4_undo_29 rfl (lv_at hl 0 rfl) ?_
    refine va_get (D := D) (ci := 4) (v := .ref (a 6)) (C := RX4) (T := TX4) (N := 4) hx hb hts hinX4 hown hK hW.1 0 rfl rfl 2 (by decide) (hts _ (List.mem_of_getElem? (i := 1) rfl)) (fun _ h9 => h9) rfl dX4_undo_30 ?_
    refine kV_Mi (As := []) (rest := []) ⟨hx, hb, hml, hown, hts⟩ (ok_X0_savedStates l D cI cJ a _ _ _ hw) (cwV 0 hts gX4_undo_X0_savedStates rfl rfl rfl (by decide +kernel) ⟨Nat.le_of_ble_eq_true rfl, Nat.le_of_ble_eq_true rfl⟩) hK hW hA 6 rfl rfl rfl hl.1 rfl (Nat.le_of_ble_eq_true rfl) dX4_undo_33 ⟨Nat.le_of_ble_eq_true rfl, Nat.le_of_ble_eq_true rfl⟩ (fun r_3 _ H locs hw hW => ?_)
    exact hret _ σ_2 _ _ _ _ _ _ (Nat.le_of_ble_eq_true rfl) (Nat.le_of_ble_eq_true rfl) hw hW dX4_undo_36
  · have hw := hw.2 hc
    refine lv_iconst (v := 1) hx hb dX4_undo_10 (by decide) ?_
    refine lv_goto (tgt := 15) hx hb dX4_undo_11 (by decide) ?_
    refine kS_Xv (As := [.int 1]) (rest := []) ⟨hx, hb, hml, hown, hts⟩ (ok_X4_needState l hst D cI cJ a _ _ _ _ _ hw) (va_cwS 1 hts gX4_undo_X4_needState rfl rfl rfl (by decide +kernel) ⟨(Nat.le_of_ble_eq_true rfl), (Nat.le_of_ble_eq_true rfl)⟩) hK hW hA hz hs rfl hl.1 rfl (Nat.le_of_ble_eq_true rfl) dX4_undo_15 ⟨(Nat.le_of_ble_eq_true rfl), (Nat.le_of_ble_eq_true rfl)⟩ (fun E ce q H locs hE hW h1 h2 h3 => hpass E ce q H locs _ _ _ _ _ (Nat.le_of_ble_eq_true rfl) (Nat.le_of_ble_eq_true rfl) hE hW h1 h2 h3) (fun _ H locs hw hW => ?_)
    refine lv_aload_n hx hb dX4_undo_18 rfl (lv_at hl 0 rfl) ?_
    refine va_get (D := D) (ci := 4) (v := .ref (a 6)) (C := RX4) (T := TX4) (N := 4) hx hb hts hinX4 hown hK hW.1 0 rfl rfl 2 (by decide) (hts _ (List.mem_of_getElem? (i := 1) rfl)) (fun _ h9 => h9) rfl dX4_undo_19 ?_
    refine lv_aload_n hx hb dX4_undo_22 rfl (lv_at hl 0 rfl) ?_
    refine va_get (D := D) (ci := 4) (v := .ref (a 1)) (C := RX4) (T := TX4) (N := 4) hx hb hts hinX4 hown hK hW.1 0 rfl rfl 0 (by decide) (hts _ (List.mem_of_getElem? (i := 2) rfl)) (fun _ h9 => h9) rfl dX4_undo_23 ?_
    refine kV_Mv (As := [.ref (a 1)]) (rest := []) ⟨hx, hb, hml, hown, hts⟩ (ok_X0_restoreLatest l D cI cJ a _ _ _ hw) (cwV 1 hts gX4_undo_X0_restoreLatest rfl rfl rfl (by decide +kernel) ⟨Nat.le_of_ble_eq_true rfl, Nat.le_of_ble_eq_true rfl⟩) hK hW hA 6 rfl rfl rfl hl.1 rfl (Nat.le_of_ble_eq_true rfl) dX4_undo_26 ⟨Nat.le_of_ble_eq_true rfl, Nat.le_of_ble_eq_true rfl⟩ (fun σ_4 H locs hw hW => ?_)
    refine lv_aload_n hx hb dX4_undo_29 rfl (lv_at hl 0 rfl) ?_
    refine va_get (D := D) (ci := 4) (v := .ref (a 6)) (C := RX4) (T := TX4) (N := 4) hx hb hts hinX4 hown hK hW.1 0 rfl rfl 2 (by decide) (hts _ (List.mem_of_getElem? (i := 1) rfl)) (fun _ h9 => h9) rfl dX4_undo_30 ?_
    refine kV_Mi (As := []) (rest := []) ⟨hx, hb, hml, hown, hts⟩ (ok_X0_savedStates l D cI cJ a _ _ _ hw) (cwV 0 hts gX4_undo_X0_savedStates rfl rfl rfl (by decide +kernel) ⟨Nat.le_of_ble_eq_true rfl, Nat.le_of_ble_eq_true rfl⟩) hK hW hA 6 rfl rfl rfl hl.1 rfl (Nat.le_of_ble_eq_true rfl) dX4_undo_33 ⟨Nat.le_of_ble_eq_true rfl, Nat.le_of_ble_eq_true rfl⟩ (fun r_5 _ H locs hw hW => ?_)
    exact hret _ σ_4 _ _ _ _ _ _ (Nat.le_of_ble_eq_true rfl) (Nat.le_of_ble_eq_true rfl) hw hW dX4_undo_36
def wp_X4_spot (σ : CS) (p1 : Int32) (p2 : Int32) (post : Int32 → Prop) (px : String → Prop) : Prop := wp_X4_needPlace σ p1 6 (∀ w_1 : Int32, w_1 = p2 → ((w_1 = 0 → wp_X2_get σ 0 p1 (fun r_2 => post r_2)) ∧ (¬ w_1 = 0 → ((w_1 = 1 → wp_X2_get σ 6 p1 (fun r_3 => post r_3)) ∧ (¬ w_1 = 1 → ((w_1 = 2 → wp_X2_get σ 12 p1 (fun r_4 => post r_4)) ∧ (¬ w_1 = 2 → ((w_1 = 3 → wp_X2_get σ 18 p1 (fun r_5 => post r_5)) ∧ (¬ w_1 = 3 → ((w_1 = 4 → wp_X2_bidsForSpot σ p1 (fun r_6 => post r_6)) ∧ (¬ w_1 = 4 → ((w_1 = 5 → wp_X2_get σ 24 p1 (fun r_7 => post r_7)) ∧ (¬ w_1 = 5 → px "java/lang/IllegalArgumentException"))))))))))))) px
abbrev rm_X4_spot : Room := { frames := 9, cells := 2, slots := 12, locals := 161 }
theorem in_X4_spot_X4 : ∀ w ∈ wsX40, w ∈ wsX4_spot := fun w h => List.mem_cons_of_mem _ (List.mem_append_left _ (List.mem_append_left _ (List.mem_append_left _ (List.mem_append_right _ (h)))))
set_option maxHeartbeats 4000000 in
set_option maxRecDepth 100000 in
theorem ok_X4_spot (l : Launch) (hst : l.stackTraces = false) (D : va_G) (cI cJ : ClassId) (a : Nat → Nat) (sz : Nat) (σ : CS) (p1 : Int32) (p2 : Int32) (post : Int32 → Prop) (px : String → Prop) (hw : wp_X4_spot σ p1 p2 post px) : Xi l yX4_spot wsX4_spot rm_X4_spot [.ref (a 0), .int p1, .int p2] D (tysIJ cI cJ) (cW cI cJ a σ) sz (fun r (_ : Unit) => post r) (fun _ => cW cI cJ a σ) px 2 12 := by
  refine s_Xi hst (by decide) rfl (Nat.le_of_ble_eq_true rfl) ?_
  intro p e s m args below meth c A Q hx hb hml hts hown hin hK hA hz hs hret hpass hthr1 hthr2 H locs ls hW hl
  have hown : s.vm.findClass RX4 = some m.cls := hown
  have hl : lv_has ls 3 [(0, .ref (a 0)), (1, .int p1), (2, .int p2)] := hl
  have hinX4 := in_X4_spot_X4
  refine lv_iload_n hx hb dX4_spot_0 rfl (lv_at hl 1 rfl) ?_
  refine lv_bipush (v := 6) hx hb dX4_spot_1 (by decide) ?_
  refine kS_Xv (As := [.int p1, .int 6]) (rest := []) ⟨hx, hb, hml, hown, hts⟩ (ok_X4_needPlace l hst D cI cJ a _ _ _ _ _ _ hw) (va_cwS 2 hts gX4_spot_X4_needPlace rfl rfl rfl (by decide +kernel) ⟨(Nat.le_of_ble_eq_true rfl), (Nat.le_of_ble_eq_true rfl)⟩) hK hW hA hz hs rfl hl.1 rfl (Nat.le_of_ble_eq_true rfl) dX4_spot_3 ⟨(Nat.le_of_ble_eq_true rfl), (Nat.le_of_ble_eq_true rfl)⟩ (fun E ce q H locs hE hW h1 h2 h3 => hpass E ce q H locs _ _ _ _ _ (Nat.le_of_ble_eq_true rfl) (Nat.le_of_ble_eq_true rfl) hE hW h1 h2 h3) (fun _ H locs hw hW => ?_)
  refine lv_iload_n hx hb dX4_spot_6 rfl (lv_at hl 2 rfl) ?_
  refine lv_topi (fun w_1 ew_1 => ?_)
  have hw := hw w_1 ew_1
  by_cases hs0 : w_1 = 0
  · have hw := hw.1 hs0
    refine lv_tableIn (tgt := 44) hx hb dX4_spot_7 (by rw [hs0]; decide) (by rw [hs0]; decide) (by rw [hs0]; rfl) (by decide) ?_
    refine lv_aload_n hx hb dX4_spot_44 rfl (lv_at hl 0 rfl) ?_
    refine va_get (D := D) (ci := 4) (v := .ref (a 1)) (C := RX4) (T := TX4) (N := 4) hx hb hts hinX4 hown hK hW.1 0 rfl rfl 0 (by decide) (hts _ (List.mem_of_getElem? (i := 3) rfl)) (fun _ h9 => h9) rfl dX4_spot_45 ?_
    refine lv_iconst (v := 0) hx hb dX4_spot_48 (by decide) ?_
    refine lv_iload_n hx hb dX4_spot_49 rfl (lv_at hl 1 rfl) ?_
    refine kV_Mi (As := [.int 0, .int p1]) (rest := []) ⟨hx, hb, hml, hown, hts⟩ (ok_X2_get l D cI cJ a _ _ _ _ _ hw) (cwV 2 hts gX4_spot_X2_get rfl rfl rfl (by decide +kernel) ⟨Nat.le_of_ble_eq_true rfl, Nat.le_of_ble_eq_true rfl⟩) hK hW hA 1 rfl rfl rfl hl.1 rfl (Nat.le_of_ble_eq_true rfl) dX4_spot_50 ⟨Nat.le_of_ble_eq_true rfl, Nat.le_of_ble_eq_true rfl⟩ (fun r_2 _ H locs hw hW => ?_)
    exact hret _ () _ _ _ _ _ _ (Nat.le_of_ble_eq_true rfl) (Nat.le_of_ble_eq_true rfl) hw hW dX4_spot_53
  have hw := hw.2 hs0
  by_cases hs1 : w_1 = 1
  · have hw := hw.1 hs1
    refine lv_tableIn (tgt := 54) hx hb dX4_spot_7 (by rw [hs1]; decide) (by rw [hs1]; decide) (by rw [hs1]; rfl) (by decide) ?_
    refine lv_aload_n hx hb dX4_spot_54 rfl (lv_at hl 0 rfl) ?_
    refine va_get (D := D) (ci := 4) (v := .ref (a 1)) (C := RX4) (T := TX4) (N := 4) hx hb hts hinX4 hown hK hW.1 0 rfl rfl 0 (by decide) (hts _ (List.mem_of_getElem? (i := 3) rfl)) (fun _ h9 => h9) rfl dX4_spot_55 ?_
    refine lv_bipush (v := 6) hx hb dX4_spot_58 (by decide) ?_
    refine lv_iload_n hx hb dX4_spot_60 rfl (lv_at hl 1 rfl) ?_
    refine kV_Mi (As := [.int 6, .int p1]) (rest := []) ⟨hx, hb, hml, hown, hts⟩ (ok_X2_get l D cI cJ a _ _ _ _ _ hw) (cwV 2 hts gX4_spot_X2_get rfl rfl rfl (by decide +kernel) ⟨Nat.le_of_ble_eq_true rfl, Nat.le_of_ble_eq_true rfl⟩) hK hW hA 1 rfl rfl rfl hl.1 rfl (Nat.le_of_ble_eq_true rfl) dX4_spot_61 ⟨Nat.le_of_ble_eq_true rfl, Nat.le_of_ble_eq_true rfl⟩ (fun r_3 _ H locs hw hW => ?_)
    exact hret _ () _ _ _ _ _ _ (Nat.le_of_ble_eq_true rfl) (Nat.le_of_ble_eq_true rfl) hw hW dX4_spot_64
  have hw := hw.2 hs1
  by_cases hs2 : w_1 = 2
  · have hw := hw.1 hs2
    refine lv_tableIn (tgt := 65) hx hb dX4_spot_7 (by rw [hs2]; decide) (by rw [hs2]; decide) (by rw [hs2]; rfl) (by decide) ?_
    refine lv_aload_n hx hb dX4_spot_65 rfl (lv_at hl 0 rfl) ?_
    refine va_get (D := D) (ci := 4) (v := .ref (a 1)) (C := RX4) (T := TX4) (N := 4) hx hb hts hinX4 hown hK hW.1 0 rfl rfl 0 (by decide) (hts _ (List.mem_of_getElem? (i := 3) rfl)) (fun _ h9 => h9) rfl dX4_spot_66 ?_
    refine lv_bipush (v := 12) hx hb dX4_spot_69 (by decide) ?_
    refine lv_iload_n hx hb dX4_spot_71 rfl (lv_at hl 1 rfl) ?_
    refine kV_Mi (As := [.int 12, .int p1]) (rest := []) ⟨hx, hb, hml, hown, hts⟩ (ok_X2_get l D cI cJ a _ _ _ _ _ hw) (cwV 2 hts gX4_spot_X2_get rfl rfl rfl (by decide +kernel) ⟨Nat.le_of_ble_eq_true rfl, Nat.le_of_ble_eq_true rfl⟩) hK hW hA 1 rfl rfl rfl hl.1 rfl (Nat.le_of_ble_eq_true rfl) dX4_spot_72 ⟨Nat.le_of_ble_eq_true rfl, Nat.le_of_ble_eq_true rfl⟩ (fun r_4 _ H locs hw hW => ?_)
    exact hret _ () _ _ _ _ _ _ (Nat.le_of_ble_eq_true rfl) (Nat.le_of_ble_eq_true rfl) hw hW dX4_spot_75
  have hw := hw.2 hs2
  by_cases hs3 : w_1 = 3
  · have hw := hw.1 hs3
    refine lv_tableIn (tgt := 76) hx hb dX4_spot_7 (by rw [hs3]; decide) (by rw [hs3]; decide) (by rw [hs3]; rfl) (by decide) ?_
    refine lv_aload_n hx hb dX4_spot_76 rfl (lv_at hl 0 rfl) ?_
    refine va_get (D := D) (ci := 4) (v := .ref (a 1)) (C := RX4) (T := TX4) (N := 4) hx hb hts hinX4 hown hK hW.1 0 rfl rfl 0 (by decide) (hts _ (List.mem_of_getElem? (i := 3) rfl)) (fun _ h9 => h9) rfl dX4_spot_77 ?_
    refine lv_bipush (v := 18) hx hb dX4_spot_80 (by decide) ?_
    refine lv_iload_n hx hb dX4_spot_82 rfl (lv_at hl 1 rfl) ?_
    refine kV_Mi (As := [.int 18, .int p1]) (rest := []) ⟨hx, hb, hml, hown, hts⟩ (ok_X2_get l D cI cJ a _ _ _ _ _ hw) (cwV 2 hts gX4_spot_X2_get rfl rfl rfl (by decide +kernel) ⟨Nat.le_of_ble_eq_true rfl, Nat.le_of_ble_eq_true rfl⟩) hK hW hA 1 rfl rfl rfl hl.1 rfl (Nat.le_of_ble_eq_true rfl) dX4_spot_83 ⟨Nat.le_of_ble_eq_true rfl, Nat.le_of_ble_eq_true rfl⟩ (fun r_5 _ H locs hw hW => ?_)
    exact hret _ () _ _ _ _ _ _ (Nat.le_of_ble_eq_true rfl) (Nat.le_of_ble_eq_true rfl) hw hW dX4_spot_86
  have hw := hw.2 hs3
  by_cases hs4 : w_1 = 4
  · have hw := hw.1 hs4
    refine lv_tableIn (tgt := 87) hx hb dX4_spot_7 (by rw [hs4]; decide) (by rw [hs4]; decide) (by rw [hs4]; rfl) (by decide) ?_
    refine lv_aload_n hx hb dX4_spot_87 rfl (lv_at hl 0 rfl) ?_
    refine va_get (D := D) (ci := 4) (v := .ref (a 1)) (C := RX4) (T := TX4) (N := 4) hx hb hts hinX4 hown hK hW.1 0 rfl rfl 0 (by decide) (hts _ (List.mem_of_getElem? (i := 3) rfl)) (fun _ h9 => h9) rfl dX4_spot_88 ?_
    refine lv_iload_n hx hb dX4_spot_91 rfl (lv_at hl 1 rfl) ?_
    refine kV_Mi (As := [.int p1]) (rest := []) ⟨hx, hb, hml, hown, hts⟩ (ok_X2_bidsForSpot l D cI cJ a _ _ _ _ hw) (cwV 1 hts gX4_spot_X2_bidsForSpot rfl rfl rfl (by decide +kernel) ⟨Nat.le_of_ble_eq_true rfl, Nat.le_of_ble_eq_true rfl⟩) hK hW hA 1 rfl rfl rfl hl.1 rfl (Nat.le_of_ble_eq_true rfl) dX4_spot_92 ⟨Nat.le_of_ble_eq_true rfl, Nat.le_of_ble_eq_true rfl⟩ (fun r_6 _ H locs hw hW => ?_)
    exact hret _ () _ _ _ _ _ _ (Nat.le_of_ble_eq_true rfl) (Nat.le_of_ble_eq_true rfl) hw hW dX4_spot_95
  have hw := hw.2 hs4
  by_cases hs5 : w_1 = 5
  · have hw := hw.1 hs5
    refine lv_tableIn (tgt := 96) hx hb dX4_spot_7 (by rw [hs5]; decide) (by rw [hs5]; decide) (by rw [hs5]; rfl) (by decide) ?_
    refine lv_aload_n hx hb dX4_spot_96 rfl (lv_at hl 0 rfl) ?_
    refine va_get (D := D) (ci := 4) (v := .ref (a 1)) (C := RX4) (T := TX4) (N := 4) hx hb hts hinX4 hown hK hW.1 0 rfl rfl 0 (by decide) (hts _ (List.mem_of_getElem? (i := 3) rfl)) (fun _ h9 => h9) rfl dX4_spot_97 ?_
    refine lv_bipush (v := 24) hx hb dX4_spot_100 (by decide) ?_
    refine lv_iload_n hx hb dX4_spot_102 rfl (lv_at hl 1 rfl) ?_
    refine kV_Mi (As := [.int 24, .int p1]) (rest := []) ⟨hx, hb, hml, hown, hts⟩ (ok_X2_get l D cI cJ a _ _ _ _ _ hw) (cwV 2 hts gX4_spot_X2_get rfl rfl rfl (by decide +kernel) ⟨Nat.le_of_ble_eq_true rfl, Nat.le_of_ble_eq_true rfl⟩) hK hW hA 1 rfl rfl rfl hl.1 rfl (Nat.le_of_ble_eq_true rfl) dX4_spot_103 ⟨Nat.le_of_ble_eq_true rfl, Nat.le_of_ble_eq_true rfl⟩ (fun r_7 _ H locs hw hW => ?_)
    exact hret _ () _ _ _ _ _ _ (Nat.le_of_ble_eq_true rfl) (Nat.le_of_ble_eq_true rfl) hw hW dX4_spot_106
  have hw := hw.2 hs5
  refine lv_tableOut (tgt := 107) hx hb dX4_spot_7 (by have q0 := lv_neT hs0 (a := 0) (by decide); have q1 := lv_neT hs1 (a := 1) (by decide); have q2 := lv_neT hs2 (a := 2) (by decide); have q3 := lv_neT hs3 (a := 3) (by decide); have q4 := lv_neT hs4 (a := 4) (by decide); have q5 := lv_neT hs5 (a := 5) (by decide); omega) (by decide) ?_
  obtain ⟨sa, hsa⟩ := hs.2.1
  exact hthr1 "java/lang/IllegalArgumentException" "no such number of a spot" ["java/lang/RuntimeException", "java/lang/Exception"] 117 152 121 sa 107 _ _ H locs ls _ hw hW (by decide +kernel) (by decide +kernel) (hts _ (List.mem_of_getElem? (i := 1) rfl)) (hts _ (List.mem_of_getElem? (i := 2) rfl)) hsa (vx_hat (fun w h => hts w (List.mem_cons_of_mem _ (List.mem_append_left _ (List.mem_append_right _ (h))))) atS_1 (atB_1 hs)) (by decide +kernel) hl.1 dX4_spot_107 dX4_spot_110 dX4_spot_111 dX4_spot_113 dX4_spot_116 (by decide) (Nat.le_of_ble_eq_true rfl) (by decide) (by decide) (by decide) (by decide)
abbrev rm_X4_spot_n : Room := { frames := 9, cells := 0, slots := 0, locals := 161 }
theorem in_X4_spot_n_X4 : ∀ w ∈ wsX40, w ∈ wsX4_spot := fun w h => List.mem_cons_of_mem _ (List.mem_append_left _ (List.mem_append_left _ (List.mem_append_left _ (List.mem_append_right _ (h)))))
set_option maxHeartbeats 4000000 in
set_option maxRecDepth 100000 in
theorem ok_X4_spot_n (l : Launch) (D : va_G) (cI cJ : ClassId) (a : Nat → Nat) (sz : Nat) (σ : CS) (p1 : Int32) (p2 : Int32) (post : Int32 → Prop) (hw : wp_X4_spot σ p1 p2 post (fun _ => False)) : Mi l yX4_spot wsX4_spot rm_X4_spot_n [.ref (a 0), .int p1, .int p2] D (tysIJ cI cJ) (cW cI cJ a σ) sz (fun r (_ : Unit) => post r) (fun _ => cW cI cJ a σ) := by
  refine s_Mi (by decide) rfl (Nat.le_of_ble_eq_true rfl) ?_
  intro p e s m args below meth c A Q hx hb hml hts hown hin hK hA hret H locs ls hW hl
  have hown : s.vm.findClass RX4 = some m.cls := hown
  have hl : lv_has ls 3 [(0, .ref (a 0)), (1, .int p1), (2, .int p2)] := hl
  have hinX4 := in_X4_spot_n_X4
  refine lv_iload_n hx hb dX4_spot_0 rfl (lv_at hl 1 rfl) ?_
  refine lv_bipush (v := 6) hx hb dX4_spot_1 (by decide) ?_
  refine kS_Mv (As := [.int p1, .int 6]) (rest := []) ⟨hx, hb, hml, hown, hts⟩ (ok_X4_needPlace_n l D cI cJ a _ _ _ _ _ hw) (va_cwS 2 hts gX4_spot_X4_needPlace rfl rfl rfl (by decide +kernel) ⟨Nat.le_of_ble_eq_true rfl, Nat.le_of_ble_eq_true rfl⟩) hK hW hA rfl hl.1 rfl (Nat.le_of_ble_eq_true rfl) dX4_spot_3 ⟨Nat.le_of_ble_eq_true rfl, Nat.le_of_ble_eq_true rfl⟩ (fun _ H locs hw hW => ?_)
  refine lv_iload_n hx hb dX4_spot_6 rfl (lv_at hl 2 rfl) ?_
  refine lv_topi (fun w_1 ew_1 => ?_)
  have hw := hw w_1 ew_1
  by_cases hs0 : w_1 = 0
  · have hw := hw.1 hs0
    refine lv_tableIn (tgt := 44) hx hb dX4_spot_7 (by rw [hs0]; decide) (by rw [hs0]; decide) (by rw [hs0]; rfl) (by decide) ?_
    refine lv_aload_n hx hb dX4_spot_44 rfl (lv_at hl 0 rfl) ?_
    refine va_get (D := D) (ci := 4) (v := .ref (a 1)) (C := RX4) (T := TX4) (N := 4) hx hb hts hinX4 hown hK hW.1 0 rfl rfl 0 (by decide) (hts _ (List.mem_of_getElem? (i := 3) rfl)) (fun _ h9 => h9) rfl dX4_spot_45 ?_
    refine lv_iconst (v := 0) hx hb dX4_spot_48 (by decide) ?_
    refine lv_iload_n hx hb dX4_spot_49 rfl (lv_at hl 1 rfl) ?_
    refine kV_Mi (As := [.int 0, .int p1]) (rest := []) ⟨hx, hb, hml, hown, hts⟩ (ok_X2_get l D cI cJ a _ _ _ _ _ hw) (cwV 2 hts gX4_spot_X2_get rfl rfl rfl (by decide +kernel) ⟨Nat.le_of_ble_eq_true rfl, Nat.le_of_ble_eq_true rfl⟩) hK hW hA 1 rfl rfl rfl hl.1 rfl (Nat.le_of_ble_eq_true rfl) dX4_spot_50 ⟨Nat.le_of_ble_eq_true rfl, Nat.le_of_ble_eq_true rfl⟩ (fun r_2 _ H locs hw hW => ?_)
    exact hret _ () _ _ _ _ hw hW dX4_spot_53
  have hw := hw.2 hs0
  by_cases hs1 : w_1 = 1
  · have hw := hw.1 hs1
    refine lv_tableIn (tgt := 54) hx hb dX4_spot_7 (by rw [hs1]; decide) (by rw [hs1]; decide) (by rw [hs1]; rfl) (by decide) ?_
    refine lv_aload_n hx hb dX4_spot_54 rfl (lv_at hl 0 rfl) ?_
    refine va_get (D := D) (ci := 4) (v := .ref (a 1)) (C := RX4) (T := TX4) (N := 4) hx hb hts hinX4 hown hK hW.1 0 rfl rfl 0 (by decide) (hts _ (List.mem_of_getElem? (i := 3) rfl)) (fun _ h9 => h9) rfl dX4_spot_55 ?_
    refine lv_bipush (v := 6) hx hb dX4_spot_58 (by decide) ?_
    refine lv_iload_n hx hb dX4_spot_60 rfl (lv_at hl 1 rfl) ?_
    refine kV_Mi (As := [.int 6, .int p1]) (rest := []) ⟨hx, hb, hml, hown, hts⟩ (ok_X2_get l D cI cJ a _ _ _ _ _ hw) (cwV 2 hts gX4_spot_X2_get rfl rfl rfl (by decide +kernel) ⟨Nat.le_of_ble_eq_true rfl, Nat.le_of_ble_eq_true rfl⟩) hK hW hA 1 rfl rfl rfl hl.1 rfl (Nat.le_of_ble_eq_true rfl) dX4_spot_61 ⟨Nat.le_of_ble_eq_true rfl, Nat.le_of_ble_eq_true rfl⟩ (fun r_3 _ H locs hw hW => ?_)
    exact hret _ () _ _ _ _ hw hW dX4_spot_64
  have hw := hw.2 hs1
  by_cases hs2 : w_1 = 2
  · have hw := hw.1 hs2
    refine lv_tableIn (tgt := 65) hx hb dX4_spot_7 (by rw [hs2]; decide) (by rw [hs2]; decide) (by rw [hs2]; rfl) (by decide) ?_
    refine lv_aload_n hx hb dX4_spot_65 rfl (lv_at hl 0 rfl) ?_
    refine va_get (D := D) (ci := 4) (v := .ref (a 1)) (C := RX4) (T := TX4) (N := 4) hx hb hts hinX4 hown hK hW.1 0 rfl rfl 0 (by decide) (hts _ (List.mem_of_getElem? (i := 3) rfl)) (fun _ h9 => h9) rfl dX4_spot_66 ?_
    refine lv_bipush (v := 12) hx hb dX4_spot_69 (by decide) ?_
    refine lv_iload_n hx hb dX4_spot_71 rfl (lv_at hl 1 rfl) ?_
    refine kV_Mi (As := [.int 12, .int p1]) (rest := []) ⟨hx, hb, hml, hown, hts⟩ (ok_X2_get l D cI cJ a _ _ _ _ _ hw) (cwV 2 hts gX4_spot_X2_get rfl rfl rfl (by decide +kernel) ⟨Nat.le_of_ble_eq_true rfl, Nat.le_of_ble_eq_true rfl⟩) hK hW hA 1 rfl rfl rfl hl.1 rfl (Nat.le_of_ble_eq_true rfl) dX4_spot_72 ⟨Nat.le_of_ble_eq_true rfl, Nat.le_of_ble_eq_true rfl⟩ (fun r_4 _ H locs hw hW => ?_)
    exact hret _ () _ _ _ _ hw hW dX4_spot_75
  have hw := hw.2 hs2
  by_cases hs3 : w_1 = 3
  · have hw := hw.1 hs3
    refine lv_tableIn (tgt := 76) hx hb dX4_spot_7 (by rw [hs3]; decide) (by rw [hs3]; decide) (by rw [hs3]; rfl) (by decide) ?_
    refine lv_aload_n hx hb dX4_spot_76 rfl (lv_at hl 0 rfl) ?_
    refine va_get (D := D) (ci := 4) (v := .ref (a 1)) (C := RX4) (T := TX4) (N := 4) hx hb hts hinX4 hown hK hW.1 0 rfl rfl 0 (by decide) (hts _ (List.mem_of_getElem? (i := 3) rfl)) (fun _ h9 => h9) rfl dX4_spot_77 ?_
    refine lv_bipush (v := 18) hx hb dX4_spot_80 (by decide) ?_
    refine lv_iload_n hx hb dX4_spot_82 rfl (lv_at hl 1 rfl) ?_
    refine kV_Mi (As := [.int 18, .int p1]) (rest := []) ⟨hx, hb, hml, hown, hts⟩ (ok_X2_get l D cI cJ a _ _ _ _ _ hw) (cwV 2 hts gX4_spot_X2_get rfl rfl rfl (by decide +kernel) ⟨Nat.le_of_ble_eq_true rfl, Nat.le_of_ble_eq_true rfl⟩) hK hW hA 1 rfl rfl rfl hl.1 rfl (Nat.le_of_ble_eq_true rfl) dX4_spot_83 ⟨Nat.le_of_ble_eq_true rfl, Nat.le_of_ble_eq_true rfl⟩ (fun r_5 _ H locs hw hW => ?_)
    exact hret _ () _ _ _ _ hw hW dX4_spot_86
  have hw := hw.2 hs3
  by_cases hs4 : w_1 = 4
  · have hw := hw.1 hs4
    refine lv_tableIn (tgt := 87) hx hb dX4_spot_7 (by rw [hs4]; decide) (by rw [hs4]; decide) (by rw [hs4]; rfl) (by decide) ?_
    refine lv_aload_n hx hb dX4_spot_87 rfl (lv_at hl 0 rfl) ?_
    refine va_get (D := D) (ci := 4) (v := .ref (a 1)) (C := RX4) (T := TX4) (N := 4) hx hb hts hinX4 hown hK hW.1 0 rfl rfl 0 (by decide) (hts _ (List.mem_of_getElem? (i := 3) rfl)) (fun _ h9 => h9) rfl dX4_spot_88 ?_
    refine lv_iload_n hx hb dX4_spot_91 rfl (lv_at hl 1 rfl) ?_
    refine kV_Mi (As := [.int p1]) (rest := []) ⟨hx, hb, hml, hown, hts⟩ (ok_X2_bidsForSpot l D cI cJ a _ _ _ _ hw) (cwV 1 hts gX4_spot_X2_bidsForSpot rfl rfl rfl (by decide +kernel) ⟨Nat.le_of_ble_eq_true rfl, Nat.le_of_ble_eq_true rfl⟩) hK hW hA 1 rfl rfl rfl hl.1 rfl (Nat.le_of_ble_eq_true rfl) dX4_spot_92 ⟨Nat.le_of_ble_eq_true rfl, Nat.le_of_ble_eq_true rfl⟩ (fun r_6 _ H locs hw hW => ?_)
    exact hret _ () _ _ _ _ hw hW dX4_spot_95
  have hw := hw.2 hs4
  by_cases hs5 : w_1 = 5
  · have hw := hw.1 hs5
    refine lv_tableIn (tgt := 96) hx hb dX4_spot_7 (by rw [hs5]; decide) (by rw [hs5]; decide) (by rw [hs5]; rfl) (by decide) ?_
    refine lv_aload_n hx hb dX4_spot_96 rfl (lv_at hl 0 rfl) ?_
    refine va_get (D := D) (ci := 4) (v := .ref (a 1)) (C := RX4) (T := TX4) (N := 4) hx hb hts hinX4 hown hK hW.1 0 rfl rfl 0 (by decide) (hts _ (List.mem_of_getElem? (i := 3) rfl)) (fun _ h9 => h9) rfl dX4_spot_97 ?_
    refine lv_bipush (v := 24) hx hb dX4_spot_100 (by decide) ?_
    refine lv_iload_n hx hb dX4_spot_102 rfl (lv_at hl 1 rfl) ?_
    refine kV_Mi (As := [.int 24, .int p1]) (rest := []) ⟨hx, hb, hml, hown, hts⟩ (ok_X2_get l D cI cJ a _ _ _ _ _ hw) (cwV 2 hts gX4_spot_X2_get rfl rfl rfl (by decide +kernel) ⟨Nat.le_of_ble_eq_true rfl, Nat.le_of_ble_eq_true rfl⟩) hK hW hA 1 rfl rfl rfl hl.1 rfl (Nat.le_of_ble_eq_true rfl) dX4_spot_103 ⟨Nat.le_of_ble_eq_true rfl, Nat.le_of_ble_eq_true rfl⟩ (fun r_7 _ H locs hw hW => ?_)
    exact hret _ () _ _ _ _ hw hW dX4_spot_106
  have hw := hw.2 hs5
  refine lv_tableOut (tgt := 107) hx hb dX4_spot_7 (by have q0 := lv_neT hs0 (a := 0) (by decide); have q1 := lv_neT hs1 (a := 1) (by decide); have q2 := lv_neT hs2 (a := 2) (by decide); have q3 := lv_neT hs3 (a := 3) (by decide); have q4 := lv_neT hs4 (a := 4) (by decide); have q5 := lv_neT hs5 (a := 5) (by decide); omega) (by decide) ?_
  exact hw.elim
def wp_X4_bidder (σ : CS) (p1 : Int32) (p2 : Int32) (post : Int32 → Prop) (px : String → Prop) : Prop := wp_X4_needPlace σ p1 6 (∀ w_1 : Int32, w_1 = p2 → ((w_1 = 0 → wp_X2_get σ 30 p1 (fun r_2 => post r_2)) ∧ (¬ w_1 = 0 → ((w_1 = 1 → wp_X2_get σ 36 p1 (fun r_3 => post r_3)) ∧ (¬ w_1 = 1 → ((w_1 = 2 → wp_X2_bidsOfBidder σ p1 (fun r_4 => post r_4)) ∧ (¬ w_1 = 2 → ((w_1 = 3 → wp_X2_spotOfOwner σ p1 (fun r_5 => post r_5)) ∧ (¬ w_1 = 3 → ((w_1 = 4 → wp_X2_get σ 42 p1 (fun r_6 => post r_6)) ∧ (¬ w_1 = 4 → ((w_1 = 5 → wp_X2_get σ 48 p1 (fun r_7 => post r_7)) ∧ (¬ w_1 = 5 → px "java/lang/IllegalArgumentException"))))))))))))) px
abbrev rm_X4_bidder : Room := { frames := 9, cells := 2, slots := 12, locals := 161 }
theorem in_X4_bidder_X4 : ∀ w ∈ wsX40, w ∈ wsX4_bidder := fun w h => List.mem_cons_of_mem _ (List.mem_append_left _ (List.mem_append_left _ (List.mem_append_left _ (List.mem_append_right _ (h)))))
set_option maxHeartbeats 4000000 in
set_option maxRecDepth 100000 in
theorem ok_X4_bidder (l : Launch) (hst : l.stackTraces = false) (D : va_G) (cI cJ : ClassId) (a : Nat → Nat) (sz : Nat) (σ : CS) (p1 : Int32) (p2 : Int32) (post : Int32 → Prop) (px : String → Prop) (hw : wp_X4_bidder σ p1 p2 post px) : Xi l yX4_bidder wsX4_bidder rm_X4_bidder [.ref (a 0), .int p1, .int p2] D (tysIJ cI cJ) (cW cI cJ a σ) sz (fun r (_ : Unit) => post r) (fun _ => cW cI cJ a σ) px 2 12 := by
  refine s_Xi hst (by decide) rfl (Nat.le_of_ble_eq_true rfl) ?_
  intro p e s m args below meth c A Q hx hb hml hts hown hin hK hA hz hs hret hpass hthr1 hthr2 H locs ls hW hl
  have hown : s.vm.findClass RX4 = some m.cls := hown
  have hl : lv_has ls 3 [(0, .ref (a 0)), (1, .int p1), (2, .int p2)] := hl
  have hinX4 := in_X4_bidder_X4
  refine lv_iload_n hx hb dX4_bidder_0 rfl (lv_at hl 1 rfl) ?_
  refine lv_bipush (v := 6) hx hb dX4_bidder_1 (by decide) ?_
  refine kS_Xv (As := [.int p1, .int 6]) (rest := []) ⟨hx, hb, hml, hown, hts⟩ (ok_X4_needPlace l hst D cI cJ a _ _ _ _ _ _ hw) (va_cwS 2 hts gX4_bidder_X4_needPlace rfl rfl rfl (by decide +kernel) ⟨(Nat.le_of_ble_eq_true rfl), (Nat.le_of_ble_eq_true rfl)⟩) hK hW hA hz hs rfl hl.1 rfl (Nat.le_of_ble_eq_true rfl) dX4_bidder_3 ⟨(Nat.le_of_ble_eq_true rfl), (Nat.le_of_ble_eq_true rfl)⟩ (fun E ce q H locs hE hW h1 h2 h3 => hpass E ce q H locs _ _ _ _ _ (Nat.le_of_ble_eq_true rfl) (Nat.le_of_ble_eq_true rfl) hE hW h1 h2 h3) (fun _ H locs hw hW => ?_)
  refine lv_iload_n hx hb dX4_bidder_6 rfl (lv_at hl 2 rfl) ?_
  refine lv_topi (fun w_1 ew_1 => ?_)
  have hw := hw w_1 ew_1
  by_cases hs0 : w_1 = 0
  · have hw := hw.1 hs0
    refine lv_tableIn (tgt := 44) hx hb dX4_bidder_7 (by rw [hs0]; decide) (by rw [hs0]; decide) (by rw [hs0]; rfl) (by decide) ?_
    refine lv_aload_n hx hb dX4_bidder_44 rfl (lv_at hl 0 rfl) ?_
    refine va_get (D := D) (ci := 4) (v := .ref (a 1)) (C := RX4) (T := TX4) (N := 4) hx hb hts hinX4 hown hK hW.1 0 rfl rfl 0 (by decide) (hts _ (List.mem_of_getElem? (i := 3) rfl)) (fun _ h9 => h9) rfl dX4_bidder_45 ?_
    refine lv_bipush (v := 30) hx hb dX4_bidder_48 (by decide) ?_
    refine lv_iload_n hx hb dX4_bidder_50 rfl (lv_at hl 1 rfl) ?_
    refine kV_Mi (As := [.int 30, .int p1]) (rest := []) ⟨hx, hb, hml, hown, hts⟩ (ok_X2_get l D cI cJ a _ _ _ _ _ hw) (cwV 2 hts gX4_bidder_X2_get rfl rfl rfl (by decide +kernel) ⟨Nat.le_of_ble_eq_true rfl, Nat.le_of_ble_eq_true rfl⟩) hK hW hA 1 rfl rfl rfl hl.1 rfl (Nat.le_of_ble_eq_true rfl) dX4_bidder_51 ⟨Nat.le_of_ble_eq_true rfl, Nat.le_of_ble_eq_true rfl⟩ (fun r_2 _ H locs hw hW => ?_)
    exact hret _ () _ _ _ _ _ _ (Nat.le_of_ble_eq_true rfl) (Nat.le_of_ble_eq_true rfl) hw hW dX4_bidder_54
  have hw := hw.2 hs0
  by_cases hs1 : w_1 = 1
  · have hw := hw.1 hs1
    refine lv_tableIn (tgt := 55) hx hb dX4_bidder_7 (by rw [hs1]; decide) (by rw [hs1]; decide) (by rw [hs1]; rfl) (by decide) ?_
    refine lv_aload_n hx hb dX4_bidder_55 rfl (lv_at hl 0 rfl) ?_
    refine va_get (D := D) (ci := 4) (v := .ref (a 1)) (C := RX4) (T := TX4) (N := 4) hx hb hts hinX4 hown hK hW.1 0 rfl rfl 0 (by decide) (hts _ (List.mem_of_getElem? (i := 3) rfl)) (fun _ h9 => h9) rfl dX4_bidder_56 ?_
    refine lv_bipush (v := 36) hx hb dX4_bidder_59 (by decide) ?_
    refine lv_iload_n hx hb dX4_bidder_61 rfl (lv_at hl 1 rfl) ?_
    refine kV_Mi (As := [.int 36, .int p1]) (rest := []) ⟨hx, hb, hml, hown, hts⟩ (ok_X2_get l D cI cJ a _ _ _ _ _ hw) (cwV 2 hts gX4_bidder_X2_get rfl rfl rfl (by decide +kernel) ⟨Nat.le_of_ble_eq_true rfl, Nat.le_of_ble_eq_true rfl⟩) hK hW hA 1 rfl rfl rfl hl.1 rfl (Nat.le_of_ble_eq_true rfl) dX4_bidder_62 ⟨Nat.le_of_ble_eq_true rfl, Nat.le_of_ble_eq_true rfl⟩ (fun r_3 _ H locs hw hW => ?_)
    exact hret _ () _ _ _ _ _ _ (Nat.le_of_ble_eq_true rfl) (Nat.le_of_ble_eq_true rfl) hw hW dX4_bidder_65
  have hw := hw.2 hs1
  by_cases hs2 : w_1 = 2
  · have hw := hw.1 hs2
    refine lv_tableIn (tgt := 66) hx hb dX4_bidder_7 (by rw [hs2]; decide) (by rw [hs2]; decide) (by rw [hs2]; rfl) (by decide) ?_
    refine lv_aload_n hx hb dX4_bidder_66 rfl (lv_at hl 0 rfl) ?_
    refine va_get (D := D) (ci := 4) (v := .ref (a 1)) (C := RX4) (T := TX4) (N := 4) hx hb hts hinX4 hown hK hW.1 0 rfl rfl 0 (by decide) (hts _ (List.mem_of_getElem? (i := 3) rfl)) (fun _ h9 => h9) rfl dX4_bidder_67 ?_
    refine lv_iload_n hx hb dX4_bidder_70 rfl (lv_at hl 1 rfl) ?_
    refine kV_Mi (As := [.int p1]) (rest := []) ⟨hx, hb, hml, hown, hts⟩ (ok_X2_bidsOfBidder l D cI cJ a _ _ _ _ hw) (cwV 1 hts gX4_bidder_X2_bidsOfBidder rfl rfl rfl (by decide +kernel) ⟨Nat.le_of_ble_eq_true rfl, Nat.le_of_ble_eq_true rfl⟩) hK hW hA 1 rfl rfl rfl hl.1 rfl (Nat.le_of_ble_eq_true rfl) dX4_bidder_71 ⟨Nat.le_of_ble_eq_true rfl, Nat.le_of_ble_eq_true rfl⟩ (fun r_4 _ H locs hw hW => ?_)
    exact hret _ () _ _ _ _ _ _ (Nat.le_of_ble_eq_true rfl) (Nat.le_of_ble_eq_true rfl) hw hW dX4_bidder_74
  have hw := hw.2 hs2
  by_cases hs3 : w_1 = 3
  · have hw := hw.1 hs3
    refine lv_tableIn (tgt := 75) hx hb dX4_bidder_7 (by rw [hs3]; decide) (by rw [hs3]; decide) (by rw [hs3]; rfl) (by decide) ?_
    refine lv_aload_n hx hb dX4_bidder_75 rfl (lv_at hl 0 rfl) ?_
    refine va_get (D := D) (ci := 4) (v := .ref (a 1)) (C := RX4) (T := TX4) (N := 4) hx hb hts hinX4 hown hK hW.1 0 rfl rfl 0 (by decide) (hts _ (List.mem_of_getElem? (i := 3) rfl)) (fun _ h9 => h9) rfl dX4_bidder_76 ?_
    refine lv_iload_n hx hb dX4_bidder_79 rfl (lv_at hl 1 rfl) ?_
    refine kV_Mi (As := [.int p1]) (rest := []) ⟨hx, hb, hml, hown, hts⟩ (ok_X2_spotOfOwner l D cI cJ a _ _ _ _ hw) (cwV 1 hts gX4_bidder_X2_spotOfOwner rfl rfl rfl (by decide +kernel) ⟨Nat.le_of_ble_eq_true rfl, Nat.le_of_ble_eq_true rfl⟩) hK hW hA 1 rfl rfl rfl hl.1 rfl (Nat.le_of_ble_eq_true rfl) dX4_bidder_80 ⟨Nat.le_of_ble_eq_true rfl, Nat.le_of_ble_eq_true rfl⟩ (fun r_5 _ H locs hw hW => ?_)
    exact hret _ () _ _ _ _ _ _ (Nat.le_of_ble_eq_true rfl) (Nat.le_of_ble_eq_true rfl) hw hW dX4_bidder_83
  have hw := hw.2 hs3
  by_cases hs4 : w_1 = 4
  · have hw := hw.1 hs4
    refine lv_tableIn (tgt := 84) hx hb dX4_bidder_7 (by rw [hs4]; decide) (by rw [hs4]; decide) (by rw [hs4]; rfl) (by decide) ?_
    refine lv_aload_n hx hb dX4_bidder_84 rfl (lv_at hl 0 rfl) ?_
    refine va_get (D := D) (ci := 4) (v := .ref (a 1)) (C := RX4) (T := TX4) (N := 4) hx hb hts hinX4 hown hK hW.1 0 rfl rfl 0 (by decide) (hts _ (List.mem_of_getElem? (i := 3) rfl)) (fun _ h9 => h9) rfl dX4_bidder_85 ?_
    refine lv_bipush (v := 42) hx hb dX4_bidder_88 (by decide) ?_
    refine lv_iload_n hx hb dX4_bidder_90 rfl (lv_at hl 1 rfl) ?_
    refine kV_Mi (As := [.int 42, .int p1]) (rest := []) ⟨hx, hb, hml, hown, hts⟩ (ok_X2_get l D cI cJ a _ _ _ _ _ hw) (cwV 2 hts gX4_bidder_X2_get rfl rfl rfl (by decide +kernel) ⟨Nat.le_of_ble_eq_true rfl, Nat.le_of_ble_eq_true rfl⟩) hK hW hA 1 rfl rfl rfl hl.1 rfl (Nat.le_of_ble_eq_true rfl) dX4_bidder_91 ⟨Nat.le_of_ble_eq_true rfl, Nat.le_of_ble_eq_true rfl⟩ (fun r_6 _ H locs hw hW => ?_)
    exact hret _ () _ _ _ _ _ _ (Nat.le_of_ble_eq_true rfl) (Nat.le_of_ble_eq_true rfl) hw hW dX4_bidder_94
  have hw := hw.2 hs4
  by_cases hs5 : w_1 = 5
  · have hw := hw.1 hs5
    refine lv_tableIn (tgt := 95) hx hb dX4_bidder_7 (by rw [hs5]; decide) (by rw [hs5]; decide) (by rw [hs5]; rfl) (by decide) ?_
    refine lv_aload_n hx hb dX4_bidder_95 rfl (lv_at hl 0 rfl) ?_
    refine va_get (D := D) (ci := 4) (v := .ref (a 1)) (C := RX4) (T := TX4) (N := 4) hx hb hts hinX4 hown hK hW.1 0 rfl rfl 0 (by decide) (hts _ (List.mem_of_getElem? (i := 3) rfl)) (fun _ h9 => h9) rfl dX4_bidder_96 ?_
    refine lv_bipush (v := 48) hx hb dX4_bidder_99 (by decide) ?_
    refine lv_iload_n hx hb dX4_bidder_101 rfl (lv_at hl 1 rfl) ?_
    refine kV_Mi (As := [.int 48, .int p1]) (rest := []) ⟨hx, hb, hml, hown, hts⟩ (ok_X2_get l D cI cJ a _ _ _ _ _ hw) (cwV 2 hts gX4_bidder_X2_get rfl rfl rfl (by decide +kernel) ⟨Nat.le_of_ble_eq_true rfl, Nat.le_of_ble_eq_true rfl⟩) hK hW hA 1 rfl rfl rfl hl.1 rfl (Nat.le_of_ble_eq_true rfl) dX4_bidder_102 ⟨Nat.le_of_ble_eq_true rfl, Nat.le_of_ble_eq_true rfl⟩ (fun r_7 _ H locs hw hW => ?_)
    exact hret _ () _ _ _ _ _ _ (Nat.le_of_ble_eq_true rfl) (Nat.le_of_ble_eq_true rfl) hw hW dX4_bidder_105
  have hw := hw.2 hs5
  refine lv_tableOut (tgt := 106) hx hb dX4_bidder_7 (by have q0 := lv_neT hs0 (a := 0) (by decide); have q1 := lv_neT hs1 (a := 1) (by decide); have q2 := lv_neT hs2 (a := 2) (by decide); have q3 := lv_neT hs3 (a := 3) (by decide); have q4 := lv_neT hs4 (a := 4) (by decide); have q5 := lv_neT hs5 (a := 5) (by decide); omega) (by decide) ?_
  obtain ⟨sa, hsa⟩ := hs.2.2.1
  exact hthr1 "java/lang/IllegalArgumentException" "no such number of a bidder" ["java/lang/RuntimeException", "java/lang/Exception"] 117 160 121 sa 106 _ _ H locs ls _ hw hW (by decide +kernel) (by decide +kernel) (hts _ (List.mem_of_getElem? (i := 1) rfl)) (hts _ (List.mem_of_getElem? (i := 2) rfl)) hsa (vx_hat (fun w h => hts w (List.mem_cons_of_mem _ (List.mem_append_left _ (List.mem_append_right _ (h))))) atS_1 (atB_1 hs)) (by decide +kernel) hl.1 dX4_bidder_106 dX4_bidder_109 dX4_bidder_110 dX4_bidder_112 dX4_bidder_115 (by decide) (Nat.le_of_ble_eq_true rfl) (by decide) (by decide) (by decide) (by decide)
abbrev rm_X4_bidder_n : Room := { frames := 9, cells := 0, slots := 0, locals := 161 }
theorem in_X4_bidder_n_X4 : ∀ w ∈ wsX40, w ∈ wsX4_bidder := fun w h => List.mem_cons_of_mem _ (List.mem_append_left _ (List.mem_append_left _ (List.mem_append_left _ (List.mem_append_right _ (h)))))
set_option maxHeartbeats 4000000 in
set_option maxRecDepth 100000 in
theorem ok_X4_bidder_n (l : Launch) (D : va_G) (cI cJ : ClassId) (a : Nat → Nat) (sz : Nat) (σ : CS) (p1 : Int32) (p2 : Int32) (post : Int32 → Prop) (hw : wp_X4_bidder σ p1 p2 post (fun _ => False)) : Mi l yX4_bidder wsX4_bidder rm_X4_bidder_n [.ref (a 0), .int p1, .int p2] D (tysIJ cI cJ) (cW cI cJ a σ) sz (fun r (_ : Unit) => post r) (fun _ => cW cI cJ a σ) := by
  refine s_Mi (by decide) rfl (Nat.le_of_ble_eq_true rfl) ?_
  intro p e s m args below meth c A Q hx hb hml hts hown hin hK hA hret H locs ls hW hl
  have hown : s.vm.findClass RX4 = some m.cls := hown
  have hl : lv_has ls 3 [(0, .ref (a 0)), (1, .int p1), (2, .int p2)] := hl
  have hinX4 := in_X4_bidder_n_X4
  refine lv_iload_n hx hb dX4_bidder_0 rfl (lv_at hl 1 rfl) ?_
  refine lv_bipush (v := 6) hx hb dX4_bidder_1 (by decide) ?_
  refine kS_Mv (As := [.int p1, .int 6]) (rest := []) ⟨hx, hb, hml, hown, hts⟩ (ok_X4_needPlace_n l D cI cJ a _ _ _ _ _ hw) (va_cwS 2 hts gX4_bidder_X4_needPlace rfl rfl rfl (by decide +kernel) ⟨Nat.le_of_ble_eq_true rfl, Nat.le_of_ble_eq_true rfl⟩) hK hW hA rfl hl.1 rfl (Nat.le_of_ble_eq_true rfl) dX4_bidder_3 ⟨Nat.le_of_ble_eq_true rfl, Nat.le_of_ble_eq_true rfl⟩ (fun _ H locs hw hW => ?_)
  refine lv_iload_n hx hb dX4_bidder_6 rfl (lv_at hl 2 rfl) ?_
  refine lv_topi (fun w_1 ew_1 => ?_)
  have hw := hw w_1 ew_1
  by_cases hs0 : w_1 = 0
  · have hw := hw.1 hs0
    refine lv_tableIn (tgt := 44) hx hb dX4_bidder_7 (by rw [hs0]; decide) (by rw [hs0]; decide) (by rw [hs0]; rfl) (by decide) ?_
    refine lv_aload_n hx hb dX4_bidder_44 rfl (lv_at hl 0 rfl) ?_
    refine va_get (D := D) (ci := 4) (v := .ref (a 1)) (C := RX4) (T := TX4) (N := 4) hx hb hts hinX4 hown hK hW.1 0 rfl rfl 0 (by decide) (hts _ (List.mem_of_getElem? (i := 3) rfl)) (fun _ h9 => h9) rfl dX4_bidder_45 ?_
    refine lv_bipush (v := 30) hx hb dX4_bidder_48 (by decide) ?_
    refine lv_iload_n hx hb dX4_bidder_50 rfl (lv_at hl 1 rfl) ?_
    refine kV_Mi (As := [.int 30, .int p1]) (rest := []) ⟨hx, hb, hml, hown, hts⟩ (ok_X2_get l D cI cJ a _ _ _ _ _ hw) (cwV 2 hts gX4_bidder_X2_get rfl rfl rfl (by decide +kernel) ⟨Nat.le_of_ble_eq_true rfl, Nat.le_of_ble_eq_true rfl⟩) hK hW hA 1 rfl rfl rfl hl.1 rfl (Nat.le_of_ble_eq_true rfl) dX4_bidder_51 ⟨Nat.le_of_ble_eq_true rfl, Nat.le_of_ble_eq_true rfl⟩ (fun r_2 _ H locs hw hW => ?_)
    exact hret _ () _ _ _ _ hw hW dX4_bidder_54
  have hw := hw.2 hs0
  by_cases hs1 : w_1 = 1
  · have hw := hw.1 hs1
    refine lv_tableIn (tgt := 55) hx hb dX4_bidder_7 (by rw [hs1]; decide) (by rw [hs1]; decide) (by rw [hs1]; rfl) (by decide) ?_
    refine lv_aload_n hx hb dX4_bidder_55 rfl (lv_at hl 0 rfl) ?_
    refine va_get (D := D) (ci := 4) (v := .ref (a 1)) (C := RX4) (T := TX4) (N := 4) hx hb hts hinX4 hown hK hW.1 0 rfl rfl 0 (by decide) (hts _ (List.mem_of_getElem? (i := 3) rfl)) (fun _ h9 => h9) rfl dX4_bidder_56 ?_
    refine lv_bipush (v := 36) hx hb dX4_bidder_59 (by decide) ?_
    refine lv_iload_n hx hb dX4_bidder_61 rfl (lv_at hl 1 rfl) ?_
    refine kV_Mi (As := [.int 36, .int p1]) (rest := []) ⟨hx, hb, hml, hown, hts⟩ (ok_X2_get l D cI cJ a _ _ _ _ _ hw) (cwV 2 hts gX4_bidder_X2_get rfl rfl rfl (by decide +kernel) ⟨Nat.le_of_ble_eq_true rfl, Nat.le_of_ble_eq_true rfl⟩) hK hW hA 1 rfl rfl rfl hl.1 rfl (Nat.le_of_ble_eq_true rfl) dX4_bidder_62 ⟨Nat.le_of_ble_eq_true rfl, Nat.le_of_ble_eq_true rfl⟩ (fun r_3 _ H locs hw hW => ?_)
    exact hret _ () _ _ _ _ hw hW dX4_bidder_65
  have hw := hw.2 hs1
  by_cases hs2 : w_1 = 2
  · have hw := hw.1 hs2
    refine lv_tableIn (tgt := 66) hx hb dX4_bidder_7 (by rw [hs2]; decide) (by rw [hs2]; decide) (by rw [hs2]; rfl) (by decide) ?_
    refine lv_aload_n hx hb dX4_bidder_66 rfl (lv_at hl 0 rfl) ?_
    refine va_get (D := D) (ci := 4) (v := .ref (a 1)) (C := RX4) (T := TX4) (N := 4) hx hb hts hinX4 hown hK hW.1 0 rfl rfl 0 (by decide) (hts _ (List.mem_of_getElem? (i := 3) rfl)) (fun _ h9 => h9) rfl dX4_bidder_67 ?_
    refine lv_iload_n hx hb dX4_bidder_70 rfl (lv_at hl 1 rfl) ?_
    refine kV_Mi (As := [.int p1]) (rest := []) ⟨hx, hb, hml, hown, hts⟩ (ok_X2_bidsOfBidder l D cI cJ a _ _ _ _ hw) (cwV 1 hts gX4_bidder_X2_bidsOfBidder rfl rfl rfl (by decide +kernel) ⟨Nat.le_of_ble_eq_true rfl, Nat.le_of_ble_eq_true rfl⟩) hK hW hA 1 rfl rfl rfl hl.1 rfl (Nat.le_of_ble_eq_true rfl) dX4_bidder_71 ⟨Nat.le_of_ble_eq_true rfl, Nat.le_of_ble_eq_true rfl⟩ (fun r_4 _ H locs hw hW => ?_)
    exact hret _ () _ _ _ _ hw hW dX4_bidder_74
  have hw := hw.2 hs2
  by_cases hs3 : w_1 = 3
  · have hw := hw.1 hs3
    refine lv_tableIn (tgt := 75) hx hb dX4_bidder_7 (by rw [hs3]; decide) (by rw [hs3]; decide) (by rw [hs3]; rfl) (by decide) ?_
    refine lv_aload_n hx hb dX4_bidder_75 rfl (lv_at hl 0 rfl) ?_
    refine va_get (D := D) (ci := 4) (v := .ref (a 1)) (C := RX4) (T := TX4) (N := 4) hx hb hts hinX4 hown hK hW.1 0 rfl rfl 0 (by decide) (hts _ (List.mem_of_getElem? (i := 3) rfl)) (fun _ h9 => h9) rfl dX4_bidder_76 ?_
    refine lv_iload_n hx hb dX4_bidder_79 rfl (lv_at hl 1 rfl) ?_
    refine kV_Mi (As := [.int p1]) (rest := []) ⟨hx, hb, hml, hown, hts⟩ (ok_X2_spotOfOwner l D cI cJ a _ _ _ _ hw) (cwV 1 hts gX4_bidder_X2_spotOfOwner rfl rfl rfl (by decide +kernel) ⟨Nat.le_of_ble_eq_true rfl, Nat.le_of_ble_eq_true rfl⟩) hK hW hA 1 rfl rfl rfl hl.1 rfl (Nat.le_of_ble_eq_true rfl) dX4_bidder_80 ⟨Nat.le_of_ble_eq_true rfl, Nat.le_of_ble_eq_true rfl⟩ (fun r_5 _ H locs hw hW => ?_)
    exact hret _ () _ _ _ _ hw hW dX4_bidder_83
  have hw := hw.2 hs3
  by_cases hs4 : w_1 = 4
  · have hw := hw.1 hs4
    refine lv_tableIn (tgt := 84) hx hb dX4_bidder_7 (by rw [hs4]; decide) (by rw [hs4]; decide) (by rw [hs4]; rfl) (by decide) ?_
    refine lv_aload_n hx hb dX4_bidder_84 rfl (lv_at hl 0 rfl) ?_
    refine va_get (D := D) (ci := 4) (v := .ref (a 1)) (C := RX4) (T := TX4) (N := 4) hx hb hts hinX4 hown hK hW.1 0 rfl rfl 0 (by decide) (hts _ (List.mem_of_getElem? (i := 3) rfl)) (fun _ h9 => h9) rfl dX4_bidder_85 ?_
    refine lv_bipush (v := 42) hx hb dX4_bidder_88 (by decide) ?_
    refine lv_iload_n hx hb dX4_bidder_90 rfl (lv_at hl 1 rfl) ?_
    refine kV_Mi (As := [.int 42, .int p1]) (rest := []) ⟨hx, hb, hml, hown, hts⟩ (ok_X2_get l D cI cJ a _ _ _ _ _ hw) (cwV 2 hts gX4_bidder_X2_get rfl rfl rfl (by decide +kernel) ⟨Nat.le_of_ble_eq_true rfl, Nat.le_of_ble_eq_true rfl⟩) hK hW hA 1 rfl rfl rfl hl.1 rfl (Nat.le_of_ble_eq_true rfl) dX4_bidder_91 ⟨Nat.le_of_ble_eq_true rfl, Nat.le_of_ble_eq_true rfl⟩ (fun r_6 _ H locs hw hW => ?_)
    exact hret _ () _ _ _ _ hw hW dX4_bidder_94
  have hw := hw.2 hs4
  by_cases hs5 : w_1 = 5
  · have hw := hw.1 hs5
    refine lv_tableIn (tgt := 95) hx hb dX4_bidder_7 (by rw [hs5]; decide) (by rw [hs5]; decide) (by rw [hs5]; rfl) (by decide) ?_
    refine lv_aload_n hx hb dX4_bidder_95 rfl (lv_at hl 0 rfl) ?_
    refine va_get (D := D) (ci := 4) (v := .ref (a 1)) (C := RX4) (T := TX4) (N := 4) hx hb hts hinX4 hown hK hW.1 0 rfl rfl 0 (by decide) (hts _ (List.mem_of_getElem? (i := 3) rfl)) (fun _ h9 => h9) rfl dX4_bidder_96 ?_
    refine lv_bipush (v := 48) hx hb dX4_bidder_99 (by decide) ?_
    refine lv_iload_n hx hb dX4_bidder_101 rfl (lv_at hl 1 rfl) ?_
    refine kV_Mi (As := [.int 48, .int p1]) (rest := []) ⟨hx, hb, hml, hown, hts⟩ (ok_X2_get l D cI cJ a _ _ _ _ _ hw) (cwV 2 hts gX4_bidder_X2_get rfl rfl rfl (by decide +kernel) ⟨Nat.le_of_ble_eq_true rfl, Nat.le_of_ble_eq_true rfl⟩) hK hW hA 1 rfl rfl rfl hl.1 rfl (Nat.le_of_ble_eq_true rfl) dX4_bidder_102 ⟨Nat.le_of_ble_eq_true rfl, Nat.le_of_ble_eq_true rfl⟩ (fun r_7 _ H locs hw hW => ?_)
    exact hret _ () _ _ _ _ hw hW dX4_bidder_105
  have hw := hw.2 hs5
  refine lv_tableOut (tgt := 106) hx hb dX4_bidder_7 (by have q0 := lv_neT hs0 (a := 0) (by decide); have q1 := lv_neT hs1 (a := 1) (by decide); have q2 := lv_neT hs2 (a := 2) (by decide); have q3 := lv_neT hs3 (a := 3) (by decide); have q4 := lv_neT hs4 (a := 4) (by decide); have q5 := lv_neT hs5 (a := 5) (by decide); omega) (by decide) ?_
  exact hw.elim
def wp_X4_numberOfBid (σ : CS) (p1 : Int32) (p2 : Int32) (p3 : Int32) (post : Int32 → Prop) : Prop := ∀ w_1 : Int32, w_1 = p3 → ((w_1 = 0 → wp_X2_ofBid σ 90 p1 p2 (fun r_2 => post r_2)) ∧ (¬ w_1 = 0 → ((w_1 = 1 → wp_X2_ofBid σ 126 p1 p2 (fun r_3 => post r_3)) ∧ (¬ w_1 = 1 → ((w_1 = 2 → wp_X2_isOpened σ (fun r_4 => ((r_4 = 0 → post (-1)) ∧ (¬ r_4 = 0 → wp_X2_ofBid σ 54 p1 p2 (fun r_5 => post r_5))))) ∧ (¬ w_1 = 2 → wp_X2_feeFor σ p1 p2 (fun r_6 => post r_6)))))))
abbrev rm_X4_numberOfBid : Room := { frames := 3, cells := 0, slots := 0, locals := 69 }
theorem in_X4_numberOfBid_X4 : ∀ w ∈ wsX40, w ∈ wsX4_numberOfBid := fun w h => List.mem_cons_of_mem _ (List.mem_append_left _ (List.mem_append_right _ (h)))
set_option maxHeartbeats 4000000 in
set_option maxRecDepth 100000 in
theorem ok_X4_numberOfBid (l : Launch) (D : va_G) (cI cJ : ClassId) (a : Nat → Nat) (sz : Nat) (σ : CS) (p1 : Int32) (p2 : Int32) (p3 : Int32) (post : Int32 → Prop) (hw : wp_X4_numberOfBid σ p1 p2 p3 post) : Mi l yX4_numberOfBid wsX4_numberOfBid rm_X4_numberOfBid [.ref (a 0), .int p1, .int p2, .int p3] D (tysIJ cI cJ) (cW cI cJ a σ) sz (fun r (_ : Unit) => post r) (fun _ => cW cI cJ a σ) := by
  refine s_Mi (by decide) rfl (Nat.le_of_ble_eq_true rfl) ?_
  intro p e s m args below meth c A Q hx hb hml hts hown hin hK hA hret H locs ls hW hl
  have hown : s.vm.findClass RX4 = some m.cls := hown
  have hl : lv_has ls 4 [(0, .ref (a 0)), (1, .int p1), (2, .int p2), (3, .int p3)] := hl
  have hinX4 := in_X4_numberOfBid_X4
  refine lv_iload_n hx hb dX4_numberOfBid_0 rfl (lv_at hl 3 rfl) ?_
  refine lv_topi (fun w_1 ew_1 => ?_)
  have hw := hw w_1 ew_1
  by_cases hs0 : w_1 = 0
  · have hw := hw.1 hs0
    refine lv_tableIn (tgt := 28) hx hb dX4_numberOfBid_1 (by rw [hs0]; decide) (by rw [hs0]; decide) (by rw [hs0]; rfl) (by decide) ?_
    refine lv_aload_n hx hb dX4_numberOfBid_28 rfl (lv_at hl 0 rfl) ?_
    refine va_get (D := D) (ci := 4) (v := .ref (a 1)) (C := RX4) (T := TX4) (N := 4) hx hb hts hinX4 hown hK hW.1 0 rfl rfl 0 (by decide) (hts _ (List.mem_of_getElem? (i := 1) rfl)) (fun _ h9 => h9) rfl dX4_numberOfBid_29 ?_
    refine lv_bipush (v := 90) hx hb dX4_numberOfBid_32 (by decide) ?_
    refine lv_iload_n hx hb dX4_numberOfBid_34 rfl (lv_at hl 1 rfl) ?_
    refine lv_iload_n hx hb dX4_numberOfBid_35 rfl (lv_at hl 2 rfl) ?_
    refine kV_Mi (As := [.int 90, .int p1, .int p2]) (rest := []) ⟨hx, hb, hml, hown, hts⟩ (ok_X2_ofBid l D cI cJ a _ _ _ _ _ _ hw) (cwV 3 hts gX4_numberOfBid_X2_ofBid rfl rfl rfl (by decide +kernel) ⟨Nat.le_of_ble_eq_true rfl, Nat.le_of_ble_eq_true rfl⟩) hK hW hA 1 rfl rfl rfl hl.1 rfl (Nat.le_of_ble_eq_true rfl) dX4_numberOfBid_36 ⟨Nat.le_of_ble_eq_true rfl, Nat.le_of_ble_eq_true rfl⟩ (fun r_2 _ H locs hw hW => ?_)
    exact hret _ () _ _ _ _ hw hW dX4_numberOfBid_39
  have hw := hw.2 hs0
  by_cases hs1 : w_1 = 1
  · have hw := hw.1 hs1
    refine lv_tableIn (tgt := 40) hx hb dX4_numberOfBid_1 (by rw [hs1]; decide) (by rw [hs1]; decide) (by rw [hs1]; rfl) (by decide) ?_
    refine lv_aload_n hx hb dX4_numberOfBid_40 rfl (lv_at hl 0 rfl) ?_
    refine va_get (D := D) (ci := 4) (v := .ref (a 1)) (C := RX4) (T := TX4) (N := 4) hx hb hts hinX4 hown hK hW.1 0 rfl rfl 0 (by decide) (hts _ (List.mem_of_getElem? (i := 1) rfl)) (fun _ h9 => h9) rfl dX4_numberOfBid_41 ?_
    refine lv_bipush (v := 126) hx hb dX4_numberOfBid_44 (by decide) ?_
    refine lv_iload_n hx hb dX4_numberOfBid_46 rfl (lv_at hl 1 rfl) ?_
    refine lv_iload_n hx hb dX4_numberOfBid_47 rfl (lv_at hl 2 rfl) ?_
    refine kV_Mi (As := [.int 126, .int p1, .int p2]) (rest := []) ⟨hx, hb, hml, hown, hts⟩ (ok_X2_ofBid l D cI cJ a _ _ _ _ _ _ hw) (cwV 3 hts gX4_numberOfBid_X2_ofBid rfl rfl rfl (by decide +kernel) ⟨Nat.le_of_ble_eq_true rfl, Nat.le_of_ble_eq_true rfl⟩) hK hW hA 1 rfl rfl rfl hl.1 rfl (Nat.le_of_ble_eq_true rfl) dX4_numberOfBid_48 ⟨Nat.le_of_ble_eq_true rfl, Nat.le_of_ble_eq_true rfl⟩ (fun r_3 _ H locs hw hW => ?_)
    exact hret _ () _ _ _ _ hw hW dX4_numberOfBid_51
  have hw := hw.2 hs1
  by_cases hs2 : w_1 = 2
  · have hw := hw.1 hs2
    refine lv_tableIn (tgt := 52) hx hb dX4_numberOfBid_1 (by rw [hs2]; decide) (by rw [hs2]; decide) (by rw [hs2]; rfl) (by decide) ?_
    refine lv_aload_n hx hb dX4_numberOfBid_52 rfl (lv_at hl 0 rfl) ?_
    refine va_get (D := D) (ci := 4) (v := .ref (a 1)) (C := RX4) (T := TX4) (N := 4) hx hb hts hinX4 hown hK hW.1 0 rfl rfl 0 (by decide) (hts _ (List.mem_of_getElem? (i := 1) rfl)) (fun _ h9 => h9) rfl dX4_numberOfBid_53 ?_
    refine kV_Mi (As := []) (rest := []) ⟨hx, hb, hml, hown, hts⟩ (ok_X2_isOpened l D cI cJ a _ _ _ hw) (cwV 0 hts gX4_numberOfBid_X2_isOpened rfl rfl rfl (by decide +kernel) ⟨Nat.le_of_ble_eq_true rfl, Nat.le_of_ble_eq_true rfl⟩) hK hW hA 1 rfl rfl rfl hl.1 rfl (Nat.le_of_ble_eq_true rfl) dX4_numberOfBid_56 ⟨Nat.le_of_ble_eq_true rfl, Nat.le_of_ble_eq_true rfl⟩ (fun r_4 _ H locs hw hW => ?_)
    refine lv_if_eq (tgt := 76) hx hb dX4_numberOfBid_59 (by decide) (fun hc => ?_) (fun hc => ?_)
    · have hw := hw.1 hc
      refine lv_iconst (v := (-1)) hx hb dX4_numberOfBid_76 (by decide) ?_
      exact hret _ () _ _ _ _ hw hW dX4_numberOfBid_77
    · have hw := hw.2 hc
      refine lv_aload_n hx hb dX4_numberOfBid_62 rfl (lv_at hl 0 rfl) ?_
      refine va_get (D := D) (ci := 4) (v := .ref (a 1)) (C := RX4) (T := TX4) (N := 4) hx hb hts hinX4 hown hK hW.1 0 rfl rfl 0 (by decide) (hts _ (List.mem_of_getElem? (i := 1) rfl)) (fun _ h9 => h9) rfl dX4_numberOfBid_63 ?_
      refine lv_bipush (v := 54) hx hb dX4_numberOfBid_66 (by decide) ?_
      refine lv_iload_n hx hb dX4_numberOfBid_68 rfl (lv_at hl 1 rfl) ?_
      refine lv_iload_n hx hb dX4_numberOfBid_69 rfl (lv_at hl 2 rfl) ?_
      refine kV_Mi (As := [.int 54, .int p1, .int p2]) (rest := []) ⟨hx, hb, hml, hown, hts⟩ (ok_X2_ofBid l D cI cJ a _ _ _ _ _ _ hw) (cwV 3 hts gX4_numberOfBid_X2_ofBid rfl rfl rfl (by decide +kernel) ⟨Nat.le_of_ble_eq_true rfl, Nat.le_of_ble_eq_true rfl⟩) hK hW hA 1 rfl rfl rfl hl.1 rfl (Nat.le_of_ble_eq_true rfl) dX4_numberOfBid_70 ⟨Nat.le_of_ble_eq_true rfl, Nat.le_of_ble_eq_true rfl⟩ (fun r_5 _ H locs hw hW => ?_)
      refine lv_goto (tgt := 77) hx hb dX4_numberOfBid_73 (by decide) ?_
      exact hret _ () _ _ _ _ hw hW dX4_numberOfBid_77
  have hw := hw.2 hs2
  refine lv_tableOut (tgt := 78) hx hb dX4_numberOfBid_1 (by have q0 := lv_neT hs0 (a := 0) (by decide); have q1 := lv_neT hs1 (a := 1) (by decide); have q2 := lv_neT hs2 (a := 2) (by decide); omega) (by decide) ?_
  refine lv_aload_n hx hb dX4_numberOfBid_78 rfl (lv_at hl 0 rfl) ?_
  refine va_get (D := D) (ci := 4) (v := .ref (a 1)) (C := RX4) (T := TX4) (N := 4) hx hb hts hinX4 hown hK hW.1 0 rfl rfl 0 (by decide) (hts _ (List.mem_of_getElem? (i := 1) rfl)) (fun _ h9 => h9) rfl dX4_numberOfBid_79 ?_
  refine lv_iload_n hx hb dX4_numberOfBid_82 rfl (lv_at hl 1 rfl) ?_
  refine lv_iload_n hx hb dX4_numberOfBid_83 rfl (lv_at hl 2 rfl) ?_
  refine kV_Mi (As := [.int p1, .int p2]) (rest := []) ⟨hx, hb, hml, hown, hts⟩ (ok_X2_feeFor l D cI cJ a _ _ _ _ _ hw) (cwV 2 hts gX4_numberOfBid_X2_feeFor rfl rfl rfl (by decide +kernel) ⟨Nat.le_of_ble_eq_true rfl, Nat.le_of_ble_eq_true rfl⟩) hK hW hA 1 rfl rfl rfl hl.1 rfl (Nat.le_of_ble_eq_true rfl) dX4_numberOfBid_84 ⟨Nat.le_of_ble_eq_true rfl, Nat.le_of_ble_eq_true rfl⟩ (fun r_6 _ H locs hw hW => ?_)
  exact hret _ () _ _ _ _ hw hW dX4_numberOfBid_87
def wp_X4_sealed (σ : CS) (p1 : Int32) (p2 : Int32) (p3 : Int32) (post : Int32 → Prop) (px : String → Prop) : Prop := wp_X4_needPlace σ p1 6 (wp_X4_needPlace σ p2 6 (wp_X4_needRange σ p3 0 4 (((¬ p3 = 4 → wp_X2_hasBid σ p1 p2 (fun r_1 => ((r_1 = 0 → post (-1)) ∧ (¬ r_1 = 0 → wp_X4_numberOfBid σ p1 p2 p3 (fun r_2 => post r_2))))) ∧ (p3 = 4 → wp_X2_whyNotWithdrawn σ p1 p2 (fun r_3 => post r_3)))) px) px) px
abbrev rm_X4_sealed : Room := { frames := 9, cells := 3, slots := 18, locals := 162 }
theorem in_X4_sealed_X4 : ∀ w ∈ wsX40, w ∈ wsX4_sealed := fun w h => List.mem_cons_of_mem _ (List.mem_append_left _ (List.mem_append_left _ (List.mem_append_left _ (List.mem_append_right _ (h)))))
set_option maxHeartbeats 4000000 in
set_option maxRecDepth 100000 in
theorem ok_X4_sealed (l : Launch) (hst : l.stackTraces = false) (D : va_G) (cI cJ : ClassId) (a : Nat → Nat) (sz : Nat) (σ : CS) (p1 : Int32) (p2 : Int32) (p3 : Int32) (post : Int32 → Prop) (px : String → Prop) (hw : wp_X4_sealed σ p1 p2 p3 post px) : Xi l yX4_sealed wsX4_sealed rm_X4_sealed [.ref (a 0), .int p1, .int p2, .int p3] D (tysIJ cI cJ) (cW cI cJ a σ) sz (fun r (_ : Unit) => post r) (fun _ => cW cI cJ a σ) px 3 18 := by
  refine s_Xi hst (by decide) rfl (Nat.le_of_ble_eq_true rfl) ?_
  intro p e s m args below meth c A Q hx hb hml hts hown hin hK hA hz hs hret hpass hthr1 hthr2 H locs ls hW hl
  have hown : s.vm.findClass RX4 = some m.cls := hown
  have hl : lv_has ls 4 [(0, .ref (a 0)), (1, .int p1), (2, .int p2), (3, .int p3)] := hl
  have hinX4 := in_X4_sealed_X4
  refine lv_iload_n hx hb dX4_sealed_0 rfl (lv_at hl 1 rfl) ?_
  refine lv_bipush (v := 6) hx hb dX4_sealed_1 (by decide) ?_
  refine kS_Xv (As := [.int p1, .int 6]) (rest := []) ⟨hx, hb, hml, hown, hts⟩ (ok_X4_needPlace l hst D cI cJ a _ _ _ _ _ _ hw) (va_cwS 2 hts gX4_sealed_X4_needPlace rfl rfl rfl (by decide +kernel) ⟨(Nat.le_of_ble_eq_true rfl), (Nat.le_of_ble_eq_true rfl)⟩) hK hW hA hz hs rfl hl.1 rfl (Nat.le_of_ble_eq_true rfl) dX4_sealed_3 ⟨(Nat.le_of_ble_eq_true rfl), (Nat.le_of_ble_eq_true rfl)⟩ (fun E ce q H locs hE hW h1 h2 h3 => hpass E ce q H locs _ _ _ _ _ (Nat.le_of_ble_eq_true rfl) (Nat.le_of_ble_eq_true rfl) hE hW h1 h2 h3) (fun _ H locs hw hW => ?_)
  refine lv_iload_n hx hb dX4_sealed_6 rfl (lv_at hl 2 rfl) ?_
  refine lv_bipush (v := 6) hx hb dX4_sealed_7 (by decide) ?_
  refine kS_Xv (As := [.int p2, .int 6]) (rest := []) ⟨hx, hb, hml, hown, hts⟩ (ok_X4_needPlace l hst D cI cJ a _ _ _ _ _ _ hw) (va_cwS 2 hts gX4_sealed_X4_needPlace rfl rfl rfl (by decide +kernel) ⟨(Nat.le_of_ble_eq_true rfl), (Nat.le_of_ble_eq_true rfl)⟩) hK hW hA hz hs rfl hl.1 rfl (Nat.le_of_ble_eq_true rfl) dX4_sealed_9 ⟨(Nat.le_of_ble_eq_true rfl), (Nat.le_of_ble_eq_true rfl)⟩ (fun E ce q H locs hE hW h1 h2 h3 => hpass E ce q H locs _ _ _ _ _ (Nat.le_of_ble_eq_true rfl) (Nat.le_of_ble_eq_true rfl) hE hW h1 h2 h3) (fun _ H locs hw hW => ?_)
  refine lv_iload_n hx hb dX4_sealed_12 rfl (lv_at hl 3 rfl) ?_
  refine lv_iconst (v := 0) hx hb dX4_sealed_13 (by decide) ?_
  refine lv_iconst (v := 4) hx hb dX4_sealed_14 (by decide) ?_
  refine kS_Xv (As := [.int p3, .int 0, .int 4]) (rest := []) ⟨hx, hb, hml, hown, hts⟩ (ok_X4_needRange l hst D cI cJ a _ _ _ _ _ _ _ hw) (va_cwS 3 hts gX4_sealed_X4_needRange rfl rfl rfl (by decide +kernel) ⟨(Nat.le_of_ble_eq_true rfl), (Nat.le_of_ble_eq_true rfl)⟩) hK hW hA hz hs rfl hl.1 rfl (Nat.le_of_ble_eq_true rfl) dX4_sealed_15 ⟨(Nat.le_of_ble_eq_true rfl), (Nat.le_of_ble_eq_true rfl)⟩ (fun E ce q H locs hE hW h1 h2 h3 => hpass E ce q H locs _ _ _ _ _ (Nat.le_of_ble_eq_true rfl) (Nat.le_of_ble_eq_true rfl) hE hW h1 h2 h3) (fun _ H locs hw hW => ?_)
  refine lv_iload_n hx hb dX4_sealed_18 rfl (lv_at hl 3 rfl) ?_
  refine lv_iconst (v := 4) hx hb dX4_sealed_19 (by decide) ?_
  refine lv_icmp_ne (tgt := 33) hx hb dX4_sealed_20 (by decide) (fun hc => ?_) (fun hc => ?_)
  · have hw := hw.1 hc
    refine lv_aload_n hx hb dX4_sealed_33 rfl (lv_at hl 0 rfl) ?_
    refine va_get (D := D) (ci := 4) (v := .ref (a 1)) (C := RX4) (T := TX4) (N := 4) hx hb hts hinX4 hown hK hW.1 0 rfl rfl 0 (by decide) (hts _ (List.mem_of_getElem? (i := 1) rfl)) (fun _ h9 => h9) rfl dX4_sealed_34 ?_
    refine lv_iload_n hx hb dX4_sealed_37 rfl (lv_at hl 1 rfl) ?_
    refine lv_iload_n hx hb dX4_sealed_38 rfl (lv_at hl 2 rfl) ?_
    refine kV_Mi (As := [.int p1, .int p2]) (rest := []) ⟨hx, hb, hml, hown, hts⟩ (ok_X2_hasBid l D cI cJ a _ _ _ _ _ hw) (cwV 2 hts gX4_sealed_X2_hasBid rfl rfl rfl (by decide +kernel) ⟨Nat.le_of_ble_eq_true rfl, Nat.le_of_ble_eq_true rfl⟩) hK hW hA 1 rfl rfl rfl hl.1 rfl (Nat.le_of_ble_eq_true rfl) dX4_sealed_39 ⟨Nat.le_of_ble_eq_true rfl, Nat.le_of_ble_eq_true rfl⟩ (fun r_1 _ H locs hw hW => ?_)
    refine lv_if_eq (tgt := 55) hx hb dX4_sealed_42 (by decide) (fun hc => ?_) (fun hc => ?_)
    · have hw := hw.1 hc
      refine lv_iconst (v := (-1)) hx hb dX4_sealed_55 (by decide) ?_
      exact hret _ () _ _ _ _ _ _ (Nat.le_of_ble_eq_true rfl) (Nat.le_of_ble_eq_true rfl) hw hW dX4_sealed_56
    · have hw := hw.2 hc
      refine lv_aload_n hx hb dX4_sealed_45 rfl (lv_at hl 0 rfl) ?_
      refine lv_iload_n hx hb dX4_sealed_46 rfl (lv_at hl 1 rfl) ?_
      refine lv_iload_n hx hb dX4_sealed_47 rfl (lv_at hl 2 rfl) ?_
      refine lv_iload_n hx hb dX4_sealed_48 rfl (lv_at hl 3 rfl) ?_
      refine kV_Mi (As := [.int p1, .int p2, .int p3]) (rest := []) ⟨hx, hb, hml, hown, hts⟩ (ok_X4_numberOfBid l D cI cJ a _ _ _ _ _ _ hw) (cwV 3 hts gX4_sealed_X4_numberOfBid rfl rfl rfl (by decide +kernel) ⟨Nat.le_of_ble_eq_true rfl, Nat.le_of_ble_eq_true rfl⟩) hK hW hA 0 rfl rfl rfl hl.1 rfl (Nat.le_of_ble_eq_true rfl) dX4_sealed_49 ⟨Nat.le_of_ble_eq_true rfl, Nat.le_of_ble_eq_true rfl⟩ (fun r_2 _ H locs hw hW => ?_)
      refine lv_goto (tgt := 56) hx hb dX4_sealed_52 (by decide) ?_
      exact hret _ () _ _ _ _ _ _ (Nat.le_of_ble_eq_true rfl) (Nat.le_of_ble_eq_true rfl) hw hW dX4_sealed_56
  · have hw := hw.2 hc
    refine lv_aload_n hx hb dX4_sealed_23 rfl (lv_at hl 0 rfl) ?_
    refine va_get (D := D) (ci := 4) (v := .ref (a 1)) (C := RX4) (T := TX4) (N := 4) hx hb hts hinX4 hown hK hW.1 0 rfl rfl 0 (by decide) (hts _ (List.mem_of_getElem? (i := 1) rfl)) (fun _ h9 => h9) rfl dX4_sealed_24 ?_
    refine lv_iload_n hx hb dX4_sealed_27 rfl (lv_at hl 1 rfl) ?_
    refine lv_iload_n hx hb dX4_sealed_28 rfl (lv_at hl 2 rfl) ?_
    refine kV_Mi (As := [.int p1, .int p2]) (rest := []) ⟨hx, hb, hml, hown, hts⟩ (ok_X2_whyNotWithdrawn l D cI cJ a _ _ _ _ _ hw) (cwV 2 hts gX4_sealed_X2_whyNotWithdrawn rfl rfl rfl (by decide +kernel) ⟨Nat.le_of_ble_eq_true rfl, Nat.le_of_ble_eq_true rfl⟩) hK hW hA 1 rfl rfl rfl hl.1 rfl (Nat.le_of_ble_eq_true rfl) dX4_sealed_29 ⟨Nat.le_of_ble_eq_true rfl, Nat.le_of_ble_eq_true rfl⟩ (fun r_3 _ H locs hw hW => ?_)
    exact hret _ () _ _ _ _ _ _ (Nat.le_of_ble_eq_true rfl) (Nat.le_of_ble_eq_true rfl) hw hW dX4_sealed_32
abbrev rm_X4_sealed_n : Room := { frames := 9, cells := 0, slots := 0, locals := 162 }
theorem in_X4_sealed_n_X4 : ∀ w ∈ wsX40, w ∈ wsX4_sealed := fun w h => List.mem_cons_of_mem _ (List.mem_append_left _ (List.mem_append_left _ (List.mem_append_left _ (List.mem_append_right _ (h)))))
set_option maxHeartbeats 4000000 in
set_option maxRecDepth 100000 in
theorem ok_X4_sealed_n (l : Launch) (D : va_G) (cI cJ : ClassId) (a : Nat → Nat) (sz : Nat) (σ : CS) (p1 : Int32) (p2 : Int32) (p3 : Int32) (post : Int32 → Prop) (hw : wp_X4_sealed σ p1 p2 p3 post (fun _ => False)) : Mi l yX4_sealed wsX4_sealed rm_X4_sealed_n [.ref (a 0), .int p1, .int p2, .int p3] D (tysIJ cI cJ) (cW cI cJ a σ) sz (fun r (_ : Unit) => post r) (fun _ => cW cI cJ a σ) := by
  refine s_Mi (by decide) rfl (Nat.le_of_ble_eq_true rfl) ?_
  intro p e s m args below meth c A Q hx hb hml hts hown hin hK hA hret H locs ls hW hl
  have hown : s.vm.findClass RX4 = some m.cls := hown
  have hl : lv_has ls 4 [(0, .ref (a 0)), (1, .int p1), (2, .int p2), (3, .int p3)] := hl
  have hinX4 := in_X4_sealed_n_X4
  refine lv_iload_n hx hb dX4_sealed_0 rfl (lv_at hl 1 rfl) ?_
  refine lv_bipush (v := 6) hx hb dX4_sealed_1 (by decide) ?_
  refine kS_Mv (As := [.int p1, .int 6]) (rest := []) ⟨hx, hb, hml, hown, hts⟩ (ok_X4_needPlace_n l D cI cJ a _ _ _ _ _ hw) (va_cwS 2 hts gX4_sealed_X4_needPlace rfl rfl rfl (by decide +kernel) ⟨Nat.le_of_ble_eq_true rfl, Nat.le_of_ble_eq_true rfl⟩) hK hW hA rfl hl.1 rfl (Nat.le_of_ble_eq_true rfl) dX4_sealed_3 ⟨Nat.le_of_ble_eq_true rfl, Nat.le_of_ble_eq_true rfl⟩ (fun _ H locs hw hW => ?_)
  refine lv_iload_n hx hb dX4_sealed_6 rfl (lv_at hl 2 rfl) ?_
  refine lv_bipush (v := 6) hx hb dX4_sealed_7 (by decide) ?_
  refine kS_Mv (As := [.int p2, .int 6]) (rest := []) ⟨hx, hb, hml, hown, hts⟩ (ok_X4_needPlace_n l D cI cJ a _ _ _ _ _ hw) (va_cwS 2 hts gX4_sealed_X4_needPlace rfl rfl rfl (by decide +kernel) ⟨Nat.le_of_ble_eq_true rfl, Nat.le_of_ble_eq_true rfl⟩) hK hW hA rfl hl.1 rfl (Nat.le_of_ble_eq_true rfl) dX4_sealed_9 ⟨Nat.le_of_ble_eq_true rfl, Nat.le_of_ble_eq_true rfl⟩ (fun _ H locs hw hW => ?_)
  refine lv_iload_n hx hb dX4_sealed_12 rfl (lv_at hl 3 rfl) ?_
  refine lv_iconst (v := 0) hx hb dX4_sealed_13 (by decide) ?_
  refine lv_iconst (v := 4) hx hb dX4_sealed_14 (by decide) ?_
  refine kS_Mv (As := [.int p3, .int 0, .int 4]) (rest := []) ⟨hx, hb, hml, hown, hts⟩ (ok_X4_needRange_n l D cI cJ a _ _ _ _ _ _ hw) (va_cwS 3 hts gX4_sealed_X4_needRange rfl rfl rfl (by decide +kernel) ⟨Nat.le_of_ble_eq_true rfl, Nat.le_of_ble_eq_true rfl⟩) hK hW hA rfl hl.1 rfl (Nat.le_of_ble_eq_true rfl) dX4_sealed_15 ⟨Nat.le_of_ble_eq_true rfl, Nat.le_of_ble_eq_true rfl⟩ (fun _ H locs hw hW => ?_)
  refine lv_iload_n hx hb dX4_sealed_18 rfl (lv_at hl 3 rfl) ?_
  refine lv_iconst (v := 4) hx hb dX4_sealed_19 (by decide) ?_
  refine lv_icmp_ne (tgt := 33) hx hb dX4_sealed_20 (by decide) (fun hc => ?_) (fun hc => ?_)
  · have hw := hw.1 hc
    refine lv_aload_n hx hb dX4_sealed_33 rfl (lv_at hl 0 rfl) ?_
    refine va_get (D := D) (ci := 4) (v := .ref (a 1)) (C := RX4) (T := TX4) (N := 4) hx hb hts hinX4 hown hK hW.1 0 rfl rfl 0 (by decide) (hts _ (List.mem_of_getElem? (i := 1) rfl)) (fun _ h9 => h9) rfl dX4_sealed_34 ?_
    refine lv_iload_n hx hb dX4_sealed_37 rfl (lv_at hl 1 rfl) ?_
    refine lv_iload_n hx hb dX4_sealed_38 rfl (lv_at hl 2 rfl) ?_
    refine kV_Mi (As := [.int p1, .int p2]) (rest := []) ⟨hx, hb, hml, hown, hts⟩ (ok_X2_hasBid l D cI cJ a _ _ _ _ _ hw) (cwV 2 hts gX4_sealed_X2_hasBid rfl rfl rfl (by decide +kernel) ⟨Nat.le_of_ble_eq_true rfl, Nat.le_of_ble_eq_true rfl⟩) hK hW hA 1 rfl rfl rfl hl.1 rfl (Nat.le_of_ble_eq_true rfl) dX4_sealed_39 ⟨Nat.le_of_ble_eq_true rfl, Nat.le_of_ble_eq_true rfl⟩ (fun r_1 _ H locs hw hW => ?_)
    refine lv_if_eq (tgt := 55) hx hb dX4_sealed_42 (by decide) (fun hc => ?_) (fun hc => ?_)
    · have hw := hw.1 hc
      refine lv_iconst (v := (-1)) hx hb dX4_sealed_55 (by decide) ?_
      exact hret _ () _ _ _ _ hw hW dX4_sealed_56
    · have hw := hw.2 hc
      refine lv_aload_n hx hb dX4_sealed_45 rfl (lv_at hl 0 rfl) ?_
      refine lv_iload_n hx hb dX4_sealed_46 rfl (lv_at hl 1 rfl) ?_
      refine lv_iload_n hx hb dX4_sealed_47 rfl (lv_at hl 2 rfl) ?_
      refine lv_iload_n hx hb dX4_sealed_48 rfl (lv_at hl 3 rfl) ?_
      refine kV_Mi (As := [.int p1, .int p2, .int p3]) (rest := []) ⟨hx, hb, hml, hown, hts⟩ (ok_X4_numberOfBid l D cI cJ a _ _ _ _ _ _ hw) (cwV 3 hts gX4_sealed_X4_numberOfBid rfl rfl rfl (by decide +kernel) ⟨Nat.le_of_ble_eq_true rfl, Nat.le_of_ble_eq_true rfl⟩) hK hW hA 0 rfl rfl rfl hl.1 rfl (Nat.le_of_ble_eq_true rfl) dX4_sealed_49 ⟨Nat.le_of_ble_eq_true rfl, Nat.le_of_ble_eq_true rfl⟩ (fun r_2 _ H locs hw hW => ?_)
      refine lv_goto (tgt := 56) hx hb dX4_sealed_52 (by decide) ?_
      exact hret _ () _ _ _ _ hw hW dX4_sealed_56
  · have hw := hw.2 hc
    refine lv_aload_n hx hb dX4_sealed_23 rfl (lv_at hl 0 rfl) ?_
    refine va_get (D := D) (ci := 4) (v := .ref (a 1)) (C := RX4) (T := TX4) (N := 4) hx hb hts hinX4 hown hK hW.1 0 rfl rfl 0 (by decide) (hts _ (List.mem_of_getElem? (i := 1) rfl)) (fun _ h9 => h9) rfl dX4_sealed_24 ?_
    refine lv_iload_n hx hb dX4_sealed_27 rfl (lv_at hl 1 rfl) ?_
    refine lv_iload_n hx hb dX4_sealed_28 rfl (lv_at hl 2 rfl) ?_
    refine kV_Mi (As := [.int p1, .int p2]) (rest := []) ⟨hx, hb, hml, hown, hts⟩ (ok_X2_whyNotWithdrawn l D cI cJ a _ _ _ _ _ hw) (cwV 2 hts gX4_sealed_X2_whyNotWithdrawn rfl rfl rfl (by decide +kernel) ⟨Nat.le_of_ble_eq_true rfl, Nat.le_of_ble_eq_true rfl⟩) hK hW hA 1 rfl rfl rfl hl.1 rfl (Nat.le_of_ble_eq_true rfl) dX4_sealed_29 ⟨Nat.le_of_ble_eq_true rfl, Nat.le_of_ble_eq_true rfl⟩ (fun r_3 _ H locs hw hW => ?_)
    exact hret _ () _ _ _ _ hw hW dX4_sealed_32
def wp_X4_count (σ : CS) (p1 : Int32) (post : Int32 → Prop) (px : String → Prop) : Prop := ∀ w_1 : Int32, w_1 = p1 → ((w_1 = 0 → wp_X2_get_ σ 167 (fun r_2 => post r_2)) ∧ (¬ w_1 = 0 → ((w_1 = 1 → wp_X2_get_ σ 168 (fun r_3 => post r_3)) ∧ (¬ w_1 = 1 → ((w_1 = 2 → wp_X2_isOpened σ (fun r_4 => ((r_4 = 0 → post 0) ∧ (¬ r_4 = 0 → post 1)))) ∧ (¬ w_1 = 2 → ((w_1 = 3 → wp_X2_bidsInAll σ (fun r_5 => post r_5)) ∧ (¬ w_1 = 3 → ((w_1 = 4 → wp_X2_get_ σ 165 (fun r_6 => post r_6)) ∧ (¬ w_1 = 4 → ((w_1 = 5 → wp_X2_sum σ 30 6 (fun r_7 => post r_7)) ∧ (¬ w_1 = 5 → ((w_1 = 6 → wp_X2_get_ σ 166 (fun r_8 => post r_8)) ∧ (¬ w_1 = 6 → ((w_1 = 7 → wp_X2_sum σ 48 6 (fun r_9 => post r_9)) ∧ (¬ w_1 = 7 → ((w_1 = 8 → wp_X2_sum σ 42 6 (fun r_10 => post r_10)) ∧ (¬ w_1 = 8 → ((w_1 = 9 → wp_X2_get_ σ 173 (fun r_11 => post r_11)) ∧ (¬ w_1 = 9 → ((w_1 = 10 → wp_X2_sum σ 6 6 (fun r_12 => post r_12)) ∧ (¬ w_1 = 10 → ((w_1 = 11 → wp_X2_sum σ 36 6 (fun r_13 => post r_13)) ∧ (¬ w_1 = 11 → ((w_1 = 12 → wp_X2_get_ σ 171 (fun r_14 => post r_14)) ∧ (¬ w_1 = 12 → ((w_1 = 13 → wp_X2_get_ σ 172 (fun r_15 => post r_15)) ∧ (¬ w_1 = 13 → ((w_1 = 14 → wp_X0_savedStates σ (fun r_16 => post r_16)) ∧ (¬ w_1 = 14 → px "java/lang/IllegalArgumentException"))))))))))))))))))))))))))))))
abbrev rm_X4_count : Room := { frames := 8, cells := 1, slots := 6, locals := 140 }
theorem in_X4_count_X4 : ∀ w ∈ wsX40, w ∈ wsX4_count := fun w h => List.mem_cons_of_mem _ (List.mem_append_left _ (List.mem_append_left _ (List.mem_append_left _ (List.mem_append_right _ (h)))))
set_option maxHeartbeats 4000000 in
set_option maxRecDepth 100000 in
theorem ok_X4_count (l : Launch) (hst : l.stackTraces = false) (D : va_G) (cI cJ : ClassId) (a : Nat → Nat) (sz : Nat) (σ : CS) (p1 : Int32) (post : Int32 → Prop) (px : String → Prop) (hw : wp_X4_count σ p1 post px) : Xi l yX4_count wsX4_count rm_X4_count [.ref (a 0), .int p1] D (tysIJ cI cJ) (cW cI cJ a σ) sz (fun r (_ : Unit) => post r) (fun _ => cW cI cJ a σ) px 1 6 := by
  refine s_Xi hst (by decide) rfl (Nat.le_of_ble_eq_true rfl) ?_
  intro p e s m args below meth c A Q hx hb hml hts hown hin hK hA hz hs hret hpass hthr1 hthr2 H locs ls hW hl
  have hown : s.vm.findClass RX4 = some m.cls := hown
  have hl : lv_has ls 2 [(0, .ref (a 0)), (1, .int p1)] := hl
  have hinX4 := in_X4_count_X4
  refine lv_iload_n hx hb dX4_count_0 rfl (lv_at hl 1 rfl) ?_
  refine lv_topi (fun w_1 ew_1 => ?_)
  have hw := hw w_1 ew_1
  by_cases hs0 : w_1 = 0
  · have hw := hw.1 hs0
    refine lv_tableIn (tgt := 76) hx hb dX4_count_1 (by rw [hs0]; decide) (by rw [hs0]; decide) (by rw [hs0]; rfl) (by decide) ?_
    refine lv_aload_n hx hb dX4_count_76 rfl (lv_at hl 0 rfl) ?_
    refine va_get (D := D) (ci := 4) (v := .ref (a 1)) (C := RX4) (T := TX4) (N := 4) hx hb hts hinX4 hown hK hW.1 0 rfl rfl 0 (by decide) (hts _ (List.mem_of_getElem? (i := 3) rfl)) (fun _ h9 => h9) rfl dX4_count_77 ?_
    refine lv_sipush (v := 167) hx hb dX4_count_80 (by decide) ?_
    refine kV_Mi (As := [.int 167]) (rest := []) ⟨hx, hb, hml, hown, hts⟩ (ok_X2_get_ l D cI cJ a _ _ _ _ hw) (cwV 1 hts gX4_count_X2_get_ rfl rfl rfl (by decide +kernel) ⟨Nat.le_of_ble_eq_true rfl, Nat.le_of_ble_eq_true rfl⟩) hK hW hA 1 rfl rfl rfl hl.1 rfl (Nat.le_of_ble_eq_true rfl) dX4_count_83 ⟨Nat.le_of_ble_eq_true rfl, Nat.le_of_ble_eq_true rfl⟩ (fun r_2 _ H locs hw hW => ?_)
    exact hret _ () _ _ _ _ _ _ (Nat.le_of_ble_eq_true rfl) (Nat.le_of_ble_eq_true rfl) hw hW dX4_count_86
  have hw := hw.2 hs0
  by_cases hs1 : w_1 = 1
  · have hw := hw.1 hs1
    refine lv_tableIn (tgt := 87) hx hb dX4_count_1 (by rw [hs1]; decide) (by rw [hs1]; decide) (by rw [hs1]; rfl) (by decide) ?_
    refine lv_aload_n hx hb dX4_count_87 rfl (lv_at hl 0 rfl) ?_
    refine va_get (D := D) (ci := 4) (v := .ref (a 1)) (C := RX4) (T := TX4) (N := 4) hx hb hts hinX4 hown hK hW.1 0 rfl rfl 0 (by decide) (hts _ (List.mem_of_getElem? (i := 3) rfl)) (fun _ h9 => h9) rfl dX4_count_88 ?_
    refine lv_sipush (v := 168) hx hb dX4_count_91 (by decide) ?_
    refine kV_Mi (As := [.int 168]) (rest := []) ⟨hx, hb, hml, hown, hts⟩ (ok_X2_get_ l D cI cJ a _ _ _ _ hw) (cwV 1 hts gX4_count_X2_get_ rfl rfl rfl (by decide +kernel) ⟨Nat.le_of_ble_eq_true rfl, Nat.le_of_ble_eq_true rfl⟩) hK hW hA 1 rfl rfl rfl hl.1 rfl (Nat.le_of_ble_eq_true rfl) dX4_count_94 ⟨Nat.le_of_ble_eq_true rfl, Nat.le_of_ble_eq_true rfl⟩ (fun r_3 _ H locs hw hW => ?_)
    exact hret _ () _ _ _ _ _ _ (Nat.le_of_ble_eq_true rfl) (Nat.le_of_ble_eq_true rfl) hw hW dX4_count_97
  have hw := hw.2 hs1
  by_cases hs2 : w_1 = 2
  · have hw := hw.1 hs2
    refine lv_tableIn (tgt := 98) hx hb dX4_count_1 (by rw [hs2]; decide) (by rw [hs2]; decide) (by rw [hs2]; rfl) (by decide) ?_
    refine lv_aload_n hx hb dX4_count_98 rfl (lv_at hl 0 rfl) ?_
    refine va_get (D := D) (ci := 4) (v := .ref (a 1)) (C := RX4) (T := TX4) (N := 4) hx hb hts hinX4 hown hK hW.1 0 rfl rfl 0 (by decide) (hts _ (List.mem_of_getElem? (i := 3) rfl)) (fun _ h9 => h9) rfl dX4_count_99 ?_
    refine kV_Mi (As := []) (rest := []) ⟨hx, hb, hml, hown, hts⟩ (ok_X2_isOpened l D cI cJ a _ _ _ hw) (cwV 0 hts gX4_count_X2_isOpened rfl rfl rfl (by decide +kernel) ⟨Nat.le_of_ble_eq_true rfl, Nat.le_of_ble_eq_true rfl⟩) hK hW hA 1 rfl rfl rfl hl.1 rfl (Nat.le_of_ble_eq_true rfl) dX4_count_102 ⟨Nat.le_of_ble_eq_true rfl, Nat.le_of_ble_eq_true rfl⟩ (fun r_4 _ H locs hw hW => ?_)
    refine lv_if_eq (tgt := 112) hx hb dX4_count_105 (by decide) (fun hc => ?_) (fun hc => ?_)
    · have hw := hw.1 hc
      refine lv_iconst (v := 0) hx hb dX4_count_112 (by decide) ?_
      exact hret _ () _ _ _ _ _ _ (Nat.le_of_ble_eq_true rfl) (Nat.le_of_ble_eq_true rfl) hw hW dX4_count_113
    · have hw := hw.2 hc
      refine lv_iconst (v := 1) hx hb dX4_count_108 (by decide) ?_
      refine lv_goto (tgt := 113) hx hb dX4_count_109 (by decide) ?_
      exact hret _ () _ _ _ _ _ _ (Nat.le_of_ble_eq_true rfl) (Nat.le_of_ble_eq_true rfl) hw hW dX4_count_113
  have hw := hw.2 hs2
  by_cases hs3 : w_1 = 3
  · have hw := hw.1 hs3
    refine lv_tableIn (tgt := 114) hx hb dX4_count_1 (by rw [hs3]; decide) (by rw [hs3]; decide) (by rw [hs3]; rfl) (by decide) ?_
    refine lv_aload_n hx hb dX4_count_114 rfl (lv_at hl 0 rfl) ?_
    refine va_get (D := D) (ci := 4) (v := .ref (a 1)) (C := RX4) (T := TX4) (N := 4) hx hb hts hinX4 hown hK hW.1 0 rfl rfl 0 (by decide) (hts _ (List.mem_of_getElem? (i := 3) rfl)) (fun _ h9 => h9) rfl dX4_count_115 ?_
    refine kV_Mi (As := []) (rest := []) ⟨hx, hb, hml, hown, hts⟩ (ok_X2_bidsInAll l D cI cJ a _ _ _ hw) (cwV 0 hts gX4_count_X2_bidsInAll rfl rfl rfl (by decide +kernel) ⟨Nat.le_of_ble_eq_true rfl, Nat.le_of_ble_eq_true rfl⟩) hK hW hA 1 rfl rfl rfl hl.1 rfl (Nat.le_of_ble_eq_true rfl) dX4_count_118 ⟨Nat.le_of_ble_eq_true rfl, Nat.le_of_ble_eq_true rfl⟩ (fun r_5 _ H locs hw hW => ?_)
    exact hret _ () _ _ _ _ _ _ (Nat.le_of_ble_eq_true rfl) (Nat.le_of_ble_eq_true rfl) hw hW dX4_count_121
  have hw := hw.2 hs3
  by_cases hs4 : w_1 = 4
  · have hw := hw.1 hs4
    refine lv_tableIn (tgt := 122) hx hb dX4_count_1 (by rw [hs4]; decide) (by rw [hs4]; decide) (by rw [hs4]; rfl) (by decide) ?_
    refine lv_aload_n hx hb dX4_count_122 rfl (lv_at hl 0 rfl) ?_
    refine va_get (D := D) (ci := 4) (v := .ref (a 1)) (C := RX4) (T := TX4) (N := 4) hx hb hts hinX4 hown hK hW.1 0 rfl rfl 0 (by decide) (hts _ (List.mem_of_getElem? (i := 3) rfl)) (fun _ h9 => h9) rfl dX4_count_123 ?_
    refine lv_sipush (v := 165) hx hb dX4_count_126 (by decide) ?_
    refine kV_Mi (As := [.int 165]) (rest := []) ⟨hx, hb, hml, hown, hts⟩ (ok_X2_get_ l D cI cJ a _ _ _ _ hw) (cwV 1 hts gX4_count_X2_get_ rfl rfl rfl (by decide +kernel) ⟨Nat.le_of_ble_eq_true rfl, Nat.le_of_ble_eq_true rfl⟩) hK hW hA 1 rfl rfl rfl hl.1 rfl (Nat.le_of_ble_eq_true rfl) dX4_count_129 ⟨Nat.le_of_ble_eq_true rfl, Nat.le_of_ble_eq_true rfl⟩ (fun r_6 _ H locs hw hW => ?_)
    exact hret _ () _ _ _ _ _ _ (Nat.le_of_ble_eq_true rfl) (Nat.le_of_ble_eq_true rfl) hw hW dX4_count_132
  have hw := hw.2 hs4
  by_cases hs5 : w_1 = 5
  · have hw := hw.1 hs5
    refine lv_tableIn (tgt := 133) hx hb dX4_count_1 (by rw [hs5]; decide) (by rw [hs5]; decide) (by rw [hs5]; rfl) (by decide) ?_
    refine lv_aload_n hx hb dX4_count_133 rfl (lv_at hl 0 rfl) ?_
    refine va_get (D := D) (ci := 4) (v := .ref (a 1)) (C := RX4) (T := TX4) (N := 4) hx hb hts hinX4 hown hK hW.1 0 rfl rfl 0 (by decide) (hts _ (List.mem_of_getElem? (i := 3) rfl)) (fun _ h9 => h9) rfl dX4_count_134 ?_
    refine lv_bipush (v := 30) hx hb dX4_count_137 (by decide) ?_
    refine lv_bipush (v := 6) hx hb dX4_count_139 (by decide) ?_
    refine kV_Mi (As := [.int 30, .int 6]) (rest := []) ⟨hx, hb, hml, hown, hts⟩ (ok_X2_sum l D cI cJ a _ _ _ _ _ hw) (cwV 2 hts gX4_count_X2_sum rfl rfl rfl (by decide +kernel) ⟨Nat.le_of_ble_eq_true rfl, Nat.le_of_ble_eq_true rfl⟩) hK hW hA 1 rfl rfl rfl hl.1 rfl (Nat.le_of_ble_eq_true rfl) dX4_count_141 ⟨Nat.le_of_ble_eq_true rfl, Nat.le_of_ble_eq_true rfl⟩ (fun r_7 _ H locs hw hW => ?_)
    exact hret _ () _ _ _ _ _ _ (Nat.le_of_ble_eq_true rfl) (Nat.le_of_ble_eq_true rfl) hw hW dX4_count_144
  have hw := hw.2 hs5
  by_cases hs6 : w_1 = 6
  · have hw := hw.1 hs6
    refine lv_tableIn (tgt := 145) hx hb dX4_count_1 (by rw [hs6]; decide) (by rw [hs6]; decide) (by rw [hs6]; rfl) (by decide) ?_
    refine lv_aload_n hx hb dX4_count_145 rfl (lv_at hl 0 rfl) ?_
    refine va_get (D := D) (ci := 4) (v := .ref (a 1)) (C := RX4) (T := TX4) (N := 4) hx hb hts hinX4 hown hK hW.1 0 rfl rfl 0 (by decide) (hts _ (List.mem_of_getElem? (i := 3) rfl)) (fun _ h9 => h9) rfl dX4_count_146 ?_
    refine lv_sipush (v := 166) hx hb dX4_count_149 (by decide) ?_
    refine kV_Mi (As := [.int 166]) (rest := []) ⟨hx, hb, hml, hown, hts⟩ (ok_X2_get_ l D cI cJ a _ _ _ _ hw) (cwV 1 hts gX4_count_X2_get_ rfl rfl rfl (by decide +kernel) ⟨Nat.le_of_ble_eq_true rfl, Nat.le_of_ble_eq_true rfl⟩) hK hW hA 1 rfl rfl rfl hl.1 rfl (Nat.le_of_ble_eq_true rfl) dX4_count_152 ⟨Nat.le_of_ble_eq_true rfl, Nat.le_of_ble_eq_true rfl⟩ (fun r_8 _ H locs hw hW => ?_)
    exact hret _ () _ _ _ _ _ _ (Nat.le_of_ble_eq_true rfl) (Nat.le_of_ble_eq_true rfl) hw hW dX4_count_155
  have hw := hw.2 hs6
  by_cases hs7 : w_1 = 7
  · have hw := hw.1 hs7
    refine lv_tableIn (tgt := 156) hx hb dX4_count_1 (by rw [hs7]; decide) (by rw [hs7]; decide) (by rw [hs7]; rfl) (by decide) ?_
    refine lv_aload_n hx hb dX4_count_156 rfl (lv_at hl 0 rfl) ?_
    refine va_get (D := D) (ci := 4) (v := .ref (a 1)) (C := RX4) (T := TX4) (N := 4) hx hb hts hinX4 hown hK hW.1 0 rfl rfl 0 (by decide) (hts _ (List.mem_of_getElem? (i := 3) rfl)) (fun _ h9 => h9) rfl dX4_count_157 ?_
    refine lv_bipush (v := 48) hx hb dX4_count_160 (by decide) ?_
    refine lv_bipush (v := 6) hx hb dX4_count_162 (by decide) ?_
    refine kV_Mi (As := [.int 48, .int 6]) (rest := []) ⟨hx, hb, hml, hown, hts⟩ (ok_X2_sum l D cI cJ a _ _ _ _ _ hw) (cwV 2 hts gX4_count_X2_sum rfl rfl rfl (by decide +kernel) ⟨Nat.le_of_ble_eq_true rfl, Nat.le_of_ble_eq_true rfl⟩) hK hW hA 1 rfl rfl rfl hl.1 rfl (Nat.le_of_ble_eq_true rfl) dX4_count_164 ⟨Nat.le_of_ble_eq_true rfl, Nat.le_of_ble_eq_true rfl⟩ (fun r_9 _ H locs hw hW => ?_)
    exact hret _ () _ _ _ _ _ _ (Nat.le_of_ble_eq_true rfl) (Nat.le_of_ble_eq_true rfl) hw hW dX4_count_167
  have hw := hw.2 hs7
  by_cases hs8 : w_1 = 8
  · have hw := hw.1 hs8
    refine lv_tableIn (tgt := 168) hx hb dX4_count_1 (by rw [hs8]; decide) (by rw [hs8]; decide) (by rw [hs8]; rfl) (by decide) ?_
    refine lv_aload_n hx hb dX4_count_168 rfl (lv_at hl 0 rfl) ?_
    refine va_get (D := D) (ci := 4) (v := .ref (a 1)) (C := RX4) (T := TX4) (N := 4) hx hb hts hinX4 hown hK hW.1 0 rfl rfl 0 (by decide) (hts _ (List.mem_of_getElem? (i := 3) rfl)) (fun _ h9 => h9) rfl dX4_count_169 ?_
    refine lv_bipush (v := 42) hx hb dX4_count_172 (by decide) ?_
    refine lv_bipush (v := 6) hx hb dX4_count_174 (by decide) ?_
    refine kV_Mi (As := [.int 42, .int 6]) (rest := []) ⟨hx, hb, hml, hown, hts⟩ (ok_X2_sum l D cI cJ a _ _ _ _ _ hw) (cwV 2 hts gX4_count_X2_sum rfl rfl rfl (by decide +kernel) ⟨Nat.le_of_ble_eq_true rfl, Nat.le_of_ble_eq_true rfl⟩) hK hW hA 1 rfl rfl rfl hl.1 rfl (Nat.le_of_ble_eq_true rfl) dX4_count_176 ⟨Nat.le_of_ble_eq_true rfl, Nat.le_of_ble_eq_true rfl⟩ (fun r_10 _ H locs hw hW => ?_)
    exact hret _ () _ _ _ _ _ _ (Nat.le_of_ble_eq_true rfl) (Nat.le_of_ble_eq_true rfl) hw hW dX4_count_179
  have hw := hw.2 hs8
  by_cases hs9 : w_1 = 9
  · have hw := hw.1 hs9
    refine lv_tableIn (tgt := 180) hx hb dX4_count_1 (by rw [hs9]; decide) (by rw [hs9]; decide) (by rw [hs9]; rfl) (by decide) ?_
    refine lv_aload_n hx hb dX4_count_180 rfl (lv_at hl 0 rfl) ?_
    refine va_get (D := D) (ci := 4) (v := .ref (a 1)) (C := RX4) (T := TX4) (N := 4) hx hb hts hinX4 hown hK hW.1 0 rfl rfl 0 (by decide) (hts _ (List.mem_of_getElem? (i := 3) rfl)) (fun _ h9 => h9) rfl dX4_count_181 ?_
    refine lv_sipush (v := 173) hx hb dX4_count_184 (by decide) ?_
    refine kV_Mi (As := [.int 173]) (rest := []) ⟨hx, hb, hml, hown, hts⟩ (ok_X2_get_ l D cI cJ a _ _ _ _ hw) (cwV 1 hts gX4_count_X2_get_ rfl rfl rfl (by decide +kernel) ⟨Nat.le_of_ble_eq_true rfl, Nat.le_of_ble_eq_true rfl⟩) hK hW hA 1 rfl rfl rfl hl.1 rfl (Nat.le_of_ble_eq_true rfl) dX4_count_187 ⟨Nat.le_of_ble_eq_true rfl, Nat.le_of_ble_eq_true rfl⟩ (fun r_11 _ H locs hw hW => ?_)
    exact hret _ () _ _ _ _ _ _ (Nat.le_of_ble_eq_true rfl) (Nat.le_of_ble_eq_true rfl) hw hW dX4_count_190
  have hw := hw.2 hs9
  by_cases hs10 : w_1 = 10
  · have hw := hw.1 hs10
    refine lv_tableIn (tgt := 191) hx hb dX4_count_1 (by rw [hs10]; decide) (by rw [hs10]; decide) (by rw [hs10]; rfl) (by decide) ?_
    refine lv_aload_n hx hb dX4_count_191 rfl (lv_at hl 0 rfl) ?_
    refine va_get (D := D) (ci := 4) (v := .ref (a 1)) (C := RX4) (T := TX4) (N := 4) hx hb hts hinX4 hown hK hW.1 0 rfl rfl 0 (by decide) (hts _ (List.mem_of_getElem? (i := 3) rfl)) (fun _ h9 => h9) rfl dX4_count_192 ?_
    refine lv_bipush (v := 6) hx hb dX4_count_195 (by decide) ?_
    refine lv_bipush (v := 6) hx hb dX4_count_197 (by decide) ?_
    refine kV_Mi (As := [.int 6, .int 6]) (rest := []) ⟨hx, hb, hml, hown, hts⟩ (ok_X2_sum l D cI cJ a _ _ _ _ _ hw) (cwV 2 hts gX4_count_X2_sum rfl rfl rfl (by decide +kernel) ⟨Nat.le_of_ble_eq_true rfl, Nat.le_of_ble_eq_true rfl⟩) hK hW hA 1 rfl rfl rfl hl.1 rfl (Nat.le_of_ble_eq_true rfl) dX4_count_199 ⟨Nat.le_of_ble_eq_true rfl, Nat.le_of_ble_eq_true rfl⟩ (fun r_12 _ H locs hw hW => ?_)
    exact hret _ () _ _ _ _ _ _ (Nat.le_of_ble_eq_true rfl) (Nat.le_of_ble_eq_true rfl) hw hW dX4_count_202
  have hw := hw.2 hs10
  by_cases hs11 : w_1 = 11
  · have hw := hw.1 hs11
    refine lv_tableIn (tgt := 203) hx hb dX4_count_1 (by rw [hs11]; decide) (by rw [hs11]; decide) (by rw [hs11]; rfl) (by decide) ?_
    refine lv_aload_n hx hb dX4_count_203 rfl (lv_at hl 0 rfl) ?_
    refine va_get (D := D) (ci := 4) (v := .ref (a 1)) (C := RX4) (T := TX4) (N := 4) hx hb hts hinX4 hown hK hW.1 0 rfl rfl 0 (by decide) (hts _ (List.mem_of_getElem? (i := 3) rfl)) (fun _ h9 => h9) rfl dX4_count_204 ?_
    refine lv_bipush (v := 36) hx hb dX4_count_207 (by decide) ?_
    refine lv_bipush (v := 6) hx hb dX4_count_209 (by decide) ?_
    refine kV_Mi (As := [.int 36, .int 6]) (rest := []) ⟨hx, hb, hml, hown, hts⟩ (ok_X2_sum l D cI cJ a _ _ _ _ _ hw) (cwV 2 hts gX4_count_X2_sum rfl rfl rfl (by decide +kernel) ⟨Nat.le_of_ble_eq_true rfl, Nat.le_of_ble_eq_true rfl⟩) hK hW hA 1 rfl rfl rfl hl.1 rfl (Nat.le_of_ble_eq_true rfl) dX4_count_211 ⟨Nat.le_of_ble_eq_true rfl, Nat.le_of_ble_eq_true rfl⟩ (fun r_13 _ H locs hw hW => ?_)
    exact hret _ () _ _ _ _ _ _ (Nat.le_of_ble_eq_true rfl) (Nat.le_of_ble_eq_true rfl) hw hW dX4_count_214
  have hw := hw.2 hs11
  by_cases hs12 : w_1 = 12
  · have hw := hw.1 hs12
    refine lv_tableIn (tgt := 215) hx hb dX4_count_1 (by rw [hs12]; decide) (by rw [hs12]; decide) (by rw [hs12]; rfl) (by decide) ?_
    refine lv_aload_n hx hb dX4_count_215 rfl (lv_at hl 0 rfl) ?_
    refine va_get (D := D) (ci := 4) (v := .ref (a 1)) (C := RX4) (T := TX4) (N := 4) hx hb hts hinX4 hown hK hW.1 0 rfl rfl 0 (by decide) (hts _ (List.mem_of_getElem? (i := 3) rfl)) (fun _ h9 => h9) rfl dX4_count_216 ?_
    refine lv_sipush (v := 171) hx hb dX4_count_219 (by decide) ?_
    refine kV_Mi (As := [.int 171]) (rest := []) ⟨hx, hb, hml, hown, hts⟩ (ok_X2_get_ l D cI cJ a _ _ _ _ hw) (cwV 1 hts gX4_count_X2_get_ rfl rfl rfl (by decide +kernel) ⟨Nat.le_of_ble_eq_true rfl, Nat.le_of_ble_eq_true rfl⟩) hK hW hA 1 rfl rfl rfl hl.1 rfl (Nat.le_of_ble_eq_true rfl) dX4_count_222 ⟨Nat.le_of_ble_eq_true rfl, Nat.le_of_ble_eq_true rfl⟩ (fun r_14 _ H locs hw hW => ?_)
    exact hret _ () _ _ _ _ _ _ (Nat.le_of_ble_eq_true rfl) (Nat.le_of_ble_eq_true rfl) hw hW dX4_count_225
  have hw := hw.2 hs12
  by_cases hs13 : w_1 = 13
  · have hw := hw.1 hs13
    refine lv_tableIn (tgt := 226) hx hb dX4_count_1 (by rw [hs13]; decide) (by rw [hs13]; decide) (by rw [hs13]; rfl) (by decide) ?_
    refine lv_aload_n hx hb dX4_count_226 rfl (lv_at hl 0 rfl) ?_
    refine va_get (D := D) (ci := 4) (v := .ref (a 1)) (C := RX4) (T := TX4) (N := 4) hx hb hts hinX4 hown hK hW.1 0 rfl rfl 0 (by decide) (hts _ (List.mem_of_getElem? (i := 3) rfl)) (fun _ h9 => h9) rfl dX4_count_227 ?_
    refine lv_sipush (v := 172) hx hb dX4_count_230 (by decide) ?_
    refine kV_Mi (As := [.int 172]) (rest := []) ⟨hx, hb, hml, hown, hts⟩ (ok_X2_get_ l D cI cJ a _ _ _ _ hw) (cwV 1 hts gX4_count_X2_get_ rfl rfl rfl (by decide +kernel) ⟨Nat.le_of_ble_eq_true rfl, Nat.le_of_ble_eq_true rfl⟩) hK hW hA 1 rfl rfl rfl hl.1 rfl (Nat.le_of_ble_eq_true rfl) dX4_count_233 ⟨Nat.le_of_ble_eq_true rfl, Nat.le_of_ble_eq_true rfl⟩ (fun r_15 _ H locs hw hW => ?_)
    exact hret _ () _ _ _ _ _ _ (Nat.le_of_ble_eq_true rfl) (Nat.le_of_ble_eq_true rfl) hw hW dX4_count_236
  have hw := hw.2 hs13
  by_cases hs14 : w_1 = 14
  · have hw := hw.1 hs14
    refine lv_tableIn (tgt := 237) hx hb dX4_count_1 (by rw [hs14]; decide) (by rw [hs14]; decide) (by rw [hs14]; rfl) (by decide) ?_
    refine lv_aload_n hx hb dX4_count_237 rfl (lv_at hl 0 rfl) ?_
    refine va_get (D := D) (ci := 4) (v := .ref (a 6)) (C := RX4) (T := TX4) (N := 4) hx hb hts hinX4 hown hK hW.1 0 rfl rfl 2 (by decide) (hts _ (List.mem_of_getElem? (i := 4) rfl)) (fun _ h9 => h9) rfl dX4_count_238 ?_
    refine kV_Mi (As := []) (rest := []) ⟨hx, hb, hml, hown, hts⟩ (ok_X0_savedStates l D cI cJ a _ _ _ hw) (cwV 0 hts gX4_count_X0_savedStates rfl rfl rfl (by decide +kernel) ⟨Nat.le_of_ble_eq_true rfl, Nat.le_of_ble_eq_true rfl⟩) hK hW hA 6 rfl rfl rfl hl.1 rfl (Nat.le_of_ble_eq_true rfl) dX4_count_241 ⟨Nat.le_of_ble_eq_true rfl, Nat.le_of_ble_eq_true rfl⟩ (fun r_16 _ H locs hw hW => ?_)
    exact hret _ () _ _ _ _ _ _ (Nat.le_of_ble_eq_true rfl) (Nat.le_of_ble_eq_true rfl) hw hW dX4_count_244
  have hw := hw.2 hs14
  refine lv_tableOut (tgt := 245) hx hb dX4_count_1 (by have q0 := lv_neT hs0 (a := 0) (by decide); have q1 := lv_neT hs1 (a := 1) (by decide); have q2 := lv_neT hs2 (a := 2) (by decide); have q3 := lv_neT hs3 (a := 3) (by decide); have q4 := lv_neT hs4 (a := 4) (by decide); have q5 := lv_neT hs5 (a := 5) (by decide); have q6 := lv_neT hs6 (a := 6) (by decide); have q7 := lv_neT hs7 (a := 7) (by decide); have q8 := lv_neT hs8 (a := 8) (by decide); have q9 := lv_neT hs9 (a := 9) (by decide); have q10 := lv_neT hs10 (a := 10) (by decide); have q11 := lv_neT hs11 (a := 11) (by decide); have q12 := lv_neT hs12 (a := 12) (by decide); have q13 := lv_neT hs13 (a := 13) (by decide); have q14 := lv_neT hs14 (a := 14) (by decide); omega) (by decide) ?_
  obtain ⟨sa, hsa⟩ := hs.2.2.2.1
  exact hthr1 "java/lang/IllegalArgumentException" "no such count" ["java/lang/RuntimeException", "java/lang/Exception"] 117 174 121 sa 245 _ _ H locs ls _ hw hW (by decide +kernel) (by decide +kernel) (hts _ (List.mem_of_getElem? (i := 1) rfl)) (hts _ (List.mem_of_getElem? (i := 2) rfl)) hsa (vx_hat (fun w h => hts w (List.mem_cons_of_mem _ (List.mem_append_right _ (h)))) atS_1 (atB_1 hs)) (by decide +kernel) hl.1 dX4_count_245 dX4_count_248 dX4_count_249 dX4_count_251 dX4_count_254 (by decide) (Nat.le_of_ble_eq_true rfl) (by decide) (by decide) (by decide) (by decide)
abbrev rm_X4_count_n : Room := { frames := 8, cells := 0, slots := 0, locals := 140 }
theorem in_X4_count_n_X4 : ∀ w ∈ wsX40, w ∈ wsX4_count := fun w h => List.mem_cons_of_mem _ (List.mem_append_left _ (List.mem_append_left _ (List.mem_append_left _ (List.mem_append_right _ (h)))))
set_option maxHeartbeats 4000000 in
set_option maxRecDepth 100000 in
theorem ok_X4_count_n (l : Launch) (D : va_G) (cI cJ : ClassId) (a : Nat → Nat) (sz : Nat) (σ : CS) (p1 : Int32) (post : Int32 → Prop) (hw : wp_X4_count σ p1 post (fun _ => False)) : Mi l yX4_count wsX4_count rm_X4_count_n [.ref (a 0), .int p1] D (tysIJ cI cJ) (cW cI cJ a σ) sz (fun r (_ : Unit) => post r) (fun _ => cW cI cJ a σ) := by
  refine s_Mi (by decide) rfl (Nat.le_of_ble_eq_true rfl) ?_
  intro p e s m args below meth c A Q hx hb hml hts hown hin hK hA hret H locs ls hW hl
  have hown : s.vm.findClass RX4 = some m.cls := hown
  have hl : lv_has ls 2 [(0, .ref (a 0)), (1, .int p1)] := hl
  have hinX4 := in_X4_count_n_X4
  refine lv_iload_n hx hb dX4_count_0 rfl (lv_at hl 1 rfl) ?_
  refine lv_topi (fun w_1 ew_1 => ?_)
  have hw := hw w_1 ew_1
  by_cases hs0 : w_1 = 0
  · have hw := hw.1 hs0
    refine lv_tableIn (tgt := 76) hx hb dX4_count_1 (by rw [hs0]; decide) (by rw [hs0]; decide) (by rw [hs0]; rfl) (by decide) ?_
    refine lv_aload_n hx hb dX4_count_76 rfl (lv_at hl 0 rfl) ?_
    refine va_get (D := D) (ci := 4) (v := .ref (a 1)) (C := RX4) (T := TX4) (N := 4) hx hb hts hinX4 hown hK hW.1 0 rfl rfl 0 (by decide) (hts _ (List.mem_of_getElem? (i := 3) rfl)) (fun _ h9 => h9) rfl dX4_count_77 ?_
    refine lv_sipush (v := 167) hx hb dX4_count_80 (by decide) ?_
    refine kV_Mi (As := [.int 167]) (rest := []) ⟨hx, hb, hml, hown, hts⟩ (ok_X2_get_ l D cI cJ a _ _ _ _ hw) (cwV 1 hts gX4_count_X2_get_ rfl rfl rfl (by decide +kernel) ⟨Nat.le_of_ble_eq_true rfl, Nat.le_of_ble_eq_true rfl⟩) hK hW hA 1 rfl rfl rfl hl.1 rfl (Nat.le_of_ble_eq_true rfl) dX4_count_83 ⟨Nat.le_of_ble_eq_true rfl, Nat.le_of_ble_eq_true rfl⟩ (fun r_2 _ H locs hw hW => ?_)
    exact hret _ () _ _ _ _ hw hW dX4_count_86
  have hw := hw.2 hs0
  by_cases hs1 : w_1 = 1
  · have hw := hw.1 hs1
    refine lv_tableIn (tgt := 87) hx hb dX4_count_1 (by rw [hs1]; decide) (by rw [hs1]; decide) (by rw [hs1]; rfl) (by decide) ?_
    refine lv_aload_n hx hb dX4_count_87 rfl (lv_at hl 0 rfl) ?_
    refine va_get (D := D) (ci := 4) (v := .ref (a 1)) (C := RX4) (T := TX4) (N := 4) hx hb hts hinX4 hown hK hW.1 0 rfl rfl 0 (by decide) (hts _ (List.mem_of_getElem? (i := 3) rfl)) (fun _ h9 => h9) rfl dX4_count_88 ?_
    refine lv_sipush (v := 168) hx hb dX4_count_91 (by decide) ?_
    refine kV_Mi (As := [.int 168]) (rest := []) ⟨hx, hb, hml, hown, hts⟩ (ok_X2_get_ l D cI cJ a _ _ _ _ hw) (cwV 1 hts gX4_count_X2_get_ rfl rfl rfl (by decide +kernel) ⟨Nat.le_of_ble_eq_true rfl, Nat.le_of_ble_eq_true rfl⟩) hK hW hA 1 rfl rfl rfl hl.1 rfl (Nat.le_of_ble_eq_true rfl) dX4_count_94 ⟨Nat.le_of_ble_eq_true rfl, Nat.le_of_ble_eq_true rfl⟩ (fun r_3 _ H locs hw hW => ?_)
    exact hret _ () _ _ _ _ hw hW dX4_count_97
  have hw := hw.2 hs1
  by_cases hs2 : w_1 = 2
  · have hw := hw.1 hs2
    refine lv_tableIn (tgt := 98) hx hb dX4_count_1 (by rw [hs2]; decide) (by rw [hs2]; decide) (by rw [hs2]; rfl) (by decide) ?_
    refine lv_aload_n hx hb dX4_count_98 rfl (lv_at hl 0 rfl) ?_
    refine va_get (D := D) (ci := 4) (v := .ref (a 1)) (C := RX4) (T := TX4) (N := 4) hx hb hts hinX4 hown hK hW.1 0 rfl rfl 0 (by decide) (hts _ (List.mem_of_getElem? (i := 3) rfl)) (fun _ h9 => h9) rfl dX4_count_99 ?_
    refine kV_Mi (As := []) (rest := []) ⟨hx, hb, hml, hown, hts⟩ (ok_X2_isOpened l D cI cJ a _ _ _ hw) (cwV 0 hts gX4_count_X2_isOpened rfl rfl rfl (by decide +kernel) ⟨Nat.le_of_ble_eq_true rfl, Nat.le_of_ble_eq_true rfl⟩) hK hW hA 1 rfl rfl rfl hl.1 rfl (Nat.le_of_ble_eq_true rfl) dX4_count_102 ⟨Nat.le_of_ble_eq_true rfl, Nat.le_of_ble_eq_true rfl⟩ (fun r_4 _ H locs hw hW => ?_)
    refine lv_if_eq (tgt := 112) hx hb dX4_count_105 (by decide) (fun hc => ?_) (fun hc => ?_)
    · have hw := hw.1 hc
      refine lv_iconst (v := 0) hx hb dX4_count_112 (by decide) ?_
      exact hret _ () _ _ _ _ hw hW dX4_count_113
    · have hw := hw.2 hc
      refine lv_iconst (v := 1) hx hb dX4_count_108 (by decide) ?_
      refine lv_goto (tgt := 113) hx hb dX4_count_109 (by decide) ?_
      exact hret _ () _ _ _ _ hw hW dX4_count_113
  have hw := hw.2 hs2
  by_cases hs3 : w_1 = 3
  · have hw := hw.1 hs3
    refine lv_tableIn (tgt := 114) hx hb dX4_count_1 (by rw [hs3]; decide) (by rw [hs3]; decide) (by rw [hs3]; rfl) (by decide) ?_
    refine lv_aload_n hx hb dX4_count_114 rfl (lv_at hl 0 rfl) ?_
    refine va_get (D := D) (ci := 4) (v := .ref (a 1)) (C := RX4) (T := TX4) (N := 4) hx hb hts hinX4 hown hK hW.1 0 rfl rfl 0 (by decide) (hts _ (List.mem_of_getElem? (i := 3) rfl)) (fun _ h9 => h9) rfl dX4_count_115 ?_
    refine kV_Mi (As := []) (rest := []) ⟨hx, hb, hml, hown, hts⟩ (ok_X2_bidsInAll l D cI cJ a _ _ _ hw) (cwV 0 hts gX4_count_X2_bidsInAll rfl rfl rfl (by decide +kernel) ⟨Nat.le_of_ble_eq_true rfl, Nat.le_of_ble_eq_true rfl⟩) hK hW hA 1 rfl rfl rfl hl.1 rfl (Nat.le_of_ble_eq_true rfl) dX4_count_118 ⟨Nat.le_of_ble_eq_true rfl, Nat.le_of_ble_eq_true rfl⟩ (fun r_5 _ H locs hw hW => ?_)
    exact hret _ () _ _ _ _ hw hW dX4_count_121
  have hw := hw.2 hs3
  by_cases hs4 : w_1 = 4
  · have hw := hw.1 hs4
    refine lv_tableIn (tgt := 122) hx hb dX4_count_1 (by rw [hs4]; decide) (by rw [hs4]; decide) (by rw [hs4]; rfl) (by decide) ?_
    refine lv_aload_n hx hb dX4_count_122 rfl (lv_at hl 0 rfl) ?_
    refine va_get (D := D) (ci := 4) (v := .ref (a 1)) (C := RX4) (T := TX4) (N := 4) hx hb hts hinX4 hown hK hW.1 0 rfl rfl 0 (by decide) (hts _ (List.mem_of_getElem? (i := 3) rfl)) (fun _ h9 => h9) rfl dX4_count_123 ?_
    refine lv_sipush (v := 165) hx hb dX4_count_126 (by decide) ?_
    refine kV_Mi (As := [.int 165]) (rest := []) ⟨hx, hb, hml, hown, hts⟩ (ok_X2_get_ l D cI cJ a _ _ _ _ hw) (cwV 1 hts gX4_count_X2_get_ rfl rfl rfl (by decide +kernel) ⟨Nat.le_of_ble_eq_true rfl, Nat.le_of_ble_eq_true rfl⟩) hK hW hA 1 rfl rfl rfl hl.1 rfl (Nat.le_of_ble_eq_true rfl) dX4_count_129 ⟨Nat.le_of_ble_eq_true rfl, Nat.le_of_ble_eq_true rfl⟩ (fun r_6 _ H locs hw hW => ?_)
    exact hret _ () _ _ _ _ hw hW dX4_count_132
  have hw := hw.2 hs4
  by_cases hs5 : w_1 = 5
  · have hw := hw.1 hs5
    refine lv_tableIn (tgt := 133) hx hb dX4_count_1 (by rw [hs5]; decide) (by rw [hs5]; decide) (by rw [hs5]; rfl) (by decide) ?_
    refine lv_aload_n hx hb dX4_count_133 rfl (lv_at hl 0 rfl) ?_
    refine va_get (D := D) (ci := 4) (v := .ref (a 1)) (C := RX4) (T := TX4) (N := 4) hx hb hts hinX4 hown hK hW.1 0 rfl rfl 0 (by decide) (hts _ (List.mem_of_getElem? (i := 3) rfl)) (fun _ h9 => h9) rfl dX4_count_134 ?_
    refine lv_bipush (v := 30) hx hb dX4_count_137 (by decide) ?_
    refine lv_bipush (v := 6) hx hb dX4_count_139 (by decide) ?_
    refine kV_Mi (As := [.int 30, .int 6]) (rest := []) ⟨hx, hb, hml, hown, hts⟩ (ok_X2_sum l D cI cJ a _ _ _ _ _ hw) (cwV 2 hts gX4_count_X2_sum rfl rfl rfl (by decide +kernel) ⟨Nat.le_of_ble_eq_true rfl, Nat.le_of_ble_eq_true rfl⟩) hK hW hA 1 rfl rfl rfl hl.1 rfl (Nat.le_of_ble_eq_true rfl) dX4_count_141 ⟨Nat.le_of_ble_eq_true rfl, Nat.le_of_ble_eq_true rfl⟩ (fun r_7 _ H locs hw hW => ?_)
    exact hret _ () _ _ _ _ hw hW dX4_count_144
  have hw := hw.2 hs5
  by_cases hs6 : w_1 = 6
  · have hw := hw.1 hs6
    refine lv_tableIn (tgt := 145) hx hb dX4_count_1 (by rw [hs6]; decide) (by rw [hs6]; decide) (by rw [hs6]; rfl) (by decide) ?_
    refine lv_aload_n hx hb dX4_count_145 rfl (lv_at hl 0 rfl) ?_
    refine va_get (D := D) (ci := 4) (v := .ref (a 1)) (C := RX4) (T := TX4) (N := 4) hx hb hts hinX4 hown hK hW.1 0 rfl rfl 0 (by decide) (hts _ (List.mem_of_getElem? (i := 3) rfl)) (fun _ h9 => h9) rfl dX4_count_146 ?_
    refine lv_sipush (v := 166) hx hb dX4_count_149 (by decide) ?_
    refine kV_Mi (As := [.int 166]) (rest := []) ⟨hx, hb, hml, hown, hts⟩ (ok_X2_get_ l D cI cJ a _ _ _ _ hw) (cwV 1 hts gX4_count_X2_get_ rfl rfl rfl (by decide +kernel) ⟨Nat.le_of_ble_eq_true rfl, Nat.le_of_ble_eq_true rfl⟩) hK hW hA 1 rfl rfl rfl hl.1 rfl (Nat.le_of_ble_eq_true rfl) dX4_count_152 ⟨Nat.le_of_ble_eq_true rfl, Nat.le_of_ble_eq_true rfl⟩ (fun r_8 _ H locs hw hW => ?_)
    exact hret _ () _ _ _ _ hw hW dX4_count_155
  have hw := hw.2 hs6
  by_cases hs7 : w_1 = 7
  · have hw := hw.1 hs7
    refine lv_tableIn (tgt := 156) hx hb dX4_count_1 (by rw [hs7]; decide) (by rw [hs7]; decide) (by rw [hs7]; rfl) (by decide) ?_
    refine lv_aload_n hx hb dX4_count_156 rfl (lv_at hl 0 rfl) ?_
    refine va_get (D := D) (ci := 4) (v := .ref (a 1)) (C := RX4) (T := TX4) (N := 4) hx hb hts hinX4 hown hK hW.1 0 rfl rfl 0 (by decide) (hts _ (List.mem_of_getElem? (i := 3) rfl)) (fun _ h9 => h9) rfl dX4_count_157 ?_
    refine lv_bipush (v := 48) hx hb dX4_count_160 (by decide) ?_
    refine lv_bipush (v := 6) hx hb dX4_count_162 (by decide) ?_
    refine kV_Mi (As := [.int 48, .int 6]) (rest := []) ⟨hx, hb, hml, hown, hts⟩ (ok_X2_sum l D cI cJ a _ _ _ _ _ hw) (cwV 2 hts gX4_count_X2_sum rfl rfl rfl (by decide +kernel) ⟨Nat.le_of_ble_eq_true rfl, Nat.le_of_ble_eq_true rfl⟩) hK hW hA 1 rfl rfl rfl hl.1 rfl (Nat.le_of_ble_eq_true rfl) dX4_count_164 ⟨Nat.le_of_ble_eq_true rfl, Nat.le_of_ble_eq_true rfl⟩ (fun r_9 _ H locs hw hW => ?_)
    exact hret _ () _ _ _ _ hw hW dX4_count_167
  have hw := hw.2 hs7
  by_cases hs8 : w_1 = 8
  · have hw := hw.1 hs8
    refine lv_tableIn (tgt := 168) hx hb dX4_count_1 (by rw [hs8]; decide) (by rw [hs8]; decide) (by rw [hs8]; rfl) (by decide) ?_
    refine lv_aload_n hx hb dX4_count_168 rfl (lv_at hl 0 rfl) ?_
    refine va_get (D := D) (ci := 4) (v := .ref (a 1)) (C := RX4) (T := TX4) (N := 4) hx hb hts hinX4 hown hK hW.1 0 rfl rfl 0 (by decide) (hts _ (List.mem_of_getElem? (i := 3) rfl)) (fun _ h9 => h9) rfl dX4_count_169 ?_
    refine lv_bipush (v := 42) hx hb dX4_count_172 (by decide) ?_
    refine lv_bipush (v := 6) hx hb dX4_count_174 (by decide) ?_
    refine kV_Mi (As := [.int 42, .int 6]) (rest := []) ⟨hx, hb, hml, hown, hts⟩ (ok_X2_sum l D cI cJ a _ _ _ _ _ hw) (cwV 2 hts gX4_count_X2_sum rfl rfl rfl (by decide +kernel) ⟨Nat.le_of_ble_eq_true rfl, Nat.le_of_ble_eq_true rfl⟩) hK hW hA 1 rfl rfl rfl hl.1 rfl (Nat.le_of_ble_eq_true rfl) dX4_count_176 ⟨Nat.le_of_ble_eq_true rfl, Nat.le_of_ble_eq_true rfl⟩ (fun r_10 _ H locs hw hW => ?_)
    exact hret _ () _ _ _ _ hw hW dX4_count_179
  have hw := hw.2 hs8
  by_cases hs9 : w_1 = 9
  · have hw := hw.1 hs9
    refine lv_tableIn (tgt := 180) hx hb dX4_count_1 (by rw [hs9]; decide) (by rw [hs9]; decide) (by rw [hs9]; rfl) (by decide) ?_
    refine lv_aload_n hx hb dX4_count_180 rfl (lv_at hl 0 rfl) ?_
    refine va_get (D := D) (ci := 4) (v := .ref (a 1)) (C := RX4) (T := TX4) (N := 4) hx hb hts hinX4 hown hK hW.1 0 rfl rfl 0 (by decide) (hts _ (List.mem_of_getElem? (i := 3) rfl)) (fun _ h9 => h9) rfl dX4_count_181 ?_
    refine lv_sipush (v := 173) hx hb dX4_count_184 (by decide) ?_
    refine kV_Mi (As := [.int 173]) (rest := []) ⟨hx, hb, hml, hown, hts⟩ (ok_X2_get_ l D cI cJ a _ _ _ _ hw) (cwV 1 hts gX4_count_X2_get_ rfl rfl rfl (by decide +kernel) ⟨Nat.le_of_ble_eq_true rfl, Nat.le_of_ble_eq_true rfl⟩) hK hW hA 1 rfl rfl rfl hl.1 rfl (Nat.le_of_ble_eq_true rfl) dX4_count_187 ⟨Nat.le_of_ble_eq_true rfl, Nat.le_of_ble_eq_true rfl⟩ (fun r_11 _ H locs hw hW => ?_)
    exact hret _ () _ _ _ _ hw hW dX4_count_190
  have hw := hw.2 hs9
  by_cases hs10 : w_1 = 10
  · have hw := hw.1 hs10
    refine lv_tableIn (tgt := 191) hx hb dX4_count_1 (by rw [hs10]; decide) (by rw [hs10]; decide) (by rw [hs10]; rfl) (by decide) ?_
    refine lv_aload_n hx hb dX4_count_191 rfl (lv_at hl 0 rfl) ?_
    refine va_get (D := D) (ci := 4) (v := .ref (a 1)) (C := RX4) (T := TX4) (N := 4) hx hb hts hinX4 hown hK hW.1 0 rfl rfl 0 (by decide) (hts _ (List.mem_of_getElem? (i := 3) rfl)) (fun _ h9 => h9) rfl dX4_count_192 ?_
    refine lv_bipush (v := 6) hx hb dX4_count_195 (by decide) ?_
    refine lv_bipush (v := 6) hx hb dX4_count_197 (by decide) ?_
    refine kV_Mi (As := [.int 6, .int 6]) (rest := []) ⟨hx, hb, hml, hown, hts⟩ (ok_X2_sum l D cI cJ a _ _ _ _ _ hw) (cwV 2 hts gX4_count_X2_sum rfl rfl rfl (by decide +kernel) ⟨Nat.le_of_ble_eq_true rfl, Nat.le_of_ble_eq_true rfl⟩) hK hW hA 1 rfl rfl rfl hl.1 rfl (Nat.le_of_ble_eq_true rfl) dX4_count_199 ⟨Nat.le_of_ble_eq_true rfl, Nat.le_of_ble_eq_true rfl⟩ (fun r_12 _ H locs hw hW => ?_)
    exact hret _ () _ _ _ _ hw hW dX4_count_202
  have hw := hw.2 hs10
  by_cases hs11 : w_1 = 11
  · have hw := hw.1 hs11
    refine lv_tableIn (tgt := 203) hx hb dX4_count_1 (by rw [hs11]; decide) (by rw [hs11]; decide) (by rw [hs11]; rfl) (by decide) ?_
    refine lv_aload_n hx hb dX4_count_203 rfl (lv_at hl 0 rfl) ?_
    refine va_get (D := D) (ci := 4) (v := .ref (a 1)) (C := RX4) (T := TX4) (N := 4) hx hb hts hinX4 hown hK hW.1 0 rfl rfl 0 (by decide) (hts _ (List.mem_of_getElem? (i := 3) rfl)) (fun _ h9 => h9) rfl dX4_count_204 ?_
    refine lv_bipush (v := 36) hx hb dX4_count_207 (by decide) ?_
    refine lv_bipush (v := 6) hx hb dX4_count_209 (by decide) ?_
    refine kV_Mi (As := [.int 36, .int 6]) (rest := []) ⟨hx, hb, hml, hown, hts⟩ (ok_X2_sum l D cI cJ a _ _ _ _ _ hw) (cwV 2 hts gX4_count_X2_sum rfl rfl rfl (by decide +kernel) ⟨Nat.le_of_ble_eq_true rfl, Nat.le_of_ble_eq_true rfl⟩) hK hW hA 1 rfl rfl rfl hl.1 rfl (Nat.le_of_ble_eq_true rfl) dX4_count_211 ⟨Nat.le_of_ble_eq_true rfl, Nat.le_of_ble_eq_true rfl⟩ (fun r_13 _ H locs hw hW => ?_)
    exact hret _ () _ _ _ _ hw hW dX4_count_214
  have hw := hw.2 hs11
  by_cases hs12 : w_1 = 12
  · have hw := hw.1 hs12
    refine lv_tableIn (tgt := 215) hx hb dX4_count_1 (by rw [hs12]; decide) (by rw [hs12]; decide) (by rw [hs12]; rfl) (by decide) ?_
    refine lv_aload_n hx hb dX4_count_215 rfl (lv_at hl 0 rfl) ?_
    refine va_get (D := D) (ci := 4) (v := .ref (a 1)) (C := RX4) (T := TX4) (N := 4) hx hb hts hinX4 hown hK hW.1 0 rfl rfl 0 (by decide) (hts _ (List.mem_of_getElem? (i := 3) rfl)) (fun _ h9 => h9) rfl dX4_count_216 ?_
    refine lv_sipush (v := 171) hx hb dX4_count_219 (by decide) ?_
    refine kV_Mi (As := [.int 171]) (rest := []) ⟨hx, hb, hml, hown, hts⟩ (ok_X2_get_ l D cI cJ a _ _ _ _ hw) (cwV 1 hts gX4_count_X2_get_ rfl rfl rfl (by decide +kernel) ⟨Nat.le_of_ble_eq_true rfl, Nat.le_of_ble_eq_true rfl⟩) hK hW hA 1 rfl rfl rfl hl.1 rfl (Nat.le_of_ble_eq_true rfl) dX4_count_222 ⟨Nat.le_of_ble_eq_true rfl, Nat.le_of_ble_eq_true rfl⟩ (fun r_14 _ H locs hw hW => ?_)
    exact hret _ () _ _ _ _ hw hW dX4_count_225
  have hw := hw.2 hs12
  by_cases hs13 : w_1 = 13
  · have hw := hw.1 hs13
    refine lv_tableIn (tgt := 226) hx hb dX4_count_1 (by rw [hs13]; decide) (by rw [hs13]; decide) (by rw [hs13]; rfl) (by decide) ?_
    refine lv_aload_n hx hb dX4_count_226 rfl (lv_at hl 0 rfl) ?_
    refine va_get (D := D) (ci := 4) (v := .ref (a 1)) (C := RX4) (T := TX4) (N := 4) hx hb hts hinX4 hown hK hW.1 0 rfl rfl 0 (by decide) (hts _ (List.mem_of_getElem? (i := 3) rfl)) (fun _ h9 => h9) rfl dX4_count_227 ?_
    refine lv_sipush (v := 172) hx hb dX4_count_230 (by decide) ?_
    refine kV_Mi (As := [.int 172]) (rest := []) ⟨hx, hb, hml, hown, hts⟩ (ok_X2_get_ l D cI cJ a _ _ _ _ hw) (cwV 1 hts gX4_count_X2_get_ rfl rfl rfl (by decide +kernel) ⟨Nat.le_of_ble_eq_true rfl, Nat.le_of_ble_eq_true rfl⟩) hK hW hA 1 rfl rfl rfl hl.1 rfl (Nat.le_of_ble_eq_true rfl) dX4_count_233 ⟨Nat.le_of_ble_eq_true rfl, Nat.le_of_ble_eq_true rfl⟩ (fun r_15 _ H locs hw hW => ?_)
    exact hret _ () _ _ _ _ hw hW dX4_count_236
  have hw := hw.2 hs13
  by_cases hs14 : w_1 = 14
  · have hw := hw.1 hs14
    refine lv_tableIn (tgt := 237) hx hb dX4_count_1 (by rw [hs14]; decide) (by rw [hs14]; decide) (by rw [hs14]; rfl) (by decide) ?_
    refine lv_aload_n hx hb dX4_count_237 rfl (lv_at hl 0 rfl) ?_
    refine va_get (D := D) (ci := 4) (v := .ref (a 6)) (C := RX4) (T := TX4) (N := 4) hx hb hts hinX4 hown hK hW.1 0 rfl rfl 2 (by decide) (hts _ (List.mem_of_getElem? (i := 4) rfl)) (fun _ h9 => h9) rfl dX4_count_238 ?_
    refine kV_Mi (As := []) (rest := []) ⟨hx, hb, hml, hown, hts⟩ (ok_X0_savedStates l D cI cJ a _ _ _ hw) (cwV 0 hts gX4_count_X0_savedStates rfl rfl rfl (by decide +kernel) ⟨Nat.le_of_ble_eq_true rfl, Nat.le_of_ble_eq_true rfl⟩) hK hW hA 6 rfl rfl rfl hl.1 rfl (Nat.le_of_ble_eq_true rfl) dX4_count_241 ⟨Nat.le_of_ble_eq_true rfl, Nat.le_of_ble_eq_true rfl⟩ (fun r_16 _ H locs hw hW => ?_)
    exact hret _ () _ _ _ _ hw hW dX4_count_244
  have hw := hw.2 hs14
  refine lv_tableOut (tgt := 245) hx hb dX4_count_1 (by have q0 := lv_neT hs0 (a := 0) (by decide); have q1 := lv_neT hs1 (a := 1) (by decide); have q2 := lv_neT hs2 (a := 2) (by decide); have q3 := lv_neT hs3 (a := 3) (by decide); have q4 := lv_neT hs4 (a := 4) (by decide); have q5 := lv_neT hs5 (a := 5) (by decide); have q6 := lv_neT hs6 (a := 6) (by decide); have q7 := lv_neT hs7 (a := 7) (by decide); have q8 := lv_neT hs8 (a := 8) (by decide); have q9 := lv_neT hs9 (a := 9) (by decide); have q10 := lv_neT hs10 (a := 10) (by decide); have q11 := lv_neT hs11 (a := 11) (by decide); have q12 := lv_neT hs12 (a := 12) (by decide); have q13 := lv_neT hs13 (a := 13) (by decide); have q14 := lv_neT hs14 (a := 14) (by decide); omega) (by decide) ?_
  exact hw.elim
def wp_X4_setting (σ : CS) (p1 : Int32) (post : Int32 → Prop) (px : String → Prop) : Prop := wp_X4_needPlace σ p1 3 (wp_X2_get σ 162 p1 (fun r_1 => post r_1)) px
abbrev rm_X4_setting : Room := { frames := 9, cells := 1, slots := 6, locals := 161 }
theorem in_X4_setting_X4 : ∀ w ∈ wsX40, w ∈ wsX4_setting := fun w h => List.mem_cons_of_mem _ (List.mem_append_left _ (List.mem_append_left _ (List.mem_append_right _ (h))))
set_option maxHeartbeats 4000000 in
set_option maxRecDepth 100000 in
theorem ok_X4_setting (l : Launch) (hst : l.stackTraces = false) (D : va_G) (cI cJ : ClassId) (a : Nat → Nat) (sz : Nat) (σ : CS) (p1 : Int32) (post : Int32 → Prop) (px : String → Prop) (hw : wp_X4_setting σ p1 post px) : Xi l yX4_setting wsX4_setting rm_X4_setting [.ref (a 0), .int p1] D (tysIJ cI cJ) (cW cI cJ a σ) sz (fun r (_ : Unit) => post r) (fun _ => cW cI cJ a σ) px 1 6 := by
  refine s_Xi hst (by decide) rfl (Nat.le_of_ble_eq_true rfl) ?_
  intro p e s m args below meth c A Q hx hb hml hts hown hin hK hA hz hs hret hpass hthr1 hthr2 H locs ls hW hl
  have hown : s.vm.findClass RX4 = some m.cls := hown
  have hl : lv_has ls 2 [(0, .ref (a 0)), (1, .int p1)] := hl
  have hinX4 := in_X4_setting_X4
  refine lv_iload_n hx hb dX4_setting_0 rfl (lv_at hl 1 rfl) ?_
  refine lv_iconst (v := 3) hx hb dX4_setting_1 (by decide) ?_
  refine kS_Xv (As := [.int p1, .int 3]) (rest := []) ⟨hx, hb, hml, hown, hts⟩ (ok_X4_needPlace l hst D cI cJ a _ _ _ _ _ _ hw) (va_cwS 2 hts gX4_setting_X4_needPlace rfl rfl rfl (by decide +kernel) ⟨(Nat.le_of_ble_eq_true rfl), (Nat.le_of_ble_eq_true rfl)⟩) hK hW hA hz hs rfl hl.1 rfl (Nat.le_of_ble_eq_true rfl) dX4_setting_2 ⟨(Nat.le_of_ble_eq_true rfl), (Nat.le_of_ble_eq_true rfl)⟩ (fun E ce q H locs hE hW h1 h2 h3 => hpass E ce q H locs _ _ _ _ _ (Nat.le_of_ble_eq_true rfl) (Nat.le_of_ble_eq_true rfl) hE hW h1 h2 h3) (fun _ H locs hw hW => ?_)
  refine lv_aload_n hx hb dX4_setting_5 rfl (lv_at hl 0 rfl) ?_
  refine va_get (D := D) (ci := 4) (v := .ref (a 1)) (C := RX4) (T := TX4) (N := 4) hx hb hts hinX4 hown hK hW.1 0 rfl rfl 0 (by decide) (hts _ (List.mem_of_getElem? (i := 1) rfl)) (fun _ h9 => h9) rfl dX4_setting_6 ?_
  refine lv_sipush (v := 162) hx hb dX4_setting_9 (by decide) ?_
  refine lv_iload_n hx hb dX4_setting_12 rfl (lv_at hl 1 rfl) ?_
  refine kV_Mi (As := [.int 162, .int p1]) (rest := []) ⟨hx, hb, hml, hown, hts⟩ (ok_X2_get l D cI cJ a _ _ _ _ _ hw) (cwV 2 hts gX4_setting_X2_get rfl rfl rfl (by decide +kernel) ⟨Nat.le_of_ble_eq_true rfl, Nat.le_of_ble_eq_true rfl⟩) hK hW hA 1 rfl rfl rfl hl.1 rfl (Nat.le_of_ble_eq_true rfl) dX4_setting_13 ⟨Nat.le_of_ble_eq_true rfl, Nat.le_of_ble_eq_true rfl⟩ (fun r_1 _ H locs hw hW => ?_)
  exact hret _ () _ _ _ _ _ _ (Nat.le_of_ble_eq_true rfl) (Nat.le_of_ble_eq_true rfl) hw hW dX4_setting_16
abbrev rm_X4_setting_n : Room := { frames := 9, cells := 0, slots := 0, locals := 161 }
theorem in_X4_setting_n_X4 : ∀ w ∈ wsX40, w ∈ wsX4_setting := fun w h => List.mem_cons_of_mem _ (List.mem_append_left _ (List.mem_append_left _ (List.mem_append_right _ (h))))
set_option maxHeartbeats 4000000 in
set_option maxRecDepth 100000 in
theorem ok_X4_setting_n (l : Launch) (D : va_G) (cI cJ : ClassId) (a : Nat → Nat) (sz : Nat) (σ : CS) (p1 : Int32) (post : Int32 → Prop) (hw : wp_X4_setting σ p1 post (fun _ => False)) : Mi l yX4_setting wsX4_setting rm_X4_setting_n [.ref (a 0), .int p1] D (tysIJ cI cJ) (cW cI cJ a σ) sz (fun r (_ : Unit) => post r) (fun _ => cW cI cJ a σ) := by
  refine s_Mi (by decide) rfl (Nat.le_of_ble_eq_true rfl) ?_
  intro p e s m args below meth c A Q hx hb hml hts hown hin hK hA hret H locs ls hW hl
  have hown : s.vm.findClass RX4 = some m.cls := hown
  have hl : lv_has ls 2 [(0, .ref (a 0)), (1, .int p1)] := hl
  have hinX4 := in_X4_setting_n_X4
  refine lv_iload_n hx hb dX4_setting_0 rfl (lv_at hl 1 rfl) ?_
  refine lv_iconst (v := 3) hx hb dX4_setting_1 (by decide) ?_
  refine kS_Mv (As := [.int p1, .int 3]) (rest := []) ⟨hx, hb, hml, hown, hts⟩ (ok_X4_needPlace_n l D cI cJ a _ _ _ _ _ hw) (va_cwS 2 hts gX4_setting_X4_needPlace rfl rfl rfl (by decide +kernel) ⟨Nat.le_of_ble_eq_true rfl, Nat.le_of_ble_eq_true rfl⟩) hK hW hA rfl hl.1 rfl (Nat.le_of_ble_eq_true rfl) dX4_setting_2 ⟨Nat.le_of_ble_eq_true rfl, Nat.le_of_ble_eq_true rfl⟩ (fun _ H locs hw hW => ?_)
  refine lv_aload_n hx hb dX4_setting_5 rfl (lv_at hl 0 rfl) ?_
  refine va_get (D := D) (ci := 4) (v := .ref (a 1)) (C := RX4) (T := TX4) (N := 4) hx hb hts hinX4 hown hK hW.1 0 rfl rfl 0 (by decide) (hts _ (List.mem_of_getElem? (i := 1) rfl)) (fun _ h9 => h9) rfl dX4_setting_6 ?_
  refine lv_sipush (v := 162) hx hb dX4_setting_9 (by decide) ?_
  refine lv_iload_n hx hb dX4_setting_12 rfl (lv_at hl 1 rfl) ?_
  refine kV_Mi (As := [.int 162, .int p1]) (rest := []) ⟨hx, hb, hml, hown, hts⟩ (ok_X2_get l D cI cJ a _ _ _ _ _ hw) (cwV 2 hts gX4_setting_X2_get rfl rfl rfl (by decide +kernel) ⟨Nat.le_of_ble_eq_true rfl, Nat.le_of_ble_eq_true rfl⟩) hK hW hA 1 rfl rfl rfl hl.1 rfl (Nat.le_of_ble_eq_true rfl) dX4_setting_13 ⟨Nat.le_of_ble_eq_true rfl, Nat.le_of_ble_eq_true rfl⟩ (fun r_1 _ H locs hw hW => ?_)
  exact hret _ () _ _ _ _ hw hW dX4_setting_16
def wp_X4_why (σ : CS) (p1 : Int32) (p2 : Int32) (p3 : Int32) (post : Int32 → Prop) (px : String → Prop) : Prop := wp_X4_needPlace σ p1 6 (wp_X4_needPlace σ p2 6 (wp_X4_needRange σ p3 1 99 (wp_X2_whyNotSealed σ p1 p2 p3 (fun r_1 => post r_1)) px) px) px
abbrev rm_X4_why : Room := { frames := 9, cells := 3, slots := 18, locals := 162 }
theorem in_X4_why_X4 : ∀ w ∈ wsX40, w ∈ wsX4_why := fun w h => List.mem_cons_of_mem _ (List.mem_append_left _ (List.mem_append_left _ (List.mem_append_left _ (List.mem_append_right _ (h)))))
set_option maxHeartbeats 4000000 in
set_option maxRecDepth 100000 in
theorem ok_X4_why (l : Launch) (hst : l.stackTraces = false) (D : va_G) (cI cJ : ClassId) (a : Nat → Nat) (sz : Nat) (σ : CS) (p1 : Int32) (p2 : Int32) (p3 : Int32) (post : Int32 → Prop) (px : String → Prop) (hw : wp_X4_why σ p1 p2 p3 post px) : Xi l yX4_why wsX4_why rm_X4_why [.ref (a 0), .int p1, .int p2, .int p3] D (tysIJ cI cJ) (cW cI cJ a σ) sz (fun r (_ : Unit) => post r) (fun _ => cW cI cJ a σ) px 3 18 := by
  refine s_Xi hst (by decide) rfl (Nat.le_of_ble_eq_true rfl) ?_
  intro p e s m args below meth c A Q hx hb hml hts hown hin hK hA hz hs hret hpass hthr1 hthr2 H locs ls hW hl
  have hown : s.vm.findClass RX4 = some m.cls := hown
  have hl : lv_has ls 4 [(0, .ref (a 0)), (1, .int p1), (2, .int p2), (3, .int p3)] := hl
  have hinX4 := in_X4_why_X4
  refine lv_iload_n hx hb dX4_why_0 rfl (lv_at hl 1 rfl) ?_
  refine lv_bipush (v := 6) hx hb dX4_why_1 (by decide) ?_
  refine kS_Xv (As := [.int p1, .int 6]) (rest := []) ⟨hx, hb, hml, hown, hts⟩ (ok_X4_needPlace l hst D cI cJ a _ _ _ _ _ _ hw) (va_cwS 2 hts gX4_why_X4_needPlace rfl rfl rfl (by decide +kernel) ⟨(Nat.le_of_ble_eq_true rfl), (Nat.le_of_ble_eq_true rfl)⟩) hK hW hA hz hs rfl hl.1 rfl (Nat.le_of_ble_eq_true rfl) dX4_why_3 ⟨(Nat.le_of_ble_eq_true rfl), (Nat.le_of_ble_eq_true rfl)⟩ (fun E ce q H locs hE hW h1 h2 h3 => hpass E ce q H locs _ _ _ _ _ (Nat.le_of_ble_eq_true rfl) (Nat.le_of_ble_eq_true rfl) hE hW h1 h2 h3) (fun _ H locs hw hW => ?_)
  refine lv_iload_n hx hb dX4_why_6 rfl (lv_at hl 2 rfl) ?_
  refine lv_bipush (v := 6) hx hb dX4_why_7 (by decide) ?_
  refine kS_Xv (As := [.int p2, .int 6]) (rest := []) ⟨hx, hb, hml, hown, hts⟩ (ok_X4_needPlace l hst D cI cJ a _ _ _ _ _ _ hw) (va_cwS 2 hts gX4_why_X4_needPlace rfl rfl rfl (by decide +kernel) ⟨(Nat.le_of_ble_eq_true rfl), (Nat.le_of_ble_eq_true rfl)⟩) hK hW hA hz hs rfl hl.1 rfl (Nat.le_of_ble_eq_true rfl) dX4_why_9 ⟨(Nat.le_of_ble_eq_true rfl), (Nat.le_of_ble_eq_true rfl)⟩ (fun E ce q H locs hE hW h1 h2 h3 => hpass E ce q H locs _ _ _ _ _ (Nat.le_of_ble_eq_true rfl) (Nat.le_of_ble_eq_true rfl) hE hW h1 h2 h3) (fun _ H locs hw hW => ?_)
  refine lv_iload_n hx hb dX4_why_12 rfl (lv_at hl 3 rfl) ?_
  refine lv_iconst (v := 1) hx hb dX4_why_13 (by decide) ?_
  refine lv_bipush (v := 99) hx hb dX4_why_14 (by decide) ?_
  refine kS_Xv (As := [.int p3, .int 1, .int 99]) (rest := []) ⟨hx, hb, hml, hown, hts⟩ (ok_X4_needRange l hst D cI cJ a _ _ _ _ _ _ _ hw) (va_cwS 3 hts gX4_why_X4_needRange rfl rfl rfl (by decide +kernel) ⟨(Nat.le_of_ble_eq_true rfl), (Nat.le_of_ble_eq_true rfl)⟩) hK hW hA hz hs rfl hl.1 rfl (Nat.le_of_ble_eq_true rfl) dX4_why_16 ⟨(Nat.le_of_ble_eq_true rfl), (Nat.le_of_ble_eq_true rfl)⟩ (fun E ce q H locs hE hW h1 h2 h3 => hpass E ce q H locs _ _ _ _ _ (Nat.le_of_ble_eq_true rfl) (Nat.le_of_ble_eq_true rfl) hE hW h1 h2 h3) (fun _ H locs hw hW => ?_)
  refine lv_aload_n hx hb dX4_why_19 rfl (lv_at hl 0 rfl) ?_
  refine va_get (D := D) (ci := 4) (v := .ref (a 1)) (C := RX4) (T := TX4) (N := 4) hx hb hts hinX4 hown hK hW.1 0 rfl rfl 0 (by decide) (hts _ (List.mem_of_getElem? (i := 1) rfl)) (fun _ h9 => h9) rfl dX4_why_20 ?_
  refine lv_iload_n hx hb dX4_why_23 rfl (lv_at hl 1 rfl) ?_
  refine lv_iload_n hx hb dX4_why_24 rfl (lv_at hl 2 rfl) ?_
  refine lv_iload_n hx hb dX4_why_25 rfl (lv_at hl 3 rfl) ?_
  refine kV_Mi (As := [.int p1, .int p2, .int p3]) (rest := []) ⟨hx, hb, hml, hown, hts⟩ (ok_X2_whyNotSealed l D cI cJ a _ _ _ _ _ _ hw) (cwV 3 hts gX4_why_X2_whyNotSealed rfl rfl rfl (by decide +kernel) ⟨Nat.le_of_ble_eq_true rfl, Nat.le_of_ble_eq_true rfl⟩) hK hW hA 1 rfl rfl rfl hl.1 rfl (Nat.le_of_ble_eq_true rfl) dX4_why_26 ⟨Nat.le_of_ble_eq_true rfl, Nat.le_of_ble_eq_true rfl⟩ (fun r_1 _ H locs hw hW => ?_)
  exact hret _ () _ _ _ _ _ _ (Nat.le_of_ble_eq_true rfl) (Nat.le_of_ble_eq_true rfl) hw hW dX4_why_29
def wp_X4_worth (σ : CS) (p1 : Int32) (p2 : Int32) (post : Int32 → CS → Prop) (px : String → Prop) : Prop := wp_X4_needRange σ p1 0 6 (wp_X4_needRange σ p2 0 1 (wp_X4_findSharing σ (fun σ_1 => ((¬ p2 = 0 → wp_X1_worthWithout σ_1 p1 (fun r_2 => post r_2 σ_1)) ∧ (p2 = 0 → wp_X1_worthByTrying σ_1 p1 (fun r_3 => post r_3 σ_1))))) px) px
abbrev rm_X4_worth : Room := { frames := 10, cells := 2, slots := 12, locals := 438 }
theorem in_X4_worth_X4 : ∀ w ∈ wsX40, w ∈ wsX4_worth := fun w h => List.mem_cons_of_mem _ (List.mem_append_left _ (List.mem_append_left _ (List.mem_append_left _ (List.mem_append_right _ (h)))))
set_option maxHeartbeats 4000000 in
set_option maxRecDepth 100000 in
theorem ok_X4_worth (l : Launch) (hst : l.stackTraces = false) (D : va_G) (cI cJ : ClassId) (a : Nat → Nat) (sz : Nat) (σ : CS) (p1 : Int32) (p2 : Int32) (post : Int32 → CS → Prop) (px : String → Prop) (hw : wp_X4_worth σ p1 p2 post px) : Xi l yX4_worth wsX4_worth rm_X4_worth [.ref (a 0), .int p1, .int p2] D (tysIJ cI cJ) (cW cI cJ a σ) sz post (cW cI cJ a) px 2 12 := by
  refine s_Xi hst (by decide) rfl (Nat.le_of_ble_eq_true rfl) ?_
  intro p e s m args below meth c A Q hx hb hml hts hown hin hK hA hz hs hret hpass hthr1 hthr2 H locs ls hW hl
  have hown : s.vm.findClass RX4 = some m.cls := hown
  have hl : lv_has ls 3 [(0, .ref (a 0)), (1, .int p1), (2, .int p2)] := hl
  have hinX4 := in_X4_worth_X4
  refine lv_iload_n hx hb dX4_worth_0 rfl (lv_at hl 1 rfl) ?_
  refine lv_iconst (v := 0) hx hb dX4_worth_1 (by decide) ?_
  refine lv_bipush (v := 6) hx hb dX4_worth_2 (by decide) ?_
  refine kS_Xv (As := [.int p1, .int 0, .int 6]) (rest := []) ⟨hx, hb, hml, hown, hts⟩ (ok_X4_needRange l hst D cI cJ a _ _ _ _ _ _ _ hw) (va_cwS 3 hts gX4_worth_X4_needRange rfl rfl rfl (by decide +kernel) ⟨(Nat.le_of_ble_eq_true rfl), (Nat.le_of_ble_eq_true rfl)⟩) hK hW hA hz hs rfl hl.1 rfl (Nat.le_of_ble_eq_true rfl) dX4_worth_4 ⟨(Nat.le_of_ble_eq_true rfl), (Nat.le_of_ble_eq_true rfl)⟩ (fun E ce q H locs hE hW h1 h2 h3 => hpass E ce q H locs _ _ _ _ _ (Nat.le_of_ble_eq_true rfl) (Nat.le_of_ble_eq_true rfl) hE hW h1 h2 h3) (fun _ H locs hw hW => ?_)
  refine lv_iload_n hx hb dX4_worth_7 rfl (lv_at hl 2 rfl) ?_
  refine lv_iconst (v := 0) hx hb dX4_worth_8 (by decide) ?_
  refine lv_iconst (v := 1) hx hb dX4_worth_9 (by decide) ?_
  refine kS_Xv (As := [.int p2, .int 0, .int 1]) (rest := []) ⟨hx, hb, hml, hown, hts⟩ (ok_X4_needRange l hst D cI cJ a _ _ _ _ _ _ _ hw) (va_cwS 3 hts gX4_worth_X4_needRange rfl rfl rfl (by decide +kernel) ⟨(Nat.le_of_ble_eq_true rfl), (Nat.le_of_ble_eq_true rfl)⟩) hK hW hA hz hs rfl hl.1 rfl (Nat.le_of_ble_eq_true rfl) dX4_worth_10 ⟨(Nat.le_of_ble_eq_true rfl), (Nat.le_of_ble_eq_true rfl)⟩ (fun E ce q H locs hE hW h1 h2 h3 => hpass E ce q H locs _ _ _ _ _ (Nat.le_of_ble_eq_true rfl) (Nat.le_of_ble_eq_true rfl) hE hW h1 h2 h3) (fun _ H locs hw hW => ?_)
  refine lv_aload_n hx hb dX4_worth_13 rfl (lv_at hl 0 rfl) ?_
  refine kV_Mv (As := []) (rest := []) ⟨hx, hb, hml, hown, hts⟩ (ok_X4_findSharing l D cI cJ a _ _ _ hw) (cwV 0 hts gX4_worth_X4_findSharing rfl rfl rfl (by decide +kernel) ⟨Nat.le_of_ble_eq_true rfl, Nat.le_of_ble_eq_true rfl⟩) hK hW hA 0 rfl rfl rfl hl.1 rfl (Nat.le_of_ble_eq_true rfl) dX4_worth_14 ⟨Nat.le_of_ble_eq_true rfl, Nat.le_of_ble_eq_true rfl⟩ (fun σ_1 H locs hw hW => ?_)
  refine lv_iload_n hx hb dX4_worth_17 rfl (lv_at hl 2 rfl) ?_
  refine lv_if_ne (tgt := 32) hx hb dX4_worth_18 (by decide) (fun hc => ?_) (fun hc => ?_)
  · have hw := hw.1 hc
    refine lv_aload_n hx hb dX4_worth_32 rfl (lv_at hl 0 rfl) ?_
    refine va_get (D := D) (ci := 4) (v := .ref (a 3)) (C := RX4) (T := TX4) (N := 4) hx hb hts hinX4 hown hK hW.1 0 rfl rfl 1 (by decide) (hts _ (List.mem_of_getElem? (i := 1) rfl)) (fun _ h9 => h9) rfl dX4_worth_33 ?_
    refine lv_iload_n hx hb dX4_worth_36 rfl (lv_at hl 1 rfl) ?_
    refine kV_Mi (As := [.int p1]) (rest := []) ⟨hx, hb, hml, hown, hts⟩ (ok_X1_worthWithout l D cI cJ a _ _ _ _ hw) (cwV 1 hts gX4_worth_X1_worthWithout rfl rfl rfl (by decide +kernel) ⟨Nat.le_of_ble_eq_true rfl, Nat.le_of_ble_eq_true rfl⟩) hK hW hA 3 rfl rfl rfl hl.1 rfl (Nat.le_of_ble_eq_true rfl) dX4_worth_37 ⟨Nat.le_of_ble_eq_true rfl, Nat.le_of_ble_eq_true rfl⟩ (fun r_2 _ H locs hw hW => ?_)
    exact hret _ σ_1 _ _ _ _ _ _ (Nat.le_of_ble_eq_true rfl) (Nat.le_of_ble_eq_true rfl) hw hW dX4_worth_40
  · have hw := hw.2 hc
    refine lv_aload_n hx hb dX4_worth_21 rfl (lv_at hl 0 rfl) ?_
    refine va_get (D := D) (ci := 4) (v := .ref (a 3)) (C := RX4) (T := TX4) (N := 4) hx hb hts hinX4 hown hK hW.1 0 rfl rfl 1 (by decide) (hts _ (List.mem_of_getElem? (i := 1) rfl)) (fun _ h9 => h9) rfl dX4_worth_22 ?_
    refine lv_iload_n hx hb dX4_worth_25 rfl (lv_at hl 1 rfl) ?_
    refine kV_Mi (As := [.int p1]) (rest := []) ⟨hx, hb, hml, hown, hts⟩ (ok_X1_worthByTrying l D cI cJ a _ _ _ _ hw) (cwV 1 hts gX4_worth_X1_worthByTrying rfl rfl rfl (by decide +kernel) ⟨Nat.le_of_ble_eq_true rfl, Nat.le_of_ble_eq_true rfl⟩) hK hW hA 3 rfl rfl rfl hl.1 rfl (Nat.le_of_ble_eq_true rfl) dX4_worth_26 ⟨Nat.le_of_ble_eq_true rfl, Nat.le_of_ble_eq_true rfl⟩ (fun r_3 _ H locs hw hW => ?_)
    refine lv_goto (tgt := 40) hx hb dX4_worth_29 (by decide) ?_
    exact hret _ σ_1 _ _ _ _ _ _ (Nat.le_of_ble_eq_true rfl) (Nat.le_of_ble_eq_true rfl) hw hW dX4_worth_40
def wp_X4_ifOpened (σ : CS) (p1 : Int32) (p2 : Int32) (post : Int32 → CS → Prop) (px : String → Prop) : Prop := wp_X4_needPlace σ p1 6 (wp_X4_needRange σ p2 0 1 (wp_X4_findSharing σ (fun σ_1 => ((¬ p2 = 0 → wp_X1_priceOf σ_1 p1 (fun r_2 => post r_2 σ_1)) ∧ (p2 = 0 → wp_X1_ownerOf σ_1 p1 (fun r_3 => post r_3 σ_1))))) px) px
abbrev rm_X4_ifOpened : Room := { frames := 9, cells := 2, slots := 12, locals := 162 }
theorem in_X4_ifOpened_X4 : ∀ w ∈ wsX40, w ∈ wsX4_ifOpened := fun w h => List.mem_cons_of_mem _ (List.mem_append_left _ (List.mem_append_left _ (List.mem_append_left _ (List.mem_append_left _ (List.mem_append_right _ (h))))))
set_option maxHeartbeats 4000000 in
set_option maxRecDepth 100000 in
theorem ok_X4_ifOpened (l : Launch) (hst : l.stackTraces = false) (D : va_G) (cI cJ : ClassId) (a : Nat → Nat) (sz : Nat) (σ : CS) (p1 : Int32) (p2 : Int32) (post : Int32 → CS → Prop) (px : String → Prop) (hw : wp_X4_ifOpened σ p1 p2 post px) : Xi l yX4_ifOpened wsX4_ifOpened rm_X4_ifOpened [.ref (a 0), .int p1, .int p2] D (tysIJ cI cJ) (cW cI cJ a σ) sz post (cW cI cJ a) px 2 12 := by
  refine s_Xi hst (by decide) rfl (Nat.le_of_ble_eq_true rfl) ?_
  intro p e s m args below meth c A Q hx hb hml hts hown hin hK hA hz hs hret hpass hthr1 hthr2 H locs ls hW hl
  have hown : s.vm.findClass RX4 = some m.cls := hown
  have hl : lv_has ls 3 [(0, .ref (a 0)), (1, .int p1), (2, .int p2)] := hl
  have hinX4 := in_X4_ifOpened_X4
  refine lv_iload_n hx hb dX4_ifOpened_0 rfl (lv_at hl 1 rfl) ?_
  refine lv_bipush (v := 6) hx hb dX4_ifOpened_1 (by decide) ?_
  refine kS_Xv (As := [.int p1, .int 6]) (rest := []) ⟨hx, hb, hml, hown, hts⟩ (ok_X4_needPlace l hst D cI cJ a _ _ _ _ _ _ hw) (va_cwS 2 hts gX4_ifOpened_X4_needPlace rfl rfl rfl (by decide +kernel) ⟨(Nat.le_of_ble_eq_true rfl), (Nat.le_of_ble_eq_true rfl)⟩) hK hW hA hz hs rfl hl.1 rfl (Nat.le_of_ble_eq_true rfl) dX4_ifOpened_3 ⟨(Nat.le_of_ble_eq_true rfl), (Nat.le_of_ble_eq_true rfl)⟩ (fun E ce q H locs hE hW h1 h2 h3 => hpass E ce q H locs _ _ _ _ _ (Nat.le_of_ble_eq_true rfl) (Nat.le_of_ble_eq_true rfl) hE hW h1 h2 h3) (fun _ H locs hw hW => ?_)
  refine lv_iload_n hx hb dX4_ifOpened_6 rfl (lv_at hl 2 rfl) ?_
  refine lv_iconst (v := 0) hx hb dX4_ifOpened_7 (by decide) ?_
  refine lv_iconst (v := 1) hx hb dX4_ifOpened_8 (by decide) ?_
  refine kS_Xv (As := [.int p2, .int 0, .int 1]) (rest := []) ⟨hx, hb, hml, hown, hts⟩ (ok_X4_needRange l hst D cI cJ a _ _ _ _ _ _ _ hw) (va_cwS 3 hts gX4_ifOpened_X4_needRange rfl rfl rfl (by decide +kernel) ⟨(Nat.le_of_ble_eq_true rfl), (Nat.le_of_ble_eq_true rfl)⟩) hK hW hA hz hs rfl hl.1 rfl (Nat.le_of_ble_eq_true rfl) dX4_ifOpened_9 ⟨(Nat.le_of_ble_eq_true rfl), (Nat.le_of_ble_eq_true rfl)⟩ (fun E ce q H locs hE hW h1 h2 h3 => hpass E ce q H locs _ _ _ _ _ (Nat.le_of_ble_eq_true rfl) (Nat.le_of_ble_eq_true rfl) hE hW h1 h2 h3) (fun _ H locs hw hW => ?_)
  refine lv_aload_n hx hb dX4_ifOpened_12 rfl (lv_at hl 0 rfl) ?_
  refine kV_Mv (As := []) (rest := []) ⟨hx, hb, hml, hown, hts⟩ (ok_X4_findSharing l D cI cJ a _ _ _ hw) (cwV 0 hts gX4_ifOpened_X4_findSharing rfl rfl rfl (by decide +kernel) ⟨Nat.le_of_ble_eq_true rfl, Nat.le_of_ble_eq_true rfl⟩) hK hW hA 0 rfl rfl rfl hl.1 rfl (Nat.le_of_ble_eq_true rfl) dX4_ifOpened_13 ⟨Nat.le_of_ble_eq_true rfl, Nat.le_of_ble_eq_true rfl⟩ (fun σ_1 H locs hw hW => ?_)
  refine lv_iload_n hx hb dX4_ifOpened_16 rfl (lv_at hl 2 rfl) ?_
  refine lv_if_ne (tgt := 31) hx hb dX4_ifOpened_17 (by decide) (fun hc => ?_) (fun hc => ?_)
  · have hw := hw.1 hc
    refine lv_aload_n hx hb dX4_ifOpened_31 rfl (lv_at hl 0 rfl) ?_
    refine va_get (D := D) (ci := 4) (v := .ref (a 3)) (C := RX4) (T := TX4) (N := 4) hx hb hts hinX4 hown hK hW.1 0 rfl rfl 1 (by decide) (hts _ (List.mem_of_getElem? (i := 1) rfl)) (fun _ h9 => h9) rfl dX4_ifOpened_32 ?_
    refine lv_iload_n hx hb dX4_ifOpened_35 rfl (lv_at hl 1 rfl) ?_
    refine lv_aload_n hx hb dX4_ifOpened_36 rfl (lv_at hl 0 rfl) ?_
    refine va_get (D := D) (ci := 4) (v := .ref (a 1)) (C := RX4) (T := TX4) (N := 4) hx hb hts hinX4 hown hK hW.1 0 rfl rfl 0 (by decide) (hts _ (List.mem_of_getElem? (i := 2) rfl)) (fun _ h9 => h9) rfl dX4_ifOpened_37 ?_
    refine kV_Mi (As := [.int p1, .ref (a 1)]) (rest := []) ⟨hx, hb, hml, hown, hts⟩ (ok_X1_priceOf l D cI cJ a _ _ _ _ hw) (cwV 2 hts gX4_ifOpened_X1_priceOf rfl rfl rfl (by decide +kernel) ⟨Nat.le_of_ble_eq_true rfl, Nat.le_of_ble_eq_true rfl⟩) hK hW hA 3 rfl rfl rfl hl.1 rfl (Nat.le_of_ble_eq_true rfl) dX4_ifOpened_40 ⟨Nat.le_of_ble_eq_true rfl, Nat.le_of_ble_eq_true rfl⟩ (fun r_2 _ H locs hw hW => ?_)
    exact hret _ σ_1 _ _ _ _ _ _ (Nat.le_of_ble_eq_true rfl) (Nat.le_of_ble_eq_true rfl) hw hW dX4_ifOpened_43
  · have hw := hw.2 hc
    refine lv_aload_n hx hb dX4_ifOpened_20 rfl (lv_at hl 0 rfl) ?_
    refine va_get (D := D) (ci := 4) (v := .ref (a 3)) (C := RX4) (T := TX4) (N := 4) hx hb hts hinX4 hown hK hW.1 0 rfl rfl 1 (by decide) (hts _ (List.mem_of_getElem? (i := 1) rfl)) (fun _ h9 => h9) rfl dX4_ifOpened_21 ?_
    refine lv_iload_n hx hb dX4_ifOpened_24 rfl (lv_at hl 1 rfl) ?_
    refine kV_Mi (As := [.int p1]) (rest := []) ⟨hx, hb, hml, hown, hts⟩ (ok_X1_ownerOf l D cI cJ a _ _ _ _ hw) (cwV 1 hts gX4_ifOpened_X1_ownerOf rfl rfl rfl (by decide +kernel) ⟨Nat.le_of_ble_eq_true rfl, Nat.le_of_ble_eq_true rfl⟩) hK hW hA 3 rfl rfl rfl hl.1 rfl (Nat.le_of_ble_eq_true rfl) dX4_ifOpened_25 ⟨Nat.le_of_ble_eq_true rfl, Nat.le_of_ble_eq_true rfl⟩ (fun r_3 _ H locs hw hW => ?_)
    refine lv_goto (tgt := 43) hx hb dX4_ifOpened_28 (by decide) ?_
    exact hret _ σ_1 _ _ _ _ _ _ (Nat.le_of_ble_eq_true rfl) (Nat.le_of_ble_eq_true rfl) hw hW dX4_ifOpened_43
def wp_X4_ifBid (σ : CS) (p1 : Int32) (p2 : Int32) (p3 : Int32) (p4 : Int32) (post : Int32 → CS → Prop) (px : String → Prop) : Prop := wp_X4_needPlace σ p1 6 (wp_X4_needPlace σ p2 6 (wp_X4_needRange σ p3 1 99 (wp_X4_needRange σ p4 0 1 (wp_X1_readBids σ (fun σ_1 => wp_X1_keyOf σ_1 p1 p2 p3 (fun r_2 => wp_X1_replaceBid σ_1 p1 p2 r_2 (fun σ_3 => wp_X1_find σ_3 (-1) (fun σ_4 => wp_X1_spotOf σ_4 p1 (fun r_5 => ((p4 = 0 → post r_5 σ_4) ∧ (¬ p4 = 0 → ((¬ r_5 = (-1) → wp_X1_priceOf σ_4 r_5 (fun r_6 => post r_6 σ_4)) ∧ (r_5 = (-1) → post r_5 σ_4)))))))))) px) px) px) px
abbrev rm_X4_ifBid : Room := { frames := 9, cells := 4, slots := 24, locals := 162 }
theorem in_X4_ifBid_X4 : ∀ w ∈ wsX40, w ∈ wsX4_ifBid := fun w h => List.mem_cons_of_mem _ (List.mem_append_left _ (List.mem_append_left _ (List.mem_append_left _ (List.mem_append_left _ (List.mem_append_right _ (h))))))
set_option maxHeartbeats 4000000 in
set_option maxRecDepth 100000 in
theorem ok_X4_ifBid (l : Launch) (hst : l.stackTraces = false) (D : va_G) (cI cJ : ClassId) (a : Nat → Nat) (sz : Nat) (σ : CS) (p1 : Int32) (p2 : Int32) (p3 : Int32) (p4 : Int32) (post : Int32 → CS → Prop) (px : String → Prop) (hw : wp_X4_ifBid σ p1 p2 p3 p4 post px) : Xi l yX4_ifBid wsX4_ifBid rm_X4_ifBid [.ref (a 0), .int p1, .int p2, .int p3, .int p4] D (tysIJ cI cJ) (cW cI cJ a σ) sz post (cW cI cJ a) px 4 24 := by
  refine s_Xi hst (by decide) rfl (Nat.le_of_ble_eq_true rfl) ?_
  intro p e s m args below meth c A Q hx hb hml hts hown hin hK hA hz hs hret hpass hthr1 hthr2 H locs ls hW hl
  have hown : s.vm.findClass RX4 = some m.cls := hown
  have hl : lv_has ls 6 [(0, .ref (a 0)), (1, .int p1), (2, .int p2), (3, .int p3), (4, .int p4)] := hl
  have hinX4 := in_X4_ifBid_X4
  refine lv_iload_n hx hb dX4_ifBid_0 rfl (lv_at hl 1 rfl) ?_
  refine lv_bipush (v := 6) hx hb dX4_ifBid_1 (by decide) ?_
  refine kS_Xv (As := [.int p1, .int 6]) (rest := []) ⟨hx, hb, hml, hown, hts⟩ (ok_X4_needPlace l hst D cI cJ a _ _ _ _ _ _ hw) (va_cwS 2 hts gX4_ifBid_X4_needPlace rfl rfl rfl (by decide +kernel) ⟨(Nat.le_of_ble_eq_true rfl), (Nat.le_of_ble_eq_true rfl)⟩) hK hW hA hz hs rfl hl.1 rfl (Nat.le_of_ble_eq_true rfl) dX4_ifBid_3 ⟨(Nat.le_of_ble_eq_true rfl), (Nat.le_of_ble_eq_true rfl)⟩ (fun E ce q H locs hE hW h1 h2 h3 => hpass E ce q H locs _ _ _ _ _ (Nat.le_of_ble_eq_true rfl) (Nat.le_of_ble_eq_true rfl) hE hW h1 h2 h3) (fun _ H locs hw hW => ?_)
  refine lv_iload_n hx hb dX4_ifBid_6 rfl (lv_at hl 2 rfl) ?_
  refine lv_bipush (v := 6) hx hb dX4_ifBid_7 (by decide) ?_
  refine kS_Xv (As := [.int p2, .int 6]) (rest := []) ⟨hx, hb, hml, hown, hts⟩ (ok_X4_needPlace l hst D cI cJ a _ _ _ _ _ _ hw) (va_cwS 2 hts gX4_ifBid_X4_needPlace rfl rfl rfl (by decide +kernel) ⟨(Nat.le_of_ble_eq_true rfl), (Nat.le_of_ble_eq_true rfl)⟩) hK hW hA hz hs rfl hl.1 rfl (Nat.le_of_ble_eq_true rfl) dX4_ifBid_9 ⟨(Nat.le_of_ble_eq_true rfl), (Nat.le_of_ble_eq_true rfl)⟩ (fun E ce q H locs hE hW h1 h2 h3 => hpass E ce q H locs _ _ _ _ _ (Nat.le_of_ble_eq_true rfl) (Nat.le_of_ble_eq_true rfl) hE hW h1 h2 h3) (fun _ H locs hw hW => ?_)
  refine lv_iload_n hx hb dX4_ifBid_12 rfl (lv_at hl 3 rfl) ?_
  refine lv_iconst (v := 1) hx hb dX4_ifBid_13 (by decide) ?_
  refine lv_bipush (v := 99) hx hb dX4_ifBid_14 (by decide) ?_
  refine kS_Xv (As := [.int p3, .int 1, .int 99]) (rest := []) ⟨hx, hb, hml, hown, hts⟩ (ok_X4_needRange l hst D cI cJ a _ _ _ _ _ _ _ hw) (va_cwS 3 hts gX4_ifBid_X4_needRange rfl rfl rfl (by decide +kernel) ⟨(Nat.le_of_ble_eq_true rfl), (Nat.le_of_ble_eq_true rfl)⟩) hK hW hA hz hs rfl hl.1 rfl (Nat.le_of_ble_eq_true rfl) dX4_ifBid_16 ⟨(Nat.le_of_ble_eq_true rfl), (Nat.le_of_ble_eq_true rfl)⟩ (fun E ce q H locs hE hW h1 h2 h3 => hpass E ce q H locs _ _ _ _ _ (Nat.le_of_ble_eq_true rfl) (Nat.le_of_ble_eq_true rfl) hE hW h1 h2 h3) (fun _ H locs hw hW => ?_)
  refine lv_iload hx hb dX4_ifBid_19 (lv_at hl 4 rfl) ?_
  refine lv_iconst (v := 0) hx hb dX4_ifBid_21 (by decide) ?_
  refine lv_iconst (v := 1) hx hb dX4_ifBid_22 (by decide) ?_
  refine kS_Xv (As := [.int p4, .int 0, .int 1]) (rest := []) ⟨hx, hb, hml, hown, hts⟩ (ok_X4_needRange l hst D cI cJ a _ _ _ _ _ _ _ hw) (va_cwS 3 hts gX4_ifBid_X4_needRange rfl rfl rfl (by decide +kernel) ⟨(Nat.le_of_ble_eq_true rfl), (Nat.le_of_ble_eq_true rfl)⟩) hK hW hA hz hs rfl hl.1 rfl (Nat.le_of_ble_eq_true rfl) dX4_ifBid_23 ⟨(Nat.le_of_ble_eq_true rfl), (Nat.le_of_ble_eq_true rfl)⟩ (fun E ce q H locs hE hW h1 h2 h3 => hpass E ce q H locs _ _ _ _ _ (Nat.le_of_ble_eq_true rfl) (Nat.le_of_ble_eq_true rfl) hE hW h1 h2 h3) (fun _ H locs hw hW => ?_)
  refine lv_aload_n hx hb dX4_ifBid_26 rfl (lv_at hl 0 rfl) ?_
  refine va_get (D := D) (ci := 4) (v := .ref (a 3)) (C := RX4) (T := TX4) (N := 4) hx hb hts hinX4 hown hK hW.1 0 rfl rfl 1 (by decide) (hts _ (List.mem_of_getElem? (i := 1) rfl)) (fun _ h9 => h9) rfl dX4_ifBid_27 ?_
  refine lv_aload_n hx hb dX4_ifBid_30 rfl (lv_at hl 0 rfl) ?_
  refine va_get (D := D) (ci := 4) (v := .ref (a 1)) (C := RX4) (T := TX4) (N := 4) hx hb hts hinX4 hown hK hW.1 0 rfl rfl 0 (by decide) (hts _ (List.mem_of_getElem? (i := 2) rfl)) (fun _ h9 => h9) rfl dX4_ifBid_31 ?_
  refine kV_Mv (As := [.ref (a 1)]) (rest := []) ⟨hx, hb, hml, hown, hts⟩ (ok_X1_readBids l D cI cJ a _ _ _ hw) (cwV 1 hts gX4_ifBid_X1_readBids rfl rfl rfl (by decide +kernel) ⟨Nat.le_of_ble_eq_true rfl, Nat.le_of_ble_eq_true rfl⟩) hK hW hA 3 rfl rfl rfl hl.1 rfl (Nat.le_of_ble_eq_true rfl) dX4_ifBid_34 ⟨Nat.le_of_ble_eq_true rfl, Nat.le_of_ble_eq_true rfl⟩ (fun σ_1 H locs hw hW => ?_)
  refine lv_aload_n hx hb dX4_ifBid_37 rfl (lv_at hl 0 rfl) ?_
  refine va_get (D := D) (ci := 4) (v := .ref (a 3)) (C := RX4) (T := TX4) (N := 4) hx hb hts hinX4 hown hK hW.1 0 rfl rfl 1 (by decide) (hts _ (List.mem_of_getElem? (i := 1) rfl)) (fun _ h9 => h9) rfl dX4_ifBid_38 ?_
  refine lv_iload_n hx hb dX4_ifBid_41 rfl (lv_at hl 1 rfl) ?_
  refine lv_iload_n hx hb dX4_ifBid_42 rfl (lv_at hl 2 rfl) ?_
  refine lv_aload_n hx hb dX4_ifBid_43 rfl (lv_at hl 0 rfl) ?_
  refine va_get (D := D) (ci := 4) (v := .ref (a 1)) (C := RX4) (T := TX4) (N := 4) hx hb hts hinX4 hown hK hW.1 0 rfl rfl 0 (by decide) (hts _ (List.mem_of_getElem? (i := 2) rfl)) (fun _ h9 => h9) rfl dX4_ifBid_44 ?_
  refine lv_iload_n hx hb dX4_ifBid_47 rfl (lv_at hl 1 rfl) ?_
  refine lv_iload_n hx hb dX4_ifBid_48 rfl (lv_at hl 2 rfl) ?_
  refine lv_iload_n hx hb dX4_ifBid_49 rfl (lv_at hl 3 rfl) ?_
  refine kS_Ml (As := [.ref (a 1), .int p1, .int p2, .int p3]) (rest := [.int p2, .int p1, .ref (a 3)]) ⟨hx, hb, hml, hown, hts⟩ (ok_X1_keyOf l D cI cJ a _ _ _ _ _ _ hw) (va_cwS 4 hts gX4_ifBid_X1_keyOf rfl rfl rfl (by decide +kernel) ⟨Nat.le_of_ble_eq_true rfl, Nat.le_of_ble_eq_true rfl⟩) hK hW hA rfl hl.1 rfl (Nat.le_of_ble_eq_true rfl) dX4_ifBid_50 ⟨Nat.le_of_ble_eq_true rfl, Nat.le_of_ble_eq_true rfl⟩ (fun r_2 _ H locs hw hW => ?_)
  refine kV_Mv (As := [.int p1, .int p2, .long r_2]) (rest := []) ⟨hx, hb, hml, hown, hts⟩ (ok_X1_replaceBid l D cI cJ a _ _ _ _ _ _ hw) (cwV 3 hts gX4_ifBid_X1_replaceBid rfl rfl rfl (by decide +kernel) ⟨Nat.le_of_ble_eq_true rfl, Nat.le_of_ble_eq_true rfl⟩) hK hW hA 3 rfl rfl rfl hl.1 rfl (Nat.le_of_ble_eq_true rfl) dX4_ifBid_53 ⟨Nat.le_of_ble_eq_true rfl, Nat.le_of_ble_eq_true rfl⟩ (fun σ_3 H locs hw hW => ?_)
  refine lv_aload_n hx hb dX4_ifBid_56 rfl (lv_at hl 0 rfl) ?_
  refine va_get (D := D) (ci := 4) (v := .ref (a 3)) (C := RX4) (T := TX4) (N := 4) hx hb hts hinX4 hown hK hW.1 0 rfl rfl 1 (by decide) (hts _ (List.mem_of_getElem? (i := 1) rfl)) (fun _ h9 => h9) rfl dX4_ifBid_57 ?_
  refine lv_iconst (v := (-1)) hx hb dX4_ifBid_60 (by decide) ?_
  refine kV_Mv (As := [.int (-1)]) (rest := []) ⟨hx, hb, hml, hown, hts⟩ (ok_X1_find l D cI cJ a _ _ _ _ hw) (cwV 1 hts gX4_ifBid_X1_find rfl rfl rfl (by decide +kernel) ⟨Nat.le_of_ble_eq_true rfl, Nat.le_of_ble_eq_true rfl⟩) hK hW hA 3 rfl rfl rfl hl.1 rfl (Nat.le_of_ble_eq_true rfl) dX4_ifBid_61 ⟨Nat.le_of_ble_eq_true rfl, Nat.le_of_ble_eq_true rfl⟩ (fun σ_4 H locs hw hW => ?_)
  refine lv_aload_n hx hb dX4_ifBid_64 rfl (lv_at hl 0 rfl) ?_
  refine va_get (D := D) (ci := 4) (v := .ref (a 3)) (C := RX4) (T := TX4) (N := 4) hx hb hts hinX4 hown hK hW.1 0 rfl rfl 1 (by decide) (hts _ (List.mem_of_getElem? (i := 1) rfl)) (fun _ h9 => h9) rfl dX4_ifBid_65 ?_
  refine lv_iload_n hx hb dX4_ifBid_68 rfl (lv_at hl 1 rfl) ?_
  refine kV_Mi (As := [.int p1]) (rest := []) ⟨hx, hb, hml, hown, hts⟩ (ok_X1_spotOf l D cI cJ a _ _ _ _ hw) (cwV 1 hts gX4_ifBid_X1_spotOf rfl rfl rfl (by decide +kernel) ⟨Nat.le_of_ble_eq_true rfl, Nat.le_of_ble_eq_true rfl⟩) hK hW hA 3 rfl rfl rfl hl.1 rfl (Nat.le_of_ble_eq_true rfl) dX4_ifBid_69 ⟨Nat.le_of_ble_eq_true rfl, Nat.le_of_ble_eq_true rfl⟩ (fun r_5 _ H locs hw hW => ?_)
  refine lv_istore (lv' := [(5, .int r_5), (0, .ref (a 0)), (1, .int p1), (2, .int p2), (3, .int p3), (4, .int p4)]) hx hb dX4_ifBid_72 hl (by decide) rfl (fun ls hl => ?_)
  refine lv_iload hx hb dX4_ifBid_74 (lv_at hl 5 rfl) ?_
  refine lv_if_eq (tgt := 85) hx hb dX4_ifBid_76 (by decide) (fun hc => ?_) (fun hc => ?_)
  · have hw := hw.1 hc
    refine lv_iload hx hb dX4_ifBid_85 (lv_at hl 0 rfl) ?_
    refine lv_goto (tgt := 103) hx hb dX4_ifBid_87 (by decide) ?_
    exact hret _ σ_4 _ _ _ _ _ _ (Nat.le_of_ble_eq_true rfl) (Nat.le_of_ble_eq_true rfl) hw hW dX4_ifBid_103
  · have hw := hw.2 hc
    refine lv_iload hx hb dX4_ifBid_79 (lv_at hl 0 rfl) ?_
    refine lv_iconst (v := (-1)) hx hb dX4_ifBid_81 (by decide) ?_
    refine lv_icmp_ne (tgt := 90) hx hb dX4_ifBid_82 (by decide) (fun hc => ?_) (fun hc => ?_)
    · have hw := hw.1 hc
      refine lv_aload_n hx hb dX4_ifBid_90 rfl (lv_at hl 1 rfl) ?_
      refine va_get (D := D) (ci := 4) (v := .ref (a 3)) (C := RX4) (T := TX4) (N := 4) hx hb hts hinX4 hown hK hW.1 0 rfl rfl 1 (by decide) (hts _ (List.mem_of_getElem? (i := 1) rfl)) (fun _ h9 => h9) rfl dX4_ifBid_91 ?_
      refine lv_iload hx hb dX4_ifBid_94 (lv_at hl 0 rfl) ?_
      refine lv_aload_n hx hb dX4_ifBid_96 rfl (lv_at hl 1 rfl) ?_
      refine va_get (D := D) (ci := 4) (v := .ref (a 1)) (C := RX4) (T := TX4) (N := 4) hx hb hts hinX4 hown hK hW.1 0 rfl rfl 0 (by decide) (hts _ (List.mem_of_getElem? (i := 2) rfl)) (fun _ h9 => h9) rfl dX4_ifBid_97 ?_
      refine kV_Mi (As := [.int r_5, .ref (a 1)]) (rest := []) ⟨hx, hb, hml, hown, hts⟩ (ok_X1_priceOf l D cI cJ a _ _ _ _ hw) (cwV 2 hts gX4_ifBid_X1_priceOf rfl rfl rfl (by decide +kernel) ⟨Nat.le_of_ble_eq_true rfl, Nat.le_of_ble_eq_true rfl⟩) hK hW hA 3 rfl rfl rfl hl.1 rfl (Nat.le_of_ble_eq_true rfl) dX4_ifBid_100 ⟨Nat.le_of_ble_eq_true rfl, Nat.le_of_ble_eq_true rfl⟩ (fun r_6 _ H locs hw hW => ?_)
      exact hret _ σ_4 _ _ _ _ _ _ (Nat.le_of_ble_eq_true rfl) (Nat.le_of_ble_eq_true rfl) hw hW dX4_ifBid_103
    · have hw := hw.2 hc
      refine lv_iload hx hb dX4_ifBid_85 (lv_at hl 0 rfl) ?_
      refine lv_goto (tgt := 103) hx hb dX4_ifBid_87 (by decide) ?_
      exact hret _ σ_4 _ _ _ _ _ _ (Nat.le_of_ble_eq_true rfl) (Nat.le_of_ble_eq_true rfl) hw hW dX4_ifBid_103
abbrev rm_X4_ifBid_n : Room := { frames := 9, cells := 0, slots := 0, locals := 162 }
theorem in_X4_ifBid_n_X4 : ∀ w ∈ wsX40, w ∈ wsX4_ifBid := fun w h => List.mem_cons_of_mem _ (List.mem_append_left _ (List.mem_append_left _ (List.mem_append_left _ (List.mem_append_left _ (List.mem_append_right _ (h))))))
set_option maxHeartbeats 4000000 in
set_option maxRecDepth 100000 in
theorem ok_X4_ifBid_n (l : Launch) (D : va_G) (cI cJ : ClassId) (a : Nat → Nat) (sz : Nat) (σ : CS) (p1 : Int32) (p2 : Int32) (p3 : Int32) (p4 : Int32) (post : Int32 → CS → Prop) (hw : wp_X4_ifBid σ p1 p2 p3 p4 post (fun _ => False)) : Mi l yX4_ifBid wsX4_ifBid rm_X4_ifBid_n [.ref (a 0), .int p1, .int p2, .int p3, .int p4] D (tysIJ cI cJ) (cW cI cJ a σ) sz post (cW cI cJ a) := by
  refine s_Mi (by decide) rfl (Nat.le_of_ble_eq_true rfl) ?_
  intro p e s m args below meth c A Q hx hb hml hts hown hin hK hA hret H locs ls hW hl
  have hown : s.vm.findClass RX4 = some m.cls := hown
  have hl : lv_has ls 6 [(0, .ref (a 0)), (1, .int p1), (2, .int p2), (3, .int p3), (4, .int p4)] := hl
  have hinX4 := in_X4_ifBid_n_X4
  refine lv_iload_n hx hb dX4_ifBid_0 rfl (lv_at hl 1 rfl) ?_
  refine lv_bipush (v := 6) hx hb dX4_ifBid_1 (by decide) ?_
  refine kS_Mv (As := [.int p1, .int 6]) (rest := []) ⟨hx, hb, hml, hown, hts⟩ (ok_X4_needPlace_n l D cI cJ a _ _ _ _ _ hw) (va_cwS 2 hts gX4_ifBid_X4_needPlace rfl rfl rfl (by decide +kernel) ⟨Nat.le_of_ble_eq_true rfl, Nat.le_of_ble_eq_true rfl⟩) hK hW hA rfl hl.1 rfl (Nat.le_of_ble_eq_true rfl) dX4_ifBid_3 ⟨Nat.le_of_ble_eq_true rfl, Nat.le_of_ble_eq_true rfl⟩ (fun _ H locs hw hW => ?_)
  refine lv_iload_n hx hb dX4_ifBid_6 rfl (lv_at hl 2 rfl) ?_
  refine lv_bipush (v := 6) hx hb dX4_ifBid_7 (by decide) ?_
  refine kS_Mv (As := [.int p2, .int 6]) (rest := []) ⟨hx, hb, hml, hown, hts⟩ (ok_X4_needPlace_n l D cI cJ a _ _ _ _ _ hw) (va_cwS 2 hts gX4_ifBid_X4_needPlace rfl rfl rfl (by decide +kernel) ⟨Nat.le_of_ble_eq_true rfl, Nat.le_of_ble_eq_true rfl⟩) hK hW hA rfl hl.1 rfl (Nat.le_of_ble_eq_true rfl) dX4_ifBid_9 ⟨Nat.le_of_ble_eq_true rfl, Nat.le_of_ble_eq_true rfl⟩ (fun _ H locs hw hW => ?_)
  refine lv_iload_n hx hb dX4_ifBid_12 rfl (lv_at hl 3 rfl) ?_
  refine lv_iconst (v := 1) hx hb dX4_ifBid_13 (by decide) ?_
  refine lv_bipush (v := 99) hx hb dX4_ifBid_14 (by decide) ?_
  refine kS_Mv (As := [.int p3, .int 1, .int 99]) (rest := []) ⟨hx, hb, hml, hown, hts⟩ (ok_X4_needRange_n l D cI cJ a _ _ _ _ _ _ hw) (va_cwS 3 hts gX4_ifBid_X4_needRange rfl rfl rfl (by decide +kernel) ⟨Nat.le_of_ble_eq_true rfl, Nat.le_of_ble_eq_true rfl⟩) hK hW hA rfl hl.1 rfl (Nat.le_of_ble_eq_true rfl) dX4_ifBid_16 ⟨Nat.le_of_ble_eq_true rfl, Nat.le_of_ble_eq_true rfl⟩ (fun _ H locs hw hW => ?_)
  refine lv_iload hx hb dX4_ifBid_19 (lv_at hl 4 rfl) ?_
  refine lv_iconst (v := 0) hx hb dX4_ifBid_21 (by decide) ?_
  refine lv_iconst (v := 1) hx hb dX4_ifBid_22 (by decide) ?_
  refine kS_Mv (As := [.int p4, .int 0, .int 1]) (rest := []) ⟨hx, hb, hml, hown, hts⟩ (ok_X4_needRange_n l D cI cJ a _ _ _ _ _ _ hw) (va_cwS 3 hts gX4_ifBid_X4_needRange rfl rfl rfl (by decide +kernel) ⟨Nat.le_of_ble_eq_true rfl, Nat.le_of_ble_eq_true rfl⟩) hK hW hA rfl hl.1 rfl (Nat.le_of_ble_eq_true rfl) dX4_ifBid_23 ⟨Nat.le_of_ble_eq_true rfl, Nat.le_of_ble_eq_true rfl⟩ (fun _ H locs hw hW => ?_)
  refine lv_aload_n hx hb dX4_ifBid_26 rfl (lv_at hl 0 rfl) ?_
  refine va_get (D := D) (ci := 4) (v := .ref (a 3)) (C := RX4) (T := TX4) (N := 4) hx hb hts hinX4 hown hK hW.1 0 rfl rfl 1 (by decide) (hts _ (List.mem_of_getElem? (i := 1) rfl)) (fun _ h9 => h9) rfl dX4_ifBid_27 ?_
  refine lv_aload_n hx hb dX4_ifBid_30 rfl (lv_at hl 0 rfl) ?_
  refine va_get (D := D) (ci := 4) (v := .ref (a 1)) (C := RX4) (T := TX4) (N := 4) hx hb hts hinX4 hown hK hW.1 0 rfl rfl 0 (by decide) (hts _ (List.mem_of_getElem? (i := 2) rfl)) (fun _ h9 => h9) rfl dX4_ifBid_31 ?_
  refine kV_Mv (As := [.ref (a 1)]) (rest := []) ⟨hx, hb, hml, hown, hts⟩ (ok_X1_readBids l D cI cJ a _ _ _ hw) (cwV 1 hts gX4_ifBid_X1_readBids rfl rfl rfl (by decide +kernel) ⟨Nat.le_of_ble_eq_true rfl, Nat.le_of_ble_eq_true rfl⟩) hK hW hA 3 rfl rfl rfl hl.1 rfl (Nat.le_of_ble_eq_true rfl) dX4_ifBid_34 ⟨Nat.le_of_ble_eq_true rfl, Nat.le_of_ble_eq_true rfl⟩ (fun σ_1 H locs hw hW => ?_)
  refine lv_aload_n hx hb dX4_ifBid_37 rfl (lv_at hl 0 rfl) ?_
  refine va_get (D := D) (ci := 4) (v := .ref (a 3)) (C := RX4) (T := TX4) (N := 4) hx hb hts hinX4 hown hK hW.1 0 rfl rfl 1 (by decide) (hts _ (List.mem_of_getElem? (i := 1) rfl)) (fun _ h9 => h9) rfl dX4_ifBid_38 ?_
  refine lv_iload_n hx hb dX4_ifBid_41 rfl (lv_at hl 1 rfl) ?_
  refine lv_iload_n hx hb dX4_ifBid_42 rfl (lv_at hl 2 rfl) ?_
  refine lv_aload_n hx hb dX4_ifBid_43 rfl (lv_at hl 0 rfl) ?_
  refine va_get (D := D) (ci := 4) (v := .ref (a 1)) (C := RX4) (T := TX4) (N := 4) hx hb hts hinX4 hown hK hW.1 0 rfl rfl 0 (by decide) (hts _ (List.mem_of_getElem? (i := 2) rfl)) (fun _ h9 => h9) rfl dX4_ifBid_44 ?_
  refine lv_iload_n hx hb dX4_ifBid_47 rfl (lv_at hl 1 rfl) ?_
  refine lv_iload_n hx hb dX4_ifBid_48 rfl (lv_at hl 2 rfl) ?_
  refine lv_iload_n hx hb dX4_ifBid_49 rfl (lv_at hl 3 rfl) ?_
  refine kS_Ml (As := [.ref (a 1), .int p1, .int p2, .int p3]) (rest := [.int p2, .int p1, .ref (a 3)]) ⟨hx, hb, hml, hown, hts⟩ (ok_X1_keyOf l D cI cJ a _ _ _ _ _ _ hw) (va_cwS 4 hts gX4_ifBid_X1_keyOf rfl rfl rfl (by decide +kernel) ⟨Nat.le_of_ble_eq_true rfl, Nat.le_of_ble_eq_true rfl⟩) hK hW hA rfl hl.1 rfl (Nat.le_of_ble_eq_true rfl) dX4_ifBid_50 ⟨Nat.le_of_ble_eq_true rfl, Nat.le_of_ble_eq_true rfl⟩ (fun r_2 _ H locs hw hW => ?_)
  refine kV_Mv (As := [.int p1, .int p2, .long r_2]) (rest := []) ⟨hx, hb, hml, hown, hts⟩ (ok_X1_replaceBid l D cI cJ a _ _ _ _ _ _ hw) (cwV 3 hts gX4_ifBid_X1_replaceBid rfl rfl rfl (by decide +kernel) ⟨Nat.le_of_ble_eq_true rfl, Nat.le_of_ble_eq_true rfl⟩) hK hW hA 3 rfl rfl rfl hl.1 rfl (Nat.le_of_ble_eq_true rfl) dX4_ifBid_53 ⟨Nat.le_of_ble_eq_true rfl, Nat.le_of_ble_eq_true rfl⟩ (fun σ_3 H locs hw hW => ?_)
  refine lv_aload_n hx hb dX4_ifBid_56 rfl (lv_at hl 0 rfl) ?_
  refine va_get (D := D) (ci := 4) (v := .ref (a 3)) (C := RX4) (T := TX4) (N := 4) hx hb hts hinX4 hown hK hW.1 0 rfl rfl 1 (by decide) (hts _ (List.mem_of_getElem? (i := 1) rfl)) (fun _ h9 => h9) rfl dX4_ifBid_57 ?_
  refine lv_iconst (v := (-1)) hx hb dX4_ifBid_60 (by decide) ?_
  refine kV_Mv (As := [.int (-1)]) (rest := []) ⟨hx, hb, hml, hown, hts⟩ (ok_X1_find l D cI cJ a _ _ _ _ hw) (cwV 1 hts gX4_ifBid_X1_find rfl rfl rfl (by decide +kernel) ⟨Nat.le_of_ble_eq_true rfl, Nat.le_of_ble_eq_true rfl⟩) hK hW hA 3 rfl rfl rfl hl.1 rfl (Nat.le_of_ble_eq_true rfl) dX4_ifBid_61 ⟨Nat.le_of_ble_eq_true rfl, Nat.le_of_ble_eq_true rfl⟩ (fun σ_4 H locs hw hW => ?_)
  refine lv_aload_n hx hb dX4_ifBid_64 rfl (lv_at hl 0 rfl) ?_
  refine va_get (D := D) (ci := 4) (v := .ref (a 3)) (C := RX4) (T := TX4) (N := 4) hx hb hts hinX4 hown hK hW.1 0 rfl rfl 1 (by decide) (hts _ (List.mem_of_getElem? (i := 1) rfl)) (fun _ h9 => h9) rfl dX4_ifBid_65 ?_
  refine lv_iload_n hx hb dX4_ifBid_68 rfl (lv_at hl 1 rfl) ?_
  refine kV_Mi (As := [.int p1]) (rest := []) ⟨hx, hb, hml, hown, hts⟩ (ok_X1_spotOf l D cI cJ a _ _ _ _ hw) (cwV 1 hts gX4_ifBid_X1_spotOf rfl rfl rfl (by decide +kernel) ⟨Nat.le_of_ble_eq_true rfl, Nat.le_of_ble_eq_true rfl⟩) hK hW hA 3 rfl rfl rfl hl.1 rfl (Nat.le_of_ble_eq_true rfl) dX4_ifBid_69 ⟨Nat.le_of_ble_eq_true rfl, Nat.le_of_ble_eq_true rfl⟩ (fun r_5 _ H locs hw hW => ?_)
  refine lv_istore (lv' := [(5, .int r_5), (0, .ref (a 0)), (1, .int p1), (2, .int p2), (3, .int p3), (4, .int p4)]) hx hb dX4_ifBid_72 hl (by decide) rfl (fun ls hl => ?_)
  refine lv_iload hx hb dX4_ifBid_74 (lv_at hl 5 rfl) ?_
  refine lv_if_eq (tgt := 85) hx hb dX4_ifBid_76 (by decide) (fun hc => ?_) (fun hc => ?_)
  · have hw := hw.1 hc
    refine lv_iload hx hb dX4_ifBid_85 (lv_at hl 0 rfl) ?_
    refine lv_goto (tgt := 103) hx hb dX4_ifBid_87 (by decide) ?_
    exact hret _ σ_4 _ _ _ _ hw hW dX4_ifBid_103
  · have hw := hw.2 hc
    refine lv_iload hx hb dX4_ifBid_79 (lv_at hl 0 rfl) ?_
    refine lv_iconst (v := (-1)) hx hb dX4_ifBid_81 (by decide) ?_
    refine lv_icmp_ne (tgt := 90) hx hb dX4_ifBid_82 (by decide) (fun hc => ?_) (fun hc => ?_)
    · have hw := hw.1 hc
      refine lv_aload_n hx hb dX4_ifBid_90 rfl (lv_at hl 1 rfl) ?_
      refine va_get (D := D) (ci := 4) (v := .ref (a 3)) (C := RX4) (T := TX4) (N := 4) hx hb hts hinX4 hown hK hW.1 0 rfl rfl 1 (by decide) (hts _ (List.mem_of_getElem? (i := 1) rfl)) (fun _ h9 => h9) rfl dX4_ifBid_91 ?_
      refine lv_iload hx hb dX4_ifBid_94 (lv_at hl 0 rfl) ?_
      refine lv_aload_n hx hb dX4_ifBid_96 rfl (lv_at hl 1 rfl) ?_
      refine va_get (D := D) (ci := 4) (v := .ref (a 1)) (C := RX4) (T := TX4) (N := 4) hx hb hts hinX4 hown hK hW.1 0 rfl rfl 0 (by decide) (hts _ (List.mem_of_getElem? (i := 2) rfl)) (fun _ h9 => h9) rfl dX4_ifBid_97 ?_
      refine kV_Mi (As := [.int r_5, .ref (a 1)]) (rest := []) ⟨hx, hb, hml, hown, hts⟩ (ok_X1_priceOf l D cI cJ a _ _ _ _ hw) (cwV 2 hts gX4_ifBid_X1_priceOf rfl rfl rfl (by decide +kernel) ⟨Nat.le_of_ble_eq_true rfl, Nat.le_of_ble_eq_true rfl⟩) hK hW hA 3 rfl rfl rfl hl.1 rfl (Nat.le_of_ble_eq_true rfl) dX4_ifBid_100 ⟨Nat.le_of_ble_eq_true rfl, Nat.le_of_ble_eq_true rfl⟩ (fun r_6 _ H locs hw hW => ?_)
      exact hret _ σ_4 _ _ _ _ hw hW dX4_ifBid_103
    · have hw := hw.2 hc
      refine lv_iload hx hb dX4_ifBid_85 (lv_at hl 0 rfl) ?_
      refine lv_goto (tgt := 103) hx hb dX4_ifBid_87 (by decide) ?_
      exact hret _ σ_4 _ _ _ _ hw hW dX4_ifBid_103
def wp_X4_leastWinning (σ : CS) (p1 : Int32) (p2 : Int32) (post : Int32 → CS → Prop) : Prop := wp_X1_readBids σ (fun σ_1 => wp_X1_replaceBid σ_1 p1 p2 0 (fun σ_2 => wp_X1_find σ_2 (-1) (fun σ_3 => wp_X1_keyWithout σ_3 (-1) (fun r_4 => wp_X1_find σ_3 p2 (fun σ_5 => wp_X1_keyWithout σ_5 p1 (fun r_6 => ∃ I7 : Nat → Int32 → Prop, (∃ n : Nat, I7 n 1) ∧ ∀ (n7 : Nat) (v7_7 : Int32), I7 n7 v7_7 → ((99 < v7_7 → post (-1) σ_5) ∧ (¬ 99 < v7_7 → wp_X1_keyOf σ_5 p1 p2 v7_7 (fun r_8 => (((lg_cmp r_8 0) = 0 → ∀ v7_9 : Int32, v7_9 = v7_7 + 1 → ∃ n' : Nat, n' < n7 ∧ I7 n' v7_9) ∧ (¬ (lg_cmp r_8 0) = 0 → (((lg_cmp (r_6 + r_8) r_4) ≤ 0 → ∀ v7_10 : Int32, v7_10 = v7_7 + 1 → ∃ n' : Nat, n' < n7 ∧ I7 n' v7_10) ∧ (¬ (lg_cmp (r_6 + r_8) r_4) ≤ 0 → post v7_7 σ_5)))))))))))))
abbrev rm_X4_leastWinning : Room := { frames := 3, cells := 0, slots := 0, locals := 89 }
theorem in_X4_leastWinning_X4 : ∀ w ∈ wsX40, w ∈ wsX4_leastWinning := fun w h => List.mem_cons_of_mem _ (List.mem_append_left _ (List.mem_append_left _ (List.mem_append_right _ (h))))
set_option maxHeartbeats 4000000 in
set_option maxRecDepth 100000 in
theorem ok_X4_leastWinning (l : Launch) (D : va_G) (cI cJ : ClassId) (a : Nat → Nat) (sz : Nat) (σ : CS) (p1 : Int32) (p2 : Int32) (post : Int32 → CS → Prop) (hw : wp_X4_leastWinning σ p1 p2 post) : Mi l yX4_leastWinning wsX4_leastWinning rm_X4_leastWinning [.ref (a 0), .int p1, .int p2] D (tysIJ cI cJ) (cW cI cJ a σ) sz post (cW cI cJ a) := by
  refine s_Mi (by decide) rfl (Nat.le_of_ble_eq_true rfl) ?_
  intro p e s m args below meth c A Q hx hb hml hts hown hin hK hA hret H locs ls hW hl
  have hown : s.vm.findClass RX4 = some m.cls := hown
  have hl : lv_has ls 10 [(0, .ref (a 0)), (1, .int p1), (2, .int p2)] := hl
  have hinX4 := in_X4_leastWinning_X4
  refine lv_aload_n hx hb dX4_leastWinning_0 rfl (lv_at hl 0 rfl) ?_
  refine va_get (D := D) (ci := 4) (v := .ref (a 3)) (C := RX4) (T := TX4) (N := 4) hx hb hts hinX4 hown hK hW.1 0 rfl rfl 1 (by decide) (hts _ (List.mem_of_getElem? (i := 1) rfl)) (fun _ h9 => h9) rfl dX4_leastWinning_1 ?_
  refine lv_aload_n hx hb dX4_leastWinning_4 rfl (lv_at hl 0 rfl) ?_
  refine va_get (D := D) (ci := 4) (v := .ref (a 1)) (C := RX4) (T := TX4) (N := 4) hx hb hts hinX4 hown hK hW.1 0 rfl rfl 0 (by decide) (hts _ (List.mem_of_getElem? (i := 2) rfl)) (fun _ h9 => h9) rfl dX4_leastWinning_5 ?_
  refine kV_Mv (As := [.ref (a 1)]) (rest := []) ⟨hx, hb, hml, hown, hts⟩ (ok_X1_readBids l D cI cJ a _ _ _ hw) (cwV 1 hts gX4_leastWinning_X1_readBids rfl rfl rfl (by decide +kernel) ⟨Nat.le_of_ble_eq_true rfl, Nat.le_of_ble_eq_true rfl⟩) hK hW hA 3 rfl rfl rfl hl.1 rfl (Nat.le_of_ble_eq_true rfl) dX4_leastWinning_8 ⟨Nat.le_of_ble_eq_true rfl, Nat.le_of_ble_eq_true rfl⟩ (fun σ_1 H locs hw hW => ?_)
  refine lv_aload_n hx hb dX4_leastWinning_11 rfl (lv_at hl 0 rfl) ?_
  refine va_get (D := D) (ci := 4) (v := .ref (a 3)) (C := RX4) (T := TX4) (N := 4) hx hb hts hinX4 hown hK hW.1 0 rfl rfl 1 (by decide) (hts _ (List.mem_of_getElem? (i := 1) rfl)) (fun _ h9 => h9) rfl dX4_leastWinning_12 ?_
  refine lv_iload_n hx hb dX4_leastWinning_15 rfl (lv_at hl 1 rfl) ?_
  refine lv_iload_n hx hb dX4_leastWinning_16 rfl (lv_at hl 2 rfl) ?_
  refine lv_lconst (v := 0) hx hb dX4_leastWinning_17 (by decide) ?_
  refine kV_Mv (As := [.int p1, .int p2, .long 0]) (rest := []) ⟨hx, hb, hml, hown, hts⟩ (ok_X1_replaceBid l D cI cJ a _ _ _ _ _ _ hw) (cwV 3 hts gX4_leastWinning_X1_replaceBid rfl rfl rfl (by decide +kernel) ⟨Nat.le_of_ble_eq_true rfl, Nat.le_of_ble_eq_true rfl⟩) hK hW hA 3 rfl rfl rfl hl.1 rfl (Nat.le_of_ble_eq_true rfl) dX4_leastWinning_18 ⟨Nat.le_of_ble_eq_true rfl, Nat.le_of_ble_eq_true rfl⟩ (fun σ_2 H locs hw hW => ?_)
  refine lv_aload_n hx hb dX4_leastWinning_21 rfl (lv_at hl 0 rfl) ?_
  refine va_get (D := D) (ci := 4) (v := .ref (a 3)) (C := RX4) (T := TX4) (N := 4) hx hb hts hinX4 hown hK hW.1 0 rfl rfl 1 (by decide) (hts _ (List.mem_of_getElem? (i := 1) rfl)) (fun _ h9 => h9) rfl dX4_leastWinning_22 ?_
  refine lv_iconst (v := (-1)) hx hb dX4_leastWinning_25 (by decide) ?_
  refine kV_Mv (As := [.int (-1)]) (rest := []) ⟨hx, hb, hml, hown, hts⟩ (ok_X1_find l D cI cJ a _ _ _ _ hw) (cwV 1 hts gX4_leastWinning_X1_find rfl rfl rfl (by decide +kernel) ⟨Nat.le_of_ble_eq_true rfl, Nat.le_of_ble_eq_true rfl⟩) hK hW hA 3 rfl rfl rfl hl.1 rfl (Nat.le_of_ble_eq_true rfl) dX4_leastWinning_26 ⟨Nat.le_of_ble_eq_true rfl, Nat.le_of_ble_eq_true rfl⟩ (fun σ_3 H locs hw hW => ?_)
  refine lv_aload_n hx hb dX4_leastWinning_29 rfl (lv_at hl 0 rfl) ?_
  refine va_get (D := D) (ci := 4) (v := .ref (a 3)) (C := RX4) (T := TX4) (N := 4) hx hb hts hinX4 hown hK hW.1 0 rfl rfl 1 (by decide) (hts _ (List.mem_of_getElem? (i := 1) rfl)) (fun _ h9 => h9) rfl dX4_leastWinning_30 ?_
  refine lv_iconst (v := (-1)) hx hb dX4_leastWinning_33 (by decide) ?_
  refine kV_Ml (As := [.int (-1)]) (rest := []) ⟨hx, hb, hml, hown, hts⟩ (ok_X1_keyWithout l D cI cJ a _ _ _ _ hw) (cwV 1 hts gX4_leastWinning_X1_keyWithout rfl rfl rfl (by decide +kernel) ⟨Nat.le_of_ble_eq_true rfl, Nat.le_of_ble_eq_true rfl⟩) hK hW hA 3 rfl rfl rfl hl.1 rfl (Nat.le_of_ble_eq_true rfl) dX4_leastWinning_34 ⟨Nat.le_of_ble_eq_true rfl, Nat.le_of_ble_eq_true rfl⟩ (fun r_4 _ H locs hw hW => ?_)
  refine lv_lstore_n (lv' := [(3, .long r_4), (0, .ref (a 0)), (1, .int p1), (2, .int p2)]) hx hb dX4_leastWinning_37 rfl hl (by decide) rfl (fun ls hl => ?_)
  refine lv_aload_n hx hb dX4_leastWinning_38 rfl (lv_at hl 1 rfl) ?_
  refine va_get (D := D) (ci := 4) (v := .ref (a 3)) (C := RX4) (T := TX4) (N := 4) hx hb hts hinX4 hown hK hW.1 0 rfl rfl 1 (by decide) (hts _ (List.mem_of_getElem? (i := 1) rfl)) (fun _ h9 => h9) rfl dX4_leastWinning_39 ?_
  refine lv_iload_n hx hb dX4_leastWinning_42 rfl (lv_at hl 3 rfl) ?_
  refine kV_Mv (As := [.int p2]) (rest := []) ⟨hx, hb, hml, hown, hts⟩ (ok_X1_find l D cI cJ a _ _ _ _ hw) (cwV 1 hts gX4_leastWinning_X1_find rfl rfl rfl (by decide +kernel) ⟨Nat.le_of_ble_eq_true rfl, Nat.le_of_ble_eq_true rfl⟩) hK hW hA 3 rfl rfl rfl hl.1 rfl (Nat.le_of_ble_eq_true rfl) dX4_leastWinning_43 ⟨Nat.le_of_ble_eq_true rfl, Nat.le_of_ble_eq_true rfl⟩ (fun σ_5 H locs hw hW => ?_)
  refine lv_aload_n hx hb dX4_leastWinning_46 rfl (lv_at hl 1 rfl) ?_
  refine va_get (D := D) (ci := 4) (v := .ref (a 3)) (C := RX4) (T := TX4) (N := 4) hx hb hts hinX4 hown hK hW.1 0 rfl rfl 1 (by decide) (hts _ (List.mem_of_getElem? (i := 1) rfl)) (fun _ h9 => h9) rfl dX4_leastWinning_47 ?_
  refine lv_iload_n hx hb dX4_leastWinning_50 rfl (lv_at hl 2 rfl) ?_
  refine kV_Ml (As := [.int p1]) (rest := []) ⟨hx, hb, hml, hown, hts⟩ (ok_X1_keyWithout l D cI cJ a _ _ _ _ hw) (cwV 1 hts gX4_leastWinning_X1_keyWithout rfl rfl rfl (by decide +kernel) ⟨Nat.le_of_ble_eq_true rfl, Nat.le_of_ble_eq_true rfl⟩) hK hW hA 3 rfl rfl rfl hl.1 rfl (Nat.le_of_ble_eq_true rfl) dX4_leastWinning_51 ⟨Nat.le_of_ble_eq_true rfl, Nat.le_of_ble_eq_true rfl⟩ (fun r_6 _ H locs hw hW => ?_)
  refine lv_lstore (lv' := [(5, .long r_6), (3, .long r_4), (0, .ref (a 0)), (1, .int p1), (2, .int p2)]) hx hb dX4_leastWinning_54 hl (by decide) rfl (fun ls hl => ?_)
  refine lv_iconst (v := 1) hx hb dX4_leastWinning_56 (by decide) ?_
  refine lv_istore (lv' := [(7, .int 1), (5, .long r_6), (3, .long r_4), (0, .ref (a 0)), (1, .int p1), (2, .int p2)]) hx hb dX4_leastWinning_57 hl (by decide) rfl (fun ls hl => ?_)
  obtain ⟨I7, ⟨n7, hI7⟩, hJ7⟩ := hw
  have hl : lv_has ls 10 [(0, .ref (a 0)), (1, .int p1), (2, .int p2), (3, .long r_4), (5, .long r_6), (7, .int 1)] := lv_sub hl [3, 4, 5, 2, 1, 0] rfl
  suffices LP7 : ∀ (n : Nat) (v7_7 : Int32) (H : Heap) (locs : List Loc) (ls : Array Slot), I7 n v7_7 → Wd D A s.heap (cW cI cJ a σ_5) H locs → lv_has ls 10 [(0, .ref (a 0)), (1, .int p1), (2, .int p2), (3, .long r_4), (5, .long r_6), (7, .int v7_7)] → W p l e rm_X4_leastWinning s m args below meth c H locs 0 0 Q (F0 m 59 ls []) from LP7 n7 1 H locs ls hI7 hW hl
  intro n7
  induction n7 using Nat.strongRecOn with
  | ind n7 ih7 =>
    intro v7_7 H locs ls hIn hW hl
    have hw := hJ7 n7 v7_7 hIn
    refine lv_iload hx hb dX4_leastWinning_59 (lv_at hl 5 rfl) ?_
    refine lv_bipush (v := 99) hx hb dX4_leastWinning_61 (by decide) ?_
    refine lv_icmp_gt (tgt := 105) hx hb dX4_leastWinning_63 (by decide) (fun hc => ?_) (fun hc => ?_)
    · have hw := hw.1 hc
      refine lv_iconst (v := (-1)) hx hb dX4_leastWinning_105 (by decide) ?_
      exact hret _ σ_5 _ _ _ _ hw hW dX4_leastWinning_106
    · have hw := hw.2 hc
      refine lv_aload_n hx hb dX4_leastWinning_66 rfl (lv_at hl 0 rfl) ?_
      refine va_get (D := D) (ci := 4) (v := .ref (a 1)) (C := RX4) (T := TX4) (N := 4) hx hb hts hinX4 hown hK hW.1 0 rfl rfl 0 (by decide) (hts _ (List.mem_of_getElem? (i := 2) rfl)) (fun _ h9 => h9) rfl dX4_leastWinning_67 ?_
      refine lv_iload_n hx hb dX4_leastWinning_70 rfl (lv_at hl 1 rfl) ?_
      refine lv_iload_n hx hb dX4_leastWinning_71 rfl (lv_at hl 2 rfl) ?_
      refine lv_iload hx hb dX4_leastWinning_72 (lv_at hl 5 rfl) ?_
      refine kS_Ml (As := [.ref (a 1), .int p1, .int p2, .int v7_7]) (rest := []) ⟨hx, hb, hml, hown, hts⟩ (ok_X1_keyOf l D cI cJ a _ _ _ _ _ _ hw) (va_cwS 4 hts gX4_leastWinning_X1_keyOf rfl rfl rfl (by decide +kernel) ⟨Nat.le_of_ble_eq_true rfl, Nat.le_of_ble_eq_true rfl⟩) hK hW hA rfl hl.1 rfl (Nat.le_of_ble_eq_true rfl) dX4_leastWinning_74 ⟨Nat.le_of_ble_eq_true rfl, Nat.le_of_ble_eq_true rfl⟩ (fun r_8 _ H locs hw hW => ?_)
      refine lv_lstore (lv' := [(8, .long r_8), (0, .ref (a 0)), (1, .int p1), (2, .int p2), (3, .long r_4), (5, .long r_6), (7, .int v7_7)]) hx hb dX4_leastWinning_77 hl (by decide) rfl (fun ls hl => ?_)
      refine lv_lload hx hb dX4_leastWinning_79 (lv_at hl 0 rfl) ?_
      refine lv_lconst (v := 0) hx hb dX4_leastWinning_81 (by decide) ?_
      refine W.lcmp hx hb dX4_leastWinning_82 ?_
      refine lv_if_eq (tgt := 99) hx hb dX4_leastWinning_83 (by decide) (fun hc => ?_) (fun hc => ?_)
      · have hw := hw.1 hc
        obtain ⟨v7_9, ev7_9⟩ : ∃ y : Int32, y = v7_7 + 1 := ⟨_, rfl⟩
        have hw := hw v7_9 ev7_9
        refine lv_iinc (v := v7_9) (lv' := [(7, .int v7_9), (8, .long r_8), (0, .ref (a 0)), (1, .int p1), (2, .int p2), (3, .long r_4), (5, .long r_6)]) hx hb dX4_leastWinning_99 hl (k := 6) rfl (by rw [ev7_9]; rfl) (by decide) rfl (fun ls hl => ?_)
        refine lv_goto (tgt := 59) hx hb dX4_leastWinning_102 (by decide) ?_
        obtain ⟨n9, hlt9, hI9⟩ := hw
        exact ih7 n9 hlt9 _ _ _ _ hI9 hW (lv_sub hl [2, 3, 4, 5, 6, 0] rfl)
      · have hw := hw.2 hc
        refine lv_lload hx hb dX4_leastWinning_86 (lv_at hl 5 rfl) ?_
        refine lv_lload hx hb dX4_leastWinning_88 (lv_at hl 0 rfl) ?_
        refine lv_ladd hx hb dX4_leastWinning_90 ?_
        refine lv_lload_n hx hb dX4_leastWinning_91 rfl (lv_at hl 4 rfl) ?_
        refine W.lcmp hx hb dX4_leastWinning_92 ?_
        refine lv_if_le (tgt := 99) hx hb dX4_leastWinning_93 (by decide) (fun hc => ?_) (fun hc => ?_)
        · have hw := hw.1 hc
          obtain ⟨v7_10, ev7_10⟩ : ∃ y : Int32, y = v7_7 + 1 := ⟨_, rfl⟩
          have hw := hw v7_10 ev7_10
          refine lv_iinc (v := v7_10) (lv' := [(7, .int v7_10), (8, .long r_8), (0, .ref (a 0)), (1, .int p1), (2, .int p2), (3, .long r_4), (5, .long r_6)]) hx hb dX4_leastWinning_99 hl (k := 6) rfl (by rw [ev7_10]; rfl) (by decide) rfl (fun ls hl => ?_)
          refine lv_goto (tgt := 59) hx hb dX4_leastWinning_102 (by decide) ?_
          obtain ⟨n9, hlt9, hI9⟩ := hw
          exact ih7 n9 hlt9 _ _ _ _ hI9 hW (lv_sub hl [2, 3, 4, 5, 6, 0] rfl)
        · have hw := hw.2 hc
          refine lv_iload hx hb dX4_leastWinning_96 (lv_at hl 6 rfl) ?_
          exact hret _ σ_5 _ _ _ _ hw hW dX4_leastWinning_98
def wp_X4_least (σ : CS) (p1 : Int32) (p2 : Int32) (post : Int32 → CS → Prop) (px : String → Prop) : Prop := wp_X4_needPlace σ p1 6 (wp_X4_needPlace σ p2 6 (wp_X4_leastWinning σ p1 p2 (fun r_1 σ_2 => post r_1 σ_2)) px) px
abbrev rm_X4_least : Room := { frames := 9, cells := 2, slots := 12, locals := 161 }
set_option maxHeartbeats 4000000 in
set_option maxRecDepth 100000 in
theorem ok_X4_least (l : Launch) (hst : l.stackTraces = false) (D : va_G) (cI cJ : ClassId) (a : Nat → Nat) (sz : Nat) (σ : CS) (p1 : Int32) (p2 : Int32) (post : Int32 → CS → Prop) (px : String → Prop) (hw : wp_X4_least σ p1 p2 post px) : Xi l yX4_least wsX4_least rm_X4_least [.ref (a 0), .int p1, .int p2] D (tysIJ cI cJ) (cW cI cJ a σ) sz post (cW cI cJ a) px 2 12 := by
  refine s_Xi hst (by decide) rfl (Nat.le_of_ble_eq_true rfl) ?_
  intro p e s m args below meth c A Q hx hb hml hts hown hin hK hA hz hs hret hpass hthr1 hthr2 H locs ls hW hl
  have hown : s.vm.findClass RX4 = some m.cls := hown
  have hl : lv_has ls 3 [(0, .ref (a 0)), (1, .int p1), (2, .int p2)] := hl
  refine lv_iload_n hx hb dX4_least_0 rfl (lv_at hl 1 rfl) ?_
  refine lv_bipush (v := 6) hx hb dX4_least_1 (by decide) ?_
  refine kS_Xv (As := [.int p1, .int 6]) (rest := []) ⟨hx, hb, hml, hown, hts⟩ (ok_X4_needPlace l hst D cI cJ a _ _ _ _ _ _ hw) (va_cwS 2 hts gX4_least_X4_needPlace rfl rfl rfl (by decide +kernel) ⟨(Nat.le_of_ble_eq_true rfl), (Nat.le_of_ble_eq_true rfl)⟩) hK hW hA hz hs rfl hl.1 rfl (Nat.le_of_ble_eq_true rfl) dX4_least_3 ⟨(Nat.le_of_ble_eq_true rfl), (Nat.le_of_ble_eq_true rfl)⟩ (fun E ce q H locs hE hW h1 h2 h3 => hpass E ce q H locs _ _ _ _ _ (Nat.le_of_ble_eq_true rfl) (Nat.le_of_ble_eq_true rfl) hE hW h1 h2 h3) (fun _ H locs hw hW => ?_)
  refine lv_iload_n hx hb dX4_least_6 rfl (lv_at hl 2 rfl) ?_
  refine lv_bipush (v := 6) hx hb dX4_least_7 (by decide) ?_
  refine kS_Xv (As := [.int p2, .int 6]) (rest := []) ⟨hx, hb, hml, hown, hts⟩ (ok_X4_needPlace l hst D cI cJ a _ _ _ _ _ _ hw) (va_cwS 2 hts gX4_least_X4_needPlace rfl rfl rfl (by decide +kernel) ⟨(Nat.le_of_ble_eq_true rfl), (Nat.le_of_ble_eq_true rfl)⟩) hK hW hA hz hs rfl hl.1 rfl (Nat.le_of_ble_eq_true rfl) dX4_least_9 ⟨(Nat.le_of_ble_eq_true rfl), (Nat.le_of_ble_eq_true rfl)⟩ (fun E ce q H locs hE hW h1 h2 h3 => hpass E ce q H locs _ _ _ _ _ (Nat.le_of_ble_eq_true rfl) (Nat.le_of_ble_eq_true rfl) hE hW h1 h2 h3) (fun _ H locs hw hW => ?_)
  refine lv_aload_n hx hb dX4_least_12 rfl (lv_at hl 0 rfl) ?_
  refine lv_iload_n hx hb dX4_least_13 rfl (lv_at hl 1 rfl) ?_
  refine lv_iload_n hx hb dX4_least_14 rfl (lv_at hl 2 rfl) ?_
  refine kV_Mi (As := [.int p1, .int p2]) (rest := []) ⟨hx, hb, hml, hown, hts⟩ (ok_X4_leastWinning l D cI cJ a _ _ _ _ _ hw) (cwV 2 hts gX4_least_X4_leastWinning rfl rfl rfl (by decide +kernel) ⟨Nat.le_of_ble_eq_true rfl, Nat.le_of_ble_eq_true rfl⟩) hK hW hA 0 rfl rfl rfl hl.1 rfl (Nat.le_of_ble_eq_true rfl) dX4_least_15 ⟨Nat.le_of_ble_eq_true rfl, Nat.le_of_ble_eq_true rfl⟩ (fun r_1 σ_2 H locs hw hW => ?_)
  exact hret _ σ_2 _ _ _ _ _ _ (Nat.le_of_ble_eq_true rfl) (Nat.le_of_ble_eq_true rfl) hw hW dX4_least_18
abbrev rm_X4_least_n : Room := { frames := 9, cells := 0, slots := 0, locals := 161 }
set_option maxHeartbeats 4000000 in
set_option maxRecDepth 100000 in
theorem ok_X4_least_n (l : Launch) (D : va_G) (cI cJ : ClassId) (a : Nat → Nat) (sz : Nat) (σ : CS) (p1 : Int32) (p2 : Int32) (post : Int32 → CS → Prop) (hw : wp_X4_least σ p1 p2 post (fun _ => False)) : Mi l yX4_least wsX4_least rm_X4_least_n [.ref (a 0), .int p1, .int p2] D (tysIJ cI cJ) (cW cI cJ a σ) sz post (cW cI cJ a) := by
  refine s_Mi (by decide) rfl (Nat.le_of_ble_eq_true rfl) ?_
  intro p e s m args below meth c A Q hx hb hml hts hown hin hK hA hret H locs ls hW hl
  have hown : s.vm.findClass RX4 = some m.cls := hown
  have hl : lv_has ls 3 [(0, .ref (a 0)), (1, .int p1), (2, .int p2)] := hl
  refine lv_iload_n hx hb dX4_least_0 rfl (lv_at hl 1 rfl) ?_
  refine lv_bipush (v := 6) hx hb dX4_least_1 (by decide) ?_
  refine kS_Mv (As := [.int p1, .int 6]) (rest := []) ⟨hx, hb, hml, hown, hts⟩ (ok_X4_needPlace_n l D cI cJ a _ _ _ _ _ hw) (va_cwS 2 hts gX4_least_X4_needPlace rfl rfl rfl (by decide +kernel) ⟨Nat.le_of_ble_eq_true rfl, Nat.le_of_ble_eq_true rfl⟩) hK hW hA rfl hl.1 rfl (Nat.le_of_ble_eq_true rfl) dX4_least_3 ⟨Nat.le_of_ble_eq_true rfl, Nat.le_of_ble_eq_true rfl⟩ (fun _ H locs hw hW => ?_)
  refine lv_iload_n hx hb dX4_least_6 rfl (lv_at hl 2 rfl) ?_
  refine lv_bipush (v := 6) hx hb dX4_least_7 (by decide) ?_
  refine kS_Mv (As := [.int p2, .int 6]) (rest := []) ⟨hx, hb, hml, hown, hts⟩ (ok_X4_needPlace_n l D cI cJ a _ _ _ _ _ hw) (va_cwS 2 hts gX4_least_X4_needPlace rfl rfl rfl (by decide +kernel) ⟨Nat.le_of_ble_eq_true rfl, Nat.le_of_ble_eq_true rfl⟩) hK hW hA rfl hl.1 rfl (Nat.le_of_ble_eq_true rfl) dX4_least_9 ⟨Nat.le_of_ble_eq_true rfl, Nat.le_of_ble_eq_true rfl⟩ (fun _ H locs hw hW => ?_)
  refine lv_aload_n hx hb dX4_least_12 rfl (lv_at hl 0 rfl) ?_
  refine lv_iload_n hx hb dX4_least_13 rfl (lv_at hl 1 rfl) ?_
  refine lv_iload_n hx hb dX4_least_14 rfl (lv_at hl 2 rfl) ?_
  refine kV_Mi (As := [.int p1, .int p2]) (rest := []) ⟨hx, hb, hml, hown, hts⟩ (ok_X4_leastWinning l D cI cJ a _ _ _ _ _ hw) (cwV 2 hts gX4_least_X4_leastWinning rfl rfl rfl (by decide +kernel) ⟨Nat.le_of_ble_eq_true rfl, Nat.le_of_ble_eq_true rfl⟩) hK hW hA 0 rfl rfl rfl hl.1 rfl (Nat.le_of_ble_eq_true rfl) dX4_least_15 ⟨Nat.le_of_ble_eq_true rfl, Nat.le_of_ble_eq_true rfl⟩ (fun r_1 σ_2 H locs hw hW => ?_)
  exact hret _ σ_2 _ _ _ _ hw hW dX4_least_18
def wp_X4_keenest (σ : CS) (post : Int32 → CS → Prop) : Prop := wp_X4_findSharing σ (fun σ_1 => ∃ I2 : Nat → Int32 → Int32 → Prop, (∃ n : Nat, I2 n 0 1) ∧ ∀ (n2 : Nat) (v1_2 : Int32) (v2_2 : Int32), I2 n2 v1_2 v2_2 → ((6 ≤ v2_2 → post v1_2 σ_1) ∧ (¬ 6 ≤ v2_2 → wp_X1_worthWithout σ_1 v2_2 (fun r_3 => wp_X1_worthWithout σ_1 v1_2 (fun r_4 => ((r_4 ≤ r_3 → ∀ v2_5 : Int32, v2_5 = v2_2 + 1 → ∃ n' : Nat, n' < n2 ∧ I2 n' v1_2 v2_5) ∧ (¬ r_4 ≤ r_3 → ∀ v2_6 : Int32, v2_6 = v2_2 + 1 → ∃ n' : Nat, n' < n2 ∧ I2 n' v2_2 v2_6)))))))
abbrev rm_X4_keenest : Room := { frames := 4, cells := 0, slots := 0, locals := 109 }
theorem in_X4_keenest_X4 : ∀ w ∈ wsX40, w ∈ wsX4_keenest := fun w h => List.mem_cons_of_mem _ (List.mem_append_left _ (List.mem_append_left _ (List.mem_append_right _ (h))))
set_option maxHeartbeats 4000000 in
set_option maxRecDepth 100000 in
theorem ok_X4_keenest (l : Launch) (D : va_G) (cI cJ : ClassId) (a : Nat → Nat) (sz : Nat) (σ : CS) (post : Int32 → CS → Prop) (hw : wp_X4_keenest σ post) : Mi l yX4_keenest wsX4_keenest rm_X4_keenest [.ref (a 0)] D (tysIJ cI cJ) (cW cI cJ a σ) sz post (cW cI cJ a) := by
  refine s_Mi (by decide) rfl (Nat.le_of_ble_eq_true rfl) ?_
  intro p e s m args below meth c A Q hx hb hml hts hown hin hK hA hret H locs ls hW hl
  have hown : s.vm.findClass RX4 = some m.cls := hown
  have hl : lv_has ls 3 [(0, .ref (a 0))] := hl
  have hinX4 := in_X4_keenest_X4
  refine lv_aload_n hx hb dX4_keenest_0 rfl (lv_at hl 0 rfl) ?_
  refine kV_Mv (As := []) (rest := []) ⟨hx, hb, hml, hown, hts⟩ (ok_X4_findSharing l D cI cJ a _ _ _ hw) (cwV 0 hts gX4_keenest_X4_findSharing rfl rfl rfl (by decide +kernel) ⟨Nat.le_of_ble_eq_true rfl, Nat.le_of_ble_eq_true rfl⟩) hK hW hA 0 rfl rfl rfl hl.1 rfl (Nat.le_of_ble_eq_true rfl) dX4_keenest_1 ⟨Nat.le_of_ble_eq_true rfl, Nat.le_of_ble_eq_true rfl⟩ (fun σ_1 H locs hw hW => ?_)
  refine lv_iconst (v := 0) hx hb dX4_keenest_4 (by decide) ?_
  refine lv_istore_n (lv' := [(1, .int 0), (0, .ref (a 0))]) hx hb dX4_keenest_5 rfl hl (by decide) rfl (fun ls hl => ?_)
  refine lv_iconst (v := 1) hx hb dX4_keenest_6 (by decide) ?_
  refine lv_istore_n (lv' := [(2, .int 1), (1, .int 0), (0, .ref (a 0))]) hx hb dX4_keenest_7 rfl hl (by decide) rfl (fun ls hl => ?_)
  obtain ⟨I2, ⟨n2, hI2⟩, hJ2⟩ := hw
  have hl : lv_has ls 3 [(0, .ref (a 0)), (1, .int 0), (2, .int 1)] := lv_sub hl [2, 1, 0] rfl
  suffices LP2 : ∀ (n : Nat) (v1_2 : Int32) (v2_2 : Int32) (H : Heap) (locs : List Loc) (ls : Array Slot), I2 n v1_2 v2_2 → Wd D A s.heap (cW cI cJ a σ_1) H locs → lv_has ls 3 [(0, .ref (a 0)), (1, .int v1_2), (2, .int v2_2)] → W p l e rm_X4_keenest s m args below meth c H locs 0 0 Q (F0 m 8 ls []) from LP2 n2 0 1 H locs ls hI2 hW hl
  intro n2
  induction n2 using Nat.strongRecOn with
  | ind n2 ih2 =>
    intro v1_2 v2_2 H locs ls hIn hW hl
    have hw := hJ2 n2 v1_2 v2_2 hIn
    refine lv_iload_n hx hb dX4_keenest_8 rfl (lv_at hl 2 rfl) ?_
    refine lv_bipush (v := 6) hx hb dX4_keenest_9 (by decide) ?_
    refine lv_icmp_ge (tgt := 41) hx hb dX4_keenest_11 (by decide) (fun hc => ?_) (fun hc => ?_)
    · have hw := hw.1 hc
      refine lv_iload_n hx hb dX4_keenest_41 rfl (lv_at hl 1 rfl) ?_
      exact hret _ σ_1 _ _ _ _ hw hW dX4_keenest_42
    · have hw := hw.2 hc
      refine lv_aload_n hx hb dX4_keenest_14 rfl (lv_at hl 0 rfl) ?_
      refine va_get (D := D) (ci := 4) (v := .ref (a 3)) (C := RX4) (T := TX4) (N := 4) hx hb hts hinX4 hown hK hW.1 0 rfl rfl 1 (by decide) (hts _ (List.mem_of_getElem? (i := 1) rfl)) (fun _ h9 => h9) rfl dX4_keenest_15 ?_
      refine lv_iload_n hx hb dX4_keenest_18 rfl (lv_at hl 2 rfl) ?_
      refine kV_Mi (As := [.int v2_2]) (rest := []) ⟨hx, hb, hml, hown, hts⟩ (ok_X1_worthWithout l D cI cJ a _ _ _ _ hw) (cwV 1 hts gX4_keenest_X1_worthWithout rfl rfl rfl (by decide +kernel) ⟨Nat.le_of_ble_eq_true rfl, Nat.le_of_ble_eq_true rfl⟩) hK hW hA 3 rfl rfl rfl hl.1 rfl (Nat.le_of_ble_eq_true rfl) dX4_keenest_19 ⟨Nat.le_of_ble_eq_true rfl, Nat.le_of_ble_eq_true rfl⟩ (fun r_3 _ H locs hw hW => ?_)
      refine lv_aload_n hx hb dX4_keenest_22 rfl (lv_at hl 0 rfl) ?_
      refine va_get (D := D) (ci := 4) (v := .ref (a 3)) (C := RX4) (T := TX4) (N := 4) hx hb hts hinX4 hown hK hW.1 0 rfl rfl 1 (by decide) (hts _ (List.mem_of_getElem? (i := 1) rfl)) (fun _ h9 => h9) rfl dX4_keenest_23 ?_
      refine lv_iload_n hx hb dX4_keenest_26 rfl (lv_at hl 1 rfl) ?_
      refine kV_Mi (As := [.int v1_2]) (rest := [.int r_3]) ⟨hx, hb, hml, hown, hts⟩ (ok_X1_worthWithout l D cI cJ a _ _ _ _ hw) (cwV 1 hts gX4_keenest_X1_worthWithout rfl rfl rfl (by decide +kernel) ⟨Nat.le_of_ble_eq_true rfl, Nat.le_of_ble_eq_true rfl⟩) hK hW hA 3 rfl rfl rfl hl.1 rfl (Nat.le_of_ble_eq_true rfl) dX4_keenest_27 ⟨Nat.le_of_ble_eq_true rfl, Nat.le_of_ble_eq_true rfl⟩ (fun r_4 _ H locs hw hW => ?_)
      refine lv_icmp_ge (tgt := 35) hx hb dX4_keenest_30 (by decide) (fun hc => ?_) (fun hc => ?_)
      · have hw := hw.1 hc
        obtain ⟨v2_5, ev2_5⟩ : ∃ y : Int32, y = v2_2 + 1 := ⟨_, rfl⟩
        have hw := hw v2_5 ev2_5
        refine lv_iinc (v := v2_5) (lv' := [(2, .int v2_5), (0, .ref (a 0)), (1, .int v1_2)]) hx hb dX4_keenest_35 hl (k := 2) rfl (by rw [ev2_5]; rfl) (by decide) rfl (fun ls hl => ?_)
        refine lv_goto (tgt := 8) hx hb dX4_keenest_38 (by decide) ?_
        obtain ⟨n9, hlt9, hI9⟩ := hw
        exact ih2 n9 hlt9 _ _ _ _ _ hI9 hW (lv_sub hl [1, 2, 0] rfl)
      · have hw := hw.2 hc
        refine lv_iload_n hx hb dX4_keenest_33 rfl (lv_at hl 2 rfl) ?_
        refine lv_istore_n (lv' := [(1, .int v2_2), (0, .ref (a 0)), (2, .int v2_2)]) hx hb dX4_keenest_34 rfl hl (by decide) rfl (fun ls hl => ?_)
        obtain ⟨v2_6, ev2_6⟩ : ∃ y : Int32, y = v2_2 + 1 := ⟨_, rfl⟩
        have hw := hw v2_6 ev2_6
        refine lv_iinc (v := v2_6) (lv' := [(2, .int v2_6), (1, .int v2_2), (0, .ref (a 0))]) hx hb dX4_keenest_35 hl (k := 2) rfl (by rw [ev2_6]; rfl) (by decide) rfl (fun ls hl => ?_)
        refine lv_goto (tgt := 8) hx hb dX4_keenest_38 (by decide) ?_
        obtain ⟨n9, hlt9, hI9⟩ := hw
        exact ih2 n9 hlt9 _ _ _ _ _ hI9 hW (lv_sub hl [2, 1, 0] rfl)
def wp_X4_chestShare (σ : CS) (post : UInt64 → Prop) : Prop := wp_X4_count σ 6 (fun r_1 => ((¬ r_1 = 0 → wp_X4_count σ 4 (fun r_2 => vf_n64 (FP.ddiv (FP.i2d r_2) (FP.i2d r_1)) ∧ post (FP.ddiv (FP.i2d r_2) (FP.i2d r_1))) (fun _ => False)) ∧ (r_1 = 0 → post (FP.dconst0)))) (fun _ => False)
abbrev rm_X4_chestShare : Room := { frames := 9, cells := 0, slots := 0, locals := 161 }
set_option maxHeartbeats 4000000 in
set_option maxRecDepth 100000 in
theorem ok_X4_chestShare (l : Launch) (D : va_G) (cI cJ : ClassId) (a : Nat → Nat) (sz : Nat) (σ : CS) (post : UInt64 → Prop) (hw : wp_X4_chestShare σ post) : Md l yX4_chestShare wsX4_chestShare rm_X4_chestShare [.ref (a 0)] D (tysIJ cI cJ) (cW cI cJ a σ) sz (fun r (_ : Unit) => post r) (fun _ => cW cI cJ a σ) := by
  refine s_Md (by decide) rfl (Nat.le_of_ble_eq_true rfl) ?_
  intro p e s m args below meth c A Q hx hb hml hts hown hin hK hA hret H locs ls hW hl
  have hown : s.vm.findClass RX4 = some m.cls := hown
  have hl : lv_has ls 2 [(0, .ref (a 0))] := hl
  refine lv_aload_n hx hb dX4_chestShare_0 rfl (lv_at hl 0 rfl) ?_
  refine lv_bipush (v := 6) hx hb dX4_chestShare_1 (by decide) ?_
  refine kV_Mi (As := [.int 6]) (rest := []) ⟨hx, hb, hml, hown, hts⟩ (ok_X4_count_n l D cI cJ a _ _ _ _ hw) (cwV 1 hts gX4_chestShare_X4_count rfl rfl rfl (by decide +kernel) ⟨Nat.le_of_ble_eq_true rfl, Nat.le_of_ble_eq_true rfl⟩) hK hW hA 0 rfl rfl rfl hl.1 rfl (Nat.le_of_ble_eq_true rfl) dX4_chestShare_3 ⟨Nat.le_of_ble_eq_true rfl, Nat.le_of_ble_eq_true rfl⟩ (fun r_1 _ H locs hw hW => ?_)
  refine lv_istore_n (lv' := [(1, .int r_1), (0, .ref (a 0))]) hx hb dX4_chestShare_6 rfl hl (by decide) rfl (fun ls hl => ?_)
  refine lv_iload_n hx hb dX4_chestShare_7 rfl (lv_at hl 0 rfl) ?_
  refine lv_if_ne (tgt := 15) hx hb dX4_chestShare_8 (by decide) (fun hc => ?_) (fun hc => ?_)
  · have hw := hw.1 hc
    refine lv_aload_n hx hb dX4_chestShare_15 rfl (lv_at hl 1 rfl) ?_
    refine lv_iconst (v := 4) hx hb dX4_chestShare_16 (by decide) ?_
    refine kV_Mi (As := [.int 4]) (rest := []) ⟨hx, hb, hml, hown, hts⟩ (ok_X4_count_n l D cI cJ a _ _ _ _ hw) (cwV 1 hts gX4_chestShare_X4_count rfl rfl rfl (by decide +kernel) ⟨Nat.le_of_ble_eq_true rfl, Nat.le_of_ble_eq_true rfl⟩) hK hW hA 0 rfl rfl rfl hl.1 rfl (Nat.le_of_ble_eq_true rfl) dX4_chestShare_17 ⟨Nat.le_of_ble_eq_true rfl, Nat.le_of_ble_eq_true rfl⟩ (fun r_2 _ H locs hw hW => ?_)
    refine lv_i2d hx hb dX4_chestShare_20 ?_
    refine lv_iload_n hx hb dX4_chestShare_21 rfl (lv_at hl 0 rfl) ?_
    refine lv_i2d hx hb dX4_chestShare_22 ?_
    refine lv_ddiv hx hb dX4_chestShare_23 hw.1 ?_
    have hw := hw.2
    exact hret _ () _ _ _ _ hw hW dX4_chestShare_24
  · have hw := hw.2 hc
    refine lv_dconst0 hx hb dX4_chestShare_11 ?_
    refine lv_goto (tgt := 24) hx hb dX4_chestShare_12 (by decide) ?_
    exact hret _ () _ _ _ _ hw hW dX4_chestShare_24
def wp_X4_meanPrice (σ : CS) (post : UInt32 → Prop) : Prop := wp_X4_count σ 9 (fun r_1 => ((¬ r_1 = 0 → wp_X4_count σ 8 (fun r_2 => vf_n32 (FP.fdiv (FP.i2f r_2) (FP.i2f r_1)) ∧ post (FP.fdiv (FP.i2f r_2) (FP.i2f r_1))) (fun _ => False)) ∧ (r_1 = 0 → post (FP.fconst0)))) (fun _ => False)
abbrev rm_X4_meanPrice : Room := { frames := 9, cells := 0, slots := 0, locals := 161 }
set_option maxHeartbeats 4000000 in
set_option maxRecDepth 100000 in
theorem ok_X4_meanPrice (l : Launch) (D : va_G) (cI cJ : ClassId) (a : Nat → Nat) (sz : Nat) (σ : CS) (post : UInt32 → Prop) (hw : wp_X4_meanPrice σ post) : Mf l yX4_meanPrice wsX4_meanPrice rm_X4_meanPrice [.ref (a 0)] D (tysIJ cI cJ) (cW cI cJ a σ) sz (fun r (_ : Unit) => post r) (fun _ => cW cI cJ a σ) := by
  refine s_Mf (by decide) rfl (Nat.le_of_ble_eq_true rfl) ?_
  intro p e s m args below meth c A Q hx hb hml hts hown hin hK hA hret H locs ls hW hl
  have hown : s.vm.findClass RX4 = some m.cls := hown
  have hl : lv_has ls 2 [(0, .ref (a 0))] := hl
  refine lv_aload_n hx hb dX4_meanPrice_0 rfl (lv_at hl 0 rfl) ?_
  refine lv_bipush (v := 9) hx hb dX4_meanPrice_1 (by decide) ?_
  refine kV_Mi (As := [.int 9]) (rest := []) ⟨hx, hb, hml, hown, hts⟩ (ok_X4_count_n l D cI cJ a _ _ _ _ hw) (cwV 1 hts gX4_meanPrice_X4_count rfl rfl rfl (by decide +kernel) ⟨Nat.le_of_ble_eq_true rfl, Nat.le_of_ble_eq_true rfl⟩) hK hW hA 0 rfl rfl rfl hl.1 rfl (Nat.le_of_ble_eq_true rfl) dX4_meanPrice_3 ⟨Nat.le_of_ble_eq_true rfl, Nat.le_of_ble_eq_true rfl⟩ (fun r_1 _ H locs hw hW => ?_)
  refine lv_istore_n (lv' := [(1, .int r_1), (0, .ref (a 0))]) hx hb dX4_meanPrice_6 rfl hl (by decide) rfl (fun ls hl => ?_)
  refine lv_iload_n hx hb dX4_meanPrice_7 rfl (lv_at hl 0 rfl) ?_
  refine lv_if_ne (tgt := 15) hx hb dX4_meanPrice_8 (by decide) (fun hc => ?_) (fun hc => ?_)
  · have hw := hw.1 hc
    refine lv_aload_n hx hb dX4_meanPrice_15 rfl (lv_at hl 1 rfl) ?_
    refine lv_bipush (v := 8) hx hb dX4_meanPrice_16 (by decide) ?_
    refine kV_Mi (As := [.int 8]) (rest := []) ⟨hx, hb, hml, hown, hts⟩ (ok_X4_count_n l D cI cJ a _ _ _ _ hw) (cwV 1 hts gX4_meanPrice_X4_count rfl rfl rfl (by decide +kernel) ⟨Nat.le_of_ble_eq_true rfl, Nat.le_of_ble_eq_true rfl⟩) hK hW hA 0 rfl rfl rfl hl.1 rfl (Nat.le_of_ble_eq_true rfl) dX4_meanPrice_18 ⟨Nat.le_of_ble_eq_true rfl, Nat.le_of_ble_eq_true rfl⟩ (fun r_2 _ H locs hw hW => ?_)
    refine lv_i2f hx hb dX4_meanPrice_21 ?_
    refine lv_iload_n hx hb dX4_meanPrice_22 rfl (lv_at hl 0 rfl) ?_
    refine lv_i2f hx hb dX4_meanPrice_23 ?_
    refine lv_fdiv hx hb dX4_meanPrice_24 hw.1 ?_
    have hw := hw.2
    exact hret _ () _ _ _ _ hw hW dX4_meanPrice_25
  · have hw := hw.2 hc
    refine lv_fconst0 hx hb dX4_meanPrice_11 ?_
    refine lv_goto (tgt := 25) hx hb dX4_meanPrice_12 (by decide) ?_
    exact hret _ () _ _ _ _ hw hW dX4_meanPrice_25
def wp_X4_mix (p1 : Int64) (p2 : Int64) (post : Int64 → Prop) : Prop := post ((31 * p1) + p2)
abbrev rm_X4_mix : Room := { frames := 0, cells := 0, slots := 0, locals := 0 }
set_option maxHeartbeats 4000000 in
set_option maxRecDepth 100000 in
theorem ok_X4_mix (l : Launch) (p1 : Int64) (p2 : Int64) (post : Int64 → Prop) (hw : wp_X4_mix p1 p2 post) : Pl l yX4_mix wsX4_mix rm_X4_mix [.long p1, .long p2] post := by
  refine s_Pl (by decide) rfl (Nat.le_of_ble_eq_true rfl) ?_
  intro p e s m args below meth c A Q hx hb hml hts hown hin hret H locs ls hW hl
  have hown : s.vm.findClass RX4 = some m.cls := hown
  have hl : lv_has ls 4 [(0, .long p1), (2, .long p2)] := hl
  refine lv_ldc2 (own := RX4) (v := 31) hx hb hown (hts _ (List.mem_of_getElem? (i := 1) rfl)) dX4_mix_0 ?_
  refine lv_lload_n hx hb dX4_mix_3 rfl (lv_at hl 0 rfl) ?_
  refine lv_lmul hx hb dX4_mix_4 ?_
  refine lv_lload_n hx hb dX4_mix_5 rfl (lv_at hl 1 rfl) ?_
  refine lv_ladd hx hb dX4_mix_6 ?_
  exact hret _ _ _ _ _ hw hW dX4_mix_7
def wp_X4_mixSpots (σ : CS) (p1 : Int64) (post : Int64 → CS → Prop) : Prop := wp_X4_findSharing σ (fun σ_1 => ∃ I2 : Nat → Int64 → Int32 → Prop, (∃ n : Nat, I2 n p1 0) ∧ ∀ (n2 : Nat) (v3_2 : Int64) (v5_2 : Int32), I2 n2 v3_2 v5_2 → ((6 ≤ v5_2 → post v3_2 σ_1) ∧ (¬ 6 ≤ v5_2 → ∃ I3 : Nat → Int64 → Int32 → Prop, (∃ n : Nat, I3 n v3_2 0) ∧ ∀ (n3 : Nat) (v3_3 : Int64) (v6_3 : Int32), I3 n3 v3_3 v6_3 → ((5 < v6_3 → wp_X1_ownerOf σ_1 v5_2 (fun r_4 => wp_X4_mix v3_3 (r_4).toInt64 (fun r_5 => wp_X1_priceOf σ_1 v5_2 (fun r_6 => wp_X4_mix r_5 (r_6).toInt64 (fun r_7 => ∀ v5_8 : Int32, v5_8 = v5_2 + 1 → ∃ n' : Nat, n' < n2 ∧ I2 n' r_7 v5_8))))) ∧ (¬ 5 < v6_3 → wp_X4_spot σ_1 v5_2 v6_3 (fun r_9 => wp_X4_mix v3_3 (r_9).toInt64 (fun r_10 => ∀ v6_11 : Int32, v6_11 = v6_3 + 1 → ∃ n' : Nat, n' < n3 ∧ I3 n' r_10 v6_11)) (fun _ => False))))))
abbrev rm_X4_mixSpots : Room := { frames := 10, cells := 0, slots := 0, locals := 183 }
theorem in_X4_mixSpots_X4 : ∀ w ∈ wsX40, w ∈ wsX4_mixSpots := fun w h => List.mem_cons_of_mem _ (List.mem_append_left _ (List.mem_append_left _ (List.mem_append_left _ (List.mem_append_left _ (List.mem_append_right _ (h))))))
set_option maxHeartbeats 4000000 in
set_option maxRecDepth 100000 in
theorem ok_X4_mixSpots (l : Launch) (D : va_G) (cI cJ : ClassId) (a : Nat → Nat) (sz : Nat) (σ : CS) (p1 : Int64) (post : Int64 → CS → Prop) (hw : wp_X4_mixSpots σ p1 post) : Ml l yX4_mixSpots wsX4_mixSpots rm_X4_mixSpots [.ref (a 0), .long p1] D (tysIJ cI cJ) (cW cI cJ a σ) sz post (cW cI cJ a) := by
  refine s_Ml (by decide) rfl (Nat.le_of_ble_eq_true rfl) ?_
  intro p e s m args below meth c A Q hx hb hml hts hown hin hK hA hret H locs ls hW hl
  have hown : s.vm.findClass RX4 = some m.cls := hown
  have hl : lv_has ls 7 [(0, .ref (a 0)), (1, .long p1)] := hl
  have hinX4 := in_X4_mixSpots_X4
  refine lv_lload_n hx hb dX4_mixSpots_0 rfl (lv_at hl 1 rfl) ?_
  refine lv_lstore_n (lv' := [(3, .long p1), (0, .ref (a 0)), (1, .long p1)]) hx hb dX4_mixSpots_1 rfl hl (by decide) rfl (fun ls hl => ?_)
  refine lv_aload_n hx hb dX4_mixSpots_2 rfl (lv_at hl 1 rfl) ?_
  refine kV_Mv (As := []) (rest := []) ⟨hx, hb, hml, hown, hts⟩ (ok_X4_findSharing l D cI cJ a _ _ _ hw) (cwV 0 hts gX4_mixSpots_X4_findSharing rfl rfl rfl (by decide +kernel) ⟨Nat.le_of_ble_eq_true rfl, Nat.le_of_ble_eq_true rfl⟩) hK hW hA 0 rfl rfl rfl hl.1 rfl (Nat.le_of_ble_eq_true rfl) dX4_mixSpots_3 ⟨Nat.le_of_ble_eq_true rfl, Nat.le_of_ble_eq_true rfl⟩ (fun σ_1 H locs hw hW => ?_)
  refine lv_iconst (v := 0) hx hb dX4_mixSpots_6 (by decide) ?_
  refine lv_istore (lv' := [(5, .int 0), (3, .long p1), (0, .ref (a 0)), (1, .long p1)]) hx hb dX4_mixSpots_7 hl (by decide) rfl (fun ls hl => ?_)
  obtain ⟨I2, ⟨n2, hI2⟩, hJ2⟩ := hw
  have hl : lv_has ls 7 [(0, .ref (a 0)), (3, .long p1), (5, .int 0)] := lv_sub hl [2, 1, 0] rfl
  suffices LP2 : ∀ (n : Nat) (v3_2 : Int64) (v5_2 : Int32) (H : Heap) (locs : List Loc) (ls : Array Slot), I2 n v3_2 v5_2 → Wd D A s.heap (cW cI cJ a σ_1) H locs → lv_has ls 7 [(0, .ref (a 0)), (3, .long v3_2), (5, .int v5_2)] → W p l e rm_X4_mixSpots s m args below meth c H locs 0 0 Q (F0 m 9 ls []) from LP2 n2 p1 0 H locs ls hI2 hW hl
  intro n2
  induction n2 using Nat.strongRecOn with
  | ind n2 ih2 =>
    intro v3_2 v5_2 H locs ls hIn hW hl
    have hw := hJ2 n2 v3_2 v5_2 hIn
    refine lv_iload hx hb dX4_mixSpots_9 (lv_at hl 2 rfl) ?_
    refine lv_bipush (v := 6) hx hb dX4_mixSpots_11 (by decide) ?_
    refine lv_icmp_ge (tgt := 85) hx hb dX4_mixSpots_13 (by decide) (fun hc => ?_) (fun hc => ?_)
    · have hw := hw.1 hc
      refine lv_lload_n hx hb dX4_mixSpots_85 rfl (lv_at hl 1 rfl) ?_
      exact hret _ σ_1 _ _ _ _ hw hW dX4_mixSpots_86
    · have hw := hw.2 hc
      refine lv_iconst (v := 0) hx hb dX4_mixSpots_16 (by decide) ?_
      refine lv_istore (lv' := [(6, .int 0), (0, .ref (a 0)), (3, .long v3_2), (5, .int v5_2)]) hx hb dX4_mixSpots_17 hl (by decide) rfl (fun ls hl => ?_)
      obtain ⟨I3, ⟨n3, hI3⟩, hJ3⟩ := hw
      have hl : lv_has ls 7 [(0, .ref (a 0)), (3, .long v3_2), (5, .int v5_2), (6, .int 0)] := lv_sub hl [1, 2, 3, 0] rfl
      suffices LP3 : ∀ (n : Nat) (v3_3 : Int64) (v6_3 : Int32) (H : Heap) (locs : List Loc) (ls : Array Slot), I3 n v3_3 v6_3 → Wd D A s.heap (cW cI cJ a σ_1) H locs → lv_has ls 7 [(0, .ref (a 0)), (3, .long v3_3), (5, .int v5_2), (6, .int v6_3)] → W p l e rm_X4_mixSpots s m args below meth c H locs 0 0 Q (F0 m 19 ls []) from LP3 n3 v3_2 0 H locs ls hI3 hW hl
      intro n3
      induction n3 using Nat.strongRecOn with
      | ind n3 ih3 =>
        intro v3_3 v6_3 H locs ls hIn hW hl
        have hw := hJ3 n3 v3_3 v6_3 hIn
        refine lv_iload hx hb dX4_mixSpots_19 (lv_at hl 3 rfl) ?_
        refine lv_iconst (v := 5) hx hb dX4_mixSpots_21 (by decide) ?_
        refine lv_icmp_gt (tgt := 45) hx hb dX4_mixSpots_22 (by decide) (fun hc => ?_) (fun hc => ?_)
        · have hw := hw.1 hc
          refine lv_lload_n hx hb dX4_mixSpots_45 rfl (lv_at hl 1 rfl) ?_
          refine lv_aload_n hx hb dX4_mixSpots_46 rfl (lv_at hl 0 rfl) ?_
          refine va_get (D := D) (ci := 4) (v := .ref (a 3)) (C := RX4) (T := TX4) (N := 4) hx hb hts hinX4 hown hK hW.1 0 rfl rfl 1 (by decide) (hts _ (List.mem_of_getElem? (i := 1) rfl)) (fun _ h9 => h9) rfl dX4_mixSpots_47 ?_
          refine lv_iload hx hb dX4_mixSpots_50 (lv_at hl 2 rfl) ?_
          refine kV_Mi (As := [.int v5_2]) (rest := [.long v3_3]) ⟨hx, hb, hml, hown, hts⟩ (ok_X1_ownerOf l D cI cJ a _ _ _ _ hw) (cwV 1 hts gX4_mixSpots_X1_ownerOf rfl rfl rfl (by decide +kernel) ⟨Nat.le_of_ble_eq_true rfl, Nat.le_of_ble_eq_true rfl⟩) hK hW hA 3 rfl rfl rfl hl.1 rfl (Nat.le_of_ble_eq_true rfl) dX4_mixSpots_52 ⟨Nat.le_of_ble_eq_true rfl, Nat.le_of_ble_eq_true rfl⟩ (fun r_4 _ H locs hw hW => ?_)
          refine lv_i2l hx hb dX4_mixSpots_55 rfl ?_
          refine kS_Pl (As := [.long v3_3, .long (r_4).toInt64]) (rest := []) ⟨hx, hb, hml, hown, hts⟩ (ok_X4_mix l _ _ _ hw) (va_cwS 2 hts gX4_mixSpots_X4_mix rfl rfl rfl (by decide +kernel) ⟨Nat.le_of_ble_eq_true rfl, Nat.le_of_ble_eq_true rfl⟩) hW.2.2 rfl hl.1 rfl (Nat.le_of_ble_eq_true rfl) dX4_mixSpots_56 ⟨Nat.le_of_ble_eq_true rfl, Nat.le_of_ble_eq_true rfl⟩ (fun r_5 H locs hw hk hS => ?_)
          have hW := hW.kept hk hS
          refine lv_lstore_n (lv' := [(3, .long r_5), (0, .ref (a 0)), (5, .int v5_2), (6, .int v6_3)]) hx hb dX4_mixSpots_59 rfl hl (by decide) rfl (fun ls hl => ?_)
          refine lv_lload_n hx hb dX4_mixSpots_60 rfl (lv_at hl 0 rfl) ?_
          refine lv_aload_n hx hb dX4_mixSpots_61 rfl (lv_at hl 1 rfl) ?_
          refine va_get (D := D) (ci := 4) (v := .ref (a 3)) (C := RX4) (T := TX4) (N := 4) hx hb hts hinX4 hown hK hW.1 0 rfl rfl 1 (by decide) (hts _ (List.mem_of_getElem? (i := 1) rfl)) (fun _ h9 => h9) rfl dX4_mixSpots_62 ?_
          refine lv_iload hx hb dX4_mixSpots_65 (lv_at hl 2 rfl) ?_
          refine lv_aload_n hx hb dX4_mixSpots_67 rfl (lv_at hl 1 rfl) ?_
          refine va_get (D := D) (ci := 4) (v := .ref (a 1)) (C := RX4) (T := TX4) (N := 4) hx hb hts hinX4 hown hK hW.1 0 rfl rfl 0 (by decide) (hts _ (List.mem_of_getElem? (i := 2) rfl)) (fun _ h9 => h9) rfl dX4_mixSpots_68 ?_
          refine kV_Mi (As := [.int v5_2, .ref (a 1)]) (rest := [.long r_5]) ⟨hx, hb, hml, hown, hts⟩ (ok_X1_priceOf l D cI cJ a _ _ _ _ hw) (cwV 2 hts gX4_mixSpots_X1_priceOf rfl rfl rfl (by decide +kernel) ⟨Nat.le_of_ble_eq_true rfl, Nat.le_of_ble_eq_true rfl⟩) hK hW hA 3 rfl rfl rfl hl.1 rfl (Nat.le_of_ble_eq_true rfl) dX4_mixSpots_71 ⟨Nat.le_of_ble_eq_true rfl, Nat.le_of_ble_eq_true rfl⟩ (fun r_6 _ H locs hw hW => ?_)
          refine lv_i2l hx hb dX4_mixSpots_74 rfl ?_
          refine kS_Pl (As := [.long r_5, .long (r_6).toInt64]) (rest := []) ⟨hx, hb, hml, hown, hts⟩ (ok_X4_mix l _ _ _ hw) (va_cwS 2 hts gX4_mixSpots_X4_mix rfl rfl rfl (by decide +kernel) ⟨Nat.le_of_ble_eq_true rfl, Nat.le_of_ble_eq_true rfl⟩) hW.2.2 rfl hl.1 rfl (Nat.le_of_ble_eq_true rfl) dX4_mixSpots_75 ⟨Nat.le_of_ble_eq_true rfl, Nat.le_of_ble_eq_true rfl⟩ (fun r_7 H locs hw hk hS => ?_)
          have hW := hW.kept hk hS
          refine lv_lstore_n (lv' := [(3, .long r_7), (0, .ref (a 0)), (5, .int v5_2), (6, .int v6_3)]) hx hb dX4_mixSpots_78 rfl hl (by decide) rfl (fun ls hl => ?_)
          obtain ⟨v5_8, ev5_8⟩ : ∃ y : Int32, y = v5_2 + 1 := ⟨_, rfl⟩
          have hw := hw v5_8 ev5_8
          refine lv_iinc (v := v5_8) (lv' := [(5, .int v5_8), (3, .long r_7), (0, .ref (a 0)), (6, .int v6_3)]) hx hb dX4_mixSpots_79 hl (k := 2) rfl (by rw [ev5_8]; rfl) (by decide) rfl (fun ls hl => ?_)
          refine lv_goto (tgt := 9) hx hb dX4_mixSpots_82 (by decide) ?_
          obtain ⟨n9, hlt9, hI9⟩ := hw
          exact ih2 n9 hlt9 _ _ _ _ _ hI9 hW (lv_sub hl [2, 1, 0] rfl)
        · have hw := hw.2 hc
          refine lv_lload_n hx hb dX4_mixSpots_25 rfl (lv_at hl 1 rfl) ?_
          refine lv_aload_n hx hb dX4_mixSpots_26 rfl (lv_at hl 0 rfl) ?_
          refine lv_iload hx hb dX4_mixSpots_27 (lv_at hl 2 rfl) ?_
          refine lv_iload hx hb dX4_mixSpots_29 (lv_at hl 3 rfl) ?_
          refine kV_Mi (As := [.int v5_2, .int v6_3]) (rest := [.long v3_3]) ⟨hx, hb, hml, hown, hts⟩ (ok_X4_spot_n l D cI cJ a _ _ _ _ _ hw) (cwV 2 hts gX4_mixSpots_X4_spot rfl rfl rfl (by decide +kernel) ⟨Nat.le_of_ble_eq_true rfl, Nat.le_of_ble_eq_true rfl⟩) hK hW hA 0 rfl rfl rfl hl.1 rfl (Nat.le_of_ble_eq_true rfl) dX4_mixSpots_31 ⟨Nat.le_of_ble_eq_true rfl, Nat.le_of_ble_eq_true rfl⟩ (fun r_9 _ H locs hw hW => ?_)
          refine lv_i2l hx hb dX4_mixSpots_34 rfl ?_
          refine kS_Pl (As := [.long v3_3, .long (r_9).toInt64]) (rest := []) ⟨hx, hb, hml, hown, hts⟩ (ok_X4_mix l _ _ _ hw) (va_cwS 2 hts gX4_mixSpots_X4_mix rfl rfl rfl (by decide +kernel) ⟨Nat.le_of_ble_eq_true rfl, Nat.le_of_ble_eq_true rfl⟩) hW.2.2 rfl hl.1 rfl (Nat.le_of_ble_eq_true rfl) dX4_mixSpots_35 ⟨Nat.le_of_ble_eq_true rfl, Nat.le_of_ble_eq_true rfl⟩ (fun r_10 H locs hw hk hS => ?_)
          have hW := hW.kept hk hS
          refine lv_lstore_n (lv' := [(3, .long r_10), (0, .ref (a 0)), (5, .int v5_2), (6, .int v6_3)]) hx hb dX4_mixSpots_38 rfl hl (by decide) rfl (fun ls hl => ?_)
          obtain ⟨v6_11, ev6_11⟩ : ∃ y : Int32, y = v6_3 + 1 := ⟨_, rfl⟩
          have hw := hw v6_11 ev6_11
          refine lv_iinc (v := v6_11) (lv' := [(6, .int v6_11), (3, .long r_10), (0, .ref (a 0)), (5, .int v5_2)]) hx hb dX4_mixSpots_39 hl (k := 3) rfl (by rw [ev6_11]; rfl) (by decide) rfl (fun ls hl => ?_)
          refine lv_goto (tgt := 19) hx hb dX4_mixSpots_42 (by decide) ?_
          obtain ⟨n9, hlt9, hI9⟩ := hw
          exact ih3 n9 hlt9 _ _ _ _ _ hI9 hW (lv_sub hl [2, 1, 3, 0] rfl)
def wp_X4_mixBidders (σ : CS) (p1 : Int64) (post : Int64 → Prop) : Prop := ∃ I1 : Nat → Int64 → Int32 → Prop, (∃ n : Nat, I1 n p1 0) ∧ ∀ (n1 : Nat) (v3_1 : Int64) (v5_1 : Int32), I1 n1 v3_1 v5_1 → ((6 ≤ v5_1 → post v3_1) ∧ (¬ 6 ≤ v5_1 → ∃ I2 : Nat → Int64 → Int32 → Prop, (∃ n : Nat, I2 n v3_1 0) ∧ ∀ (n2 : Nat) (v3_2 : Int64) (v6_2 : Int32), I2 n2 v3_2 v6_2 → ((5 < v6_2 → ∀ v5_3 : Int32, v5_3 = v5_1 + 1 → ∃ n' : Nat, n' < n1 ∧ I1 n' v3_2 v5_3) ∧ (¬ 5 < v6_2 → wp_X4_bidder σ v5_1 v6_2 (fun r_4 => wp_X4_mix v3_2 (r_4).toInt64 (fun r_5 => ∀ v6_6 : Int32, v6_6 = v6_2 + 1 → ∃ n' : Nat, n' < n2 ∧ I2 n' r_5 v6_6)) (fun _ => False)))))
abbrev rm_X4_mixBidders : Room := { frames := 10, cells := 0, slots := 0, locals := 183 }
set_option maxHeartbeats 4000000 in
set_option maxRecDepth 100000 in
theorem ok_X4_mixBidders (l : Launch) (D : va_G) (cI cJ : ClassId) (a : Nat → Nat) (sz : Nat) (σ : CS) (p1 : Int64) (post : Int64 → Prop) (hw : wp_X4_mixBidders σ p1 post) : Ml l yX4_mixBidders wsX4_mixBidders rm_X4_mixBidders [.ref (a 0), .long p1] D (tysIJ cI cJ) (cW cI cJ a σ) sz (fun r (_ : Unit) => post r) (fun _ => cW cI cJ a σ) := by
  refine s_Ml (by decide) rfl (Nat.le_of_ble_eq_true rfl) ?_
  intro p e s m args below meth c A Q hx hb hml hts hown hin hK hA hret H locs ls hW hl
  have hown : s.vm.findClass RX4 = some m.cls := hown
  have hl : lv_has ls 7 [(0, .ref (a 0)), (1, .long p1)] := hl
  refine lv_lload_n hx hb dX4_mixBidders_0 rfl (lv_at hl 1 rfl) ?_
  refine lv_lstore_n (lv' := [(3, .long p1), (0, .ref (a 0)), (1, .long p1)]) hx hb dX4_mixBidders_1 rfl hl (by decide) rfl (fun ls hl => ?_)
  refine lv_iconst (v := 0) hx hb dX4_mixBidders_2 (by decide) ?_
  refine lv_istore (lv' := [(5, .int 0), (3, .long p1), (0, .ref (a 0)), (1, .long p1)]) hx hb dX4_mixBidders_3 hl (by decide) rfl (fun ls hl => ?_)
  obtain ⟨I1, ⟨n1, hI1⟩, hJ1⟩ := hw
  have hl : lv_has ls 7 [(0, .ref (a 0)), (3, .long p1), (5, .int 0)] := lv_sub hl [2, 1, 0] rfl
  suffices LP1 : ∀ (n : Nat) (v3_1 : Int64) (v5_1 : Int32) (H : Heap) (locs : List Loc) (ls : Array Slot), I1 n v3_1 v5_1 → Wd D A s.heap (cW cI cJ a σ) H locs → lv_has ls 7 [(0, .ref (a 0)), (3, .long v3_1), (5, .int v5_1)] → W p l e rm_X4_mixBidders s m args below meth c H locs 0 0 Q (F0 m 5 ls []) from LP1 n1 p1 0 H locs ls hI1 hW hl
  intro n1
  induction n1 using Nat.strongRecOn with
  | ind n1 ih1 =>
    intro v3_1 v5_1 H locs ls hIn hW hl
    have hw := hJ1 n1 v3_1 v5_1 hIn
    refine lv_iload hx hb dX4_mixBidders_5 (lv_at hl 2 rfl) ?_
    refine lv_bipush (v := 6) hx hb dX4_mixBidders_7 (by decide) ?_
    refine lv_icmp_ge (tgt := 47) hx hb dX4_mixBidders_9 (by decide) (fun hc => ?_) (fun hc => ?_)
    · have hw := hw.1 hc
      refine lv_lload_n hx hb dX4_mixBidders_47 rfl (lv_at hl 1 rfl) ?_
      exact hret _ () _ _ _ _ hw hW dX4_mixBidders_48
    · have hw := hw.2 hc
      refine lv_iconst (v := 0) hx hb dX4_mixBidders_12 (by decide) ?_
      refine lv_istore (lv' := [(6, .int 0), (0, .ref (a 0)), (3, .long v3_1), (5, .int v5_1)]) hx hb dX4_mixBidders_13 hl (by decide) rfl (fun ls hl => ?_)
      obtain ⟨I2, ⟨n2, hI2⟩, hJ2⟩ := hw
      have hl : lv_has ls 7 [(0, .ref (a 0)), (3, .long v3_1), (5, .int v5_1), (6, .int 0)] := lv_sub hl [1, 2, 3, 0] rfl
      suffices LP2 : ∀ (n : Nat) (v3_2 : Int64) (v6_2 : Int32) (H : Heap) (locs : List Loc) (ls : Array Slot), I2 n v3_2 v6_2 → Wd D A s.heap (cW cI cJ a σ) H locs → lv_has ls 7 [(0, .ref (a 0)), (3, .long v3_2), (5, .int v5_1), (6, .int v6_2)] → W p l e rm_X4_mixBidders s m args below meth c H locs 0 0 Q (F0 m 15 ls []) from LP2 n2 v3_1 0 H locs ls hI2 hW hl
      intro n2
      induction n2 using Nat.strongRecOn with
      | ind n2 ih2 =>
        intro v3_2 v6_2 H locs ls hIn hW hl
        have hw := hJ2 n2 v3_2 v6_2 hIn
        refine lv_iload hx hb dX4_mixBidders_15 (lv_at hl 3 rfl) ?_
        refine lv_iconst (v := 5) hx hb dX4_mixBidders_17 (by decide) ?_
        refine lv_icmp_gt (tgt := 41) hx hb dX4_mixBidders_18 (by decide) (fun hc => ?_) (fun hc => ?_)
        · have hw := hw.1 hc
          obtain ⟨v5_3, ev5_3⟩ : ∃ y : Int32, y = v5_1 + 1 := ⟨_, rfl⟩
          have hw := hw v5_3 ev5_3
          refine lv_iinc (v := v5_3) (lv' := [(5, .int v5_3), (0, .ref (a 0)), (3, .long v3_2), (6, .int v6_2)]) hx hb dX4_mixBidders_41 hl (k := 2) rfl (by rw [ev5_3]; rfl) (by decide) rfl (fun ls hl => ?_)
          refine lv_goto (tgt := 5) hx hb dX4_mixBidders_44 (by decide) ?_
          obtain ⟨n9, hlt9, hI9⟩ := hw
          exact ih1 n9 hlt9 _ _ _ _ _ hI9 hW (lv_sub hl [1, 2, 0] rfl)
        · have hw := hw.2 hc
          refine lv_lload_n hx hb dX4_mixBidders_21 rfl (lv_at hl 1 rfl) ?_
          refine lv_aload_n hx hb dX4_mixBidders_22 rfl (lv_at hl 0 rfl) ?_
          refine lv_iload hx hb dX4_mixBidders_23 (lv_at hl 2 rfl) ?_
          refine lv_iload hx hb dX4_mixBidders_25 (lv_at hl 3 rfl) ?_
          refine kV_Mi (As := [.int v5_1, .int v6_2]) (rest := [.long v3_2]) ⟨hx, hb, hml, hown, hts⟩ (ok_X4_bidder_n l D cI cJ a _ _ _ _ _ hw) (cwV 2 hts gX4_mixBidders_X4_bidder rfl rfl rfl (by decide +kernel) ⟨Nat.le_of_ble_eq_true rfl, Nat.le_of_ble_eq_true rfl⟩) hK hW hA 0 rfl rfl rfl hl.1 rfl (Nat.le_of_ble_eq_true rfl) dX4_mixBidders_27 ⟨Nat.le_of_ble_eq_true rfl, Nat.le_of_ble_eq_true rfl⟩ (fun r_4 _ H locs hw hW => ?_)
          refine lv_i2l hx hb dX4_mixBidders_30 rfl ?_
          refine kS_Pl (As := [.long v3_2, .long (r_4).toInt64]) (rest := []) ⟨hx, hb, hml, hown, hts⟩ (ok_X4_mix l _ _ _ hw) (va_cwS 2 hts gX4_mixBidders_X4_mix rfl rfl rfl (by decide +kernel) ⟨Nat.le_of_ble_eq_true rfl, Nat.le_of_ble_eq_true rfl⟩) hW.2.2 rfl hl.1 rfl (Nat.le_of_ble_eq_true rfl) dX4_mixBidders_31 ⟨Nat.le_of_ble_eq_true rfl, Nat.le_of_ble_eq_true rfl⟩ (fun r_5 H locs hw hk hS => ?_)
          have hW := hW.kept hk hS
          refine lv_lstore_n (lv' := [(3, .long r_5), (0, .ref (a 0)), (5, .int v5_1), (6, .int v6_2)]) hx hb dX4_mixBidders_34 rfl hl (by decide) rfl (fun ls hl => ?_)
          obtain ⟨v6_6, ev6_6⟩ : ∃ y : Int32, y = v6_2 + 1 := ⟨_, rfl⟩
          have hw := hw v6_6 ev6_6
          refine lv_iinc (v := v6_6) (lv' := [(6, .int v6_6), (3, .long r_5), (0, .ref (a 0)), (5, .int v5_1)]) hx hb dX4_mixBidders_35 hl (k := 3) rfl (by rw [ev6_6]; rfl) (by decide) rfl (fun ls hl => ?_)
          refine lv_goto (tgt := 15) hx hb dX4_mixBidders_38 (by decide) ?_
          obtain ⟨n9, hlt9, hI9⟩ := hw
          exact ih2 n9 hlt9 _ _ _ _ _ hI9 hW (lv_sub hl [2, 1, 3, 0] rfl)
def wp_X4_mixBids (σ : CS) (p1 : Int64) (post : Int64 → Prop) : Prop := ∃ I1 : Nat → Int64 → Int32 → Prop, (∃ n : Nat, I1 n p1 0) ∧ ∀ (n1 : Nat) (v3_1 : Int64) (v5_1 : Int32), I1 n1 v3_1 v5_1 → ((6 ≤ v5_1 → post v3_1) ∧ (¬ 6 ≤ v5_1 → ∃ I2 : Nat → Int64 → Int32 → Prop, (∃ n : Nat, I2 n v3_1 0) ∧ ∀ (n2 : Nat) (v3_2 : Int64) (v6_2 : Int32), I2 n2 v3_2 v6_2 → ((6 ≤ v6_2 → ∀ v5_3 : Int32, v5_3 = v5_1 + 1 → ∃ n' : Nat, n' < n1 ∧ I1 n' v3_2 v5_3) ∧ (¬ 6 ≤ v6_2 → ∃ I4 : Nat → Int64 → Int32 → Prop, (∃ n : Nat, I4 n v3_2 0) ∧ ∀ (n4 : Nat) (v3_4 : Int64) (v7_4 : Int32), I4 n4 v3_4 v7_4 → ((4 < v7_4 → ∀ v6_5 : Int32, v6_5 = v6_2 + 1 → ∃ n' : Nat, n' < n2 ∧ I2 n' v3_4 v6_5) ∧ (¬ 4 < v7_4 → wp_X4_sealed σ v5_1 v6_2 v7_4 (fun r_6 => wp_X4_mix v3_4 (r_6).toInt64 (fun r_7 => ∀ v7_8 : Int32, v7_8 = v7_4 + 1 → ∃ n' : Nat, n' < n4 ∧ I4 n' r_7 v7_8)) (fun _ => False)))))))
abbrev rm_X4_mixBids : Room := { frames := 10, cells := 0, slots := 0, locals := 185 }
set_option maxHeartbeats 4000000 in
set_option maxRecDepth 100000 in
theorem ok_X4_mixBids (l : Launch) (D : va_G) (cI cJ : ClassId) (a : Nat → Nat) (sz : Nat) (σ : CS) (p1 : Int64) (post : Int64 → Prop) (hw : wp_X4_mixBids σ p1 post) : Ml l yX4_mixBids wsX4_mixBids rm_X4_mixBids [.ref (a 0), .long p1] D (tysIJ cI cJ) (cW cI cJ a σ) sz (fun r (_ : Unit) => post r) (fun _ => cW cI cJ a σ) := by
  refine s_Ml (by decide) rfl (Nat.le_of_ble_eq_true rfl) ?_
  intro p e s m args below meth c A Q hx hb hml hts hown hin hK hA hret H locs ls hW hl
  have hown : s.vm.findClass RX4 = some m.cls := hown
  have hl : lv_has ls 8 [(0, .ref (a 0)), (1, .long p1)] := hl
  refine lv_lload_n hx hb dX4_mixBids_0 rfl (lv_at hl 1 rfl) ?_
  refine lv_lstore_n (lv' := [(3, .long p1), (0, .ref (a 0)), (1, .long p1)]) hx hb dX4_mixBids_1 rfl hl (by decide) rfl (fun ls hl => ?_)
  refine lv_iconst (v := 0) hx hb dX4_mixBids_2 (by decide) ?_
  refine lv_istore (lv' := [(5, .int 0), (3, .long p1), (0, .ref (a 0)), (1, .long p1)]) hx hb dX4_mixBids_3 hl (by decide) rfl (fun ls hl => ?_)
  obtain ⟨I1, ⟨n1, hI1⟩, hJ1⟩ := hw
  have hl : lv_has ls 8 [(0, .ref (a 0)), (3, .long p1), (5, .int 0)] := lv_sub hl [2, 1, 0] rfl
  suffices LP1 : ∀ (n : Nat) (v3_1 : Int64) (v5_1 : Int32) (H : Heap) (locs : List Loc) (ls : Array Slot), I1 n v3_1 v5_1 → Wd D A s.heap (cW cI cJ a σ) H locs → lv_has ls 8 [(0, .ref (a 0)), (3, .long v3_1), (5, .int v5_1)] → W p l e rm_X4_mixBids s m args below meth c H locs 0 0 Q (F0 m 5 ls []) from LP1 n1 p1 0 H locs ls hI1 hW hl
  intro n1
  induction n1 using Nat.strongRecOn with
  | ind n1 ih1 =>
    intro v3_1 v5_1 H locs ls hIn hW hl
    have hw := hJ1 n1 v3_1 v5_1 hIn
    refine lv_iload hx hb dX4_mixBids_5 (lv_at hl 2 rfl) ?_
    refine lv_bipush (v := 6) hx hb dX4_mixBids_7 (by decide) ?_
    refine lv_icmp_ge (tgt := 65) hx hb dX4_mixBids_9 (by decide) (fun hc => ?_) (fun hc => ?_)
    · have hw := hw.1 hc
      refine lv_lload_n hx hb dX4_mixBids_65 rfl (lv_at hl 1 rfl) ?_
      exact hret _ () _ _ _ _ hw hW dX4_mixBids_66
    · have hw := hw.2 hc
      refine lv_iconst (v := 0) hx hb dX4_mixBids_12 (by decide) ?_
      refine lv_istore (lv' := [(6, .int 0), (0, .ref (a 0)), (3, .long v3_1), (5, .int v5_1)]) hx hb dX4_mixBids_13 hl (by decide) rfl (fun ls hl => ?_)
      obtain ⟨I2, ⟨n2, hI2⟩, hJ2⟩ := hw
      have hl : lv_has ls 8 [(0, .ref (a 0)), (3, .long v3_1), (5, .int v5_1), (6, .int 0)] := lv_sub hl [1, 2, 3, 0] rfl
      suffices LP2 : ∀ (n : Nat) (v3_2 : Int64) (v6_2 : Int32) (H : Heap) (locs : List Loc) (ls : Array Slot), I2 n v3_2 v6_2 → Wd D A s.heap (cW cI cJ a σ) H locs → lv_has ls 8 [(0, .ref (a 0)), (3, .long v3_2), (5, .int v5_1), (6, .int v6_2)] → W p l e rm_X4_mixBids s m args below meth c H locs 0 0 Q (F0 m 15 ls []) from LP2 n2 v3_1 0 H locs ls hI2 hW hl
      intro n2
      induction n2 using Nat.strongRecOn with
      | ind n2 ih2 =>
        intro v3_2 v6_2 H locs ls hIn hW hl
        have hw := hJ2 n2 v3_2 v6_2 hIn
        refine lv_iload hx hb dX4_mixBids_15 (lv_at hl 3 rfl) ?_
        refine lv_bipush (v := 6) hx hb dX4_mixBids_17 (by decide) ?_
        refine lv_icmp_ge (tgt := 59) hx hb dX4_mixBids_19 (by decide) (fun hc => ?_) (fun hc => ?_)
        · have hw := hw.1 hc
          obtain ⟨v5_3, ev5_3⟩ : ∃ y : Int32, y = v5_1 + 1 := ⟨_, rfl⟩
          have hw := hw v5_3 ev5_3
          refine lv_iinc (v := v5_3) (lv' := [(5, .int v5_3), (0, .ref (a 0)), (3, .long v3_2), (6, .int v6_2)]) hx hb dX4_mixBids_59 hl (k := 2) rfl (by rw [ev5_3]; rfl) (by decide) rfl (fun ls hl => ?_)
          refine lv_goto (tgt := 5) hx hb dX4_mixBids_62 (by decide) ?_
          obtain ⟨n9, hlt9, hI9⟩ := hw
          exact ih1 n9 hlt9 _ _ _ _ _ hI9 hW (lv_sub hl [1, 2, 0] rfl)
        · have hw := hw.2 hc
          refine lv_iconst (v := 0) hx hb dX4_mixBids_22 (by decide) ?_
          refine lv_istore (lv' := [(7, .int 0), (0, .ref (a 0)), (3, .long v3_2), (5, .int v5_1), (6, .int v6_2)]) hx hb dX4_mixBids_23 hl (by decide) rfl (fun ls hl => ?_)
          obtain ⟨I4, ⟨n4, hI4⟩, hJ4⟩ := hw
          have hl : lv_has ls 8 [(0, .ref (a 0)), (3, .long v3_2), (5, .int v5_1), (6, .int v6_2), (7, .int 0)] := lv_sub hl [1, 2, 3, 4, 0] rfl
          suffices LP4 : ∀ (n : Nat) (v3_4 : Int64) (v7_4 : Int32) (H : Heap) (locs : List Loc) (ls : Array Slot), I4 n v3_4 v7_4 → Wd D A s.heap (cW cI cJ a σ) H locs → lv_has ls 8 [(0, .ref (a 0)), (3, .long v3_4), (5, .int v5_1), (6, .int v6_2), (7, .int v7_4)] → W p l e rm_X4_mixBids s m args below meth c H locs 0 0 Q (F0 m 25 ls []) from LP4 n4 v3_2 0 H locs ls hI4 hW hl
          intro n4
          induction n4 using Nat.strongRecOn with
          | ind n4 ih4 =>
            intro v3_4 v7_4 H locs ls hIn hW hl
            have hw := hJ4 n4 v3_4 v7_4 hIn
            refine lv_iload hx hb dX4_mixBids_25 (lv_at hl 4 rfl) ?_
            refine lv_iconst (v := 4) hx hb dX4_mixBids_27 (by decide) ?_
            refine lv_icmp_gt (tgt := 53) hx hb dX4_mixBids_28 (by decide) (fun hc => ?_) (fun hc => ?_)
            · have hw := hw.1 hc
              obtain ⟨v6_5, ev6_5⟩ : ∃ y : Int32, y = v6_2 + 1 := ⟨_, rfl⟩
              have hw := hw v6_5 ev6_5
              refine lv_iinc (v := v6_5) (lv' := [(6, .int v6_5), (0, .ref (a 0)), (3, .long v3_4), (5, .int v5_1), (7, .int v7_4)]) hx hb dX4_mixBids_53 hl (k := 3) rfl (by rw [ev6_5]; rfl) (by decide) rfl (fun ls hl => ?_)
              refine lv_goto (tgt := 15) hx hb dX4_mixBids_56 (by decide) ?_
              obtain ⟨n9, hlt9, hI9⟩ := hw
              exact ih2 n9 hlt9 _ _ _ _ _ hI9 hW (lv_sub hl [1, 2, 3, 0] rfl)
            · have hw := hw.2 hc
              refine lv_lload_n hx hb dX4_mixBids_31 rfl (lv_at hl 1 rfl) ?_
              refine lv_aload_n hx hb dX4_mixBids_32 rfl (lv_at hl 0 rfl) ?_
              refine lv_iload hx hb dX4_mixBids_33 (lv_at hl 2 rfl) ?_
              refine lv_iload hx hb dX4_mixBids_35 (lv_at hl 3 rfl) ?_
              refine lv_iload hx hb dX4_mixBids_37 (lv_at hl 4 rfl) ?_
              refine kV_Mi (As := [.int v5_1, .int v6_2, .int v7_4]) (rest := [.long v3_4]) ⟨hx, hb, hml, hown, hts⟩ (ok_X4_sealed_n l D cI cJ a _ _ _ _ _ _ hw) (cwV 3 hts gX4_mixBids_X4_sealed rfl rfl rfl (by decide +kernel) ⟨Nat.le_of_ble_eq_true rfl, Nat.le_of_ble_eq_true rfl⟩) hK hW hA 0 rfl rfl rfl hl.1 rfl (Nat.le_of_ble_eq_true rfl) dX4_mixBids_39 ⟨Nat.le_of_ble_eq_true rfl, Nat.le_of_ble_eq_true rfl⟩ (fun r_6 _ H locs hw hW => ?_)
              refine lv_i2l hx hb dX4_mixBids_42 rfl ?_
              refine kS_Pl (As := [.long v3_4, .long (r_6).toInt64]) (rest := []) ⟨hx, hb, hml, hown, hts⟩ (ok_X4_mix l _ _ _ hw) (va_cwS 2 hts gX4_mixBids_X4_mix rfl rfl rfl (by decide +kernel) ⟨Nat.le_of_ble_eq_true rfl, Nat.le_of_ble_eq_true rfl⟩) hW.2.2 rfl hl.1 rfl (Nat.le_of_ble_eq_true rfl) dX4_mixBids_43 ⟨Nat.le_of_ble_eq_true rfl, Nat.le_of_ble_eq_true rfl⟩ (fun r_7 H locs hw hk hS => ?_)
              have hW := hW.kept hk hS
              refine lv_lstore_n (lv' := [(3, .long r_7), (0, .ref (a 0)), (5, .int v5_1), (6, .int v6_2), (7, .int v7_4)]) hx hb dX4_mixBids_46 rfl hl (by decide) rfl (fun ls hl => ?_)
              obtain ⟨v7_8, ev7_8⟩ : ∃ y : Int32, y = v7_4 + 1 := ⟨_, rfl⟩
              have hw := hw v7_8 ev7_8
              refine lv_iinc (v := v7_8) (lv' := [(7, .int v7_8), (3, .long r_7), (0, .ref (a 0)), (5, .int v5_1), (6, .int v6_2)]) hx hb dX4_mixBids_47 hl (k := 4) rfl (by rw [ev7_8]; rfl) (by decide) rfl (fun ls hl => ?_)
              refine lv_goto (tgt := 25) hx hb dX4_mixBids_50 (by decide) ?_
              obtain ⟨n9, hlt9, hI9⟩ := hw
              exact ih4 n9 hlt9 _ _ _ _ _ hI9 hW (lv_sub hl [2, 1, 3, 4, 0] rfl)
def wp_X4_mixWorths (σ : CS) (p1 : Int64) (post : Int64 → CS → Prop) : Prop := wp_X4_findSharing σ (fun σ_1 => ∃ I2 : Nat → Int64 → Int32 → Prop, (∃ n : Nat, I2 n p1 0) ∧ ∀ (n2 : Nat) (v3_2 : Int64) (v5_2 : Int32), I2 n2 v3_2 v5_2 → ((6 < v5_2 → post v3_2 σ_1) ∧ (¬ 6 < v5_2 → wp_X1_worthByTrying σ_1 v5_2 (fun r_3 => wp_X4_mix v3_2 (r_3).toInt64 (fun r_4 => wp_X1_worthWithout σ_1 v5_2 (fun r_5 => wp_X4_mix r_4 (r_5).toInt64 (fun r_6 => ∀ v5_7 : Int32, v5_7 = v5_2 + 1 → ∃ n' : Nat, n' < n2 ∧ I2 n' r_6 v5_7)))))))
abbrev rm_X4_mixWorths : Room := { frames := 10, cells := 0, slots := 0, locals := 438 }
theorem in_X4_mixWorths_X4 : ∀ w ∈ wsX40, w ∈ wsX4_mixWorths := fun w h => List.mem_cons_of_mem _ (List.mem_append_left _ (List.mem_append_left _ (List.mem_append_right _ (h))))
set_option maxHeartbeats 4000000 in
set_option maxRecDepth 100000 in
theorem ok_X4_mixWorths (l : Launch) (D : va_G) (cI cJ : ClassId) (a : Nat → Nat) (sz : Nat) (σ : CS) (p1 : Int64) (post : Int64 → CS → Prop) (hw : wp_X4_mixWorths σ p1 post) : Ml l yX4_mixWorths wsX4_mixWorths rm_X4_mixWorths [.ref (a 0), .long p1] D (tysIJ cI cJ) (cW cI cJ a σ) sz post (cW cI cJ a) := by
  refine s_Ml (by decide) rfl (Nat.le_of_ble_eq_true rfl) ?_
  intro p e s m args below meth c A Q hx hb hml hts hown hin hK hA hret H locs ls hW hl
  have hown : s.vm.findClass RX4 = some m.cls := hown
  have hl : lv_has ls 6 [(0, .ref (a 0)), (1, .long p1)] := hl
  have hinX4 := in_X4_mixWorths_X4
  refine lv_lload_n hx hb dX4_mixWorths_0 rfl (lv_at hl 1 rfl) ?_
  refine lv_lstore_n (lv' := [(3, .long p1), (0, .ref (a 0)), (1, .long p1)]) hx hb dX4_mixWorths_1 rfl hl (by decide) rfl (fun ls hl => ?_)
  refine lv_aload_n hx hb dX4_mixWorths_2 rfl (lv_at hl 1 rfl) ?_
  refine kV_Mv (As := []) (rest := []) ⟨hx, hb, hml, hown, hts⟩ (ok_X4_findSharing l D cI cJ a _ _ _ hw) (cwV 0 hts gX4_mixWorths_X4_findSharing rfl rfl rfl (by decide +kernel) ⟨Nat.le_of_ble_eq_true rfl, Nat.le_of_ble_eq_true rfl⟩) hK hW hA 0 rfl rfl rfl hl.1 rfl (Nat.le_of_ble_eq_true rfl) dX4_mixWorths_3 ⟨Nat.le_of_ble_eq_true rfl, Nat.le_of_ble_eq_true rfl⟩ (fun σ_1 H locs hw hW => ?_)
  refine lv_iconst (v := 0) hx hb dX4_mixWorths_6 (by decide) ?_
  refine lv_istore (lv' := [(5, .int 0), (3, .long p1), (0, .ref (a 0)), (1, .long p1)]) hx hb dX4_mixWorths_7 hl (by decide) rfl (fun ls hl => ?_)
  obtain ⟨I2, ⟨n2, hI2⟩, hJ2⟩ := hw
  have hl : lv_has ls 6 [(0, .ref (a 0)), (3, .long p1), (5, .int 0)] := lv_sub hl [2, 1, 0] rfl
  suffices LP2 : ∀ (n : Nat) (v3_2 : Int64) (v5_2 : Int32) (H : Heap) (locs : List Loc) (ls : Array Slot), I2 n v3_2 v5_2 → Wd D A s.heap (cW cI cJ a σ_1) H locs → lv_has ls 6 [(0, .ref (a 0)), (3, .long v3_2), (5, .int v5_2)] → W p l e rm_X4_mixWorths s m args below meth c H locs 0 0 Q (F0 m 9 ls []) from LP2 n2 p1 0 H locs ls hI2 hW hl
  intro n2
  induction n2 using Nat.strongRecOn with
  | ind n2 ih2 =>
    intro v3_2 v5_2 H locs ls hIn hW hl
    have hw := hJ2 n2 v3_2 v5_2 hIn
    refine lv_iload hx hb dX4_mixWorths_9 (lv_at hl 2 rfl) ?_
    refine lv_bipush (v := 6) hx hb dX4_mixWorths_11 (by decide) ?_
    refine lv_icmp_gt (tgt := 52) hx hb dX4_mixWorths_13 (by decide) (fun hc => ?_) (fun hc => ?_)
    · have hw := hw.1 hc
      refine lv_lload_n hx hb dX4_mixWorths_52 rfl (lv_at hl 1 rfl) ?_
      exact hret _ σ_1 _ _ _ _ hw hW dX4_mixWorths_53
    · have hw := hw.2 hc
      refine lv_lload_n hx hb dX4_mixWorths_16 rfl (lv_at hl 1 rfl) ?_
      refine lv_aload_n hx hb dX4_mixWorths_17 rfl (lv_at hl 0 rfl) ?_
      refine va_get (D := D) (ci := 4) (v := .ref (a 3)) (C := RX4) (T := TX4) (N := 4) hx hb hts hinX4 hown hK hW.1 0 rfl rfl 1 (by decide) (hts _ (List.mem_of_getElem? (i := 1) rfl)) (fun _ h9 => h9) rfl dX4_mixWorths_18 ?_
      refine lv_iload hx hb dX4_mixWorths_21 (lv_at hl 2 rfl) ?_
      refine kV_Mi (As := [.int v5_2]) (rest := [.long v3_2]) ⟨hx, hb, hml, hown, hts⟩ (ok_X1_worthByTrying l D cI cJ a _ _ _ _ hw) (cwV 1 hts gX4_mixWorths_X1_worthByTrying rfl rfl rfl (by decide +kernel) ⟨Nat.le_of_ble_eq_true rfl, Nat.le_of_ble_eq_true rfl⟩) hK hW hA 3 rfl rfl rfl hl.1 rfl (Nat.le_of_ble_eq_true rfl) dX4_mixWorths_23 ⟨Nat.le_of_ble_eq_true rfl, Nat.le_of_ble_eq_true rfl⟩ (fun r_3 _ H locs hw hW => ?_)
      refine lv_i2l hx hb dX4_mixWorths_26 rfl ?_
      refine kS_Pl (As := [.long v3_2, .long (r_3).toInt64]) (rest := []) ⟨hx, hb, hml, hown, hts⟩ (ok_X4_mix l _ _ _ hw) (va_cwS 2 hts gX4_mixWorths_X4_mix rfl rfl rfl (by decide +kernel) ⟨Nat.le_of_ble_eq_true rfl, Nat.le_of_ble_eq_true rfl⟩) hW.2.2 rfl hl.1 rfl (Nat.le_of_ble_eq_true rfl) dX4_mixWorths_27 ⟨Nat.le_of_ble_eq_true rfl, Nat.le_of_ble_eq_true rfl⟩ (fun r_4 H locs hw hk hS => ?_)
      have hW := hW.kept hk hS
      refine lv_lstore_n (lv' := [(3, .long r_4), (0, .ref (a 0)), (5, .int v5_2)]) hx hb dX4_mixWorths_30 rfl hl (by decide) rfl (fun ls hl => ?_)
      refine lv_lload_n hx hb dX4_mixWorths_31 rfl (lv_at hl 0 rfl) ?_
      refine lv_aload_n hx hb dX4_mixWorths_32 rfl (lv_at hl 1 rfl) ?_
      refine va_get (D := D) (ci := 4) (v := .ref (a 3)) (C := RX4) (T := TX4) (N := 4) hx hb hts hinX4 hown hK hW.1 0 rfl rfl 1 (by decide) (hts _ (List.mem_of_getElem? (i := 1) rfl)) (fun _ h9 => h9) rfl dX4_mixWorths_33 ?_
      refine lv_iload hx hb dX4_mixWorths_36 (lv_at hl 2 rfl) ?_
      refine kV_Mi (As := [.int v5_2]) (rest := [.long r_4]) ⟨hx, hb, hml, hown, hts⟩ (ok_X1_worthWithout l D cI cJ a _ _ _ _ hw) (cwV 1 hts gX4_mixWorths_X1_worthWithout rfl rfl rfl (by decide +kernel) ⟨Nat.le_of_ble_eq_true rfl, Nat.le_of_ble_eq_true rfl⟩) hK hW hA 3 rfl rfl rfl hl.1 rfl (Nat.le_of_ble_eq_true rfl) dX4_mixWorths_38 ⟨Nat.le_of_ble_eq_true rfl, Nat.le_of_ble_eq_true rfl⟩ (fun r_5 _ H locs hw hW => ?_)
      refine lv_i2l hx hb dX4_mixWorths_41 rfl ?_
      refine kS_Pl (As := [.long r_4, .long (r_5).toInt64]) (rest := []) ⟨hx, hb, hml, hown, hts⟩ (ok_X4_mix l _ _ _ hw) (va_cwS 2 hts gX4_mixWorths_X4_mix rfl rfl rfl (by decide +kernel) ⟨Nat.le_of_ble_eq_true rfl, Nat.le_of_ble_eq_true rfl⟩) hW.2.2 rfl hl.1 rfl (Nat.le_of_ble_eq_true rfl) dX4_mixWorths_42 ⟨Nat.le_of_ble_eq_true rfl, Nat.le_of_ble_eq_true rfl⟩ (fun r_6 H locs hw hk hS => ?_)
      have hW := hW.kept hk hS
      refine lv_lstore_n (lv' := [(3, .long r_6), (0, .ref (a 0)), (5, .int v5_2)]) hx hb dX4_mixWorths_45 rfl hl (by decide) rfl (fun ls hl => ?_)
      obtain ⟨v5_7, ev5_7⟩ : ∃ y : Int32, y = v5_2 + 1 := ⟨_, rfl⟩
      have hw := hw v5_7 ev5_7
      refine lv_iinc (v := v5_7) (lv' := [(5, .int v5_7), (3, .long r_6), (0, .ref (a 0))]) hx hb dX4_mixWorths_46 hl (k := 2) rfl (by rw [ev5_7]; rfl) (by decide) rfl (fun ls hl => ?_)
      refine lv_goto (tgt := 9) hx hb dX4_mixWorths_49 (by decide) ?_
      obtain ⟨n9, hlt9, hI9⟩ := hw
      exact ih2 n9 hlt9 _ _ _ _ _ hI9 hW (lv_sub hl [2, 1, 0] rfl)
def wp_X4_bitsOf (p1 : UInt64) (p2 : Int32) (p3 : Int32) (post : Int64 → Prop) : Prop := ((0 < (Op.cmpValue (FP.dcmp p1 FP.dconst0) .l) → ∀ v6_1 : Int64, v6_1 = (p3).toInt64 → ∃ I2 : Nat → UInt64 → Int64 → Int32 → Prop, (∃ n : Nat, I2 n p1 v6_1 0) ∧ ∀ (n2 : Nat) (v4_2 : UInt64) (v6_2 : Int64) (v8_2 : Int32), I2 n2 v4_2 v6_2 v8_2 → ((p3 ≤ v8_2 → ∃ I3 : Nat → UInt64 → Int64 → Int32 → Prop, (∃ n : Nat, I3 n v4_2 v6_2 0) ∧ ∀ (n3 : Nat) (v4_3 : UInt64) (v6_3 : Int64) (v8_3 : Int32), I3 n3 v4_3 v6_3 v8_3 → ((p3 ≤ v8_3 → ∀ v8_4 : Int64, v8_4 = (1 <<< (p2.toInt64 &&& 63)) → vf_n64 (FP.dsub v4_3 FP.dconst1) ∧ vf_n64 (FP.dmul (FP.dsub v4_3 FP.dconst1) (FP.l2d v8_4)) ∧ post ((v6_3 * v8_4) + (FP.d2l (FP.dmul (FP.dsub v4_3 FP.dconst1) (FP.l2d v8_4))))) ∧ (¬ p3 ≤ v8_3 → ((0 ≤ (Op.cmpValue (FP.dcmp v4_3 FP.dconst1) .g) → ∀ v8_5 : Int64, v8_5 = (1 <<< (p2.toInt64 &&& 63)) → vf_n64 (FP.dsub v4_3 FP.dconst1) ∧ vf_n64 (FP.dmul (FP.dsub v4_3 FP.dconst1) (FP.l2d v8_5)) ∧ post ((v6_3 * v8_5) + (FP.d2l (FP.dmul (FP.dsub v4_3 FP.dconst1) (FP.l2d v8_5))))) ∧ (¬ 0 ≤ (Op.cmpValue (FP.dcmp v4_3 FP.dconst1) .g) → vf_n64 (FP.dmul v4_3 4611686018427387904) ∧ ∀ v4_6 : UInt64, v4_6 = (FP.dmul v4_3 4611686018427387904) → ∀ v6_7 : Int64, v6_7 = (v6_3 - 1) → ∀ v8_8 : Int32, v8_8 = v8_3 + 1 → ∃ n' : Nat, n' < n3 ∧ I3 n' v4_6 v6_7 v8_8))))) ∧ (¬ p3 ≤ v8_2 → (((Op.cmpValue (FP.dcmp v4_2 4611686018427387904) .l) < 0 → ∃ I9 : Nat → UInt64 → Int64 → Int32 → Prop, (∃ n : Nat, I9 n v4_2 v6_2 0) ∧ ∀ (n9 : Nat) (v4_9 : UInt64) (v6_9 : Int64) (v8_9 : Int32), I9 n9 v4_9 v6_9 v8_9 → ((p3 ≤ v8_9 → ∀ v8_10 : Int64, v8_10 = (1 <<< (p2.toInt64 &&& 63)) → vf_n64 (FP.dsub v4_9 FP.dconst1) ∧ vf_n64 (FP.dmul (FP.dsub v4_9 FP.dconst1) (FP.l2d v8_10)) ∧ post ((v6_9 * v8_10) + (FP.d2l (FP.dmul (FP.dsub v4_9 FP.dconst1) (FP.l2d v8_10))))) ∧ (¬ p3 ≤ v8_9 → ((0 ≤ (Op.cmpValue (FP.dcmp v4_9 FP.dconst1) .g) → ∀ v8_11 : Int64, v8_11 = (1 <<< (p2.toInt64 &&& 63)) → vf_n64 (FP.dsub v4_9 FP.dconst1) ∧ vf_n64 (FP.dmul (FP.dsub v4_9 FP.dconst1) (FP.l2d v8_11)) ∧ post ((v6_9 * v8_11) + (FP.d2l (FP.dmul (FP.dsub v4_9 FP.dconst1) (FP.l2d v8_11))))) ∧ (¬ 0 ≤ (Op.cmpValue (FP.dcmp v4_9 FP.dconst1) .g) → vf_n64 (FP.dmul v4_9 4611686018427387904) ∧ ∀ v4_12 : UInt64, v4_12 = (FP.dmul v4_9 4611686018427387904) → ∀ v6_13 : Int64, v6_13 = (v6_9 - 1) → ∀ v8_14 : Int32, v8_14 = v8_9 + 1 → ∃ n' : Nat, n' < n9 ∧ I9 n' v4_12 v6_13 v8_14))))) ∧ (¬ (Op.cmpValue (FP.dcmp v4_2 4611686018427387904) .l) < 0 → vf_n64 (FP.ddiv v4_2 4611686018427387904) ∧ ∀ v4_15 : UInt64, v4_15 = (FP.ddiv v4_2 4611686018427387904) → ∀ v6_16 : Int64, v6_16 = (v6_2 + 1) → ∀ v8_17 : Int32, v8_17 = v8_2 + 1 → ∃ n' : Nat, n' < n2 ∧ I2 n' v4_15 v6_16 v8_17))))) ∧ (¬ 0 < (Op.cmpValue (FP.dcmp p1 FP.dconst0) .l) → post 0))
abbrev rm_X4_bitsOf : Room := { frames := 0, cells := 0, slots := 0, locals := 0 }
set_option maxHeartbeats 4000000 in
set_option maxRecDepth 100000 in
theorem ok_X4_bitsOf (l : Launch) (p1 : UInt64) (p2 : Int32) (p3 : Int32) (post : Int64 → Prop) (hw : wp_X4_bitsOf p1 p2 p3 post) : Pl l yX4_bitsOf wsX4_bitsOf rm_X4_bitsOf [.double p1, .int p2, .int p3] post := by
  refine s_Pl (by decide) rfl (Nat.le_of_ble_eq_true rfl) ?_
  intro p e s m args below meth c A Q hx hb hml hts hown hin hret H locs ls hW hl
  have hown : s.vm.findClass RX4 = some m.cls := hown
  have hl : lv_has ls 10 [(0, .double p1), (2, .int p2), (3, .int p3)] := hl
  refine lv_dload_n hx hb dX4_bitsOf_0 rfl (lv_at hl 0 rfl) ?_
  refine lv_dconst0 hx hb dX4_bitsOf_1 ?_
  refine lv_dcmp hx hb dX4_bitsOf_2 ?_
  refine lv_if_gt (tgt := 8) hx hb dX4_bitsOf_3 (by decide) (fun hc => ?_) (fun hc => ?_)
  · have hw := hw.1 hc
    refine lv_dload_n hx hb dX4_bitsOf_8 rfl (lv_at hl 0 rfl) ?_
    refine lv_dstore (lv' := [(4, .double p1), (0, .double p1), (2, .int p2), (3, .int p3)]) hx hb dX4_bitsOf_9 hl (by decide) rfl (fun ls hl => ?_)
    refine lv_iload_n hx hb dX4_bitsOf_11 rfl (lv_at hl 3 rfl) ?_
    refine lv_i2l hx hb dX4_bitsOf_12 rfl ?_
    refine lv_topl (fun v6_1 ev6_1 => ?_)
    have hw := hw v6_1 ev6_1
    refine lv_lstore (lv' := [(6, .long v6_1), (4, .double p1), (0, .double p1), (2, .int p2), (3, .int p3)]) hx hb dX4_bitsOf_13 hl (by decide) rfl (fun ls hl => ?_)
    refine lv_iconst (v := 0) hx hb dX4_bitsOf_15 (by decide) ?_
    refine lv_istore (lv' := [(8, .int 0), (6, .long v6_1), (4, .double p1), (0, .double p1), (2, .int p2), (3, .int p3)]) hx hb dX4_bitsOf_16 hl (by decide) rfl (fun ls hl => ?_)
    obtain ⟨I2, ⟨n2, hI2⟩, hJ2⟩ := hw
    have hl : lv_has ls 10 [(2, .int p2), (3, .int p3), (4, .double p1), (6, .long v6_1), (8, .int 0)] := lv_sub hl [4, 5, 2, 1, 0] rfl
    suffices LP2 : ∀ (n : Nat) (v4_2 : UInt64) (v6_2 : Int64) (v8_2 : Int32) (H : Heap) (locs : List Loc) (ls : Array Slot), I2 n v4_2 v6_2 v8_2 → va_S (fun _ => False) s.heap H locs → lv_has ls 10 [(2, .int p2), (3, .int p3), (4, .double v4_2), (6, .long v6_2), (8, .int v8_2)] → W p l e rm_X4_bitsOf s m args below meth c H locs 0 0 Q (F0 m 18 ls []) from LP2 n2 p1 v6_1 0 H locs ls hI2 hW hl
    intro n2
    induction n2 using Nat.strongRecOn with
    | ind n2 ih2 =>
      intro v4_2 v6_2 v8_2 H locs ls hIn hW hl
      have hw := hJ2 n2 v4_2 v6_2 v8_2 hIn
      refine lv_iload hx hb dX4_bitsOf_18 (lv_at hl 4 rfl) ?_
      refine lv_iload_n hx hb dX4_bitsOf_20 rfl (lv_at hl 1 rfl) ?_
      refine lv_icmp_ge (tgt := 53) hx hb dX4_bitsOf_21 (by decide) (fun hc => ?_) (fun hc => ?_)
      · have hw := hw.1 hc
        refine lv_iconst (v := 0) hx hb dX4_bitsOf_53 (by decide) ?_
        refine lv_istore (lv' := [(8, .int 0), (2, .int p2), (3, .int p3), (4, .double v4_2), (6, .long v6_2)]) hx hb dX4_bitsOf_54 hl (by decide) rfl (fun ls hl => ?_)
        obtain ⟨I3, ⟨n3, hI3⟩, hJ3⟩ := hw
        have hl : lv_has ls 10 [(2, .int p2), (3, .int p3), (4, .double v4_2), (6, .long v6_2), (8, .int 0)] := lv_sub hl [1, 2, 3, 4, 0] rfl
        suffices LP3 : ∀ (n : Nat) (v4_3 : UInt64) (v6_3 : Int64) (v8_3 : Int32) (H : Heap) (locs : List Loc) (ls : Array Slot), I3 n v4_3 v6_3 v8_3 → va_S (fun _ => False) s.heap H locs → lv_has ls 10 [(2, .int p2), (3, .int p3), (4, .double v4_3), (6, .long v6_3), (8, .int v8_3)] → W p l e rm_X4_bitsOf s m args below meth c H locs 0 0 Q (F0 m 56 ls []) from LP3 n3 v4_2 v6_2 0 H locs ls hI3 hW hl
        intro n3
        induction n3 using Nat.strongRecOn with
        | ind n3 ih3 =>
          intro v4_3 v6_3 v8_3 H locs ls hIn hW hl
          have hw := hJ3 n3 v4_3 v6_3 v8_3 hIn
          refine lv_iload hx hb dX4_bitsOf_56 (lv_at hl 4 rfl) ?_
          refine lv_iload_n hx hb dX4_bitsOf_58 rfl (lv_at hl 1 rfl) ?_
          refine lv_icmp_ge (tgt := 89) hx hb dX4_bitsOf_59 (by decide) (fun hc => ?_) (fun hc => ?_)
          · have hw := hw.1 hc
            refine lv_lconst (v := 1) hx hb dX4_bitsOf_89 (by decide) ?_
            refine lv_iload_n hx hb dX4_bitsOf_90 rfl (lv_at hl 0 rfl) ?_
            refine lv_lshl hx hb dX4_bitsOf_91 rfl ?_
            refine lv_topl (fun v8_4 ev8_4 => ?_)
            have hw := hw v8_4 ev8_4
            refine lv_lstore (lv' := [(8, .long v8_4), (2, .int p2), (3, .int p3), (4, .double v4_3), (6, .long v6_3)]) hx hb dX4_bitsOf_92 hl (by decide) rfl (fun ls hl => ?_)
            refine lv_lload hx hb dX4_bitsOf_94 (lv_at hl 4 rfl) ?_
            refine lv_lload hx hb dX4_bitsOf_96 (lv_at hl 0 rfl) ?_
            refine lv_lmul hx hb dX4_bitsOf_98 ?_
            refine lv_dload hx hb dX4_bitsOf_99 (lv_at hl 3 rfl) ?_
            refine lv_dconst1 hx hb dX4_bitsOf_101 ?_
            refine lv_dsub hx hb dX4_bitsOf_102 hw.1 ?_
            have hw := hw.2
            refine lv_lload hx hb dX4_bitsOf_103 (lv_at hl 0 rfl) ?_
            refine lv_l2d hx hb dX4_bitsOf_105 ?_
            refine lv_dmul hx hb dX4_bitsOf_106 hw.1 ?_
            have hw := hw.2
            refine lv_d2l hx hb dX4_bitsOf_107 ?_
            refine lv_ladd hx hb dX4_bitsOf_108 ?_
            exact hret _ _ _ _ _ hw hW dX4_bitsOf_109
          · have hw := hw.2 hc
            refine lv_dload hx hb dX4_bitsOf_62 (lv_at hl 2 rfl) ?_
            refine lv_dconst1 hx hb dX4_bitsOf_64 ?_
            refine lv_dcmp hx hb dX4_bitsOf_65 ?_
            refine lv_if_ge (tgt := 89) hx hb dX4_bitsOf_66 (by decide) (fun hc => ?_) (fun hc => ?_)
            · have hw := hw.1 hc
              refine lv_lconst (v := 1) hx hb dX4_bitsOf_89 (by decide) ?_
              refine lv_iload_n hx hb dX4_bitsOf_90 rfl (lv_at hl 0 rfl) ?_
              refine lv_lshl hx hb dX4_bitsOf_91 rfl ?_
              refine lv_topl (fun v8_5 ev8_5 => ?_)
              have hw := hw v8_5 ev8_5
              refine lv_lstore (lv' := [(8, .long v8_5), (2, .int p2), (3, .int p3), (4, .double v4_3), (6, .long v6_3)]) hx hb dX4_bitsOf_92 hl (by decide) rfl (fun ls hl => ?_)
              refine lv_lload hx hb dX4_bitsOf_94 (lv_at hl 4 rfl) ?_
              refine lv_lload hx hb dX4_bitsOf_96 (lv_at hl 0 rfl) ?_
              refine lv_lmul hx hb dX4_bitsOf_98 ?_
              refine lv_dload hx hb dX4_bitsOf_99 (lv_at hl 3 rfl) ?_
              refine lv_dconst1 hx hb dX4_bitsOf_101 ?_
              refine lv_dsub hx hb dX4_bitsOf_102 hw.1 ?_
              have hw := hw.2
              refine lv_lload hx hb dX4_bitsOf_103 (lv_at hl 0 rfl) ?_
              refine lv_l2d hx hb dX4_bitsOf_105 ?_
              refine lv_dmul hx hb dX4_bitsOf_106 hw.1 ?_
              have hw := hw.2
              refine lv_d2l hx hb dX4_bitsOf_107 ?_
              refine lv_ladd hx hb dX4_bitsOf_108 ?_
              exact hret _ _ _ _ _ hw hW dX4_bitsOf_109
            · have hw := hw.2 hc
              refine lv_dload hx hb dX4_bitsOf_69 (lv_at hl 2 rfl) ?_
              refine lv_ldc2d (own := RX4) (v := 4611686018427387904) hx hb hown (hts _ (List.mem_of_getElem? (i := 1) rfl)) dX4_bitsOf_71 ?_
              refine lv_dmul hx hb dX4_bitsOf_74 hw.1 ?_
              have hw := hw.2
              refine lv_topd (fun v4_6 ev4_6 => ?_)
              have hw := hw v4_6 ev4_6
              refine lv_dstore (lv' := [(4, .double v4_6), (2, .int p2), (3, .int p3), (6, .long v6_3), (8, .int v8_3)]) hx hb dX4_bitsOf_75 hl (by decide) rfl (fun ls hl => ?_)
              refine lv_lload hx hb dX4_bitsOf_77 (lv_at hl 3 rfl) ?_
              refine lv_lconst (v := 1) hx hb dX4_bitsOf_79 (by decide) ?_
              refine lv_lsub hx hb dX4_bitsOf_80 ?_
              refine lv_topl (fun v6_7 ev6_7 => ?_)
              have hw := hw v6_7 ev6_7
              refine lv_lstore (lv' := [(6, .long v6_7), (4, .double v4_6), (2, .int p2), (3, .int p3), (8, .int v8_3)]) hx hb dX4_bitsOf_81 hl (by decide) rfl (fun ls hl => ?_)
              obtain ⟨v8_8, ev8_8⟩ : ∃ y : Int32, y = v8_3 + 1 := ⟨_, rfl⟩
              have hw := hw v8_8 ev8_8
              refine lv_iinc (v := v8_8) (lv' := [(8, .int v8_8), (6, .long v6_7), (4, .double v4_6), (2, .int p2), (3, .int p3)]) hx hb dX4_bitsOf_83 hl (k := 4) rfl (by rw [ev8_8]; rfl) (by decide) rfl (fun ls hl => ?_)
              refine lv_goto (tgt := 56) hx hb dX4_bitsOf_86 (by decide) ?_
              obtain ⟨n9, hlt9, hI9⟩ := hw
              exact ih3 n9 hlt9 _ _ _ _ _ _ hI9 hW (lv_sub hl [3, 4, 2, 1, 0] rfl)
      · have hw := hw.2 hc
        refine lv_dload hx hb dX4_bitsOf_24 (lv_at hl 2 rfl) ?_
        refine lv_ldc2d (own := RX4) (v := 4611686018427387904) hx hb hown (hts _ (List.mem_of_getElem? (i := 1) rfl)) dX4_bitsOf_26 ?_
        refine lv_dcmp hx hb dX4_bitsOf_29 ?_
        refine lv_if_lt (tgt := 53) hx hb dX4_bitsOf_30 (by decide) (fun hc => ?_) (fun hc => ?_)
        · have hw := hw.1 hc
          refine lv_iconst (v := 0) hx hb dX4_bitsOf_53 (by decide) ?_
          refine lv_istore (lv' := [(8, .int 0), (2, .int p2), (3, .int p3), (4, .double v4_2), (6, .long v6_2)]) hx hb dX4_bitsOf_54 hl (by decide) rfl (fun ls hl => ?_)
          obtain ⟨I9, ⟨n9, hI9⟩, hJ9⟩ := hw
          have hl : lv_has ls 10 [(2, .int p2), (3, .int p3), (4, .double v4_2), (6, .long v6_2), (8, .int 0)] := lv_sub hl [1, 2, 3, 4, 0] rfl
          suffices LP9 : ∀ (n : Nat) (v4_9 : UInt64) (v6_9 : Int64) (v8_9 : Int32) (H : Heap) (locs : List Loc) (ls : Array Slot), I9 n v4_9 v6_9 v8_9 → va_S (fun _ => False) s.heap H locs → lv_has ls 10 [(2, .int p2), (3, .int p3), (4, .double v4_9), (6, .long v6_9), (8, .int v8_9)] → W p l e rm_X4_bitsOf s m args below meth c H locs 0 0 Q (F0 m 56 ls []) from LP9 n9 v4_2 v6_2 0 H locs ls hI9 hW hl
          intro n9
          induction n9 using Nat.strongRecOn with
          | ind n9 ih9 =>
            intro v4_9 v6_9 v8_9 H locs ls hIn hW hl
            have hw := hJ9 n9 v4_9 v6_9 v8_9 hIn
            refine lv_iload hx hb dX4_bitsOf_56 (lv_at hl 4 rfl) ?_
            refine lv_iload_n hx hb dX4_bitsOf_58 rfl (lv_at hl 1 rfl) ?_
            refine lv_icmp_ge (tgt := 89) hx hb dX4_bitsOf_59 (by decide) (fun hc => ?_) (fun hc => ?_)
            · have hw := hw.1 hc
              refine lv_lconst (v := 1) hx hb dX4_bitsOf_89 (by decide) ?_
              refine lv_iload_n hx hb dX4_bitsOf_90 rfl (lv_at hl 0 rfl) ?_
              refine lv_lshl hx hb dX4_bitsOf_91 rfl ?_
              refine lv_topl (fun v8_10 ev8_10 => ?_)
              have hw := hw v8_10 ev8_10
              refine lv_lstore (lv' := [(8, .long v8_10), (2, .int p2), (3, .int p3), (4, .double v4_9), (6, .long v6_9)]) hx hb dX4_bitsOf_92 hl (by decide) rfl (fun ls hl => ?_)
              refine lv_lload hx hb dX4_bitsOf_94 (lv_at hl 4 rfl) ?_
              refine lv_lload hx hb dX4_bitsOf_96 (lv_at hl 0 rfl) ?_
              refine lv_lmul hx hb dX4_bitsOf_98 ?_
              refine lv_dload hx hb dX4_bitsOf_99 (lv_at hl 3 rfl) ?_
              refine lv_dconst1 hx hb dX4_bitsOf_101 ?_
              refine lv_dsub hx hb dX4_bitsOf_102 hw.1 ?_
              have hw := hw.2
              refine lv_lload hx hb dX4_bitsOf_103 (lv_at hl 0 rfl) ?_
              refine lv_l2d hx hb dX4_bitsOf_105 ?_
              refine lv_dmul hx hb dX4_bitsOf_106 hw.1 ?_
              have hw := hw.2
              refine lv_d2l hx hb dX4_bitsOf_107 ?_
              refine lv_ladd hx hb dX4_bitsOf_108 ?_
              exact hret _ _ _ _ _ hw hW dX4_bitsOf_109
            · have hw := hw.2 hc
              refine lv_dload hx hb dX4_bitsOf_62 (lv_at hl 2 rfl) ?_
              refine lv_dconst1 hx hb dX4_bitsOf_64 ?_
              refine lv_dcmp hx hb dX4_bitsOf_65 ?_
              refine lv_if_ge (tgt := 89) hx hb dX4_bitsOf_66 (by decide) (fun hc => ?_) (fun hc => ?_)
              · have hw := hw.1 hc
                refine lv_lconst (v := 1) hx hb dX4_bitsOf_89 (by decide) ?_
                refine lv_iload_n hx hb dX4_bitsOf_90 rfl (lv_at hl 0 rfl) ?_
                refine lv_lshl hx hb dX4_bitsOf_91 rfl ?_
                refine lv_topl (fun v8_11 ev8_11 => ?_)
                have hw := hw v8_11 ev8_11
                refine lv_lstore (lv' := [(8, .long v8_11), (2, .int p2), (3, .int p3), (4, .double v4_9), (6, .long v6_9)]) hx hb dX4_bitsOf_92 hl (by decide) rfl (fun ls hl => ?_)
                refine lv_lload hx hb dX4_bitsOf_94 (lv_at hl 4 rfl) ?_
                refine lv_lload hx hb dX4_bitsOf_96 (lv_at hl 0 rfl) ?_
                refine lv_lmul hx hb dX4_bitsOf_98 ?_
                refine lv_dload hx hb dX4_bitsOf_99 (lv_at hl 3 rfl) ?_
                refine lv_dconst1 hx hb dX4_bitsOf_101 ?_
                refine lv_dsub hx hb dX4_bitsOf_102 hw.1 ?_
                have hw := hw.2
                refine lv_lload hx hb dX4_bitsOf_103 (lv_at hl 0 rfl) ?_
                refine lv_l2d hx hb dX4_bitsOf_105 ?_
                refine lv_dmul hx hb dX4_bitsOf_106 hw.1 ?_
                have hw := hw.2
                refine lv_d2l hx hb dX4_bitsOf_107 ?_
                refine lv_ladd hx hb dX4_bitsOf_108 ?_
                exact hret _ _ _ _ _ hw hW dX4_bitsOf_109
              · have hw := hw.2 hc
                refine lv_dload hx hb dX4_bitsOf_69 (lv_at hl 2 rfl) ?_
                refine lv_ldc2d (own := RX4) (v := 4611686018427387904) hx hb hown (hts _ (List.mem_of_getElem? (i := 1) rfl)) dX4_bitsOf_71 ?_
                refine lv_dmul hx hb dX4_bitsOf_74 hw.1 ?_
                have hw := hw.2
                refine lv_topd (fun v4_12 ev4_12 => ?_)
                have hw := hw v4_12 ev4_12
                refine lv_dstore (lv' := [(4, .double v4_12), (2, .int p2), (3, .int p3), (6, .long v6_9), (8, .int v8_9)]) hx hb dX4_bitsOf_75 hl (by decide) rfl (fun ls hl => ?_)
                refine lv_lload hx hb dX4_bitsOf_77 (lv_at hl 3 rfl) ?_
                refine lv_lconst (v := 1) hx hb dX4_bitsOf_79 (by decide) ?_
                refine lv_lsub hx hb dX4_bitsOf_80 ?_
                refine lv_topl (fun v6_13 ev6_13 => ?_)
                have hw := hw v6_13 ev6_13
                refine lv_lstore (lv' := [(6, .long v6_13), (4, .double v4_12), (2, .int p2), (3, .int p3), (8, .int v8_9)]) hx hb dX4_bitsOf_81 hl (by decide) rfl (fun ls hl => ?_)
                obtain ⟨v8_14, ev8_14⟩ : ∃ y : Int32, y = v8_9 + 1 := ⟨_, rfl⟩
                have hw := hw v8_14 ev8_14
                refine lv_iinc (v := v8_14) (lv' := [(8, .int v8_14), (6, .long v6_13), (4, .double v4_12), (2, .int p2), (3, .int p3)]) hx hb dX4_bitsOf_83 hl (k := 4) rfl (by rw [ev8_14]; rfl) (by decide) rfl (fun ls hl => ?_)
                refine lv_goto (tgt := 56) hx hb dX4_bitsOf_86 (by decide) ?_
                obtain ⟨n9, hlt9, hI9⟩ := hw
                exact ih9 n9 hlt9 _ _ _ _ _ _ hI9 hW (lv_sub hl [3, 4, 2, 1, 0] rfl)
        · have hw := hw.2 hc
          refine lv_dload hx hb dX4_bitsOf_33 (lv_at hl 2 rfl) ?_
          refine lv_ldc2d (own := RX4) (v := 4611686018427387904) hx hb hown (hts _ (List.mem_of_getElem? (i := 1) rfl)) dX4_bitsOf_35 ?_
          refine lv_ddiv hx hb dX4_bitsOf_38 hw.1 ?_
          have hw := hw.2
          refine lv_topd (fun v4_15 ev4_15 => ?_)
          have hw := hw v4_15 ev4_15
          refine lv_dstore (lv' := [(4, .double v4_15), (2, .int p2), (3, .int p3), (6, .long v6_2), (8, .int v8_2)]) hx hb dX4_bitsOf_39 hl (by decide) rfl (fun ls hl => ?_)
          refine lv_lload hx hb dX4_bitsOf_41 (lv_at hl 3 rfl) ?_
          refine lv_lconst (v := 1) hx hb dX4_bitsOf_43 (by decide) ?_
          refine lv_ladd hx hb dX4_bitsOf_44 ?_
          refine lv_topl (fun v6_16 ev6_16 => ?_)
          have hw := hw v6_16 ev6_16
          refine lv_lstore (lv' := [(6, .long v6_16), (4, .double v4_15), (2, .int p2), (3, .int p3), (8, .int v8_2)]) hx hb dX4_bitsOf_45 hl (by decide) rfl (fun ls hl => ?_)
          obtain ⟨v8_17, ev8_17⟩ : ∃ y : Int32, y = v8_2 + 1 := ⟨_, rfl⟩
          have hw := hw v8_17 ev8_17
          refine lv_iinc (v := v8_17) (lv' := [(8, .int v8_17), (6, .long v6_16), (4, .double v4_15), (2, .int p2), (3, .int p3)]) hx hb dX4_bitsOf_47 hl (k := 4) rfl (by rw [ev8_17]; rfl) (by decide) rfl (fun ls hl => ?_)
          refine lv_goto (tgt := 18) hx hb dX4_bitsOf_50 (by decide) ?_
          obtain ⟨n9, hlt9, hI9⟩ := hw
          exact ih2 n9 hlt9 _ _ _ _ _ _ hI9 hW (lv_sub hl [3, 4, 2, 1, 0] rfl)
  · have hw := hw.2 hc
    refine lv_lconst (v := 0) hx hb dX4_bitsOf_6 (by decide) ?_
    exact hret _ _ _ _ _ hw hW dX4_bitsOf_7
def wp_X4_mixText (σ : CS) (p1 : Int64) (post : Int64 → Prop) : Prop := wp_X3_length σ (fun r_1 => wp_X4_mix p1 (r_1).toInt64 (fun r_2 => ∃ I3 : Nat → Int64 → Int32 → Prop, (∃ n : Nat, I3 n r_2 0) ∧ ∀ (n3 : Nat) (v3_3 : Int64) (v5_3 : Int32), I3 n3 v3_3 v5_3 → wp_X3_length σ (fun r_4 => ((r_4 ≤ v5_3 → post v3_3) ∧ (¬ r_4 ≤ v5_3 → wp_X3_code σ v5_3 (fun r_5 => wp_X4_mix v3_3 (r_5).toInt64 (fun r_6 => ∀ v5_7 : Int32, v5_7 = v5_3 + 1 → ∃ n' : Nat, n' < n3 ∧ I3 n' r_6 v5_7)))))))
abbrev rm_X4_mixText : Room := { frames := 1, cells := 0, slots := 0, locals := 23 }
theorem in_X4_mixText_X4 : ∀ w ∈ wsX40, w ∈ wsX4_mixText := fun w h => List.mem_cons_of_mem _ (List.mem_append_left _ (List.mem_append_right _ (h)))
set_option maxHeartbeats 4000000 in
set_option maxRecDepth 100000 in
theorem ok_X4_mixText (l : Launch) (D : va_G) (cI cJ : ClassId) (a : Nat → Nat) (sz : Nat) (σ : CS) (p1 : Int64) (post : Int64 → Prop) (hw : wp_X4_mixText σ p1 post) : Ml l yX4_mixText wsX4_mixText rm_X4_mixText [.ref (a 0), .long p1] D (tysIJ cI cJ) (cW cI cJ a σ) sz (fun r (_ : Unit) => post r) (fun _ => cW cI cJ a σ) := by
  refine s_Ml (by decide) rfl (Nat.le_of_ble_eq_true rfl) ?_
  intro p e s m args below meth c A Q hx hb hml hts hown hin hK hA hret H locs ls hW hl
  have hown : s.vm.findClass RX4 = some m.cls := hown
  have hl : lv_has ls 6 [(0, .ref (a 0)), (1, .long p1)] := hl
  have hinX4 := in_X4_mixText_X4
  refine lv_lload_n hx hb dX4_mixText_0 rfl (lv_at hl 1 rfl) ?_
  refine lv_aload_n hx hb dX4_mixText_1 rfl (lv_at hl 0 rfl) ?_
  refine va_get (D := D) (ci := 4) (v := .ref (a 9)) (C := RX4) (T := TX4) (N := 4) hx hb hts hinX4 hown hK hW.1 0 rfl rfl 3 (by decide) (hts _ (List.mem_of_getElem? (i := 1) rfl)) (fun _ h9 => h9) rfl dX4_mixText_2 ?_
  refine kV_Mi (As := []) (rest := [.long p1]) ⟨hx, hb, hml, hown, hts⟩ (ok_X3_length l D cI cJ a _ _ _ hw) (cwV 0 hts gX4_mixText_X3_length rfl rfl rfl (by decide +kernel) ⟨Nat.le_of_ble_eq_true rfl, Nat.le_of_ble_eq_true rfl⟩) hK hW hA 9 rfl rfl rfl hl.1 rfl (Nat.le_of_ble_eq_true rfl) dX4_mixText_5 ⟨Nat.le_of_ble_eq_true rfl, Nat.le_of_ble_eq_true rfl⟩ (fun r_1 _ H locs hw hW => ?_)
  refine lv_i2l hx hb dX4_mixText_8 rfl ?_
  refine kS_Pl (As := [.long p1, .long (r_1).toInt64]) (rest := []) ⟨hx, hb, hml, hown, hts⟩ (ok_X4_mix l _ _ _ hw) (va_cwS 2 hts gX4_mixText_X4_mix rfl rfl rfl (by decide +kernel) ⟨Nat.le_of_ble_eq_true rfl, Nat.le_of_ble_eq_true rfl⟩) hW.2.2 rfl hl.1 rfl (Nat.le_of_ble_eq_true rfl) dX4_mixText_9 ⟨Nat.le_of_ble_eq_true rfl, Nat.le_of_ble_eq_true rfl⟩ (fun r_2 H locs hw hk hS => ?_)
  have hW := hW.kept hk hS
  refine lv_lstore_n (lv' := [(3, .long r_2), (0, .ref (a 0)), (1, .long p1)]) hx hb dX4_mixText_12 rfl hl (by decide) rfl (fun ls hl => ?_)
  refine lv_iconst (v := 0) hx hb dX4_mixText_13 (by decide) ?_
  refine lv_istore (lv' := [(5, .int 0), (3, .long r_2), (0, .ref (a 0)), (1, .long p1)]) hx hb dX4_mixText_14 hl (by decide) rfl (fun ls hl => ?_)
  obtain ⟨I3, ⟨n3, hI3⟩, hJ3⟩ := hw
  have hl : lv_has ls 6 [(0, .ref (a 0)), (3, .long r_2), (5, .int 0)] := lv_sub hl [2, 1, 0] rfl
  suffices LP3 : ∀ (n : Nat) (v3_3 : Int64) (v5_3 : Int32) (H : Heap) (locs : List Loc) (ls : Array Slot), I3 n v3_3 v5_3 → Wd D A s.heap (cW cI cJ a σ) H locs → lv_has ls 6 [(0, .ref (a 0)), (3, .long v3_3), (5, .int v5_3)] → W p l e rm_X4_mixText s m args below meth c H locs 0 0 Q (F0 m 16 ls []) from LP3 n3 r_2 0 H locs ls hI3 hW hl
  intro n3
  induction n3 using Nat.strongRecOn with
  | ind n3 ih3 =>
    intro v3_3 v5_3 H locs ls hIn hW hl
    have hw := hJ3 n3 v3_3 v5_3 hIn
    refine lv_iload hx hb dX4_mixText_16 (lv_at hl 2 rfl) ?_
    refine lv_aload_n hx hb dX4_mixText_18 rfl (lv_at hl 0 rfl) ?_
    refine va_get (D := D) (ci := 4) (v := .ref (a 9)) (C := RX4) (T := TX4) (N := 4) hx hb hts hinX4 hown hK hW.1 0 rfl rfl 3 (by decide) (hts _ (List.mem_of_getElem? (i := 1) rfl)) (fun _ h9 => h9) rfl dX4_mixText_19 ?_
    refine kV_Mi (As := []) (rest := [.int v5_3]) ⟨hx, hb, hml, hown, hts⟩ (ok_X3_length l D cI cJ a _ _ _ hw) (cwV 0 hts gX4_mixText_X3_length rfl rfl rfl (by decide +kernel) ⟨Nat.le_of_ble_eq_true rfl, Nat.le_of_ble_eq_true rfl⟩) hK hW hA 9 rfl rfl rfl hl.1 rfl (Nat.le_of_ble_eq_true rfl) dX4_mixText_22 ⟨Nat.le_of_ble_eq_true rfl, Nat.le_of_ble_eq_true rfl⟩ (fun r_4 _ H locs hw hW => ?_)
    refine lv_icmp_ge (tgt := 49) hx hb dX4_mixText_25 (by decide) (fun hc => ?_) (fun hc => ?_)
    · have hw := hw.1 hc
      refine lv_lload_n hx hb dX4_mixText_49 rfl (lv_at hl 1 rfl) ?_
      exact hret _ () _ _ _ _ hw hW dX4_mixText_50
    · have hw := hw.2 hc
      refine lv_lload_n hx hb dX4_mixText_28 rfl (lv_at hl 1 rfl) ?_
      refine lv_aload_n hx hb dX4_mixText_29 rfl (lv_at hl 0 rfl) ?_
      refine va_get (D := D) (ci := 4) (v := .ref (a 9)) (C := RX4) (T := TX4) (N := 4) hx hb hts hinX4 hown hK hW.1 0 rfl rfl 3 (by decide) (hts _ (List.mem_of_getElem? (i := 1) rfl)) (fun _ h9 => h9) rfl dX4_mixText_30 ?_
      refine lv_iload hx hb dX4_mixText_33 (lv_at hl 2 rfl) ?_
      refine kV_Mi (As := [.int v5_3]) (rest := [.long v3_3]) ⟨hx, hb, hml, hown, hts⟩ (ok_X3_code l D cI cJ a _ _ _ _ hw) (cwV 1 hts gX4_mixText_X3_code rfl rfl rfl (by decide +kernel) ⟨Nat.le_of_ble_eq_true rfl, Nat.le_of_ble_eq_true rfl⟩) hK hW hA 9 rfl rfl rfl hl.1 rfl (Nat.le_of_ble_eq_true rfl) dX4_mixText_35 ⟨Nat.le_of_ble_eq_true rfl, Nat.le_of_ble_eq_true rfl⟩ (fun r_5 _ H locs hw hW => ?_)
      refine lv_i2l hx hb dX4_mixText_38 rfl ?_
      refine kS_Pl (As := [.long v3_3, .long (r_5).toInt64]) (rest := []) ⟨hx, hb, hml, hown, hts⟩ (ok_X4_mix l _ _ _ hw) (va_cwS 2 hts gX4_mixText_X4_mix rfl rfl rfl (by decide +kernel) ⟨Nat.le_of_ble_eq_true rfl, Nat.le_of_ble_eq_true rfl⟩) hW.2.2 rfl hl.1 rfl (Nat.le_of_ble_eq_true rfl) dX4_mixText_39 ⟨Nat.le_of_ble_eq_true rfl, Nat.le_of_ble_eq_true rfl⟩ (fun r_6 H locs hw hk hS => ?_)
      have hW := hW.kept hk hS
      refine lv_lstore_n (lv' := [(3, .long r_6), (0, .ref (a 0)), (5, .int v5_3)]) hx hb dX4_mixText_42 rfl hl (by decide) rfl (fun ls hl => ?_)
      obtain ⟨v5_7, ev5_7⟩ : ∃ y : Int32, y = v5_3 + 1 := ⟨_, rfl⟩
      have hw := hw v5_7 ev5_7
      refine lv_iinc (v := v5_7) (lv' := [(5, .int v5_7), (3, .long r_6), (0, .ref (a 0))]) hx hb dX4_mixText_43 hl (k := 2) rfl (by rw [ev5_7]; rfl) (by decide) rfl (fun ls hl => ?_)
      refine lv_goto (tgt := 16) hx hb dX4_mixText_46 (by decide) ?_
      obtain ⟨n9, hlt9, hI9⟩ := hw
      exact ih3 n9 hlt9 _ _ _ _ _ hI9 hW (lv_sub hl [2, 1, 0] rfl)
def wp_X4_digest (σ : CS) (post : Int64 → CS → Prop) : Prop := ∃ I1 : Nat → Int64 → Int32 → Prop, (∃ n : Nat, I1 n 3797 0) ∧ ∀ (n1 : Nat) (v1_1 : Int64) (v3_1 : Int32), I1 n1 v1_1 v3_1 → ((14 < v3_1 → ∃ I2 : Nat → Int64 → Int32 → Prop, (∃ n : Nat, I2 n v1_1 0) ∧ ∀ (n2 : Nat) (v1_2 : Int64) (v3_2 : Int32), I2 n2 v1_2 v3_2 → ((3 ≤ v3_2 → wp_X4_mixSpots σ v1_2 (fun r_3 σ_4 => wp_X4_mixBidders σ_4 r_3 (fun r_5 => wp_X4_mixBids σ_4 r_5 (fun r_6 => wp_X4_mixWorths σ_4 r_6 (fun r_7 σ_8 => wp_X4_ifBid σ_8 1 2 20 0 (fun r_9 σ_10 => wp_X4_mix r_7 (r_9).toInt64 (fun r_11 => wp_X4_ifBid σ_10 1 2 20 1 (fun r_12 σ_13 => wp_X4_mix r_11 (r_12).toInt64 (fun r_14 => wp_X4_least σ_13 0 0 (fun r_15 σ_16 => wp_X4_mix r_14 (r_15).toInt64 (fun r_17 => wp_X4_keenest σ_16 (fun r_18 σ_19 => wp_X4_mix r_17 (r_18).toInt64 (fun r_20 => wp_X4_chestShare σ_19 (fun r_21 => wp_X4_bitsOf r_21 52 1023 (fun r_22 => wp_X4_mix r_20 r_22 (fun r_23 => wp_X4_meanPrice σ_19 (fun r_24 => vf_n64 (FP.f2d r_24) ∧ wp_X4_bitsOf (FP.f2d r_24) 23 127 (fun r_25 => wp_X4_mix r_23 r_25 (fun r_26 => wp_X0_hasSnapshot σ_19 (fun r_27 => ((r_27 = 0 → wp_X4_mix r_26 0 (fun r_28 => wp_X4_mixText σ_19 r_28 (fun r_29 => post r_29 σ_19))) ∧ (¬ r_27 = 0 → wp_X4_mix r_26 1 (fun r_30 => wp_X4_mixText σ_19 r_30 (fun r_31 => post r_31 σ_19))))))))))))))) (fun _ => False))) (fun _ => False))) (fun _ => False)))))) ∧ (¬ 3 ≤ v3_2 → wp_X4_setting σ v3_2 (fun r_32 => wp_X4_mix v1_2 (r_32).toInt64 (fun r_33 => ∀ v3_34 : Int32, v3_34 = v3_2 + 1 → ∃ n' : Nat, n' < n2 ∧ I2 n' r_33 v3_34)) (fun _ => False)))) ∧ (¬ 14 < v3_1 → wp_X4_count σ v3_1 (fun r_35 => wp_X4_mix v1_1 (r_35).toInt64 (fun r_36 => ∀ v3_37 : Int32, v3_37 = v3_1 + 1 → ∃ n' : Nat, n' < n1 ∧ I1 n' r_36 v3_37)) (fun _ => False)))
abbrev rm_X4_digest : Room := { frames := 11, cells := 0, slots := 0, locals := 463 }
theorem in_X4_digest_X4 : ∀ w ∈ wsX40, w ∈ wsX4_digest := fun w h => List.mem_cons_of_mem _ (List.mem_append_left _ (List.mem_append_left _ (List.mem_append_left _ (List.mem_append_left _ (List.mem_append_left _ (List.mem_append_left _ (List.mem_append_right _ (h))))))))
set_option maxHeartbeats 4000000 in
set_option maxRecDepth 100000 in
theorem ok_X4_digest (l : Launch) (D : va_G) (cI cJ : ClassId) (a : Nat → Nat) (sz : Nat) (σ : CS) (post : Int64 → CS → Prop) (hw : wp_X4_digest σ post) : Ml l yX4_digest wsX4_digest rm_X4_digest [.ref (a 0)] D (tysIJ cI cJ) (cW cI cJ a σ) sz post (cW cI cJ a) := by
  refine s_Ml (by decide) rfl (Nat.le_of_ble_eq_true rfl) ?_
  intro p e s m args below meth c A Q hx hb hml hts hown hin hK hA hret H locs ls hW hl
  have hown : s.vm.findClass RX4 = some m.cls := hown
  have hl : lv_has ls 4 [(0, .ref (a 0))] := hl
  have hinX4 := in_X4_digest_X4
  refine lv_ldc2 (own := RX4) (v := 3797) hx hb hown (hts _ (List.mem_of_getElem? (i := 1) rfl)) dX4_digest_0 ?_
  refine lv_lstore_n (lv' := [(1, .long 3797), (0, .ref (a 0))]) hx hb dX4_digest_3 rfl hl (by decide) rfl (fun ls hl => ?_)
  refine lv_iconst (v := 0) hx hb dX4_digest_4 (by decide) ?_
  refine lv_istore_n (lv' := [(3, .int 0), (1, .long 3797), (0, .ref (a 0))]) hx hb dX4_digest_5 rfl hl (by decide) rfl (fun ls hl => ?_)
  obtain ⟨I1, ⟨n1, hI1⟩, hJ1⟩ := hw
  have hl : lv_has ls 4 [(0, .ref (a 0)), (1, .long 3797), (3, .int 0)] := lv_sub hl [2, 1, 0] rfl
  suffices LP1 : ∀ (n : Nat) (v1_1 : Int64) (v3_1 : Int32) (H : Heap) (locs : List Loc) (ls : Array Slot), I1 n v1_1 v3_1 → Wd D A s.heap (cW cI cJ a σ) H locs → lv_has ls 4 [(0, .ref (a 0)), (1, .long v1_1), (3, .int v3_1)] → W p l e rm_X4_digest s m args below meth c H locs 0 0 Q (F0 m 6 ls []) from LP1 n1 3797 0 H locs ls hI1 hW hl
  intro n1
  induction n1 using Nat.strongRecOn with
  | ind n1 ih1 =>
    intro v1_1 v3_1 H locs ls hIn hW hl
    have hw := hJ1 n1 v1_1 v3_1 hIn
    refine lv_iload_n hx hb dX4_digest_6 rfl (lv_at hl 2 rfl) ?_
    refine lv_bipush (v := 14) hx hb dX4_digest_7 (by decide) ?_
    refine lv_icmp_gt (tgt := 29) hx hb dX4_digest_9 (by decide) (fun hc => ?_) (fun hc => ?_)
    · have hw := hw.1 hc
      refine lv_iconst (v := 0) hx hb dX4_digest_29 (by decide) ?_
      refine lv_istore_n (lv' := [(3, .int 0), (0, .ref (a 0)), (1, .long v1_1)]) hx hb dX4_digest_30 rfl hl (by decide) rfl (fun ls hl => ?_)
      obtain ⟨I2, ⟨n2, hI2⟩, hJ2⟩ := hw
      have hl : lv_has ls 4 [(0, .ref (a 0)), (1, .long v1_1), (3, .int 0)] := lv_sub hl [1, 2, 0] rfl
      suffices LP2 : ∀ (n : Nat) (v1_2 : Int64) (v3_2 : Int32) (H : Heap) (locs : List Loc) (ls : Array Slot), I2 n v1_2 v3_2 → Wd D A s.heap (cW cI cJ a σ) H locs → lv_has ls 4 [(0, .ref (a 0)), (1, .long v1_2), (3, .int v3_2)] → W p l e rm_X4_digest s m args below meth c H locs 0 0 Q (F0 m 31 ls []) from LP2 n2 v1_1 0 H locs ls hI2 hW hl
      intro n2
      induction n2 using Nat.strongRecOn with
      | ind n2 ih2 =>
        intro v1_2 v3_2 H locs ls hIn hW hl
        have hw := hJ2 n2 v1_2 v3_2 hIn
        refine lv_iload_n hx hb dX4_digest_31 rfl (lv_at hl 2 rfl) ?_
        refine lv_iconst (v := 3) hx hb dX4_digest_32 (by decide) ?_
        refine lv_icmp_ge (tgt := 53) hx hb dX4_digest_33 (by decide) (fun hc => ?_) (fun hc => ?_)
        · have hw := hw.1 hc
          refine lv_aload_n hx hb dX4_digest_53 rfl (lv_at hl 0 rfl) ?_
          refine lv_lload_n hx hb dX4_digest_54 rfl (lv_at hl 1 rfl) ?_
          refine kV_Ml (As := [.long v1_2]) (rest := []) ⟨hx, hb, hml, hown, hts⟩ (ok_X4_mixSpots l D cI cJ a _ _ _ _ hw) (cwV 1 hts gX4_digest_X4_mixSpots rfl rfl rfl (by decide +kernel) ⟨Nat.le_of_ble_eq_true rfl, Nat.le_of_ble_eq_true rfl⟩) hK hW hA 0 rfl rfl rfl hl.1 rfl (Nat.le_of_ble_eq_true rfl) dX4_digest_55 ⟨Nat.le_of_ble_eq_true rfl, Nat.le_of_ble_eq_true rfl⟩ (fun r_3 σ_4 H locs hw hW => ?_)
          refine lv_lstore_n (lv' := [(1, .long r_3), (0, .ref (a 0)), (3, .int v3_2)]) hx hb dX4_digest_58 rfl hl (by decide) rfl (fun ls hl => ?_)
          refine lv_aload_n hx hb dX4_digest_59 rfl (lv_at hl 1 rfl) ?_
          refine lv_lload_n hx hb dX4_digest_60 rfl (lv_at hl 0 rfl) ?_
          refine kV_Ml (As := [.long r_3]) (rest := []) ⟨hx, hb, hml, hown, hts⟩ (ok_X4_mixBidders l D cI cJ a _ _ _ _ hw) (cwV 1 hts gX4_digest_X4_mixBidders rfl rfl rfl (by decide +kernel) ⟨Nat.le_of_ble_eq_true rfl, Nat.le_of_ble_eq_true rfl⟩) hK hW hA 0 rfl rfl rfl hl.1 rfl (Nat.le_of_ble_eq_true rfl) dX4_digest_61 ⟨Nat.le_of_ble_eq_true rfl, Nat.le_of_ble_eq_true rfl⟩ (fun r_5 _ H locs hw hW => ?_)
          refine lv_lstore_n (lv' := [(1, .long r_5), (0, .ref (a 0)), (3, .int v3_2)]) hx hb dX4_digest_64 rfl hl (by decide) rfl (fun ls hl => ?_)
          refine lv_aload_n hx hb dX4_digest_65 rfl (lv_at hl 1 rfl) ?_
          refine lv_lload_n hx hb dX4_digest_66 rfl (lv_at hl 0 rfl) ?_
          refine kV_Ml (As := [.long r_5]) (rest := []) ⟨hx, hb, hml, hown, hts⟩ (ok_X4_mixBids l D cI cJ a _ _ _ _ hw) (cwV 1 hts gX4_digest_X4_mixBids rfl rfl rfl (by decide +kernel) ⟨Nat.le_of_ble_eq_true rfl, Nat.le_of_ble_eq_true rfl⟩) hK hW hA 0 rfl rfl rfl hl.1 rfl (Nat.le_of_ble_eq_true rfl) dX4_digest_67 ⟨Nat.le_of_ble_eq_true rfl, Nat.le_of_ble_eq_true rfl⟩ (fun r_6 _ H locs hw hW => ?_)
          refine lv_lstore_n (lv' := [(1, .long r_6), (0, .ref (a 0)), (3, .int v3_2)]) hx hb dX4_digest_70 rfl hl (by decide) rfl (fun ls hl => ?_)
          refine lv_aload_n hx hb dX4_digest_71 rfl (lv_at hl 1 rfl) ?_
          refine lv_lload_n hx hb dX4_digest_72 rfl (lv_at hl 0 rfl) ?_
          refine kV_Ml (As := [.long r_6]) (rest := []) ⟨hx, hb, hml, hown, hts⟩ (ok_X4_mixWorths l D cI cJ a _ _ _ _ hw) (cwV 1 hts gX4_digest_X4_mixWorths rfl rfl rfl (by decide +kernel) ⟨Nat.le_of_ble_eq_true rfl, Nat.le_of_ble_eq_true rfl⟩) hK hW hA 0 rfl rfl rfl hl.1 rfl (Nat.le_of_ble_eq_true rfl) dX4_digest_73 ⟨Nat.le_of_ble_eq_true rfl, Nat.le_of_ble_eq_true rfl⟩ (fun r_7 σ_8 H locs hw hW => ?_)
          refine lv_lstore_n (lv' := [(1, .long r_7), (0, .ref (a 0)), (3, .int v3_2)]) hx hb dX4_digest_76 rfl hl (by decide) rfl (fun ls hl => ?_)
          refine lv_lload_n hx hb dX4_digest_77 rfl (lv_at hl 0 rfl) ?_
          refine lv_aload_n hx hb dX4_digest_78 rfl (lv_at hl 1 rfl) ?_
          refine lv_iconst (v := 1) hx hb dX4_digest_79 (by decide) ?_
          refine lv_iconst (v := 2) hx hb dX4_digest_80 (by decide) ?_
          refine lv_bipush (v := 20) hx hb dX4_digest_81 (by decide) ?_
          refine lv_iconst (v := 0) hx hb dX4_digest_83 (by decide) ?_
          refine kV_Mi (As := [.int 1, .int 2, .int 20, .int 0]) (rest := [.long r_7]) ⟨hx, hb, hml, hown, hts⟩ (ok_X4_ifBid_n l D cI cJ a _ _ _ _ _ _ _ hw) (cwV 4 hts gX4_digest_X4_ifBid rfl rfl rfl (by decide +kernel) ⟨Nat.le_of_ble_eq_true rfl, Nat.le_of_ble_eq_true rfl⟩) hK hW hA 0 rfl rfl rfl hl.1 rfl (Nat.le_of_ble_eq_true rfl) dX4_digest_84 ⟨Nat.le_of_ble_eq_true rfl, Nat.le_of_ble_eq_true rfl⟩ (fun r_9 σ_10 H locs hw hW => ?_)
          refine lv_i2l hx hb dX4_digest_87 rfl ?_
          refine kS_Pl (As := [.long r_7, .long (r_9).toInt64]) (rest := []) ⟨hx, hb, hml, hown, hts⟩ (ok_X4_mix l _ _ _ hw) (va_cwS 2 hts gX4_digest_X4_mix rfl rfl rfl (by decide +kernel) ⟨Nat.le_of_ble_eq_true rfl, Nat.le_of_ble_eq_true rfl⟩) hW.2.2 rfl hl.1 rfl (Nat.le_of_ble_eq_true rfl) dX4_digest_88 ⟨Nat.le_of_ble_eq_true rfl, Nat.le_of_ble_eq_true rfl⟩ (fun r_11 H locs hw hk hS => ?_)
          have hW := hW.kept hk hS
          refine lv_lstore_n (lv' := [(1, .long r_11), (0, .ref (a 0)), (3, .int v3_2)]) hx hb dX4_digest_91 rfl hl (by decide) rfl (fun ls hl => ?_)
          refine lv_lload_n hx hb dX4_digest_92 rfl (lv_at hl 0 rfl) ?_
          refine lv_aload_n hx hb dX4_digest_93 rfl (lv_at hl 1 rfl) ?_
          refine lv_iconst (v := 1) hx hb dX4_digest_94 (by decide) ?_
          refine lv_iconst (v := 2) hx hb dX4_digest_95 (by decide) ?_
          refine lv_bipush (v := 20) hx hb dX4_digest_96 (by decide) ?_
          refine lv_iconst (v := 1) hx hb dX4_digest_98 (by decide) ?_
          refine kV_Mi (As := [.int 1, .int 2, .int 20, .int 1]) (rest := [.long r_11]) ⟨hx, hb, hml, hown, hts⟩ (ok_X4_ifBid_n l D cI cJ a _ _ _ _ _ _ _ hw) (cwV 4 hts gX4_digest_X4_ifBid rfl rfl rfl (by decide +kernel) ⟨Nat.le_of_ble_eq_true rfl, Nat.le_of_ble_eq_true rfl⟩) hK hW hA 0 rfl rfl rfl hl.1 rfl (Nat.le_of_ble_eq_true rfl) dX4_digest_99 ⟨Nat.le_of_ble_eq_true rfl, Nat.le_of_ble_eq_true rfl⟩ (fun r_12 σ_13 H locs hw hW => ?_)
          refine lv_i2l hx hb dX4_digest_102 rfl ?_
          refine kS_Pl (As := [.long r_11, .long (r_12).toInt64]) (rest := []) ⟨hx, hb, hml, hown, hts⟩ (ok_X4_mix l _ _ _ hw) (va_cwS 2 hts gX4_digest_X4_mix rfl rfl rfl (by decide +kernel) ⟨Nat.le_of_ble_eq_true rfl, Nat.le_of_ble_eq_true rfl⟩) hW.2.2 rfl hl.1 rfl (Nat.le_of_ble_eq_true rfl) dX4_digest_103 ⟨Nat.le_of_ble_eq_true rfl, Nat.le_of_ble_eq_true rfl⟩ (fun r_14 H locs hw hk hS => ?_)
          have hW := hW.kept hk hS
          refine lv_lstore_n (lv' := [(1, .long r_14), (0, .ref (a 0)), (3, .int v3_2)]) hx hb dX4_digest_106 rfl hl (by decide) rfl (fun ls hl => ?_)
          refine lv_lload_n hx hb dX4_digest_107 rfl (lv_at hl 0 rfl) ?_
          refine lv_aload_n hx hb dX4_digest_108 rfl (lv_at hl 1 rfl) ?_
          refine lv_iconst (v := 0) hx hb dX4_digest_109 (by decide) ?_
          refine lv_iconst (v := 0) hx hb dX4_digest_110 (by decide) ?_
          refine kV_Mi (As := [.int 0, .int 0]) (rest := [.long r_14]) ⟨hx, hb, hml, hown, hts⟩ (ok_X4_least_n l D cI cJ a _ _ _ _ _ hw) (cwV 2 hts gX4_digest_X4_least rfl rfl rfl (by decide +kernel) ⟨Nat.le_of_ble_eq_true rfl, Nat.le_of_ble_eq_true rfl⟩) hK hW hA 0 rfl rfl rfl hl.1 rfl (Nat.le_of_ble_eq_true rfl) dX4_digest_111 ⟨Nat.le_of_ble_eq_true rfl, Nat.le_of_ble_eq_true rfl⟩ (fun r_15 σ_16 H locs hw hW => ?_)
          refine lv_i2l hx hb dX4_digest_114 rfl ?_
          refine kS_Pl (As := [.long r_14, .long (r_15).toInt64]) (rest := []) ⟨hx, hb, hml, hown, hts⟩ (ok_X4_mix l _ _ _ hw) (va_cwS 2 hts gX4_digest_X4_mix rfl rfl rfl (by decide +kernel) ⟨Nat.le_of_ble_eq_true rfl, Nat.le_of_ble_eq_true rfl⟩) hW.2.2 rfl hl.1 rfl (Nat.le_of_ble_eq_true rfl) dX4_digest_115 ⟨Nat.le_of_ble_eq_true rfl, Nat.le_of_ble_eq_true rfl⟩ (fun r_17 H locs hw hk hS => ?_)
          have hW := hW.kept hk hS
          refine lv_lstore_n (lv' := [(1, .long r_17), (0, .ref (a 0)), (3, .int v3_2)]) hx hb dX4_digest_118 rfl hl (by decide) rfl (fun ls hl => ?_)
          refine lv_lload_n hx hb dX4_digest_119 rfl (lv_at hl 0 rfl) ?_
          refine lv_aload_n hx hb dX4_digest_120 rfl (lv_at hl 1 rfl) ?_
          refine kV_Mi (As := []) (rest := [.long r_17]) ⟨hx, hb, hml, hown, hts⟩ (ok_X4_keenest l D cI cJ a _ _ _ hw) (cwV 0 hts gX4_digest_X4_keenest rfl rfl rfl (by decide +kernel) ⟨Nat.le_of_ble_eq_true rfl, Nat.le_of_ble_eq_true rfl⟩) hK hW hA 0 rfl rfl rfl hl.1 rfl (Nat.le_of_ble_eq_true rfl) dX4_digest_121 ⟨Nat.le_of_ble_eq_true rfl, Nat.le_of_ble_eq_true rfl⟩ (fun r_18 σ_19 H locs hw hW => ?_)
          refine lv_i2l hx hb dX4_digest_124 rfl ?_
          refine kS_Pl (As := [.long r_17, .long (r_18).toInt64]) (rest := []) ⟨hx, hb, hml, hown, hts⟩ (ok_X4_mix l _ _ _ hw) (va_cwS 2 hts gX4_digest_X4_mix rfl rfl rfl (by decide +kernel) ⟨Nat.le_of_ble_eq_true rfl, Nat.le_of_ble_eq_true rfl⟩) hW.2.2 rfl hl.1 rfl (Nat.le_of_ble_eq_true rfl) dX4_digest_125 ⟨Nat.le_of_ble_eq_true rfl, Nat.le_of_ble_eq_true rfl⟩ (fun r_20 H locs hw hk hS => ?_)
          have hW := hW.kept hk hS
          refine lv_lstore_n (lv' := [(1, .long r_20), (0, .ref (a 0)), (3, .int v3_2)]) hx hb dX4_digest_128 rfl hl (by decide) rfl (fun ls hl => ?_)
          refine lv_lload_n hx hb dX4_digest_129 rfl (lv_at hl 0 rfl) ?_
          refine lv_aload_n hx hb dX4_digest_130 rfl (lv_at hl 1 rfl) ?_
          refine kV_Md (As := []) (rest := [.long r_20]) ⟨hx, hb, hml, hown, hts⟩ (ok_X4_chestShare l D cI cJ a _ _ _ hw) (cwV 0 hts gX4_digest_X4_chestShare rfl rfl rfl (by decide +kernel) ⟨Nat.le_of_ble_eq_true rfl, Nat.le_of_ble_eq_true rfl⟩) hK hW hA 0 rfl rfl rfl hl.1 rfl (Nat.le_of_ble_eq_true rfl) dX4_digest_131 ⟨Nat.le_of_ble_eq_true rfl, Nat.le_of_ble_eq_true rfl⟩ (fun r_21 _ H locs hw hW => ?_)
          refine lv_bipush (v := 52) hx hb dX4_digest_134 (by decide) ?_
          refine lv_sipush (v := 1023) hx hb dX4_digest_136 (by decide) ?_
          refine kS_Pl (As := [.double r_21, .int 52, .int 1023]) (rest := [.long r_20]) ⟨hx, hb, hml, hown, hts⟩ (ok_X4_bitsOf l _ _ _ _ hw) (va_cwS 3 hts gX4_digest_X4_bitsOf rfl rfl rfl (by decide +kernel) ⟨Nat.le_of_ble_eq_true rfl, Nat.le_of_ble_eq_true rfl⟩) hW.2.2 rfl hl.1 rfl (Nat.le_of_ble_eq_true rfl) dX4_digest_139 ⟨Nat.le_of_ble_eq_true rfl, Nat.le_of_ble_eq_true rfl⟩ (fun r_22 H locs hw hk hS => ?_)
          have hW := hW.kept hk hS
          refine kS_Pl (As := [.long r_20, .long r_22]) (rest := []) ⟨hx, hb, hml, hown, hts⟩ (ok_X4_mix l _ _ _ hw) (va_cwS 2 hts gX4_digest_X4_mix rfl rfl rfl (by decide +kernel) ⟨Nat.le_of_ble_eq_true rfl, Nat.le_of_ble_eq_true rfl⟩) hW.2.2 rfl hl.1 rfl (Nat.le_of_ble_eq_true rfl) dX4_digest_142 ⟨Nat.le_of_ble_eq_true rfl, Nat.le_of_ble_eq_true rfl⟩ (fun r_23 H locs hw hk hS => ?_)
          have hW := hW.kept hk hS
          refine lv_lstore_n (lv' := [(1, .long r_23), (0, .ref (a 0)), (3, .int v3_2)]) hx hb dX4_digest_145 rfl hl (by decide) rfl (fun ls hl => ?_)
          refine lv_lload_n hx hb dX4_digest_146 rfl (lv_at hl 0 rfl) ?_
          refine lv_aload_n hx hb dX4_digest_147 rfl (lv_at hl 1 rfl) ?_
          refine kV_Mf (As := []) (rest := [.long r_23]) ⟨hx, hb, hml, hown, hts⟩ (ok_X4_meanPrice l D cI cJ a _ _ _ hw) (cwV 0 hts gX4_digest_X4_meanPrice rfl rfl rfl (by decide +kernel) ⟨Nat.le_of_ble_eq_true rfl, Nat.le_of_ble_eq_true rfl⟩) hK hW hA 0 rfl rfl rfl hl.1 rfl (Nat.le_of_ble_eq_true rfl) dX4_digest_148 ⟨Nat.le_of_ble_eq_true rfl, Nat.le_of_ble_eq_true rfl⟩ (fun r_24 _ H locs hw hW => ?_)
          refine lv_f2d hx hb dX4_digest_151 hw.1 ?_
          have hw := hw.2
          refine lv_bipush (v := 23) hx hb dX4_digest_152 (by decide) ?_
          refine lv_bipush (v := 127) hx hb dX4_digest_154 (by decide) ?_
          refine kS_Pl (As := [.double (FP.f2d r_24), .int 23, .int 127]) (rest := [.long r_23]) ⟨hx, hb, hml, hown, hts⟩ (ok_X4_bitsOf l _ _ _ _ hw) (va_cwS 3 hts gX4_digest_X4_bitsOf rfl rfl rfl (by decide +kernel) ⟨Nat.le_of_ble_eq_true rfl, Nat.le_of_ble_eq_true rfl⟩) hW.2.2 rfl hl.1 rfl (Nat.le_of_ble_eq_true rfl) dX4_digest_156 ⟨Nat.le_of_ble_eq_true rfl, Nat.le_of_ble_eq_true rfl⟩ (fun r_25 H locs hw hk hS => ?_)
          have hW := hW.kept hk hS
          refine kS_Pl (As := [.long r_23, .long r_25]) (rest := []) ⟨hx, hb, hml, hown, hts⟩ (ok_X4_mix l _ _ _ hw) (va_cwS 2 hts gX4_digest_X4_mix rfl rfl rfl (by decide +kernel) ⟨Nat.le_of_ble_eq_true rfl, Nat.le_of_ble_eq_true rfl⟩) hW.2.2 rfl hl.1 rfl (Nat.le_of_ble_eq_true rfl) dX4_digest_159 ⟨Nat.le_of_ble_eq_true rfl, Nat.le_of_ble_eq_true rfl⟩ (fun r_26 H locs hw hk hS => ?_)
          have hW := hW.kept hk hS
          refine lv_lstore_n (lv' := [(1, .long r_26), (0, .ref (a 0)), (3, .int v3_2)]) hx hb dX4_digest_162 rfl hl (by decide) rfl (fun ls hl => ?_)
          refine lv_lload_n hx hb dX4_digest_163 rfl (lv_at hl 0 rfl) ?_
          refine lv_aload_n hx hb dX4_digest_164 rfl (lv_at hl 1 rfl) ?_
          refine va_get (D := D) (ci := 4) (v := .ref (a 6)) (C := RX4) (T := TX4) (N := 4) hx hb hts hinX4 hown hK hW.1 0 rfl rfl 2 (by decide) (hts _ (List.mem_of_getElem? (i := 2) rfl)) (fun _ h9 => h9) rfl dX4_digest_165 ?_
          refine kV_Mi (As := []) (rest := [.long r_26]) ⟨hx, hb, hml, hown, hts⟩ (ok_X0_hasSnapshot l D cI cJ a _ _ _ hw) (cwV 0 hts gX4_digest_X0_hasSnapshot rfl rfl rfl (by decide +kernel) ⟨Nat.le_of_ble_eq_true rfl, Nat.le_of_ble_eq_true rfl⟩) hK hW hA 6 rfl rfl rfl hl.1 rfl (Nat.le_of_ble_eq_true rfl) dX4_digest_168 ⟨Nat.le_of_ble_eq_true rfl, Nat.le_of_ble_eq_true rfl⟩ (fun r_27 _ H locs hw hW => ?_)
          refine lv_if_eq (tgt := 178) hx hb dX4_digest_171 (by decide) (fun hc => ?_) (fun hc => ?_)
          · have hw := hw.1 hc
            refine lv_lconst (v := 0) hx hb dX4_digest_178 (by decide) ?_
            refine kS_Pl (As := [.long r_26, .long 0]) (rest := []) ⟨hx, hb, hml, hown, hts⟩ (ok_X4_mix l _ _ _ hw) (va_cwS 2 hts gX4_digest_X4_mix rfl rfl rfl (by decide +kernel) ⟨Nat.le_of_ble_eq_true rfl, Nat.le_of_ble_eq_true rfl⟩) hW.2.2 rfl hl.1 rfl (Nat.le_of_ble_eq_true rfl) dX4_digest_179 ⟨Nat.le_of_ble_eq_true rfl, Nat.le_of_ble_eq_true rfl⟩ (fun r_28 H locs hw hk hS => ?_)
            have hW := hW.kept hk hS
            refine lv_lstore_n (lv' := [(1, .long r_28), (0, .ref (a 0)), (3, .int v3_2)]) hx hb dX4_digest_182 rfl hl (by decide) rfl (fun ls hl => ?_)
            refine lv_aload_n hx hb dX4_digest_183 rfl (lv_at hl 1 rfl) ?_
            refine lv_lload_n hx hb dX4_digest_184 rfl (lv_at hl 0 rfl) ?_
            refine kV_Ml (As := [.long r_28]) (rest := []) ⟨hx, hb, hml, hown, hts⟩ (ok_X4_mixText l D cI cJ a _ _ _ _ hw) (cwV 1 hts gX4_digest_X4_mixText rfl rfl rfl (by decide +kernel) ⟨Nat.le_of_ble_eq_true rfl, Nat.le_of_ble_eq_true rfl⟩) hK hW hA 0 rfl rfl rfl hl.1 rfl (Nat.le_of_ble_eq_true rfl) dX4_digest_185 ⟨Nat.le_of_ble_eq_true rfl, Nat.le_of_ble_eq_true rfl⟩ (fun r_29 _ H locs hw hW => ?_)
            exact hret _ σ_19 _ _ _ _ hw hW dX4_digest_188
          · have hw := hw.2 hc
            refine lv_lconst (v := 1) hx hb dX4_digest_174 (by decide) ?_
            refine lv_goto (tgt := 179) hx hb dX4_digest_175 (by decide) ?_
            refine kS_Pl (As := [.long r_26, .long 1]) (rest := []) ⟨hx, hb, hml, hown, hts⟩ (ok_X4_mix l _ _ _ hw) (va_cwS 2 hts gX4_digest_X4_mix rfl rfl rfl (by decide +kernel) ⟨Nat.le_of_ble_eq_true rfl, Nat.le_of_ble_eq_true rfl⟩) hW.2.2 rfl hl.1 rfl (Nat.le_of_ble_eq_true rfl) dX4_digest_179 ⟨Nat.le_of_ble_eq_true rfl, Nat.le_of_ble_eq_true rfl⟩ (fun r_30 H locs hw hk hS => ?_)
            have hW := hW.kept hk hS
            refine lv_lstore_n (lv' := [(1, .long r_30), (0, .ref (a 0)), (3, .int v3_2)]) hx hb dX4_digest_182 rfl hl (by decide) rfl (fun ls hl => ?_)
            refine lv_aload_n hx hb dX4_digest_183 rfl (lv_at hl 1 rfl) ?_
            refine lv_lload_n hx hb dX4_digest_184 rfl (lv_at hl 0 rfl) ?_
            refine kV_Ml (As := [.long r_30]) (rest := []) ⟨hx, hb, hml, hown, hts⟩ (ok_X4_mixText l D cI cJ a _ _ _ _ hw) (cwV 1 hts gX4_digest_X4_mixText rfl rfl rfl (by decide +kernel) ⟨Nat.le_of_ble_eq_true rfl, Nat.le_of_ble_eq_true rfl⟩) hK hW hA 0 rfl rfl rfl hl.1 rfl (Nat.le_of_ble_eq_true rfl) dX4_digest_185 ⟨Nat.le_of_ble_eq_true rfl, Nat.le_of_ble_eq_true rfl⟩ (fun r_31 _ H locs hw hW => ?_)
            exact hret _ σ_19 _ _ _ _ hw hW dX4_digest_188
        · have hw := hw.2 hc
          refine lv_lload_n hx hb dX4_digest_36 rfl (lv_at hl 1 rfl) ?_
          refine lv_aload_n hx hb dX4_digest_37 rfl (lv_at hl 0 rfl) ?_
          refine lv_iload_n hx hb dX4_digest_38 rfl (lv_at hl 2 rfl) ?_
          refine kV_Mi (As := [.int v3_2]) (rest := [.long v1_2]) ⟨hx, hb, hml, hown, hts⟩ (ok_X4_setting_n l D cI cJ a _ _ _ _ hw) (cwV 1 hts gX4_digest_X4_setting rfl rfl rfl (by decide +kernel) ⟨Nat.le_of_ble_eq_true rfl, Nat.le_of_ble_eq_true rfl⟩) hK hW hA 0 rfl rfl rfl hl.1 rfl (Nat.le_of_ble_eq_true rfl) dX4_digest_39 ⟨Nat.le_of_ble_eq_true rfl, Nat.le_of_ble_eq_true rfl⟩ (fun r_32 _ H locs hw hW => ?_)
          refine lv_i2l hx hb dX4_digest_42 rfl ?_
          refine kS_Pl (As := [.long v1_2, .long (r_32).toInt64]) (rest := []) ⟨hx, hb, hml, hown, hts⟩ (ok_X4_mix l _ _ _ hw) (va_cwS 2 hts gX4_digest_X4_mix rfl rfl rfl (by decide +kernel) ⟨Nat.le_of_ble_eq_true rfl, Nat.le_of_ble_eq_true rfl⟩) hW.2.2 rfl hl.1 rfl (Nat.le_of_ble_eq_true rfl) dX4_digest_43 ⟨Nat.le_of_ble_eq_true rfl, Nat.le_of_ble_eq_true rfl⟩ (fun r_33 H locs hw hk hS => ?_)
          have hW := hW.kept hk hS
          refine lv_lstore_n (lv' := [(1, .long r_33), (0, .ref (a 0)), (3, .int v3_2)]) hx hb dX4_digest_46 rfl hl (by decide) rfl (fun ls hl => ?_)
          obtain ⟨v3_34, ev3_34⟩ : ∃ y : Int32, y = v3_2 + 1 := ⟨_, rfl⟩
          have hw := hw v3_34 ev3_34
          refine lv_iinc (v := v3_34) (lv' := [(3, .int v3_34), (1, .long r_33), (0, .ref (a 0))]) hx hb dX4_digest_47 hl (k := 2) rfl (by rw [ev3_34]; rfl) (by decide) rfl (fun ls hl => ?_)
          refine lv_goto (tgt := 31) hx hb dX4_digest_50 (by decide) ?_
          obtain ⟨n9, hlt9, hI9⟩ := hw
          exact ih2 n9 hlt9 _ _ _ _ _ hI9 hW (lv_sub hl [2, 1, 0] rfl)
    · have hw := hw.2 hc
      refine lv_lload_n hx hb dX4_digest_12 rfl (lv_at hl 1 rfl) ?_
      refine lv_aload_n hx hb dX4_digest_13 rfl (lv_at hl 0 rfl) ?_
      refine lv_iload_n hx hb dX4_digest_14 rfl (lv_at hl 2 rfl) ?_
      refine kV_Mi (As := [.int v3_1]) (rest := [.long v1_1]) ⟨hx, hb, hml, hown, hts⟩ (ok_X4_count_n l D cI cJ a _ _ _ _ hw) (cwV 1 hts gX4_digest_X4_count rfl rfl rfl (by decide +kernel) ⟨Nat.le_of_ble_eq_true rfl, Nat.le_of_ble_eq_true rfl⟩) hK hW hA 0 rfl rfl rfl hl.1 rfl (Nat.le_of_ble_eq_true rfl) dX4_digest_15 ⟨Nat.le_of_ble_eq_true rfl, Nat.le_of_ble_eq_true rfl⟩ (fun r_35 _ H locs hw hW => ?_)
      refine lv_i2l hx hb dX4_digest_18 rfl ?_
      refine kS_Pl (As := [.long v1_1, .long (r_35).toInt64]) (rest := []) ⟨hx, hb, hml, hown, hts⟩ (ok_X4_mix l _ _ _ hw) (va_cwS 2 hts gX4_digest_X4_mix rfl rfl rfl (by decide +kernel) ⟨Nat.le_of_ble_eq_true rfl, Nat.le_of_ble_eq_true rfl⟩) hW.2.2 rfl hl.1 rfl (Nat.le_of_ble_eq_true rfl) dX4_digest_19 ⟨Nat.le_of_ble_eq_true rfl, Nat.le_of_ble_eq_true rfl⟩ (fun r_36 H locs hw hk hS => ?_)
      have hW := hW.kept hk hS
      refine lv_lstore_n (lv' := [(1, .long r_36), (0, .ref (a 0)), (3, .int v3_1)]) hx hb dX4_digest_22 rfl hl (by decide) rfl (fun ls hl => ?_)
      obtain ⟨v3_37, ev3_37⟩ : ∃ y : Int32, y = v3_1 + 1 := ⟨_, rfl⟩
      have hw := hw v3_37 ev3_37
      refine lv_iinc (v := v3_37) (lv' := [(3, .int v3_37), (1, .long r_36), (0, .ref (a 0))]) hx hb dX4_digest_23 hl (k := 2) rfl (by rw [ev3_37]; rfl) (by decide) rfl (fun ls hl => ?_)
      refine lv_goto (tgt := 6) hx hb dX4_digest_26 (by decide) ?_
      obtain ⟨n9, hlt9, hI9⟩ := hw
      exact ih1 n9 hlt9 _ _ _ _ _ hI9 hW (lv_sub hl [2, 1, 0] rfl)
