def wp_L_up (p1 : Int32) (p2 : Int32) (post : Int32 → Prop) : Prop := (¬ p2 = 0) ∧ post ((p1 &&& 2147483647) - (p1 &&& 2147483647) / p2 * p2)
abbrev rm_L_up : Room := { frames := 0, cells := 0, slots := 0, locals := 0 }
set_option maxHeartbeats 4000000 in
set_option maxRecDepth 100000 in
theorem ok_L_up (l : Launch) (p1 : Int32) (p2 : Int32) (post : Int32 → Prop) (hw : wp_L_up p1 p2 post) : Pi l yL_up wsL_up rm_L_up [.int p1, .int p2] post := by
  refine s_Pi (by decide) rfl (Nat.le_of_ble_eq_true rfl) ?_
  intro p e s m args below meth c A Q hx hb hml hts hown hin hret H locs ls hW hl
  have hown : s.vm.findClass RL = some m.cls := hown
  have hl : lv_has ls 2 [(0, .int p1), (1, .int p2)] := hl
  refine lv_iload_n hx hb dL_up_0 rfl (lv_at hl 0 rfl) ?_
  refine lv_ldc (own := RL) (v := 2147483647) hx hb hown (hts _ (List.mem_of_getElem? (i := 1) rfl)) dL_up_1 ?_
  refine lv_iand hx hb dL_up_3 ?_
  refine lv_iload_n hx hb dL_up_4 rfl (lv_at hl 1 rfl) ?_
  refine lv_irem hx hb dL_up_5 hw.1 ?_
  have hw := hw.2
  exact hret _ _ _ _ _ hw hW dL_up_6
def wp_L_looks (σ : CS) (post : Int64 → Prop) : Prop := ∃ I1 : Nat → Int64 → Int32 → Prop, (∃ n : Nat, I1 n 113 0) ∧ ∀ (n1 : Nat) (v1_1 : Int64) (v3_1 : Int32), I1 n1 v1_1 v3_1 → ((14 ≤ v3_1 → ∃ I2 : Nat → Int64 → Int32 → Prop, (∃ n : Nat, I2 n v1_1 0) ∧ ∀ (n2 : Nat) (v1_2 : Int64) (v3_2 : Int32), I2 n2 v1_2 v3_2 → ((36 ≤ v3_2 → ∃ I3 : Nat → Int64 → Int32 → Prop, (∃ n : Nat, I3 n v1_2 0) ∧ ∀ (n3 : Nat) (v1_3 : Int64) (v3_3 : Int32), I3 n3 v1_3 v3_3 → ((180 ≤ v3_3 → wp_X4_setting σ 0 (fun r_4 => wp_X4_setting σ 1 (fun r_5 => wp_X4_setting σ 2 (fun r_6 => post (((v1_3 + (r_4).toInt64) + (100 * (r_5).toInt64)) + (1000 * (r_6).toInt64))) (fun _ => False)) (fun _ => False)) (fun _ => False)) ∧ (¬ 180 ≤ v3_3 → wp_X4_sealed σ (v3_3 / 30) ((v3_3 / 5) - (v3_3 / 5) / 6 * 6) (v3_3 - v3_3 / 5 * 5) (fun r_7 => ∀ v1_8 : Int64, v1_8 = ((31 * v1_3) + (r_7).toInt64) → ∀ v3_9 : Int32, v3_9 = v3_3 + 1 → ∃ n' : Nat, n' < n3 ∧ I3 n' v1_8 v3_9) (fun _ => False)))) ∧ (¬ 36 ≤ v3_2 → wp_X4_spot σ (v3_2 / 6) (v3_2 - v3_2 / 6 * 6) (fun r_10 => wp_X4_bidder σ (v3_2 / 6) (v3_2 - v3_2 / 6 * 6) (fun r_11 => ∀ v1_12 : Int64, v1_12 = ((31 * ((31 * v1_2) + (r_10).toInt64)) + (r_11).toInt64) → ∀ v3_13 : Int32, v3_13 = v3_2 + 1 → ∃ n' : Nat, n' < n2 ∧ I2 n' v1_12 v3_13) (fun _ => False)) (fun _ => False)))) ∧ (¬ 14 ≤ v3_1 → wp_X4_count σ v3_1 (fun r_14 => ∀ v1_15 : Int64, v1_15 = ((31 * v1_1) + (r_14).toInt64) → ∀ v3_16 : Int32, v3_16 = v3_1 + 1 → ∃ n' : Nat, n' < n1 ∧ I1 n' v1_15 v3_16) (fun _ => False)))
abbrev rm_L_looks : Room := { frames := 10, cells := 0, slots := 0, locals := 185 }
set_option maxHeartbeats 4000000 in
set_option maxRecDepth 100000 in
theorem ok_L_looks (l : Launch) (D : va_G) (cI cJ : ClassId) (a : Nat → Nat) (sz : Nat) (σ : CS) (post : Int64 → Prop) (hw : wp_L_looks σ post) : Ml l yL_looks wsL_looks rm_L_looks [.ref (a 0)] D (tysIJ cI cJ) (cW cI cJ a σ) sz (fun r (_ : Unit) => post r) (fun _ => cW cI cJ a σ) := by
  refine s_Ml (by decide) rfl (Nat.le_of_ble_eq_true rfl) ?_
  intro p e s m args below meth c A Q hx hb hml hts hown hin hK hA hret H locs ls hW hl
  have hown : s.vm.findClass RL = some m.cls := hown
  have hl : lv_has ls 4 [(0, .ref (a 0))] := hl
  refine lv_ldc2 (own := RL) (v := 113) hx hb hown (hts _ (List.mem_of_getElem? (i := 1) rfl)) dL_looks_0 ?_
  refine lv_lstore_n (lv' := [(1, .long 113), (0, .ref (a 0))]) hx hb dL_looks_3 rfl hl (by decide) rfl (fun ls hl => ?_)
  refine lv_iconst (v := 0) hx hb dL_looks_4 (by decide) ?_
  refine lv_istore_n (lv' := [(3, .int 0), (1, .long 113), (0, .ref (a 0))]) hx hb dL_looks_5 rfl hl (by decide) rfl (fun ls hl => ?_)
  obtain ⟨I1, ⟨n1, hI1⟩, hJ1⟩ := hw
  have hl : lv_has ls 4 [(0, .ref (a 0)), (1, .long 113), (3, .int 0)] := lv_sub hl [2, 1, 0] rfl
  suffices LP1 : ∀ (n : Nat) (v1_1 : Int64) (v3_1 : Int32) (H : Heap) (locs : List Loc) (ls : Array Slot), I1 n v1_1 v3_1 → Wd D A s.heap (cW cI cJ a σ) H locs → lv_has ls 4 [(0, .ref (a 0)), (1, .long v1_1), (3, .int v3_1)] → W p l e rm_L_looks s m args below meth c H locs 0 0 Q (F0 m 6 ls []) from LP1 n1 113 0 H locs ls hI1 hW hl
  intro n1
  induction n1 using Nat.strongRecOn with
  | ind n1 ih1 =>
    intro v1_1 v3_1 H locs ls hIn hW hl
    have hw := hJ1 n1 v1_1 v3_1 hIn
    refine lv_iload_n hx hb dL_looks_6 rfl (lv_at hl 2 rfl) ?_
    refine lv_bipush (v := 14) hx hb dL_looks_7 (by decide) ?_
    refine lv_icmp_ge (tgt := 31) hx hb dL_looks_9 (by decide) (fun hc => ?_) (fun hc => ?_)
    · have hw := hw.1 hc
      refine lv_iconst (v := 0) hx hb dL_looks_31 (by decide) ?_
      refine lv_istore_n (lv' := [(3, .int 0), (0, .ref (a 0)), (1, .long v1_1)]) hx hb dL_looks_32 rfl hl (by decide) rfl (fun ls hl => ?_)
      obtain ⟨I2, ⟨n2, hI2⟩, hJ2⟩ := hw
      have hl : lv_has ls 4 [(0, .ref (a 0)), (1, .long v1_1), (3, .int 0)] := lv_sub hl [1, 2, 0] rfl
      suffices LP2 : ∀ (n : Nat) (v1_2 : Int64) (v3_2 : Int32) (H : Heap) (locs : List Loc) (ls : Array Slot), I2 n v1_2 v3_2 → Wd D A s.heap (cW cI cJ a σ) H locs → lv_has ls 4 [(0, .ref (a 0)), (1, .long v1_2), (3, .int v3_2)] → W p l e rm_L_looks s m args below meth c H locs 0 0 Q (F0 m 33 ls []) from LP2 n2 v1_1 0 H locs ls hI2 hW hl
      intro n2
      induction n2 using Nat.strongRecOn with
      | ind n2 ih2 =>
        intro v1_2 v3_2 H locs ls hIn hW hl
        have hw := hJ2 n2 v1_2 v3_2 hIn
        refine lv_iload_n hx hb dL_looks_33 rfl (lv_at hl 2 rfl) ?_
        refine lv_bipush (v := 36) hx hb dL_looks_34 (by decide) ?_
        refine lv_icmp_ge (tgt := 83) hx hb dL_looks_36 (by decide) (fun hc => ?_) (fun hc => ?_)
        · have hw := hw.1 hc
          refine lv_iconst (v := 0) hx hb dL_looks_83 (by decide) ?_
          refine lv_istore_n (lv' := [(3, .int 0), (0, .ref (a 0)), (1, .long v1_2)]) hx hb dL_looks_84 rfl hl (by decide) rfl (fun ls hl => ?_)
          obtain ⟨I3, ⟨n3, hI3⟩, hJ3⟩ := hw
          have hl : lv_has ls 4 [(0, .ref (a 0)), (1, .long v1_2), (3, .int 0)] := lv_sub hl [1, 2, 0] rfl
          suffices LP3 : ∀ (n : Nat) (v1_3 : Int64) (v3_3 : Int32) (H : Heap) (locs : List Loc) (ls : Array Slot), I3 n v1_3 v3_3 → Wd D A s.heap (cW cI cJ a σ) H locs → lv_has ls 4 [(0, .ref (a 0)), (1, .long v1_3), (3, .int v3_3)] → W p l e rm_L_looks s m args below meth c H locs 0 0 Q (F0 m 85 ls []) from LP3 n3 v1_2 0 H locs ls hI3 hW hl
          intro n3
          induction n3 using Nat.strongRecOn with
          | ind n3 ih3 =>
            intro v1_3 v3_3 H locs ls hIn hW hl
            have hw := hJ3 n3 v1_3 v3_3 hIn
            refine lv_iload_n hx hb dL_looks_85 rfl (lv_at hl 2 rfl) ?_
            refine lv_sipush (v := 180) hx hb dL_looks_86 (by decide) ?_
            refine lv_icmp_ge (tgt := 123) hx hb dL_looks_89 (by decide) (fun hc => ?_) (fun hc => ?_)
            · have hw := hw.1 hc
              refine lv_lload_n hx hb dL_looks_123 rfl (lv_at hl 1 rfl) ?_
              refine lv_aload_n hx hb dL_looks_124 rfl (lv_at hl 0 rfl) ?_
              refine lv_iconst (v := 0) hx hb dL_looks_125 (by decide) ?_
              refine kV_Mi (As := [.int 0]) (rest := [.long v1_3]) ⟨hx, hb, hml, hown, hts⟩ (ok_X4_setting_n l D cI cJ a _ _ _ _ hw) (cwV 1 hts gL_looks_X4_setting rfl rfl rfl (by decide +kernel) ⟨Nat.le_of_ble_eq_true rfl, Nat.le_of_ble_eq_true rfl⟩) hK hW hA 0 rfl rfl rfl hl.1 rfl (Nat.le_of_ble_eq_true rfl) dL_looks_126 ⟨Nat.le_of_ble_eq_true rfl, Nat.le_of_ble_eq_true rfl⟩ (fun r_4 _ H locs hw hW => ?_)
              refine lv_i2l hx hb dL_looks_129 rfl ?_
              refine lv_ladd hx hb dL_looks_130 ?_
              refine lv_ldc2 (own := RL) (v := 100) hx hb hown (hts _ (List.mem_of_getElem? (i := 3) rfl)) dL_looks_131 ?_
              refine lv_aload_n hx hb dL_looks_134 rfl (lv_at hl 0 rfl) ?_
              refine lv_iconst (v := 1) hx hb dL_looks_135 (by decide) ?_
              refine kV_Mi (As := [.int 1]) (rest := [.long 100, .long (v1_3 + (r_4).toInt64)]) ⟨hx, hb, hml, hown, hts⟩ (ok_X4_setting_n l D cI cJ a _ _ _ _ hw) (cwV 1 hts gL_looks_X4_setting rfl rfl rfl (by decide +kernel) ⟨Nat.le_of_ble_eq_true rfl, Nat.le_of_ble_eq_true rfl⟩) hK hW hA 0 rfl rfl rfl hl.1 rfl (Nat.le_of_ble_eq_true rfl) dL_looks_136 ⟨Nat.le_of_ble_eq_true rfl, Nat.le_of_ble_eq_true rfl⟩ (fun r_5 _ H locs hw hW => ?_)
              refine lv_i2l hx hb dL_looks_139 rfl ?_
              refine lv_lmul hx hb dL_looks_140 ?_
              refine lv_ladd hx hb dL_looks_141 ?_
              refine lv_ldc2 (own := RL) (v := 1000) hx hb hown (hts _ (List.mem_of_getElem? (i := 4) rfl)) dL_looks_142 ?_
              refine lv_aload_n hx hb dL_looks_145 rfl (lv_at hl 0 rfl) ?_
              refine lv_iconst (v := 2) hx hb dL_looks_146 (by decide) ?_
              refine kV_Mi (As := [.int 2]) (rest := [.long 1000, .long ((v1_3 + (r_4).toInt64) + (100 * (r_5).toInt64))]) ⟨hx, hb, hml, hown, hts⟩ (ok_X4_setting_n l D cI cJ a _ _ _ _ hw) (cwV 1 hts gL_looks_X4_setting rfl rfl rfl (by decide +kernel) ⟨Nat.le_of_ble_eq_true rfl, Nat.le_of_ble_eq_true rfl⟩) hK hW hA 0 rfl rfl rfl hl.1 rfl (Nat.le_of_ble_eq_true rfl) dL_looks_147 ⟨Nat.le_of_ble_eq_true rfl, Nat.le_of_ble_eq_true rfl⟩ (fun r_6 _ H locs hw hW => ?_)
              refine lv_i2l hx hb dL_looks_150 rfl ?_
              refine lv_lmul hx hb dL_looks_151 ?_
              refine lv_ladd hx hb dL_looks_152 ?_
              exact hret _ () _ _ _ _ hw hW dL_looks_153
            · have hw := hw.2 hc
              refine lv_ldc2 (own := RL) (v := 31) hx hb hown (hts _ (List.mem_of_getElem? (i := 2) rfl)) dL_looks_92 ?_
              refine lv_lload_n hx hb dL_looks_95 rfl (lv_at hl 1 rfl) ?_
              refine lv_lmul hx hb dL_looks_96 ?_
              refine lv_aload_n hx hb dL_looks_97 rfl (lv_at hl 0 rfl) ?_
              refine lv_iload_n hx hb dL_looks_98 rfl (lv_at hl 2 rfl) ?_
              refine lv_bipush (v := 30) hx hb dL_looks_99 (by decide) ?_
              refine lv_idiv hx hb dL_looks_101 (by decide) ?_
              refine lv_iload_n hx hb dL_looks_102 rfl (lv_at hl 2 rfl) ?_
              refine lv_iconst (v := 5) hx hb dL_looks_103 (by decide) ?_
              refine lv_idiv hx hb dL_looks_104 (by decide) ?_
              refine lv_bipush (v := 6) hx hb dL_looks_105 (by decide) ?_
              refine lv_irem hx hb dL_looks_107 (by decide) ?_
              refine lv_iload_n hx hb dL_looks_108 rfl (lv_at hl 2 rfl) ?_
              refine lv_iconst (v := 5) hx hb dL_looks_109 (by decide) ?_
              refine lv_irem hx hb dL_looks_110 (by decide) ?_
              refine kV_Mi (As := [.int (v3_3 / 30), .int ((v3_3 / 5) - (v3_3 / 5) / 6 * 6), .int (v3_3 - v3_3 / 5 * 5)]) (rest := [.long (31 * v1_3)]) ⟨hx, hb, hml, hown, hts⟩ (ok_X4_sealed_n l D cI cJ a _ _ _ _ _ _ hw) (cwV 3 hts gL_looks_X4_sealed rfl rfl rfl (by decide +kernel) ⟨Nat.le_of_ble_eq_true rfl, Nat.le_of_ble_eq_true rfl⟩) hK hW hA 0 rfl rfl rfl hl.1 rfl (Nat.le_of_ble_eq_true rfl) dL_looks_111 ⟨Nat.le_of_ble_eq_true rfl, Nat.le_of_ble_eq_true rfl⟩ (fun r_7 _ H locs hw hW => ?_)
              refine lv_i2l hx hb dL_looks_114 rfl ?_
              refine lv_ladd hx hb dL_looks_115 ?_
              refine lv_topl (fun v1_8 ev1_8 => ?_)
              have hw := hw v1_8 ev1_8
              refine lv_lstore_n (lv' := [(1, .long v1_8), (0, .ref (a 0)), (3, .int v3_3)]) hx hb dL_looks_116 rfl hl (by decide) rfl (fun ls hl => ?_)
              obtain ⟨v3_9, ev3_9⟩ : ∃ y : Int32, y = v3_3 + 1 := ⟨_, rfl⟩
              have hw := hw v3_9 ev3_9
              refine lv_iinc (v := v3_9) (lv' := [(3, .int v3_9), (1, .long v1_8), (0, .ref (a 0))]) hx hb dL_looks_117 hl (k := 2) rfl (by rw [ev3_9]; rfl) (by decide) rfl (fun ls hl => ?_)
              refine lv_goto (tgt := 85) hx hb dL_looks_120 (by decide) ?_
              obtain ⟨n9, hlt9, hI9⟩ := hw
              exact ih3 n9 hlt9 _ _ _ _ _ hI9 hW (lv_sub hl [2, 1, 0] rfl)
        · have hw := hw.2 hc
          refine lv_ldc2 (own := RL) (v := 31) hx hb hown (hts _ (List.mem_of_getElem? (i := 2) rfl)) dL_looks_39 ?_
          refine lv_ldc2 (own := RL) (v := 31) hx hb hown (hts _ (List.mem_of_getElem? (i := 2) rfl)) dL_looks_42 ?_
          refine lv_lload_n hx hb dL_looks_45 rfl (lv_at hl 1 rfl) ?_
          refine lv_lmul hx hb dL_looks_46 ?_
          refine lv_aload_n hx hb dL_looks_47 rfl (lv_at hl 0 rfl) ?_
          refine lv_iload_n hx hb dL_looks_48 rfl (lv_at hl 2 rfl) ?_
          refine lv_bipush (v := 6) hx hb dL_looks_49 (by decide) ?_
          refine lv_idiv hx hb dL_looks_51 (by decide) ?_
          refine lv_iload_n hx hb dL_looks_52 rfl (lv_at hl 2 rfl) ?_
          refine lv_bipush (v := 6) hx hb dL_looks_53 (by decide) ?_
          refine lv_irem hx hb dL_looks_55 (by decide) ?_
          refine kV_Mi (As := [.int (v3_2 / 6), .int (v3_2 - v3_2 / 6 * 6)]) (rest := [.long (31 * v1_2), .long 31]) ⟨hx, hb, hml, hown, hts⟩ (ok_X4_spot_n l D cI cJ a _ _ _ _ _ hw) (cwV 2 hts gL_looks_X4_spot rfl rfl rfl (by decide +kernel) ⟨Nat.le_of_ble_eq_true rfl, Nat.le_of_ble_eq_true rfl⟩) hK hW hA 0 rfl rfl rfl hl.1 rfl (Nat.le_of_ble_eq_true rfl) dL_looks_56 ⟨Nat.le_of_ble_eq_true rfl, Nat.le_of_ble_eq_true rfl⟩ (fun r_10 _ H locs hw hW => ?_)
          refine lv_i2l hx hb dL_looks_59 rfl ?_
          refine lv_ladd hx hb dL_looks_60 ?_
          refine lv_lmul hx hb dL_looks_61 ?_
          refine lv_aload_n hx hb dL_looks_62 rfl (lv_at hl 0 rfl) ?_
          refine lv_iload_n hx hb dL_looks_63 rfl (lv_at hl 2 rfl) ?_
          refine lv_bipush (v := 6) hx hb dL_looks_64 (by decide) ?_
          refine lv_idiv hx hb dL_looks_66 (by decide) ?_
          refine lv_iload_n hx hb dL_looks_67 rfl (lv_at hl 2 rfl) ?_
          refine lv_bipush (v := 6) hx hb dL_looks_68 (by decide) ?_
          refine lv_irem hx hb dL_looks_70 (by decide) ?_
          refine kV_Mi (As := [.int (v3_2 / 6), .int (v3_2 - v3_2 / 6 * 6)]) (rest := [.long (31 * ((31 * v1_2) + (r_10).toInt64))]) ⟨hx, hb, hml, hown, hts⟩ (ok_X4_bidder_n l D cI cJ a _ _ _ _ _ hw) (cwV 2 hts gL_looks_X4_bidder rfl rfl rfl (by decide +kernel) ⟨Nat.le_of_ble_eq_true rfl, Nat.le_of_ble_eq_true rfl⟩) hK hW hA 0 rfl rfl rfl hl.1 rfl (Nat.le_of_ble_eq_true rfl) dL_looks_71 ⟨Nat.le_of_ble_eq_true rfl, Nat.le_of_ble_eq_true rfl⟩ (fun r_11 _ H locs hw hW => ?_)
          refine lv_i2l hx hb dL_looks_74 rfl ?_
          refine lv_ladd hx hb dL_looks_75 ?_
          refine lv_topl (fun v1_12 ev1_12 => ?_)
          have hw := hw v1_12 ev1_12
          refine lv_lstore_n (lv' := [(1, .long v1_12), (0, .ref (a 0)), (3, .int v3_2)]) hx hb dL_looks_76 rfl hl (by decide) rfl (fun ls hl => ?_)
          obtain ⟨v3_13, ev3_13⟩ : ∃ y : Int32, y = v3_2 + 1 := ⟨_, rfl⟩
          have hw := hw v3_13 ev3_13
          refine lv_iinc (v := v3_13) (lv' := [(3, .int v3_13), (1, .long v1_12), (0, .ref (a 0))]) hx hb dL_looks_77 hl (k := 2) rfl (by rw [ev3_13]; rfl) (by decide) rfl (fun ls hl => ?_)
          refine lv_goto (tgt := 33) hx hb dL_looks_80 (by decide) ?_
          obtain ⟨n9, hlt9, hI9⟩ := hw
          exact ih2 n9 hlt9 _ _ _ _ _ hI9 hW (lv_sub hl [2, 1, 0] rfl)
    · have hw := hw.2 hc
      refine lv_ldc2 (own := RL) (v := 31) hx hb hown (hts _ (List.mem_of_getElem? (i := 2) rfl)) dL_looks_12 ?_
      refine lv_lload_n hx hb dL_looks_15 rfl (lv_at hl 1 rfl) ?_
      refine lv_lmul hx hb dL_looks_16 ?_
      refine lv_aload_n hx hb dL_looks_17 rfl (lv_at hl 0 rfl) ?_
      refine lv_iload_n hx hb dL_looks_18 rfl (lv_at hl 2 rfl) ?_
      refine kV_Mi (As := [.int v3_1]) (rest := [.long (31 * v1_1)]) ⟨hx, hb, hml, hown, hts⟩ (ok_X4_count_n l D cI cJ a _ _ _ _ hw) (cwV 1 hts gL_looks_X4_count rfl rfl rfl (by decide +kernel) ⟨Nat.le_of_ble_eq_true rfl, Nat.le_of_ble_eq_true rfl⟩) hK hW hA 0 rfl rfl rfl hl.1 rfl (Nat.le_of_ble_eq_true rfl) dL_looks_19 ⟨Nat.le_of_ble_eq_true rfl, Nat.le_of_ble_eq_true rfl⟩ (fun r_14 _ H locs hw hW => ?_)
      refine lv_i2l hx hb dL_looks_22 rfl ?_
      refine lv_ladd hx hb dL_looks_23 ?_
      refine lv_topl (fun v1_15 ev1_15 => ?_)
      have hw := hw v1_15 ev1_15
      refine lv_lstore_n (lv' := [(1, .long v1_15), (0, .ref (a 0)), (3, .int v3_1)]) hx hb dL_looks_24 rfl hl (by decide) rfl (fun ls hl => ?_)
      obtain ⟨v3_16, ev3_16⟩ : ∃ y : Int32, y = v3_1 + 1 := ⟨_, rfl⟩
      have hw := hw v3_16 ev3_16
      refine lv_iinc (v := v3_16) (lv' := [(3, .int v3_16), (1, .long v1_15), (0, .ref (a 0))]) hx hb dL_looks_25 hl (k := 2) rfl (by rw [ev3_16]; rfl) (by decide) rfl (fun ls hl => ?_)
      refine lv_goto (tgt := 6) hx hb dL_looks_28 (by decide) ?_
      obtain ⟨n9, hlt9, hI9⟩ := hw
      exact ih1 n9 hlt9 _ _ _ _ _ hI9 hW (lv_sub hl [2, 1, 0] rfl)
abbrev rm_L_act : Room := { frames := 10, cells := 0, slots := 0, locals := 185 }
def wps_L_act_374 (σ : CS) (t0 : Int32) (post : Int32 → CS → Prop) : Prop := post t0 σ
set_option maxHeartbeats 4000000 in
set_option maxRecDepth 100000 in
theorem sg_L_act_374 {p : Program} {l : Launch} {e : Env} {s : State} {m : MethodId} {args : Array Value} {below : List Frame} {meth : Method} {c : Code} {A : Nat → Prop} {Q : State → Prop} {D : va_G} {cI cJ : ClassId} {a : Nat → Nat} {post : Int32 → CS → Prop} (hx : p.tables.exec = Jvm.exec) (hb : c.code = cL_act) (hml : c.maxLocals = 7) (hts : ∀ w ∈ wsL_act, w.before args s = true) (hown : s.vm.findClass RL = some m.cls) (hK : va_K D vwCl (tysIJ cI cJ) s) (hA : ∀ q : Nat, s.heap.size ≤ q → A q) (hret : ∀ (v : Int32) (u : CS) (H : Heap) (locs : List Loc) (pc : Nat) (ls : Array Slot), post v u → Wd D A s.heap (cW cI cJ a u) H locs → decode cL_act pc = .ok (.ireturn, 1) → W p l e rm_L_act s m args below meth c H locs 0 0 Q (F0 m pc ls [.int v])) (σ : CS) (t0 : Int32) (H : Heap) (locs : List Loc) (ls : Array Slot) (hw : wps_L_act_374 σ t0 post) (hW : Wd D A s.heap (cW cI cJ a σ) H locs) (hl : lv_has ls 7 []) : W p l e rm_L_act s m args below meth c H locs 0 0 Q (F0 m 374 ls [.int t0]) := by
  exact hret _ σ _ _ _ _ hw hW dL_act_374
def wps_L_act_328 (σ : CS) (t0 : Int32) (post : Int32 → CS → Prop) : Prop := post t0 σ
set_option maxHeartbeats 4000000 in
set_option maxRecDepth 100000 in
theorem sg_L_act_328 {p : Program} {l : Launch} {e : Env} {s : State} {m : MethodId} {args : Array Value} {below : List Frame} {meth : Method} {c : Code} {A : Nat → Prop} {Q : State → Prop} {D : va_G} {cI cJ : ClassId} {a : Nat → Nat} {post : Int32 → CS → Prop} (hx : p.tables.exec = Jvm.exec) (hb : c.code = cL_act) (hml : c.maxLocals = 7) (hts : ∀ w ∈ wsL_act, w.before args s = true) (hown : s.vm.findClass RL = some m.cls) (hK : va_K D vwCl (tysIJ cI cJ) s) (hA : ∀ q : Nat, s.heap.size ≤ q → A q) (hret : ∀ (v : Int32) (u : CS) (H : Heap) (locs : List Loc) (pc : Nat) (ls : Array Slot), post v u → Wd D A s.heap (cW cI cJ a u) H locs → decode cL_act pc = .ok (.ireturn, 1) → W p l e rm_L_act s m args below meth c H locs 0 0 Q (F0 m pc ls [.int v])) (σ : CS) (t0 : Int32) (H : Heap) (locs : List Loc) (ls : Array Slot) (hw : wps_L_act_328 σ t0 post) (hW : Wd D A s.heap (cW cI cJ a σ) H locs) (hl : lv_has ls 7 []) : W p l e rm_L_act s m args below meth c H locs 0 0 Q (F0 m 328 ls [.int t0]) := by
  exact hret _ σ _ _ _ _ hw hW dL_act_328
def wps_L_act_279 (σ : CS) (t0 : Int32) (post : Int32 → CS → Prop) : Prop := post t0 σ
set_option maxHeartbeats 4000000 in
set_option maxRecDepth 100000 in
theorem sg_L_act_279 {p : Program} {l : Launch} {e : Env} {s : State} {m : MethodId} {args : Array Value} {below : List Frame} {meth : Method} {c : Code} {A : Nat → Prop} {Q : State → Prop} {D : va_G} {cI cJ : ClassId} {a : Nat → Nat} {post : Int32 → CS → Prop} (hx : p.tables.exec = Jvm.exec) (hb : c.code = cL_act) (hml : c.maxLocals = 7) (hts : ∀ w ∈ wsL_act, w.before args s = true) (hown : s.vm.findClass RL = some m.cls) (hK : va_K D vwCl (tysIJ cI cJ) s) (hA : ∀ q : Nat, s.heap.size ≤ q → A q) (hret : ∀ (v : Int32) (u : CS) (H : Heap) (locs : List Loc) (pc : Nat) (ls : Array Slot), post v u → Wd D A s.heap (cW cI cJ a u) H locs → decode cL_act pc = .ok (.ireturn, 1) → W p l e rm_L_act s m args below meth c H locs 0 0 Q (F0 m pc ls [.int v])) (σ : CS) (t0 : Int32) (H : Heap) (locs : List Loc) (ls : Array Slot) (hw : wps_L_act_279 σ t0 post) (hW : Wd D A s.heap (cW cI cJ a σ) H locs) (hl : lv_has ls 7 []) : W p l e rm_L_act s m args below meth c H locs 0 0 Q (F0 m 279 ls [.int t0]) := by
  exact hret _ σ _ _ _ _ hw hW dL_act_279
def wps_L_act_261 (σ : CS) (t0 : Int32) (post : Int32 → CS → Prop) : Prop := post t0 σ
set_option maxHeartbeats 4000000 in
set_option maxRecDepth 100000 in
theorem sg_L_act_261 {p : Program} {l : Launch} {e : Env} {s : State} {m : MethodId} {args : Array Value} {below : List Frame} {meth : Method} {c : Code} {A : Nat → Prop} {Q : State → Prop} {D : va_G} {cI cJ : ClassId} {a : Nat → Nat} {post : Int32 → CS → Prop} (hx : p.tables.exec = Jvm.exec) (hb : c.code = cL_act) (hml : c.maxLocals = 7) (hts : ∀ w ∈ wsL_act, w.before args s = true) (hown : s.vm.findClass RL = some m.cls) (hK : va_K D vwCl (tysIJ cI cJ) s) (hA : ∀ q : Nat, s.heap.size ≤ q → A q) (hret : ∀ (v : Int32) (u : CS) (H : Heap) (locs : List Loc) (pc : Nat) (ls : Array Slot), post v u → Wd D A s.heap (cW cI cJ a u) H locs → decode cL_act pc = .ok (.ireturn, 1) → W p l e rm_L_act s m args below meth c H locs 0 0 Q (F0 m pc ls [.int v])) (σ : CS) (t0 : Int32) (H : Heap) (locs : List Loc) (ls : Array Slot) (hw : wps_L_act_261 σ t0 post) (hW : Wd D A s.heap (cW cI cJ a σ) H locs) (hl : lv_has ls 7 []) : W p l e rm_L_act s m args below meth c H locs 0 0 Q (F0 m 261 ls [.int t0]) := by
  exact hret _ σ _ _ _ _ hw hW dL_act_261
def wps_L_act_241 (σ : CS) (t0 : Int32) (post : Int32 → CS → Prop) : Prop := post t0 σ
set_option maxHeartbeats 4000000 in
set_option maxRecDepth 100000 in
theorem sg_L_act_241 {p : Program} {l : Launch} {e : Env} {s : State} {m : MethodId} {args : Array Value} {below : List Frame} {meth : Method} {c : Code} {A : Nat → Prop} {Q : State → Prop} {D : va_G} {cI cJ : ClassId} {a : Nat → Nat} {post : Int32 → CS → Prop} (hx : p.tables.exec = Jvm.exec) (hb : c.code = cL_act) (hml : c.maxLocals = 7) (hts : ∀ w ∈ wsL_act, w.before args s = true) (hown : s.vm.findClass RL = some m.cls) (hK : va_K D vwCl (tysIJ cI cJ) s) (hA : ∀ q : Nat, s.heap.size ≤ q → A q) (hret : ∀ (v : Int32) (u : CS) (H : Heap) (locs : List Loc) (pc : Nat) (ls : Array Slot), post v u → Wd D A s.heap (cW cI cJ a u) H locs → decode cL_act pc = .ok (.ireturn, 1) → W p l e rm_L_act s m args below meth c H locs 0 0 Q (F0 m pc ls [.int v])) (σ : CS) (t0 : Int32) (H : Heap) (locs : List Loc) (ls : Array Slot) (hw : wps_L_act_241 σ t0 post) (hW : Wd D A s.heap (cW cI cJ a σ) H locs) (hl : lv_has ls 7 []) : W p l e rm_L_act s m args below meth c H locs 0 0 Q (F0 m 241 ls [.int t0]) := by
  exact hret _ σ _ _ _ _ hw hW dL_act_241
def wps_L_act_195 (σ : CS) (t0 : Int32) (t1 : Int32) (t2 : Int32) (post : Int32 → CS → Prop) : Prop := wp_L_up t1 t0 (fun r_3001 => wp_X4_set σ t2 r_3001 (fun r_3002 σ_3003 => post r_3002 σ_3003) (fun _ => False))
set_option maxHeartbeats 4000000 in
set_option maxRecDepth 100000 in
theorem sg_L_act_195 {p : Program} {l : Launch} {e : Env} {s : State} {m : MethodId} {args : Array Value} {below : List Frame} {meth : Method} {c : Code} {A : Nat → Prop} {Q : State → Prop} {D : va_G} {cI cJ : ClassId} {a : Nat → Nat} {post : Int32 → CS → Prop} (hx : p.tables.exec = Jvm.exec) (hb : c.code = cL_act) (hml : c.maxLocals = 7) (hts : ∀ w ∈ wsL_act, w.before args s = true) (hown : s.vm.findClass RL = some m.cls) (hK : va_K D vwCl (tysIJ cI cJ) s) (hA : ∀ q : Nat, s.heap.size ≤ q → A q) (hret : ∀ (v : Int32) (u : CS) (H : Heap) (locs : List Loc) (pc : Nat) (ls : Array Slot), post v u → Wd D A s.heap (cW cI cJ a u) H locs → decode cL_act pc = .ok (.ireturn, 1) → W p l e rm_L_act s m args below meth c H locs 0 0 Q (F0 m pc ls [.int v])) (σ : CS) (t0 : Int32) (t1 : Int32) (t2 : Int32) (H : Heap) (locs : List Loc) (ls : Array Slot) (hw : wps_L_act_195 σ t0 t1 t2 post) (hW : Wd D A s.heap (cW cI cJ a σ) H locs) (hl : lv_has ls 7 []) : W p l e rm_L_act s m args below meth c H locs 0 0 Q (F0 m 195 ls [.int t0, .int t1, .int t2, .ref (a 0)]) := by
  refine kS_Pi (As := [.int t1, .int t0]) (rest := [.int t2, .ref (a 0)]) ⟨hx, hb, hml, hown, hts⟩ (ok_L_up l _ _ _ hw) (va_cwS 2 hts gL_act_L_up rfl rfl rfl (by decide +kernel) ⟨Nat.le_of_ble_eq_true rfl, Nat.le_of_ble_eq_true rfl⟩) hW.2.2 rfl hl.1 rfl (Nat.le_of_ble_eq_true rfl) dL_act_195 ⟨Nat.le_of_ble_eq_true rfl, Nat.le_of_ble_eq_true rfl⟩ (fun r_3001 H locs hw hk hS => ?_)
  have hW := hW.kept hk hS
  refine kV_Mi (As := [.int t2, .int r_3001]) (rest := []) ⟨hx, hb, hml, hown, hts⟩ (ok_X4_set_n l D cI cJ a _ _ _ _ _ hw) (cwV 2 hts gL_act_X4_set rfl rfl rfl (by decide +kernel) ⟨Nat.le_of_ble_eq_true rfl, Nat.le_of_ble_eq_true rfl⟩) hK hW hA 0 rfl rfl rfl hl.1 rfl (Nat.le_of_ble_eq_true rfl) dL_act_198 ⟨Nat.le_of_ble_eq_true rfl, Nat.le_of_ble_eq_true rfl⟩ (fun r_3002 σ_3003 H locs hw hW => ?_)
  exact hret _ σ_3003 _ _ _ _ hw hW dL_act_201
def wps_L_act_135 (σ : CS) (t0 : Int32) (t1 : Int32) (t2 : Int32) (post : Int32 → CS → Prop) : Prop := wp_L_up t1 t0 (fun r_2001 => wp_X4_price σ t2 r_2001 (fun r_2002 σ_2003 => post r_2002 σ_2003) (fun _ => False))
set_option maxHeartbeats 4000000 in
set_option maxRecDepth 100000 in
theorem sg_L_act_135 {p : Program} {l : Launch} {e : Env} {s : State} {m : MethodId} {args : Array Value} {below : List Frame} {meth : Method} {c : Code} {A : Nat → Prop} {Q : State → Prop} {D : va_G} {cI cJ : ClassId} {a : Nat → Nat} {post : Int32 → CS → Prop} (hx : p.tables.exec = Jvm.exec) (hb : c.code = cL_act) (hml : c.maxLocals = 7) (hts : ∀ w ∈ wsL_act, w.before args s = true) (hown : s.vm.findClass RL = some m.cls) (hK : va_K D vwCl (tysIJ cI cJ) s) (hA : ∀ q : Nat, s.heap.size ≤ q → A q) (hret : ∀ (v : Int32) (u : CS) (H : Heap) (locs : List Loc) (pc : Nat) (ls : Array Slot), post v u → Wd D A s.heap (cW cI cJ a u) H locs → decode cL_act pc = .ok (.ireturn, 1) → W p l e rm_L_act s m args below meth c H locs 0 0 Q (F0 m pc ls [.int v])) (σ : CS) (t0 : Int32) (t1 : Int32) (t2 : Int32) (H : Heap) (locs : List Loc) (ls : Array Slot) (hw : wps_L_act_135 σ t0 t1 t2 post) (hW : Wd D A s.heap (cW cI cJ a σ) H locs) (hl : lv_has ls 7 []) : W p l e rm_L_act s m args below meth c H locs 0 0 Q (F0 m 135 ls [.int t0, .int t1, .int t2, .ref (a 0)]) := by
  refine kS_Pi (As := [.int t1, .int t0]) (rest := [.int t2, .ref (a 0)]) ⟨hx, hb, hml, hown, hts⟩ (ok_L_up l _ _ _ hw) (va_cwS 2 hts gL_act_L_up rfl rfl rfl (by decide +kernel) ⟨Nat.le_of_ble_eq_true rfl, Nat.le_of_ble_eq_true rfl⟩) hW.2.2 rfl hl.1 rfl (Nat.le_of_ble_eq_true rfl) dL_act_135 ⟨Nat.le_of_ble_eq_true rfl, Nat.le_of_ble_eq_true rfl⟩ (fun r_2001 H locs hw hk hS => ?_)
  have hW := hW.kept hk hS
  refine kV_Mi (As := [.int t2, .int r_2001]) (rest := []) ⟨hx, hb, hml, hown, hts⟩ (ok_X4_price_n l D cI cJ a _ _ _ _ _ hw) (cwV 2 hts gL_act_X4_price rfl rfl rfl (by decide +kernel) ⟨Nat.le_of_ble_eq_true rfl, Nat.le_of_ble_eq_true rfl⟩) hK hW hA 0 rfl rfl rfl hl.1 rfl (Nat.le_of_ble_eq_true rfl) dL_act_138 ⟨Nat.le_of_ble_eq_true rfl, Nat.le_of_ble_eq_true rfl⟩ (fun r_2002 σ_2003 H locs hw hW => ?_)
  exact hret _ σ_2003 _ _ _ _ hw hW dL_act_141
def wps_L_act_38 (σ : CS) (x1 : Int32) (x2 : Int32) (x3 : Int32) (x4 : Int32) (t0 : Int32) (t1 : Int32) (t2 : Int32) (post : Int32 → CS → Prop) : Prop := wp_L_up t1 t0 (fun r_1001 => ∀ v5_1002 : Int32, v5_1002 = (t2 + r_1001) → wp_L_up x1 20 (fun r_1003 => ∀ w_1004 : Int32, w_1004 = r_1003 → ((w_1004 = 0 → ((¬ ((x2 >>> (14 &&& 31)) &&& 3) = 0 → wps_L_act_135 σ 25 (x2 >>> (6 &&& 31)) x4 post) ∧ (((x2 >>> (14 &&& 31)) &&& 3) = 0 → wps_L_act_135 σ 100 (x2 >>> (6 &&& 31)) x4 post))) ∧ (¬ w_1004 = 0 → ((w_1004 = 1 → wp_L_up (x2 >>> (6 &&& 31)) 60 (fun r_1005 => wp_X4_pay σ x3 (1 + r_1005) (fun r_1006 σ_1007 => post r_1006 σ_1007) (fun _ => False))) ∧ (¬ w_1004 = 1 → ((w_1004 = 2 → wp_L_up x2 3 (fun r_1008 => ((¬ r_1008 = 0 → ((¬ r_1008 = 1 → wps_L_act_195 σ 51 (x2 >>> (2 &&& 31)) r_1008 post) ∧ (r_1008 = 1 → wps_L_act_195 σ 10 (x2 >>> (2 &&& 31)) r_1008 post))) ∧ (r_1008 = 0 → wps_L_act_195 σ 21 (x2 >>> (2 &&& 31)) r_1008 post)))) ∧ (¬ w_1004 = 2 → ((w_1004 = 3 → wp_L_up x2 23 (fun r_1009 => wp_X4_pause σ (1 + r_1009) (fun r_1010 σ_1011 => post r_1010 σ_1011) (fun _ => False))) ∧ (¬ w_1004 = 3 → ((w_1004 = 4 → wp_X4_sealed σ x3 x4 4 (fun r_1012 => ((¬ r_1012 = 0 → wp_X4_pause σ 1 (fun r_1013 σ_1014 => wps_L_act_241 σ_1014 r_1013 post) (fun _ => False)) ∧ (r_1012 = 0 → wp_X4_withdraw σ x3 x4 (fun r_1015 σ_1016 => wps_L_act_241 σ_1016 r_1015 post) (fun _ => False)))) (fun _ => False)) ∧ (¬ w_1004 = 4 → ((w_1004 = 5 → wp_X4_sealed σ x3 x4 4 (fun r_1017 => ((¬ r_1017 = 0 → wp_X4_pause σ 1 (fun r_1018 σ_1019 => wps_L_act_241 σ_1019 r_1018 post) (fun _ => False)) ∧ (r_1017 = 0 → wp_X4_withdraw σ x3 x4 (fun r_1020 σ_1021 => wps_L_act_241 σ_1021 r_1020 post) (fun _ => False)))) (fun _ => False)) ∧ (¬ w_1004 = 5 → ((w_1004 = 6 → wp_X4_count σ 2 (fun r_1022 => ((¬ r_1022 = 0 → wp_X4_nextDay σ (fun r_1023 σ_1024 => wps_L_act_261 σ_1024 r_1023 post)) ∧ (r_1022 = 0 → wp_X4_open σ (fun r_1025 σ_1026 => wps_L_act_261 σ_1026 r_1025 post) (fun _ => False)))) (fun _ => False)) ∧ (¬ w_1004 = 6 → ((w_1004 = 7 → wp_X4_count σ 2 (fun r_1027 => ((¬ r_1027 = 0 → wp_X4_nextDay σ (fun r_1028 σ_1029 => wps_L_act_261 σ_1029 r_1028 post)) ∧ (r_1027 = 0 → wp_X4_open σ (fun r_1030 σ_1031 => wps_L_act_261 σ_1031 r_1030 post) (fun _ => False)))) (fun _ => False)) ∧ (¬ w_1004 = 7 → ((w_1004 = 8 → ((¬ (x2 &&& 3) = 0 → wp_X4_nextDay σ (fun r_1032 σ_1033 => wps_L_act_279 σ_1033 r_1032 post)) ∧ ((x2 &&& 3) = 0 → wp_X4_goBack σ (fun r_1034 σ_1035 => wps_L_act_279 σ_1035 r_1034 post) (fun _ => False)))) ∧ (¬ w_1004 = 8 → ((w_1004 = 9 → wp_X4_spot σ x4 2 (fun r_1036 => ((r_1036 < 0 → wp_X4_why σ x3 x4 v5_1002 (fun r_1037 => ((¬ r_1037 = 0 → wp_X4_pause σ 1 (fun r_1038 σ_1039 => wps_L_act_328 σ_1039 r_1038 post) (fun _ => False)) ∧ (r_1037 = 0 → wp_X4_bid σ x3 x4 v5_1002 (fun r_1040 σ_1041 => wps_L_act_328 σ_1041 r_1040 post) (fun _ => False)))) (fun _ => False)) ∧ (¬ r_1036 < 0 → wp_X4_fish σ x4 (fun r_1042 σ_1043 => wps_L_act_328 σ_1043 r_1042 post) (fun _ => False)))) (fun _ => False)) ∧ (¬ w_1004 = 9 → ((w_1004 = 10 → wp_X4_spot σ x4 2 (fun r_1044 => ((r_1044 < 0 → wp_X4_why σ x3 x4 v5_1002 (fun r_1045 => ((¬ r_1045 = 0 → wp_X4_pause σ 1 (fun r_1046 σ_1047 => wps_L_act_328 σ_1047 r_1046 post) (fun _ => False)) ∧ (r_1045 = 0 → wp_X4_bid σ x3 x4 v5_1002 (fun r_1048 σ_1049 => wps_L_act_328 σ_1049 r_1048 post) (fun _ => False)))) (fun _ => False)) ∧ (¬ r_1044 < 0 → wp_X4_fish σ x4 (fun r_1050 σ_1051 => wps_L_act_328 σ_1051 r_1050 post) (fun _ => False)))) (fun _ => False)) ∧ (¬ w_1004 = 10 → ((w_1004 = 11 → wp_X4_spot σ x4 2 (fun r_1052 => ((r_1052 < 0 → wp_X4_why σ x3 x4 v5_1002 (fun r_1053 => ((¬ r_1053 = 0 → wp_X4_pause σ 1 (fun r_1054 σ_1055 => wps_L_act_328 σ_1055 r_1054 post) (fun _ => False)) ∧ (r_1053 = 0 → wp_X4_bid σ x3 x4 v5_1002 (fun r_1056 σ_1057 => wps_L_act_328 σ_1057 r_1056 post) (fun _ => False)))) (fun _ => False)) ∧ (¬ r_1052 < 0 → wp_X4_fish σ x4 (fun r_1058 σ_1059 => wps_L_act_328 σ_1059 r_1058 post) (fun _ => False)))) (fun _ => False)) ∧ (¬ w_1004 = 11 → wp_X4_why σ x3 x4 v5_1002 (fun r_1060 => ((¬ r_1060 = 0 → wp_X4_count σ 2 (fun r_1061 => ((¬ r_1061 = 1 → wp_X4_pause σ 1 (fun r_1062 σ_1063 => wps_L_act_374 σ_1063 r_1062 post) (fun _ => False)) ∧ (r_1061 = 1 → wp_X4_nextDay σ (fun r_1064 σ_1065 => wps_L_act_374 σ_1065 r_1064 post)))) (fun _ => False)) ∧ (r_1060 = 0 → wp_X4_bid σ x3 x4 v5_1002 (fun r_1066 σ_1067 => wps_L_act_374 σ_1067 r_1066 post) (fun _ => False)))) (fun _ => False)))))))))))))))))))))))))))
set_option maxHeartbeats 4000000 in
set_option maxRecDepth 100000 in
theorem sg_L_act_38 {p : Program} {l : Launch} {e : Env} {s : State} {m : MethodId} {args : Array Value} {below : List Frame} {meth : Method} {c : Code} {A : Nat → Prop} {Q : State → Prop} {D : va_G} {cI cJ : ClassId} {a : Nat → Nat} {post : Int32 → CS → Prop} (hx : p.tables.exec = Jvm.exec) (hb : c.code = cL_act) (hml : c.maxLocals = 7) (hts : ∀ w ∈ wsL_act, w.before args s = true) (hown : s.vm.findClass RL = some m.cls) (hK : va_K D vwCl (tysIJ cI cJ) s) (hA : ∀ q : Nat, s.heap.size ≤ q → A q) (hret : ∀ (v : Int32) (u : CS) (H : Heap) (locs : List Loc) (pc : Nat) (ls : Array Slot), post v u → Wd D A s.heap (cW cI cJ a u) H locs → decode cL_act pc = .ok (.ireturn, 1) → W p l e rm_L_act s m args below meth c H locs 0 0 Q (F0 m pc ls [.int v])) (σ : CS) (x1 : Int32) (x2 : Int32) (x3 : Int32) (x4 : Int32) (t0 : Int32) (t1 : Int32) (t2 : Int32) (H : Heap) (locs : List Loc) (ls : Array Slot) (hw : wps_L_act_38 σ x1 x2 x3 x4 t0 t1 t2 post) (hW : Wd D A s.heap (cW cI cJ a σ) H locs) (hl : lv_has ls 7 [(0, .ref (a 0)), (1, .int x1), (2, .int x2), (3, .int x3), (4, .int x4)]) : W p l e rm_L_act s m args below meth c H locs 0 0 Q (F0 m 38 ls [.int t0, .int t1, .int t2]) := by
  refine kS_Pi (As := [.int t1, .int t0]) (rest := [.int t2]) ⟨hx, hb, hml, hown, hts⟩ (ok_L_up l _ _ _ hw) (va_cwS 2 hts gL_act_L_up rfl rfl rfl (by decide +kernel) ⟨Nat.le_of_ble_eq_true rfl, Nat.le_of_ble_eq_true rfl⟩) hW.2.2 rfl hl.1 rfl (Nat.le_of_ble_eq_true rfl) dL_act_38 ⟨Nat.le_of_ble_eq_true rfl, Nat.le_of_ble_eq_true rfl⟩ (fun r_1001 H locs hw hk hS => ?_)
  have hW := hW.kept hk hS
  refine lv_iadd hx hb dL_act_41 ?_
  refine lv_topi (fun v5_1002 ev5_1002 => ?_)
  have hw := hw v5_1002 ev5_1002
  refine lv_istore (lv' := [(5, .int v5_1002), (0, .ref (a 0)), (1, .int x1), (2, .int x2), (3, .int x3), (4, .int x4)]) hx hb dL_act_42 hl (by decide) rfl (fun ls hl => ?_)
  refine lv_iload_n hx hb dL_act_44 rfl (lv_at hl 2 rfl) ?_
  refine lv_bipush (v := 20) hx hb dL_act_45 (by decide) ?_
  refine kS_Pi (As := [.int x1, .int 20]) (rest := []) ⟨hx, hb, hml, hown, hts⟩ (ok_L_up l _ _ _ hw) (va_cwS 2 hts gL_act_L_up rfl rfl rfl (by decide +kernel) ⟨Nat.le_of_ble_eq_true rfl, Nat.le_of_ble_eq_true rfl⟩) hW.2.2 rfl hl.1 rfl (Nat.le_of_ble_eq_true rfl) dL_act_47 ⟨Nat.le_of_ble_eq_true rfl, Nat.le_of_ble_eq_true rfl⟩ (fun r_1003 H locs hw hk hS => ?_)
  have hW := hW.kept hk hS
  refine lv_topi (fun w_1004 ew_1004 => ?_)
  have hw := hw w_1004 ew_1004
  by_cases hs0 : w_1004 = 0
  · have hw := hw.1 hs0
    refine lv_tableIn (tgt := 112) hx hb dL_act_50 (by rw [hs0]; decide) (by rw [hs0]; decide) (by rw [hs0]; rfl) (by decide) ?_
    refine lv_aload_n hx hb dL_act_112 rfl (lv_at hl 1 rfl) ?_
    refine lv_iload hx hb dL_act_113 (lv_at hl 5 rfl) ?_
    refine lv_iload_n hx hb dL_act_115 rfl (lv_at hl 3 rfl) ?_
    refine lv_bipush (v := 6) hx hb dL_act_116 (by decide) ?_
    refine lv_ishr hx hb dL_act_118 ?_
    refine lv_iload_n hx hb dL_act_119 rfl (lv_at hl 3 rfl) ?_
    refine lv_bipush (v := 14) hx hb dL_act_120 (by decide) ?_
    refine lv_ishr hx hb dL_act_122 ?_
    refine lv_iconst (v := 3) hx hb dL_act_123 (by decide) ?_
    refine lv_iand hx hb dL_act_124 ?_
    refine lv_if_ne (tgt := 133) hx hb dL_act_125 (by decide) (fun hc => ?_) (fun hc => ?_)
    · have hw := hw.1 hc
      refine lv_bipush (v := 25) hx hb dL_act_133 (by decide) ?_
      exact sg_L_act_135 hx hb hml hts hown hK hA hret σ 25 (x2 >>> (6 &&& 31)) x4 _ _ _ hw hW (lv_sub hl [] rfl)
    · have hw := hw.2 hc
      refine lv_bipush (v := 100) hx hb dL_act_128 (by decide) ?_
      refine lv_goto (tgt := 135) hx hb dL_act_130 (by decide) ?_
      exact sg_L_act_135 hx hb hml hts hown hK hA hret σ 100 (x2 >>> (6 &&& 31)) x4 _ _ _ hw hW (lv_sub hl [] rfl)
  have hw := hw.2 hs0
  by_cases hs1 : w_1004 = 1
  · have hw := hw.1 hs1
    refine lv_tableIn (tgt := 142) hx hb dL_act_50 (by rw [hs1]; decide) (by rw [hs1]; decide) (by rw [hs1]; rfl) (by decide) ?_
    refine lv_aload_n hx hb dL_act_142 rfl (lv_at hl 1 rfl) ?_
    refine lv_iload_n hx hb dL_act_143 rfl (lv_at hl 4 rfl) ?_
    refine lv_iconst (v := 1) hx hb dL_act_144 (by decide) ?_
    refine lv_iload_n hx hb dL_act_145 rfl (lv_at hl 3 rfl) ?_
    refine lv_bipush (v := 6) hx hb dL_act_146 (by decide) ?_
    refine lv_ishr hx hb dL_act_148 ?_
    refine lv_bipush (v := 60) hx hb dL_act_149 (by decide) ?_
    refine kS_Pi (As := [.int (x2 >>> (6 &&& 31)), .int 60]) (rest := [.int 1, .int x3, .ref (a 0)]) ⟨hx, hb, hml, hown, hts⟩ (ok_L_up l _ _ _ hw) (va_cwS 2 hts gL_act_L_up rfl rfl rfl (by decide +kernel) ⟨Nat.le_of_ble_eq_true rfl, Nat.le_of_ble_eq_true rfl⟩) hW.2.2 rfl hl.1 rfl (Nat.le_of_ble_eq_true rfl) dL_act_151 ⟨Nat.le_of_ble_eq_true rfl, Nat.le_of_ble_eq_true rfl⟩ (fun r_1005 H locs hw hk hS => ?_)
    have hW := hW.kept hk hS
    refine lv_iadd hx hb dL_act_154 ?_
    refine kV_Mi (As := [.int x3, .int (1 + r_1005)]) (rest := []) ⟨hx, hb, hml, hown, hts⟩ (ok_X4_pay_n l D cI cJ a _ _ _ _ _ hw) (cwV 2 hts gL_act_X4_pay rfl rfl rfl (by decide +kernel) ⟨Nat.le_of_ble_eq_true rfl, Nat.le_of_ble_eq_true rfl⟩) hK hW hA 0 rfl rfl rfl hl.1 rfl (Nat.le_of_ble_eq_true rfl) dL_act_155 ⟨Nat.le_of_ble_eq_true rfl, Nat.le_of_ble_eq_true rfl⟩ (fun r_1006 σ_1007 H locs hw hW => ?_)
    exact hret _ σ_1007 _ _ _ _ hw hW dL_act_158
  have hw := hw.2 hs1
  by_cases hs2 : w_1004 = 2
  · have hw := hw.1 hs2
    refine lv_tableIn (tgt := 159) hx hb dL_act_50 (by rw [hs2]; decide) (by rw [hs2]; decide) (by rw [hs2]; rfl) (by decide) ?_
    refine lv_iload_n hx hb dL_act_159 rfl (lv_at hl 3 rfl) ?_
    refine lv_iconst (v := 3) hx hb dL_act_160 (by decide) ?_
    refine kS_Pi (As := [.int x2, .int 3]) (rest := []) ⟨hx, hb, hml, hown, hts⟩ (ok_L_up l _ _ _ hw) (va_cwS 2 hts gL_act_L_up rfl rfl rfl (by decide +kernel) ⟨Nat.le_of_ble_eq_true rfl, Nat.le_of_ble_eq_true rfl⟩) hW.2.2 rfl hl.1 rfl (Nat.le_of_ble_eq_true rfl) dL_act_161 ⟨Nat.le_of_ble_eq_true rfl, Nat.le_of_ble_eq_true rfl⟩ (fun r_1008 H locs hw hk hS => ?_)
    have hW := hW.kept hk hS
    refine lv_istore (lv' := [(6, .int r_1008), (5, .int v5_1002), (0, .ref (a 0)), (1, .int x1), (2, .int x2), (3, .int x3), (4, .int x4)]) hx hb dL_act_164 hl (by decide) rfl (fun ls hl => ?_)
    refine lv_aload_n hx hb dL_act_166 rfl (lv_at hl 2 rfl) ?_
    refine lv_iload hx hb dL_act_167 (lv_at hl 0 rfl) ?_
    refine lv_iload_n hx hb dL_act_169 rfl (lv_at hl 4 rfl) ?_
    refine lv_iconst (v := 2) hx hb dL_act_170 (by decide) ?_
    refine lv_ishr hx hb dL_act_171 ?_
    refine lv_iload hx hb dL_act_172 (lv_at hl 0 rfl) ?_
    refine lv_if_ne (tgt := 182) hx hb dL_act_174 (by decide) (fun hc => ?_) (fun hc => ?_)
    · have hw := hw.1 hc
      refine lv_iload hx hb dL_act_182 (lv_at hl 0 rfl) ?_
      refine lv_iconst (v := 1) hx hb dL_act_184 (by decide) ?_
      refine lv_icmp_ne (tgt := 193) hx hb dL_act_185 (by decide) (fun hc => ?_) (fun hc => ?_)
      · have hw := hw.1 hc
        refine lv_bipush (v := 51) hx hb dL_act_193 (by decide) ?_
        exact sg_L_act_195 hx hb hml hts hown hK hA hret σ 51 (x2 >>> (2 &&& 31)) r_1008 _ _ _ hw hW (lv_sub hl [] rfl)
      · have hw := hw.2 hc
        refine lv_bipush (v := 10) hx hb dL_act_188 (by decide) ?_
        refine lv_goto (tgt := 195) hx hb dL_act_190 (by decide) ?_
        exact sg_L_act_195 hx hb hml hts hown hK hA hret σ 10 (x2 >>> (2 &&& 31)) r_1008 _ _ _ hw hW (lv_sub hl [] rfl)
    · have hw := hw.2 hc
      refine lv_bipush (v := 21) hx hb dL_act_177 (by decide) ?_
      refine lv_goto (tgt := 195) hx hb dL_act_179 (by decide) ?_
      exact sg_L_act_195 hx hb hml hts hown hK hA hret σ 21 (x2 >>> (2 &&& 31)) r_1008 _ _ _ hw hW (lv_sub hl [] rfl)
  have hw := hw.2 hs2
  by_cases hs3 : w_1004 = 3
  · have hw := hw.1 hs3
    refine lv_tableIn (tgt := 202) hx hb dL_act_50 (by rw [hs3]; decide) (by rw [hs3]; decide) (by rw [hs3]; rfl) (by decide) ?_
    refine lv_aload_n hx hb dL_act_202 rfl (lv_at hl 1 rfl) ?_
    refine lv_iconst (v := 1) hx hb dL_act_203 (by decide) ?_
    refine lv_iload_n hx hb dL_act_204 rfl (lv_at hl 3 rfl) ?_
    refine lv_bipush (v := 23) hx hb dL_act_205 (by decide) ?_
    refine kS_Pi (As := [.int x2, .int 23]) (rest := [.int 1, .ref (a 0)]) ⟨hx, hb, hml, hown, hts⟩ (ok_L_up l _ _ _ hw) (va_cwS 2 hts gL_act_L_up rfl rfl rfl (by decide +kernel) ⟨Nat.le_of_ble_eq_true rfl, Nat.le_of_ble_eq_true rfl⟩) hW.2.2 rfl hl.1 rfl (Nat.le_of_ble_eq_true rfl) dL_act_207 ⟨Nat.le_of_ble_eq_true rfl, Nat.le_of_ble_eq_true rfl⟩ (fun r_1009 H locs hw hk hS => ?_)
    have hW := hW.kept hk hS
    refine lv_iadd hx hb dL_act_210 ?_
    refine kV_Mi (As := [.int (1 + r_1009)]) (rest := []) ⟨hx, hb, hml, hown, hts⟩ (ok_X4_pause_n l D cI cJ a _ _ _ _ hw) (cwV 1 hts gL_act_X4_pause rfl rfl rfl (by decide +kernel) ⟨Nat.le_of_ble_eq_true rfl, Nat.le_of_ble_eq_true rfl⟩) hK hW hA 0 rfl rfl rfl hl.1 rfl (Nat.le_of_ble_eq_true rfl) dL_act_211 ⟨Nat.le_of_ble_eq_true rfl, Nat.le_of_ble_eq_true rfl⟩ (fun r_1010 σ_1011 H locs hw hW => ?_)
    exact hret _ σ_1011 _ _ _ _ hw hW dL_act_214
  have hw := hw.2 hs3
  by_cases hs4 : w_1004 = 4
  · have hw := hw.1 hs4
    refine lv_tableIn (tgt := 215) hx hb dL_act_50 (by rw [hs4]; decide) (by rw [hs4]; decide) (by rw [hs4]; rfl) (by decide) ?_
    refine lv_aload_n hx hb dL_act_215 rfl (lv_at hl 1 rfl) ?_
    refine lv_iload_n hx hb dL_act_216 rfl (lv_at hl 4 rfl) ?_
    refine lv_iload hx hb dL_act_217 (lv_at hl 5 rfl) ?_
    refine lv_iconst (v := 4) hx hb dL_act_219 (by decide) ?_
    refine kV_Mi (As := [.int x3, .int x4, .int 4]) (rest := []) ⟨hx, hb, hml, hown, hts⟩ (ok_X4_sealed_n l D cI cJ a _ _ _ _ _ _ hw) (cwV 3 hts gL_act_X4_sealed rfl rfl rfl (by decide +kernel) ⟨Nat.le_of_ble_eq_true rfl, Nat.le_of_ble_eq_true rfl⟩) hK hW hA 0 rfl rfl rfl hl.1 rfl (Nat.le_of_ble_eq_true rfl) dL_act_220 ⟨Nat.le_of_ble_eq_true rfl, Nat.le_of_ble_eq_true rfl⟩ (fun r_1012 _ H locs hw hW => ?_)
    refine lv_if_ne (tgt := 236) hx hb dL_act_223 (by decide) (fun hc => ?_) (fun hc => ?_)
    · have hw := hw.1 hc
      refine lv_aload_n hx hb dL_act_236 rfl (lv_at hl 1 rfl) ?_
      refine lv_iconst (v := 1) hx hb dL_act_237 (by decide) ?_
      refine kV_Mi (As := [.int 1]) (rest := []) ⟨hx, hb, hml, hown, hts⟩ (ok_X4_pause_n l D cI cJ a _ _ _ _ hw) (cwV 1 hts gL_act_X4_pause rfl rfl rfl (by decide +kernel) ⟨Nat.le_of_ble_eq_true rfl, Nat.le_of_ble_eq_true rfl⟩) hK hW hA 0 rfl rfl rfl hl.1 rfl (Nat.le_of_ble_eq_true rfl) dL_act_238 ⟨Nat.le_of_ble_eq_true rfl, Nat.le_of_ble_eq_true rfl⟩ (fun r_1013 σ_1014 H locs hw hW => ?_)
      exact sg_L_act_241 hx hb hml hts hown hK hA hret σ_1014 r_1013 _ _ _ hw hW (lv_sub hl [] rfl)
    · have hw := hw.2 hc
      refine lv_aload_n hx hb dL_act_226 rfl (lv_at hl 1 rfl) ?_
      refine lv_iload_n hx hb dL_act_227 rfl (lv_at hl 4 rfl) ?_
      refine lv_iload hx hb dL_act_228 (lv_at hl 5 rfl) ?_
      refine kV_Mi (As := [.int x3, .int x4]) (rest := []) ⟨hx, hb, hml, hown, hts⟩ (ok_X4_withdraw_n l D cI cJ a _ _ _ _ _ hw) (cwV 2 hts gL_act_X4_withdraw rfl rfl rfl (by decide +kernel) ⟨Nat.le_of_ble_eq_true rfl, Nat.le_of_ble_eq_true rfl⟩) hK hW hA 0 rfl rfl rfl hl.1 rfl (Nat.le_of_ble_eq_true rfl) dL_act_230 ⟨Nat.le_of_ble_eq_true rfl, Nat.le_of_ble_eq_true rfl⟩ (fun r_1015 σ_1016 H locs hw hW => ?_)
      refine lv_goto (tgt := 241) hx hb dL_act_233 (by decide) ?_
      exact sg_L_act_241 hx hb hml hts hown hK hA hret σ_1016 r_1015 _ _ _ hw hW (lv_sub hl [] rfl)
  have hw := hw.2 hs4
  by_cases hs5 : w_1004 = 5
  · have hw := hw.1 hs5
    refine lv_tableIn (tgt := 215) hx hb dL_act_50 (by rw [hs5]; decide) (by rw [hs5]; decide) (by rw [hs5]; rfl) (by decide) ?_
    refine lv_aload_n hx hb dL_act_215 rfl (lv_at hl 1 rfl) ?_
    refine lv_iload_n hx hb dL_act_216 rfl (lv_at hl 4 rfl) ?_
    refine lv_iload hx hb dL_act_217 (lv_at hl 5 rfl) ?_
    refine lv_iconst (v := 4) hx hb dL_act_219 (by decide) ?_
    refine kV_Mi (As := [.int x3, .int x4, .int 4]) (rest := []) ⟨hx, hb, hml, hown, hts⟩ (ok_X4_sealed_n l D cI cJ a _ _ _ _ _ _ hw) (cwV 3 hts gL_act_X4_sealed rfl rfl rfl (by decide +kernel) ⟨Nat.le_of_ble_eq_true rfl, Nat.le_of_ble_eq_true rfl⟩) hK hW hA 0 rfl rfl rfl hl.1 rfl (Nat.le_of_ble_eq_true rfl) dL_act_220 ⟨Nat.le_of_ble_eq_true rfl, Nat.le_of_ble_eq_true rfl⟩ (fun r_1017 _ H locs hw hW => ?_)
    refine lv_if_ne (tgt := 236) hx hb dL_act_223 (by decide) (fun hc => ?_) (fun hc => ?_)
    · have hw := hw.1 hc
      refine lv_aload_n hx hb dL_act_236 rfl (lv_at hl 1 rfl) ?_
      refine lv_iconst (v := 1) hx hb dL_act_237 (by decide) ?_
      refine kV_Mi (As := [.int 1]) (rest := []) ⟨hx, hb, hml, hown, hts⟩ (ok_X4_pause_n l D cI cJ a _ _ _ _ hw) (cwV 1 hts gL_act_X4_pause rfl rfl rfl (by decide +kernel) ⟨Nat.le_of_ble_eq_true rfl, Nat.le_of_ble_eq_true rfl⟩) hK hW hA 0 rfl rfl rfl hl.1 rfl (Nat.le_of_ble_eq_true rfl) dL_act_238 ⟨Nat.le_of_ble_eq_true rfl, Nat.le_of_ble_eq_true rfl⟩ (fun r_1018 σ_1019 H locs hw hW => ?_)
      exact sg_L_act_241 hx hb hml hts hown hK hA hret σ_1019 r_1018 _ _ _ hw hW (lv_sub hl [] rfl)
    · have hw := hw.2 hc
      refine lv_aload_n hx hb dL_act_226 rfl (lv_at hl 1 rfl) ?_
      refine lv_iload_n hx hb dL_act_227 rfl (lv_at hl 4 rfl) ?_
      refine lv_iload hx hb dL_act_228 (lv_at hl 5 rfl) ?_
      refine kV_Mi (As := [.int x3, .int x4]) (rest := []) ⟨hx, hb, hml, hown, hts⟩ (ok_X4_withdraw_n l D cI cJ a _ _ _ _ _ hw) (cwV 2 hts gL_act_X4_withdraw rfl rfl rfl (by decide +kernel) ⟨Nat.le_of_ble_eq_true rfl, Nat.le_of_ble_eq_true rfl⟩) hK hW hA 0 rfl rfl rfl hl.1 rfl (Nat.le_of_ble_eq_true rfl) dL_act_230 ⟨Nat.le_of_ble_eq_true rfl, Nat.le_of_ble_eq_true rfl⟩ (fun r_1020 σ_1021 H locs hw hW => ?_)
      refine lv_goto (tgt := 241) hx hb dL_act_233 (by decide) ?_
      exact sg_L_act_241 hx hb hml hts hown hK hA hret σ_1021 r_1020 _ _ _ hw hW (lv_sub hl [] rfl)
  have hw := hw.2 hs5
  by_cases hs6 : w_1004 = 6
  · have hw := hw.1 hs6
    refine lv_tableIn (tgt := 242) hx hb dL_act_50 (by rw [hs6]; decide) (by rw [hs6]; decide) (by rw [hs6]; rfl) (by decide) ?_
    refine lv_aload_n hx hb dL_act_242 rfl (lv_at hl 1 rfl) ?_
    refine lv_iconst (v := 2) hx hb dL_act_243 (by decide) ?_
    refine kV_Mi (As := [.int 2]) (rest := []) ⟨hx, hb, hml, hown, hts⟩ (ok_X4_count_n l D cI cJ a _ _ _ _ hw) (cwV 1 hts gL_act_X4_count rfl rfl rfl (by decide +kernel) ⟨Nat.le_of_ble_eq_true rfl, Nat.le_of_ble_eq_true rfl⟩) hK hW hA 0 rfl rfl rfl hl.1 rfl (Nat.le_of_ble_eq_true rfl) dL_act_244 ⟨Nat.le_of_ble_eq_true rfl, Nat.le_of_ble_eq_true rfl⟩ (fun r_1022 _ H locs hw hW => ?_)
    refine lv_if_ne (tgt := 257) hx hb dL_act_247 (by decide) (fun hc => ?_) (fun hc => ?_)
    · have hw := hw.1 hc
      refine lv_aload_n hx hb dL_act_257 rfl (lv_at hl 1 rfl) ?_
      refine kV_Mi (As := []) (rest := []) ⟨hx, hb, hml, hown, hts⟩ (ok_X4_nextDay l D cI cJ a _ _ _ hw) (cwV 0 hts gL_act_X4_nextDay rfl rfl rfl (by decide +kernel) ⟨Nat.le_of_ble_eq_true rfl, Nat.le_of_ble_eq_true rfl⟩) hK hW hA 0 rfl rfl rfl hl.1 rfl (Nat.le_of_ble_eq_true rfl) dL_act_258 ⟨Nat.le_of_ble_eq_true rfl, Nat.le_of_ble_eq_true rfl⟩ (fun r_1023 σ_1024 H locs hw hW => ?_)
      exact sg_L_act_261 hx hb hml hts hown hK hA hret σ_1024 r_1023 _ _ _ hw hW (lv_sub hl [] rfl)
    · have hw := hw.2 hc
      refine lv_aload_n hx hb dL_act_250 rfl (lv_at hl 1 rfl) ?_
      refine kV_Mi (As := []) (rest := []) ⟨hx, hb, hml, hown, hts⟩ (ok_X4_open_n l D cI cJ a _ _ _ hw) (cwV 0 hts gL_act_X4_open rfl rfl rfl (by decide +kernel) ⟨Nat.le_of_ble_eq_true rfl, Nat.le_of_ble_eq_true rfl⟩) hK hW hA 0 rfl rfl rfl hl.1 rfl (Nat.le_of_ble_eq_true rfl) dL_act_251 ⟨Nat.le_of_ble_eq_true rfl, Nat.le_of_ble_eq_true rfl⟩ (fun r_1025 σ_1026 H locs hw hW => ?_)
      refine lv_goto (tgt := 261) hx hb dL_act_254 (by decide) ?_
      exact sg_L_act_261 hx hb hml hts hown hK hA hret σ_1026 r_1025 _ _ _ hw hW (lv_sub hl [] rfl)
  have hw := hw.2 hs6
  by_cases hs7 : w_1004 = 7
  · have hw := hw.1 hs7
    refine lv_tableIn (tgt := 242) hx hb dL_act_50 (by rw [hs7]; decide) (by rw [hs7]; decide) (by rw [hs7]; rfl) (by decide) ?_
    refine lv_aload_n hx hb dL_act_242 rfl (lv_at hl 1 rfl) ?_
    refine lv_iconst (v := 2) hx hb dL_act_243 (by decide) ?_
    refine kV_Mi (As := [.int 2]) (rest := []) ⟨hx, hb, hml, hown, hts⟩ (ok_X4_count_n l D cI cJ a _ _ _ _ hw) (cwV 1 hts gL_act_X4_count rfl rfl rfl (by decide +kernel) ⟨Nat.le_of_ble_eq_true rfl, Nat.le_of_ble_eq_true rfl⟩) hK hW hA 0 rfl rfl rfl hl.1 rfl (Nat.le_of_ble_eq_true rfl) dL_act_244 ⟨Nat.le_of_ble_eq_true rfl, Nat.le_of_ble_eq_true rfl⟩ (fun r_1027 _ H locs hw hW => ?_)
    refine lv_if_ne (tgt := 257) hx hb dL_act_247 (by decide) (fun hc => ?_) (fun hc => ?_)
    · have hw := hw.1 hc
      refine lv_aload_n hx hb dL_act_257 rfl (lv_at hl 1 rfl) ?_
      refine kV_Mi (As := []) (rest := []) ⟨hx, hb, hml, hown, hts⟩ (ok_X4_nextDay l D cI cJ a _ _ _ hw) (cwV 0 hts gL_act_X4_nextDay rfl rfl rfl (by decide +kernel) ⟨Nat.le_of_ble_eq_true rfl, Nat.le_of_ble_eq_true rfl⟩) hK hW hA 0 rfl rfl rfl hl.1 rfl (Nat.le_of_ble_eq_true rfl) dL_act_258 ⟨Nat.le_of_ble_eq_true rfl, Nat.le_of_ble_eq_true rfl⟩ (fun r_1028 σ_1029 H locs hw hW => ?_)
      exact sg_L_act_261 hx hb hml hts hown hK hA hret σ_1029 r_1028 _ _ _ hw hW (lv_sub hl [] rfl)
    · have hw := hw.2 hc
      refine lv_aload_n hx hb dL_act_250 rfl (lv_at hl 1 rfl) ?_
      refine kV_Mi (As := []) (rest := []) ⟨hx, hb, hml, hown, hts⟩ (ok_X4_open_n l D cI cJ a _ _ _ hw) (cwV 0 hts gL_act_X4_open rfl rfl rfl (by decide +kernel) ⟨Nat.le_of_ble_eq_true rfl, Nat.le_of_ble_eq_true rfl⟩) hK hW hA 0 rfl rfl rfl hl.1 rfl (Nat.le_of_ble_eq_true rfl) dL_act_251 ⟨Nat.le_of_ble_eq_true rfl, Nat.le_of_ble_eq_true rfl⟩ (fun r_1030 σ_1031 H locs hw hW => ?_)
      refine lv_goto (tgt := 261) hx hb dL_act_254 (by decide) ?_
      exact sg_L_act_261 hx hb hml hts hown hK hA hret σ_1031 r_1030 _ _ _ hw hW (lv_sub hl [] rfl)
  have hw := hw.2 hs7
  by_cases hs8 : w_1004 = 8
  · have hw := hw.1 hs8
    refine lv_tableIn (tgt := 262) hx hb dL_act_50 (by rw [hs8]; decide) (by rw [hs8]; decide) (by rw [hs8]; rfl) (by decide) ?_
    refine lv_iload_n hx hb dL_act_262 rfl (lv_at hl 3 rfl) ?_
    refine lv_iconst (v := 3) hx hb dL_act_263 (by decide) ?_
    refine lv_iand hx hb dL_act_264 ?_
    refine lv_if_ne (tgt := 275) hx hb dL_act_265 (by decide) (fun hc => ?_) (fun hc => ?_)
    · have hw := hw.1 hc
      refine lv_aload_n hx hb dL_act_275 rfl (lv_at hl 1 rfl) ?_
      refine kV_Mi (As := []) (rest := []) ⟨hx, hb, hml, hown, hts⟩ (ok_X4_nextDay l D cI cJ a _ _ _ hw) (cwV 0 hts gL_act_X4_nextDay rfl rfl rfl (by decide +kernel) ⟨Nat.le_of_ble_eq_true rfl, Nat.le_of_ble_eq_true rfl⟩) hK hW hA 0 rfl rfl rfl hl.1 rfl (Nat.le_of_ble_eq_true rfl) dL_act_276 ⟨Nat.le_of_ble_eq_true rfl, Nat.le_of_ble_eq_true rfl⟩ (fun r_1032 σ_1033 H locs hw hW => ?_)
      exact sg_L_act_279 hx hb hml hts hown hK hA hret σ_1033 r_1032 _ _ _ hw hW (lv_sub hl [] rfl)
    · have hw := hw.2 hc
      refine lv_aload_n hx hb dL_act_268 rfl (lv_at hl 1 rfl) ?_
      refine kV_Mi (As := []) (rest := []) ⟨hx, hb, hml, hown, hts⟩ (ok_X4_goBack_n l D cI cJ a _ _ _ hw) (cwV 0 hts gL_act_X4_goBack rfl rfl rfl (by decide +kernel) ⟨Nat.le_of_ble_eq_true rfl, Nat.le_of_ble_eq_true rfl⟩) hK hW hA 0 rfl rfl rfl hl.1 rfl (Nat.le_of_ble_eq_true rfl) dL_act_269 ⟨Nat.le_of_ble_eq_true rfl, Nat.le_of_ble_eq_true rfl⟩ (fun r_1034 σ_1035 H locs hw hW => ?_)
      refine lv_goto (tgt := 279) hx hb dL_act_272 (by decide) ?_
      exact sg_L_act_279 hx hb hml hts hown hK hA hret σ_1035 r_1034 _ _ _ hw hW (lv_sub hl [] rfl)
  have hw := hw.2 hs8
  by_cases hs9 : w_1004 = 9
  · have hw := hw.1 hs9
    refine lv_tableIn (tgt := 280) hx hb dL_act_50 (by rw [hs9]; decide) (by rw [hs9]; decide) (by rw [hs9]; rfl) (by decide) ?_
    refine lv_aload_n hx hb dL_act_280 rfl (lv_at hl 1 rfl) ?_
    refine lv_iload hx hb dL_act_281 (lv_at hl 5 rfl) ?_
    refine lv_iconst (v := 2) hx hb dL_act_283 (by decide) ?_
    refine kV_Mi (As := [.int x4, .int 2]) (rest := []) ⟨hx, hb, hml, hown, hts⟩ (ok_X4_spot_n l D cI cJ a _ _ _ _ _ hw) (cwV 2 hts gL_act_X4_spot rfl rfl rfl (by decide +kernel) ⟨Nat.le_of_ble_eq_true rfl, Nat.le_of_ble_eq_true rfl⟩) hK hW hA 0 rfl rfl rfl hl.1 rfl (Nat.le_of_ble_eq_true rfl) dL_act_284 ⟨Nat.le_of_ble_eq_true rfl, Nat.le_of_ble_eq_true rfl⟩ (fun r_1036 _ H locs hw hW => ?_)
    refine lv_if_lt (tgt := 299) hx hb dL_act_287 (by decide) (fun hc => ?_) (fun hc => ?_)
    · have hw := hw.1 hc
      refine lv_aload_n hx hb dL_act_299 rfl (lv_at hl 1 rfl) ?_
      refine lv_iload_n hx hb dL_act_300 rfl (lv_at hl 4 rfl) ?_
      refine lv_iload hx hb dL_act_301 (lv_at hl 5 rfl) ?_
      refine lv_iload hx hb dL_act_303 (lv_at hl 0 rfl) ?_
      refine kV_Mi (As := [.int x3, .int x4, .int v5_1002]) (rest := []) ⟨hx, hb, hml, hown, hts⟩ (ok_X4_why_n l D cI cJ a _ _ _ _ _ _ hw) (cwV 3 hts gL_act_X4_why rfl rfl rfl (by decide +kernel) ⟨Nat.le_of_ble_eq_true rfl, Nat.le_of_ble_eq_true rfl⟩) hK hW hA 0 rfl rfl rfl hl.1 rfl (Nat.le_of_ble_eq_true rfl) dL_act_305 ⟨Nat.le_of_ble_eq_true rfl, Nat.le_of_ble_eq_true rfl⟩ (fun r_1037 _ H locs hw hW => ?_)
      refine lv_if_ne (tgt := 323) hx hb dL_act_308 (by decide) (fun hc => ?_) (fun hc => ?_)
      · have hw := hw.1 hc
        refine lv_aload_n hx hb dL_act_323 rfl (lv_at hl 1 rfl) ?_
        refine lv_iconst (v := 1) hx hb dL_act_324 (by decide) ?_
        refine kV_Mi (As := [.int 1]) (rest := []) ⟨hx, hb, hml, hown, hts⟩ (ok_X4_pause_n l D cI cJ a _ _ _ _ hw) (cwV 1 hts gL_act_X4_pause rfl rfl rfl (by decide +kernel) ⟨Nat.le_of_ble_eq_true rfl, Nat.le_of_ble_eq_true rfl⟩) hK hW hA 0 rfl rfl rfl hl.1 rfl (Nat.le_of_ble_eq_true rfl) dL_act_325 ⟨Nat.le_of_ble_eq_true rfl, Nat.le_of_ble_eq_true rfl⟩ (fun r_1038 σ_1039 H locs hw hW => ?_)
        exact sg_L_act_328 hx hb hml hts hown hK hA hret σ_1039 r_1038 _ _ _ hw hW (lv_sub hl [] rfl)
      · have hw := hw.2 hc
        refine lv_aload_n hx hb dL_act_311 rfl (lv_at hl 1 rfl) ?_
        refine lv_iload_n hx hb dL_act_312 rfl (lv_at hl 4 rfl) ?_
        refine lv_iload hx hb dL_act_313 (lv_at hl 5 rfl) ?_
        refine lv_iload hx hb dL_act_315 (lv_at hl 0 rfl) ?_
        refine kV_Mi (As := [.int x3, .int x4, .int v5_1002]) (rest := []) ⟨hx, hb, hml, hown, hts⟩ (ok_X4_bid_n l D cI cJ a _ _ _ _ _ _ hw) (cwV 3 hts gL_act_X4_bid rfl rfl rfl (by decide +kernel) ⟨Nat.le_of_ble_eq_true rfl, Nat.le_of_ble_eq_true rfl⟩) hK hW hA 0 rfl rfl rfl hl.1 rfl (Nat.le_of_ble_eq_true rfl) dL_act_317 ⟨Nat.le_of_ble_eq_true rfl, Nat.le_of_ble_eq_true rfl⟩ (fun r_1040 σ_1041 H locs hw hW => ?_)
        refine lv_goto (tgt := 328) hx hb dL_act_320 (by decide) ?_
        exact sg_L_act_328 hx hb hml hts hown hK hA hret σ_1041 r_1040 _ _ _ hw hW (lv_sub hl [] rfl)
    · have hw := hw.2 hc
      refine lv_aload_n hx hb dL_act_290 rfl (lv_at hl 1 rfl) ?_
      refine lv_iload hx hb dL_act_291 (lv_at hl 5 rfl) ?_
      refine kV_Mi (As := [.int x4]) (rest := []) ⟨hx, hb, hml, hown, hts⟩ (ok_X4_fish_n l D cI cJ a _ _ _ _ hw) (cwV 1 hts gL_act_X4_fish rfl rfl rfl (by decide +kernel) ⟨Nat.le_of_ble_eq_true rfl, Nat.le_of_ble_eq_true rfl⟩) hK hW hA 0 rfl rfl rfl hl.1 rfl (Nat.le_of_ble_eq_true rfl) dL_act_293 ⟨Nat.le_of_ble_eq_true rfl, Nat.le_of_ble_eq_true rfl⟩ (fun r_1042 σ_1043 H locs hw hW => ?_)
      refine lv_goto (tgt := 328) hx hb dL_act_296 (by decide) ?_
      exact sg_L_act_328 hx hb hml hts hown hK hA hret σ_1043 r_1042 _ _ _ hw hW (lv_sub hl [] rfl)
  have hw := hw.2 hs9
  by_cases hs10 : w_1004 = 10
  · have hw := hw.1 hs10
    refine lv_tableIn (tgt := 280) hx hb dL_act_50 (by rw [hs10]; decide) (by rw [hs10]; decide) (by rw [hs10]; rfl) (by decide) ?_
    refine lv_aload_n hx hb dL_act_280 rfl (lv_at hl 1 rfl) ?_
    refine lv_iload hx hb dL_act_281 (lv_at hl 5 rfl) ?_
    refine lv_iconst (v := 2) hx hb dL_act_283 (by decide) ?_
    refine kV_Mi (As := [.int x4, .int 2]) (rest := []) ⟨hx, hb, hml, hown, hts⟩ (ok_X4_spot_n l D cI cJ a _ _ _ _ _ hw) (cwV 2 hts gL_act_X4_spot rfl rfl rfl (by decide +kernel) ⟨Nat.le_of_ble_eq_true rfl, Nat.le_of_ble_eq_true rfl⟩) hK hW hA 0 rfl rfl rfl hl.1 rfl (Nat.le_of_ble_eq_true rfl) dL_act_284 ⟨Nat.le_of_ble_eq_true rfl, Nat.le_of_ble_eq_true rfl⟩ (fun r_1044 _ H locs hw hW => ?_)
    refine lv_if_lt (tgt := 299) hx hb dL_act_287 (by decide) (fun hc => ?_) (fun hc => ?_)
    · have hw := hw.1 hc
      refine lv_aload_n hx hb dL_act_299 rfl (lv_at hl 1 rfl) ?_
      refine lv_iload_n hx hb dL_act_300 rfl (lv_at hl 4 rfl) ?_
      refine lv_iload hx hb dL_act_301 (lv_at hl 5 rfl) ?_
      refine lv_iload hx hb dL_act_303 (lv_at hl 0 rfl) ?_
      refine kV_Mi (As := [.int x3, .int x4, .int v5_1002]) (rest := []) ⟨hx, hb, hml, hown, hts⟩ (ok_X4_why_n l D cI cJ a _ _ _ _ _ _ hw) (cwV 3 hts gL_act_X4_why rfl rfl rfl (by decide +kernel) ⟨Nat.le_of_ble_eq_true rfl, Nat.le_of_ble_eq_true rfl⟩) hK hW hA 0 rfl rfl rfl hl.1 rfl (Nat.le_of_ble_eq_true rfl) dL_act_305 ⟨Nat.le_of_ble_eq_true rfl, Nat.le_of_ble_eq_true rfl⟩ (fun r_1045 _ H locs hw hW => ?_)
      refine lv_if_ne (tgt := 323) hx hb dL_act_308 (by decide) (fun hc => ?_) (fun hc => ?_)
      · have hw := hw.1 hc
        refine lv_aload_n hx hb dL_act_323 rfl (lv_at hl 1 rfl) ?_
        refine lv_iconst (v := 1) hx hb dL_act_324 (by decide) ?_
        refine kV_Mi (As := [.int 1]) (rest := []) ⟨hx, hb, hml, hown, hts⟩ (ok_X4_pause_n l D cI cJ a _ _ _ _ hw) (cwV 1 hts gL_act_X4_pause rfl rfl rfl (by decide +kernel) ⟨Nat.le_of_ble_eq_true rfl, Nat.le_of_ble_eq_true rfl⟩) hK hW hA 0 rfl rfl rfl hl.1 rfl (Nat.le_of_ble_eq_true rfl) dL_act_325 ⟨Nat.le_of_ble_eq_true rfl, Nat.le_of_ble_eq_true rfl⟩ (fun r_1046 σ_1047 H locs hw hW => ?_)
        exact sg_L_act_328 hx hb hml hts hown hK hA hret σ_1047 r_1046 _ _ _ hw hW (lv_sub hl [] rfl)
      · have hw := hw.2 hc
        refine lv_aload_n hx hb dL_act_311 rfl (lv_at hl 1 rfl) ?_
        refine lv_iload_n hx hb dL_act_312 rfl (lv_at hl 4 rfl) ?_
        refine lv_iload hx hb dL_act_313 (lv_at hl 5 rfl) ?_
        refine lv_iload hx hb dL_act_315 (lv_at hl 0 rfl) ?_
        refine kV_Mi (As := [.int x3, .int x4, .int v5_1002]) (rest := []) ⟨hx, hb, hml, hown, hts⟩ (ok_X4_bid_n l D cI cJ a _ _ _ _ _ _ hw) (cwV 3 hts gL_act_X4_bid rfl rfl rfl (by decide +kernel) ⟨Nat.le_of_ble_eq_true rfl, Nat.le_of_ble_eq_true rfl⟩) hK hW hA 0 rfl rfl rfl hl.1 rfl (Nat.le_of_ble_eq_true rfl) dL_act_317 ⟨Nat.le_of_ble_eq_true rfl, Nat.le_of_ble_eq_true rfl⟩ (fun r_1048 σ_1049 H locs hw hW => ?_)
        refine lv_goto (tgt := 328) hx hb dL_act_320 (by decide) ?_
        exact sg_L_act_328 hx hb hml hts hown hK hA hret σ_1049 r_1048 _ _ _ hw hW (lv_sub hl [] rfl)
    · have hw := hw.2 hc
      refine lv_aload_n hx hb dL_act_290 rfl (lv_at hl 1 rfl) ?_
      refine lv_iload hx hb dL_act_291 (lv_at hl 5 rfl) ?_
      refine kV_Mi (As := [.int x4]) (rest := []) ⟨hx, hb, hml, hown, hts⟩ (ok_X4_fish_n l D cI cJ a _ _ _ _ hw) (cwV 1 hts gL_act_X4_fish rfl rfl rfl (by decide +kernel) ⟨Nat.le_of_ble_eq_true rfl, Nat.le_of_ble_eq_true rfl⟩) hK hW hA 0 rfl rfl rfl hl.1 rfl (Nat.le_of_ble_eq_true rfl) dL_act_293 ⟨Nat.le_of_ble_eq_true rfl, Nat.le_of_ble_eq_true rfl⟩ (fun r_1050 σ_1051 H locs hw hW => ?_)
      refine lv_goto (tgt := 328) hx hb dL_act_296 (by decide) ?_
      exact sg_L_act_328 hx hb hml hts hown hK hA hret σ_1051 r_1050 _ _ _ hw hW (lv_sub hl [] rfl)
  have hw := hw.2 hs10
  by_cases hs11 : w_1004 = 11
  · have hw := hw.1 hs11
    refine lv_tableIn (tgt := 280) hx hb dL_act_50 (by rw [hs11]; decide) (by rw [hs11]; decide) (by rw [hs11]; rfl) (by decide) ?_
    refine lv_aload_n hx hb dL_act_280 rfl (lv_at hl 1 rfl) ?_
    refine lv_iload hx hb dL_act_281 (lv_at hl 5 rfl) ?_
    refine lv_iconst (v := 2) hx hb dL_act_283 (by decide) ?_
    refine kV_Mi (As := [.int x4, .int 2]) (rest := []) ⟨hx, hb, hml, hown, hts⟩ (ok_X4_spot_n l D cI cJ a _ _ _ _ _ hw) (cwV 2 hts gL_act_X4_spot rfl rfl rfl (by decide +kernel) ⟨Nat.le_of_ble_eq_true rfl, Nat.le_of_ble_eq_true rfl⟩) hK hW hA 0 rfl rfl rfl hl.1 rfl (Nat.le_of_ble_eq_true rfl) dL_act_284 ⟨Nat.le_of_ble_eq_true rfl, Nat.le_of_ble_eq_true rfl⟩ (fun r_1052 _ H locs hw hW => ?_)
    refine lv_if_lt (tgt := 299) hx hb dL_act_287 (by decide) (fun hc => ?_) (fun hc => ?_)
    · have hw := hw.1 hc
      refine lv_aload_n hx hb dL_act_299 rfl (lv_at hl 1 rfl) ?_
      refine lv_iload_n hx hb dL_act_300 rfl (lv_at hl 4 rfl) ?_
      refine lv_iload hx hb dL_act_301 (lv_at hl 5 rfl) ?_
      refine lv_iload hx hb dL_act_303 (lv_at hl 0 rfl) ?_
      refine kV_Mi (As := [.int x3, .int x4, .int v5_1002]) (rest := []) ⟨hx, hb, hml, hown, hts⟩ (ok_X4_why_n l D cI cJ a _ _ _ _ _ _ hw) (cwV 3 hts gL_act_X4_why rfl rfl rfl (by decide +kernel) ⟨Nat.le_of_ble_eq_true rfl, Nat.le_of_ble_eq_true rfl⟩) hK hW hA 0 rfl rfl rfl hl.1 rfl (Nat.le_of_ble_eq_true rfl) dL_act_305 ⟨Nat.le_of_ble_eq_true rfl, Nat.le_of_ble_eq_true rfl⟩ (fun r_1053 _ H locs hw hW => ?_)
      refine lv_if_ne (tgt := 323) hx hb dL_act_308 (by decide) (fun hc => ?_) (fun hc => ?_)
      · have hw := hw.1 hc
        refine lv_aload_n hx hb dL_act_323 rfl (lv_at hl 1 rfl) ?_
        refine lv_iconst (v := 1) hx hb dL_act_324 (by decide) ?_
        refine kV_Mi (As := [.int 1]) (rest := []) ⟨hx, hb, hml, hown, hts⟩ (ok_X4_pause_n l D cI cJ a _ _ _ _ hw) (cwV 1 hts gL_act_X4_pause rfl rfl rfl (by decide +kernel) ⟨Nat.le_of_ble_eq_true rfl, Nat.le_of_ble_eq_true rfl⟩) hK hW hA 0 rfl rfl rfl hl.1 rfl (Nat.le_of_ble_eq_true rfl) dL_act_325 ⟨Nat.le_of_ble_eq_true rfl, Nat.le_of_ble_eq_true rfl⟩ (fun r_1054 σ_1055 H locs hw hW => ?_)
        exact sg_L_act_328 hx hb hml hts hown hK hA hret σ_1055 r_1054 _ _ _ hw hW (lv_sub hl [] rfl)
      · have hw := hw.2 hc
        refine lv_aload_n hx hb dL_act_311 rfl (lv_at hl 1 rfl) ?_
        refine lv_iload_n hx hb dL_act_312 rfl (lv_at hl 4 rfl) ?_
        refine lv_iload hx hb dL_act_313 (lv_at hl 5 rfl) ?_
        refine lv_iload hx hb dL_act_315 (lv_at hl 0 rfl) ?_
        refine kV_Mi (As := [.int x3, .int x4, .int v5_1002]) (rest := []) ⟨hx, hb, hml, hown, hts⟩ (ok_X4_bid_n l D cI cJ a _ _ _ _ _ _ hw) (cwV 3 hts gL_act_X4_bid rfl rfl rfl (by decide +kernel) ⟨Nat.le_of_ble_eq_true rfl, Nat.le_of_ble_eq_true rfl⟩) hK hW hA 0 rfl rfl rfl hl.1 rfl (Nat.le_of_ble_eq_true rfl) dL_act_317 ⟨Nat.le_of_ble_eq_true rfl, Nat.le_of_ble_eq_true rfl⟩ (fun r_1056 σ_1057 H locs hw hW => ?_)
        refine lv_goto (tgt := 328) hx hb dL_act_320 (by decide) ?_
        exact sg_L_act_328 hx hb hml hts hown hK hA hret σ_1057 r_1056 _ _ _ hw hW (lv_sub hl [] rfl)
    · have hw := hw.2 hc
      refine lv_aload_n hx hb dL_act_290 rfl (lv_at hl 1 rfl) ?_
      refine lv_iload hx hb dL_act_291 (lv_at hl 5 rfl) ?_
      refine kV_Mi (As := [.int x4]) (rest := []) ⟨hx, hb, hml, hown, hts⟩ (ok_X4_fish_n l D cI cJ a _ _ _ _ hw) (cwV 1 hts gL_act_X4_fish rfl rfl rfl (by decide +kernel) ⟨Nat.le_of_ble_eq_true rfl, Nat.le_of_ble_eq_true rfl⟩) hK hW hA 0 rfl rfl rfl hl.1 rfl (Nat.le_of_ble_eq_true rfl) dL_act_293 ⟨Nat.le_of_ble_eq_true rfl, Nat.le_of_ble_eq_true rfl⟩ (fun r_1058 σ_1059 H locs hw hW => ?_)
      refine lv_goto (tgt := 328) hx hb dL_act_296 (by decide) ?_
      exact sg_L_act_328 hx hb hml hts hown hK hA hret σ_1059 r_1058 _ _ _ hw hW (lv_sub hl [] rfl)
  have hw := hw.2 hs11
  refine lv_tableOut (tgt := 329) hx hb dL_act_50 (by have q0 := lv_neT hs0 (a := 0) (by decide); have q1 := lv_neT hs1 (a := 1) (by decide); have q2 := lv_neT hs2 (a := 2) (by decide); have q3 := lv_neT hs3 (a := 3) (by decide); have q4 := lv_neT hs4 (a := 4) (by decide); have q5 := lv_neT hs5 (a := 5) (by decide); have q6 := lv_neT hs6 (a := 6) (by decide); have q7 := lv_neT hs7 (a := 7) (by decide); have q8 := lv_neT hs8 (a := 8) (by decide); have q9 := lv_neT hs9 (a := 9) (by decide); have q10 := lv_neT hs10 (a := 10) (by decide); have q11 := lv_neT hs11 (a := 11) (by decide); omega) (by decide) ?_
  refine lv_aload_n hx hb dL_act_329 rfl (lv_at hl 1 rfl) ?_
  refine lv_iload_n hx hb dL_act_330 rfl (lv_at hl 4 rfl) ?_
  refine lv_iload hx hb dL_act_331 (lv_at hl 5 rfl) ?_
  refine lv_iload hx hb dL_act_333 (lv_at hl 0 rfl) ?_
  refine kV_Mi (As := [.int x3, .int x4, .int v5_1002]) (rest := []) ⟨hx, hb, hml, hown, hts⟩ (ok_X4_why_n l D cI cJ a _ _ _ _ _ _ hw) (cwV 3 hts gL_act_X4_why rfl rfl rfl (by decide +kernel) ⟨Nat.le_of_ble_eq_true rfl, Nat.le_of_ble_eq_true rfl⟩) hK hW hA 0 rfl rfl rfl hl.1 rfl (Nat.le_of_ble_eq_true rfl) dL_act_335 ⟨Nat.le_of_ble_eq_true rfl, Nat.le_of_ble_eq_true rfl⟩ (fun r_1060 _ H locs hw hW => ?_)
  refine lv_if_ne (tgt := 353) hx hb dL_act_338 (by decide) (fun hc => ?_) (fun hc => ?_)
  · have hw := hw.1 hc
    refine lv_aload_n hx hb dL_act_353 rfl (lv_at hl 1 rfl) ?_
    refine lv_iconst (v := 2) hx hb dL_act_354 (by decide) ?_
    refine kV_Mi (As := [.int 2]) (rest := []) ⟨hx, hb, hml, hown, hts⟩ (ok_X4_count_n l D cI cJ a _ _ _ _ hw) (cwV 1 hts gL_act_X4_count rfl rfl rfl (by decide +kernel) ⟨Nat.le_of_ble_eq_true rfl, Nat.le_of_ble_eq_true rfl⟩) hK hW hA 0 rfl rfl rfl hl.1 rfl (Nat.le_of_ble_eq_true rfl) dL_act_355 ⟨Nat.le_of_ble_eq_true rfl, Nat.le_of_ble_eq_true rfl⟩ (fun r_1061 _ H locs hw hW => ?_)
    refine lv_iconst (v := 1) hx hb dL_act_358 (by decide) ?_
    refine lv_icmp_ne (tgt := 369) hx hb dL_act_359 (by decide) (fun hc => ?_) (fun hc => ?_)
    · have hw := hw.1 hc
      refine lv_aload_n hx hb dL_act_369 rfl (lv_at hl 1 rfl) ?_
      refine lv_iconst (v := 1) hx hb dL_act_370 (by decide) ?_
      refine kV_Mi (As := [.int 1]) (rest := []) ⟨hx, hb, hml, hown, hts⟩ (ok_X4_pause_n l D cI cJ a _ _ _ _ hw) (cwV 1 hts gL_act_X4_pause rfl rfl rfl (by decide +kernel) ⟨Nat.le_of_ble_eq_true rfl, Nat.le_of_ble_eq_true rfl⟩) hK hW hA 0 rfl rfl rfl hl.1 rfl (Nat.le_of_ble_eq_true rfl) dL_act_371 ⟨Nat.le_of_ble_eq_true rfl, Nat.le_of_ble_eq_true rfl⟩ (fun r_1062 σ_1063 H locs hw hW => ?_)
      exact sg_L_act_374 hx hb hml hts hown hK hA hret σ_1063 r_1062 _ _ _ hw hW (lv_sub hl [] rfl)
    · have hw := hw.2 hc
      refine lv_aload_n hx hb dL_act_362 rfl (lv_at hl 1 rfl) ?_
      refine kV_Mi (As := []) (rest := []) ⟨hx, hb, hml, hown, hts⟩ (ok_X4_nextDay l D cI cJ a _ _ _ hw) (cwV 0 hts gL_act_X4_nextDay rfl rfl rfl (by decide +kernel) ⟨Nat.le_of_ble_eq_true rfl, Nat.le_of_ble_eq_true rfl⟩) hK hW hA 0 rfl rfl rfl hl.1 rfl (Nat.le_of_ble_eq_true rfl) dL_act_363 ⟨Nat.le_of_ble_eq_true rfl, Nat.le_of_ble_eq_true rfl⟩ (fun r_1064 σ_1065 H locs hw hW => ?_)
      refine lv_goto (tgt := 374) hx hb dL_act_366 (by decide) ?_
      exact sg_L_act_374 hx hb hml hts hown hK hA hret σ_1065 r_1064 _ _ _ hw hW (lv_sub hl [] rfl)
  · have hw := hw.2 hc
    refine lv_aload_n hx hb dL_act_341 rfl (lv_at hl 1 rfl) ?_
    refine lv_iload_n hx hb dL_act_342 rfl (lv_at hl 4 rfl) ?_
    refine lv_iload hx hb dL_act_343 (lv_at hl 5 rfl) ?_
    refine lv_iload hx hb dL_act_345 (lv_at hl 0 rfl) ?_
    refine kV_Mi (As := [.int x3, .int x4, .int v5_1002]) (rest := []) ⟨hx, hb, hml, hown, hts⟩ (ok_X4_bid_n l D cI cJ a _ _ _ _ _ _ hw) (cwV 3 hts gL_act_X4_bid rfl rfl rfl (by decide +kernel) ⟨Nat.le_of_ble_eq_true rfl, Nat.le_of_ble_eq_true rfl⟩) hK hW hA 0 rfl rfl rfl hl.1 rfl (Nat.le_of_ble_eq_true rfl) dL_act_347 ⟨Nat.le_of_ble_eq_true rfl, Nat.le_of_ble_eq_true rfl⟩ (fun r_1066 σ_1067 H locs hw hW => ?_)
    refine lv_goto (tgt := 374) hx hb dL_act_350 (by decide) ?_
    exact sg_L_act_374 hx hb hml hts hown hK hA hret σ_1067 r_1066 _ _ _ hw hW (lv_sub hl [] rfl)
def wp_L_act (σ : CS) (p2 : Int32) (p3 : Int32) (post : Int32 → CS → Prop) : Prop := wp_L_up p3 6 (fun r_1 => wp_L_up (p3 >>> (3 &&& 31)) 6 (fun r_2 => ((¬ ((p3 >>> (15 &&& 31)) &&& 1) = 0 → wps_L_act_38 σ p2 p3 r_1 r_2 40 (p3 >>> (6 &&& 31)) 1 post) ∧ (((p3 >>> (15 &&& 31)) &&& 1) = 0 → wps_L_act_38 σ p2 p3 r_1 r_2 99 (p3 >>> (6 &&& 31)) 1 post))))
set_option maxHeartbeats 4000000 in
set_option maxRecDepth 100000 in
theorem ok_L_act (l : Launch) (D : va_G) (cI cJ : ClassId) (a : Nat → Nat) (sz : Nat) (σ : CS) (p2 : Int32) (p3 : Int32) (post : Int32 → CS → Prop) (hw : wp_L_act σ p2 p3 post) : Mi l yL_act wsL_act rm_L_act [.ref (a 0), .int p2, .int p3] D (tysIJ cI cJ) (cW cI cJ a σ) sz post (cW cI cJ a) := by
  refine s_Mi (by decide) rfl (Nat.le_of_ble_eq_true rfl) ?_
  intro p e s m args below meth c A Q hx hb hml hts hown hin hK hA hret H locs ls hW hl
  have hown : s.vm.findClass RL = some m.cls := hown
  have hl : lv_has ls 7 [(0, .ref (a 0)), (1, .int p2), (2, .int p3)] := hl
  refine lv_iload_n hx hb dL_act_0 rfl (lv_at hl 2 rfl) ?_
  refine lv_bipush (v := 6) hx hb dL_act_1 (by decide) ?_
  refine kS_Pi (As := [.int p3, .int 6]) (rest := []) ⟨hx, hb, hml, hown, hts⟩ (ok_L_up l _ _ _ hw) (va_cwS 2 hts gL_act_L_up rfl rfl rfl (by decide +kernel) ⟨Nat.le_of_ble_eq_true rfl, Nat.le_of_ble_eq_true rfl⟩) hW.2.2 rfl hl.1 rfl (Nat.le_of_ble_eq_true rfl) dL_act_3 ⟨Nat.le_of_ble_eq_true rfl, Nat.le_of_ble_eq_true rfl⟩ (fun r_1 H locs hw hk hS => ?_)
  have hW := hW.kept hk hS
  refine lv_istore_n (lv' := [(3, .int r_1), (0, .ref (a 0)), (1, .int p2), (2, .int p3)]) hx hb dL_act_6 rfl hl (by decide) rfl (fun ls hl => ?_)
  refine lv_iload_n hx hb dL_act_7 rfl (lv_at hl 3 rfl) ?_
  refine lv_iconst (v := 3) hx hb dL_act_8 (by decide) ?_
  refine lv_ishr hx hb dL_act_9 ?_
  refine lv_bipush (v := 6) hx hb dL_act_10 (by decide) ?_
  refine kS_Pi (As := [.int (p3 >>> (3 &&& 31)), .int 6]) (rest := []) ⟨hx, hb, hml, hown, hts⟩ (ok_L_up l _ _ _ hw) (va_cwS 2 hts gL_act_L_up rfl rfl rfl (by decide +kernel) ⟨Nat.le_of_ble_eq_true rfl, Nat.le_of_ble_eq_true rfl⟩) hW.2.2 rfl hl.1 rfl (Nat.le_of_ble_eq_true rfl) dL_act_12 ⟨Nat.le_of_ble_eq_true rfl, Nat.le_of_ble_eq_true rfl⟩ (fun r_2 H locs hw hk hS => ?_)
  have hW := hW.kept hk hS
  refine lv_istore (lv' := [(4, .int r_2), (3, .int r_1), (0, .ref (a 0)), (1, .int p2), (2, .int p3)]) hx hb dL_act_15 hl (by decide) rfl (fun ls hl => ?_)
  refine lv_iconst (v := 1) hx hb dL_act_17 (by decide) ?_
  refine lv_iload_n hx hb dL_act_18 rfl (lv_at hl 4 rfl) ?_
  refine lv_bipush (v := 6) hx hb dL_act_19 (by decide) ?_
  refine lv_ishr hx hb dL_act_21 ?_
  refine lv_iload_n hx hb dL_act_22 rfl (lv_at hl 4 rfl) ?_
  refine lv_bipush (v := 15) hx hb dL_act_23 (by decide) ?_
  refine lv_ishr hx hb dL_act_25 ?_
  refine lv_iconst (v := 1) hx hb dL_act_26 (by decide) ?_
  refine lv_iand hx hb dL_act_27 ?_
  refine lv_if_ne (tgt := 36) hx hb dL_act_28 (by decide) (fun hc => ?_) (fun hc => ?_)
  · have hw := hw.1 hc
    refine lv_bipush (v := 40) hx hb dL_act_36 (by decide) ?_
    exact sg_L_act_38 hx hb hml hts hown hK hA hret σ p2 p3 r_1 r_2 40 (p3 >>> (6 &&& 31)) 1 _ _ _ hw hW (lv_sub hl [2, 3, 4, 1, 0] rfl)
  · have hw := hw.2 hc
    refine lv_bipush (v := 99) hx hb dL_act_31 (by decide) ?_
    refine lv_goto (tgt := 38) hx hb dL_act_33 (by decide) ?_
    exact sg_L_act_38 hx hb hml hts hown hK hA hret σ p2 p3 r_1 r_2 99 (p3 >>> (6 &&& 31)) 1 _ _ _ hw hW (lv_sub hl [2, 3, 4, 1, 0] rfl)
