abbrev rm_L_isAhead : Room := { frames := 11, cells := 0, slots := 0, locals := 460 }
def wps_L_isAhead_708 (σ : CS) (t0 : Int32) (post : Int32 → CS → Prop) : Prop := (narrow .boolean (.int t0) = .int t0 ∧ post t0 σ)
set_option maxHeartbeats 4000000 in
set_option maxRecDepth 100000 in
theorem sg_L_isAhead_708 {p : Program} {l : Launch} {e : Env} {s : State} {m : MethodId} {args : Array Value} {below : List Frame} {meth : Method} {c : Code} {A : Nat → Prop} {Q : State → Prop} {D : va_G} {cI cJ : ClassId} {a : Nat → Nat} {post : Int32 → CS → Prop} (hx : p.tables.exec = Jvm.exec) (hb : c.code = cL_isAhead) (hml : c.maxLocals = 14) (hts : ∀ w ∈ wsL_isAhead, w.before args s = true) (hown : s.vm.findClass RL = some m.cls) (hK : va_K D vwCl (tysIJ cI cJ) s) (hA : ∀ q : Nat, s.heap.size ≤ q → A q) (hret : ∀ (v : Int32) (u : CS) (H : Heap) (locs : List Loc) (pc : Nat) (ls : Array Slot), narrow .boolean (.int v) = .int v → post v u → Wd D A s.heap (cW cI cJ a u) H locs → decode cL_isAhead pc = .ok (.ireturn, 1) → W p l e rm_L_isAhead s m args below meth c H locs 0 0 Q (F0 m pc ls [.int v])) (σ : CS) (t0 : Int32) (H : Heap) (locs : List Loc) (ls : Array Slot) (hw : wps_L_isAhead_708 σ t0 post) (hW : Wd D A s.heap (cW cI cJ a σ) H locs) (hl : lv_has ls 14 []) : W p l e rm_L_isAhead s m args below meth c H locs 0 0 Q (F0 m 708 ls [.int t0]) := by
  exact hret _ σ _ _ _ _ hw.1 hw.2 hW dL_isAhead_708
def wps_L_isAhead_707 (σ : CS)  (post : Int32 → CS → Prop) : Prop := wps_L_isAhead_708 σ 0 post
set_option maxHeartbeats 4000000 in
set_option maxRecDepth 100000 in
theorem sg_L_isAhead_707 {p : Program} {l : Launch} {e : Env} {s : State} {m : MethodId} {args : Array Value} {below : List Frame} {meth : Method} {c : Code} {A : Nat → Prop} {Q : State → Prop} {D : va_G} {cI cJ : ClassId} {a : Nat → Nat} {post : Int32 → CS → Prop} (hx : p.tables.exec = Jvm.exec) (hb : c.code = cL_isAhead) (hml : c.maxLocals = 14) (hts : ∀ w ∈ wsL_isAhead, w.before args s = true) (hown : s.vm.findClass RL = some m.cls) (hK : va_K D vwCl (tysIJ cI cJ) s) (hA : ∀ q : Nat, s.heap.size ≤ q → A q) (hret : ∀ (v : Int32) (u : CS) (H : Heap) (locs : List Loc) (pc : Nat) (ls : Array Slot), narrow .boolean (.int v) = .int v → post v u → Wd D A s.heap (cW cI cJ a u) H locs → decode cL_isAhead pc = .ok (.ireturn, 1) → W p l e rm_L_isAhead s m args below meth c H locs 0 0 Q (F0 m pc ls [.int v])) (σ : CS)  (H : Heap) (locs : List Loc) (ls : Array Slot) (hw : wps_L_isAhead_707 σ  post) (hW : Wd D A s.heap (cW cI cJ a σ) H locs) (hl : lv_has ls 14 []) : W p l e rm_L_isAhead s m args below meth c H locs 0 0 Q (F0 m 707 ls []) := by
  refine lv_iconst (v := 0) hx hb dL_isAhead_707 (by decide) ?_
  exact sg_L_isAhead_708 hx hb hml hts hown hK hA hret σ 0 _ _ _ hw hW (lv_sub hl [] rfl)
def wps_L_isAhead_686 (σ : CS) (x4 : Int64) (t0 : Int32) (post : Int32 → CS → Prop) : Prop := ((t0 = 0 → wps_L_isAhead_707 σ post) ∧ (¬ t0 = 0 → wp_L_looks σ (fun r_24001 => ((¬ (lg_cmp r_24001 x4) = 0 → wps_L_isAhead_707 σ post) ∧ ((lg_cmp r_24001 x4) = 0 → wps_L_isAhead_708 σ 1 post)))))
set_option maxHeartbeats 4000000 in
set_option maxRecDepth 100000 in
theorem sg_L_isAhead_686 {p : Program} {l : Launch} {e : Env} {s : State} {m : MethodId} {args : Array Value} {below : List Frame} {meth : Method} {c : Code} {A : Nat → Prop} {Q : State → Prop} {D : va_G} {cI cJ : ClassId} {a : Nat → Nat} {post : Int32 → CS → Prop} (hx : p.tables.exec = Jvm.exec) (hb : c.code = cL_isAhead) (hml : c.maxLocals = 14) (hts : ∀ w ∈ wsL_isAhead, w.before args s = true) (hown : s.vm.findClass RL = some m.cls) (hK : va_K D vwCl (tysIJ cI cJ) s) (hA : ∀ q : Nat, s.heap.size ≤ q → A q) (hret : ∀ (v : Int32) (u : CS) (H : Heap) (locs : List Loc) (pc : Nat) (ls : Array Slot), narrow .boolean (.int v) = .int v → post v u → Wd D A s.heap (cW cI cJ a u) H locs → decode cL_isAhead pc = .ok (.ireturn, 1) → W p l e rm_L_isAhead s m args below meth c H locs 0 0 Q (F0 m pc ls [.int v])) (σ : CS) (x4 : Int64) (t0 : Int32) (H : Heap) (locs : List Loc) (ls : Array Slot) (hw : wps_L_isAhead_686 σ x4 t0 post) (hW : Wd D A s.heap (cW cI cJ a σ) H locs) (hl : lv_has ls 14 [(0, .ref (a 0)), (4, .long x4)]) : W p l e rm_L_isAhead s m args below meth c H locs 0 0 Q (F0 m 686 ls [.int t0]) := by
  refine lv_istore (lv' := [(7, .int t0), (0, .ref (a 0)), (4, .long x4)]) hx hb dL_isAhead_686 hl (by decide) rfl (fun ls hl => ?_)
  refine lv_iload hx hb dL_isAhead_688 (lv_at hl 0 rfl) ?_
  refine lv_if_eq (tgt := 707) hx hb dL_isAhead_690 (by decide) (fun hc => ?_) (fun hc => ?_)
  · have hw := hw.1 hc
    exact sg_L_isAhead_707 hx hb hml hts hown hK hA hret σ _ _ _ hw hW (lv_sub hl [] rfl)
  · have hw := hw.2 hc
    refine lv_aload_n hx hb dL_isAhead_693 rfl (lv_at hl 1 rfl) ?_
    refine kS_Ml (As := [.ref (a 0)]) (rest := []) ⟨hx, hb, hml, hown, hts⟩ (ok_L_looks l D cI cJ a _ _ _ hw) (va_cwS 1 hts gL_isAhead_L_looks rfl rfl rfl (by decide +kernel) ⟨Nat.le_of_ble_eq_true rfl, Nat.le_of_ble_eq_true rfl⟩) hK hW hA rfl hl.1 rfl (Nat.le_of_ble_eq_true rfl) dL_isAhead_694 ⟨Nat.le_of_ble_eq_true rfl, Nat.le_of_ble_eq_true rfl⟩ (fun r_24001 _ H locs hw hW => ?_)
    refine lv_lload hx hb dL_isAhead_697 (lv_at hl 2 rfl) ?_
    refine W.lcmp hx hb dL_isAhead_699 ?_
    refine lv_if_ne (tgt := 707) hx hb dL_isAhead_700 (by decide) (fun hc => ?_) (fun hc => ?_)
    · have hw := hw.1 hc
      exact sg_L_isAhead_707 hx hb hml hts hown hK hA hret σ _ _ _ hw hW (lv_sub hl [] rfl)
    · have hw := hw.2 hc
      refine lv_iconst (v := 1) hx hb dL_isAhead_703 (by decide) ?_
      refine lv_goto (tgt := 708) hx hb dL_isAhead_704 (by decide) ?_
      exact sg_L_isAhead_708 hx hb hml hts hown hK hA hret σ 1 _ _ _ hw hW (lv_sub hl [] rfl)
def wps_L_isAhead_685 (σ : CS) (x4 : Int64) (post : Int32 → CS → Prop) : Prop := wps_L_isAhead_686 σ x4 0 post
set_option maxHeartbeats 4000000 in
set_option maxRecDepth 100000 in
theorem sg_L_isAhead_685 {p : Program} {l : Launch} {e : Env} {s : State} {m : MethodId} {args : Array Value} {below : List Frame} {meth : Method} {c : Code} {A : Nat → Prop} {Q : State → Prop} {D : va_G} {cI cJ : ClassId} {a : Nat → Nat} {post : Int32 → CS → Prop} (hx : p.tables.exec = Jvm.exec) (hb : c.code = cL_isAhead) (hml : c.maxLocals = 14) (hts : ∀ w ∈ wsL_isAhead, w.before args s = true) (hown : s.vm.findClass RL = some m.cls) (hK : va_K D vwCl (tysIJ cI cJ) s) (hA : ∀ q : Nat, s.heap.size ≤ q → A q) (hret : ∀ (v : Int32) (u : CS) (H : Heap) (locs : List Loc) (pc : Nat) (ls : Array Slot), narrow .boolean (.int v) = .int v → post v u → Wd D A s.heap (cW cI cJ a u) H locs → decode cL_isAhead pc = .ok (.ireturn, 1) → W p l e rm_L_isAhead s m args below meth c H locs 0 0 Q (F0 m pc ls [.int v])) (σ : CS) (x4 : Int64) (H : Heap) (locs : List Loc) (ls : Array Slot) (hw : wps_L_isAhead_685 σ x4 post) (hW : Wd D A s.heap (cW cI cJ a σ) H locs) (hl : lv_has ls 14 [(0, .ref (a 0)), (4, .long x4)]) : W p l e rm_L_isAhead s m args below meth c H locs 0 0 Q (F0 m 685 ls []) := by
  refine lv_iconst (v := 0) hx hb dL_isAhead_685 (by decide) ?_
  exact sg_L_isAhead_686 hx hb hml hts hown hK hA hret σ x4 0 _ _ _ hw hW (lv_sub hl [0, 1] rfl)
def wps_L_isAhead_681 (σ : CS) (x4 : Int64) (post : Int32 → CS → Prop) : Prop := wps_L_isAhead_686 σ x4 1 post
set_option maxHeartbeats 4000000 in
set_option maxRecDepth 100000 in
theorem sg_L_isAhead_681 {p : Program} {l : Launch} {e : Env} {s : State} {m : MethodId} {args : Array Value} {below : List Frame} {meth : Method} {c : Code} {A : Nat → Prop} {Q : State → Prop} {D : va_G} {cI cJ : ClassId} {a : Nat → Nat} {post : Int32 → CS → Prop} (hx : p.tables.exec = Jvm.exec) (hb : c.code = cL_isAhead) (hml : c.maxLocals = 14) (hts : ∀ w ∈ wsL_isAhead, w.before args s = true) (hown : s.vm.findClass RL = some m.cls) (hK : va_K D vwCl (tysIJ cI cJ) s) (hA : ∀ q : Nat, s.heap.size ≤ q → A q) (hret : ∀ (v : Int32) (u : CS) (H : Heap) (locs : List Loc) (pc : Nat) (ls : Array Slot), narrow .boolean (.int v) = .int v → post v u → Wd D A s.heap (cW cI cJ a u) H locs → decode cL_isAhead pc = .ok (.ireturn, 1) → W p l e rm_L_isAhead s m args below meth c H locs 0 0 Q (F0 m pc ls [.int v])) (σ : CS) (x4 : Int64) (H : Heap) (locs : List Loc) (ls : Array Slot) (hw : wps_L_isAhead_681 σ x4 post) (hW : Wd D A s.heap (cW cI cJ a σ) H locs) (hl : lv_has ls 14 [(0, .ref (a 0)), (4, .long x4)]) : W p l e rm_L_isAhead s m args below meth c H locs 0 0 Q (F0 m 681 ls []) := by
  refine lv_iconst (v := 1) hx hb dL_isAhead_681 (by decide) ?_
  refine lv_goto (tgt := 686) hx hb dL_isAhead_682 (by decide) ?_
  exact sg_L_isAhead_686 hx hb hml hts hown hK hA hret σ x4 1 _ _ _ hw hW (lv_sub hl [0, 1] rfl)
def wps_L_isAhead_617 (σ : CS) (x1 : Int32) (x2 : Int32) (x3 : Int32) (x4 : Int64) (x9 : Int32) (x10 : Int32) (post : Int32 → CS → Prop) : Prop := ((0 ≤ x9 → wp_X4_ifBid σ x1 x2 x9 0 (fun r_21001 σ_21002 => ((¬ r_21001 = x2 → wps_L_isAhead_685 σ_21002 x4 post) ∧ (r_21001 = x2 → ((x3 ≤ x9 → ((x3 = x9 → wps_L_isAhead_681 σ_21002 x4 post) ∧ (¬ x3 = x9 → ((x10 = x2 → wps_L_isAhead_685 σ_21002 x4 post) ∧ (¬ x10 = x2 → wps_L_isAhead_681 σ_21002 x4 post))))) ∧ (¬ x3 ≤ x9 → wp_X4_bidder σ_21002 x1 0 (fun r_21003 => ((r_21003 < x3 → wps_L_isAhead_681 σ_21002 x4 post) ∧ (¬ r_21003 < x3 → ((¬ x10 = x2 → wps_L_isAhead_685 σ_21002 x4 post) ∧ (x10 = x2 → wps_L_isAhead_681 σ_21002 x4 post))))) (fun _ => False)))))) (fun _ => False)) ∧ (¬ 0 ≤ x9 → ((x10 = x2 → wps_L_isAhead_685 σ x4 post) ∧ (¬ x10 = x2 → wps_L_isAhead_681 σ x4 post))))
set_option maxHeartbeats 4000000 in
set_option maxRecDepth 100000 in
theorem sg_L_isAhead_617 {p : Program} {l : Launch} {e : Env} {s : State} {m : MethodId} {args : Array Value} {below : List Frame} {meth : Method} {c : Code} {A : Nat → Prop} {Q : State → Prop} {D : va_G} {cI cJ : ClassId} {a : Nat → Nat} {post : Int32 → CS → Prop} (hx : p.tables.exec = Jvm.exec) (hb : c.code = cL_isAhead) (hml : c.maxLocals = 14) (hts : ∀ w ∈ wsL_isAhead, w.before args s = true) (hown : s.vm.findClass RL = some m.cls) (hK : va_K D vwCl (tysIJ cI cJ) s) (hA : ∀ q : Nat, s.heap.size ≤ q → A q) (hret : ∀ (v : Int32) (u : CS) (H : Heap) (locs : List Loc) (pc : Nat) (ls : Array Slot), narrow .boolean (.int v) = .int v → post v u → Wd D A s.heap (cW cI cJ a u) H locs → decode cL_isAhead pc = .ok (.ireturn, 1) → W p l e rm_L_isAhead s m args below meth c H locs 0 0 Q (F0 m pc ls [.int v])) (σ : CS) (x1 : Int32) (x2 : Int32) (x3 : Int32) (x4 : Int64) (x9 : Int32) (x10 : Int32) (H : Heap) (locs : List Loc) (ls : Array Slot) (hw : wps_L_isAhead_617 σ x1 x2 x3 x4 x9 x10 post) (hW : Wd D A s.heap (cW cI cJ a σ) H locs) (hl : lv_has ls 14 [(0, .ref (a 0)), (1, .int x1), (2, .int x2), (3, .int x3), (4, .long x4), (9, .int x9), (10, .int x10)]) : W p l e rm_L_isAhead s m args below meth c H locs 0 0 Q (F0 m 617 ls []) := by
  refine lv_iload hx hb dL_isAhead_617 (lv_at hl 5 rfl) ?_
  refine lv_if_ge (tgt := 631) hx hb dL_isAhead_619 (by decide) (fun hc => ?_) (fun hc => ?_)
  · have hw := hw.1 hc
    refine lv_aload_n hx hb dL_isAhead_631 rfl (lv_at hl 0 rfl) ?_
    refine lv_iload_n hx hb dL_isAhead_632 rfl (lv_at hl 1 rfl) ?_
    refine lv_iload_n hx hb dL_isAhead_633 rfl (lv_at hl 2 rfl) ?_
    refine lv_iload hx hb dL_isAhead_634 (lv_at hl 5 rfl) ?_
    refine lv_iconst (v := 0) hx hb dL_isAhead_636 (by decide) ?_
    refine kV_Mi (As := [.int x1, .int x2, .int x9, .int 0]) (rest := []) ⟨hx, hb, hml, hown, hts⟩ (ok_X4_ifBid_n l D cI cJ a _ _ _ _ _ _ _ hw) (cwV 4 hts gL_isAhead_X4_ifBid rfl rfl rfl (by decide +kernel) ⟨Nat.le_of_ble_eq_true rfl, Nat.le_of_ble_eq_true rfl⟩) hK hW hA 0 rfl rfl rfl hl.1 rfl (Nat.le_of_ble_eq_true rfl) dL_isAhead_637 ⟨Nat.le_of_ble_eq_true rfl, Nat.le_of_ble_eq_true rfl⟩ (fun r_21001 σ_21002 H locs hw hW => ?_)
    refine lv_iload_n hx hb dL_isAhead_640 rfl (lv_at hl 2 rfl) ?_
    refine lv_icmp_ne (tgt := 685) hx hb dL_isAhead_641 (by decide) (fun hc => ?_) (fun hc => ?_)
    · have hw := hw.1 hc
      exact sg_L_isAhead_685 hx hb hml hts hown hK hA hret σ_21002 x4 _ _ _ hw hW (lv_sub hl [0, 4] rfl)
    · have hw := hw.2 hc
      refine lv_iload_n hx hb dL_isAhead_644 rfl (lv_at hl 3 rfl) ?_
      refine lv_iload hx hb dL_isAhead_645 (lv_at hl 5 rfl) ?_
      refine lv_icmp_le (tgt := 669) hx hb dL_isAhead_647 (by decide) (fun hc => ?_) (fun hc => ?_)
      · have hw := hw.1 hc
        refine lv_iload_n hx hb dL_isAhead_669 rfl (lv_at hl 3 rfl) ?_
        refine lv_iload hx hb dL_isAhead_670 (lv_at hl 5 rfl) ?_
        refine lv_icmp_eq (tgt := 681) hx hb dL_isAhead_672 (by decide) (fun hc => ?_) (fun hc => ?_)
        · have hw := hw.1 hc
          exact sg_L_isAhead_681 hx hb hml hts hown hK hA hret σ_21002 x4 _ _ _ hw hW (lv_sub hl [0, 4] rfl)
        · have hw := hw.2 hc
          refine lv_iload hx hb dL_isAhead_675 (lv_at hl 6 rfl) ?_
          refine lv_iload_n hx hb dL_isAhead_677 rfl (lv_at hl 2 rfl) ?_
          refine lv_icmp_eq (tgt := 685) hx hb dL_isAhead_678 (by decide) (fun hc => ?_) (fun hc => ?_)
          · have hw := hw.1 hc
            exact sg_L_isAhead_685 hx hb hml hts hown hK hA hret σ_21002 x4 _ _ _ hw hW (lv_sub hl [0, 4] rfl)
          · have hw := hw.2 hc
            exact sg_L_isAhead_681 hx hb hml hts hown hK hA hret σ_21002 x4 _ _ _ hw hW (lv_sub hl [0, 4] rfl)
      · have hw := hw.2 hc
        refine lv_aload_n hx hb dL_isAhead_650 rfl (lv_at hl 0 rfl) ?_
        refine lv_iload_n hx hb dL_isAhead_651 rfl (lv_at hl 1 rfl) ?_
        refine lv_iconst (v := 0) hx hb dL_isAhead_652 (by decide) ?_
        refine kV_Mi (As := [.int x1, .int 0]) (rest := []) ⟨hx, hb, hml, hown, hts⟩ (ok_X4_bidder_n l D cI cJ a _ _ _ _ _ hw) (cwV 2 hts gL_isAhead_X4_bidder rfl rfl rfl (by decide +kernel) ⟨Nat.le_of_ble_eq_true rfl, Nat.le_of_ble_eq_true rfl⟩) hK hW hA 0 rfl rfl rfl hl.1 rfl (Nat.le_of_ble_eq_true rfl) dL_isAhead_653 ⟨Nat.le_of_ble_eq_true rfl, Nat.le_of_ble_eq_true rfl⟩ (fun r_21003 _ H locs hw hW => ?_)
        refine lv_iload_n hx hb dL_isAhead_656 rfl (lv_at hl 3 rfl) ?_
        refine lv_icmp_lt (tgt := 681) hx hb dL_isAhead_657 (by decide) (fun hc => ?_) (fun hc => ?_)
        · have hw := hw.1 hc
          exact sg_L_isAhead_681 hx hb hml hts hown hK hA hret σ_21002 x4 _ _ _ hw hW (lv_sub hl [0, 4] rfl)
        · have hw := hw.2 hc
          refine lv_iload hx hb dL_isAhead_660 (lv_at hl 6 rfl) ?_
          refine lv_iload_n hx hb dL_isAhead_662 rfl (lv_at hl 2 rfl) ?_
          refine lv_icmp_ne (tgt := 685) hx hb dL_isAhead_663 (by decide) (fun hc => ?_) (fun hc => ?_)
          · have hw := hw.1 hc
            exact sg_L_isAhead_685 hx hb hml hts hown hK hA hret σ_21002 x4 _ _ _ hw hW (lv_sub hl [0, 4] rfl)
          · have hw := hw.2 hc
            refine lv_goto (tgt := 681) hx hb dL_isAhead_666 (by decide) ?_
            exact sg_L_isAhead_681 hx hb hml hts hown hK hA hret σ_21002 x4 _ _ _ hw hW (lv_sub hl [0, 4] rfl)
  · have hw := hw.2 hc
    refine lv_iload hx hb dL_isAhead_622 (lv_at hl 6 rfl) ?_
    refine lv_iload_n hx hb dL_isAhead_624 rfl (lv_at hl 2 rfl) ?_
    refine lv_icmp_eq (tgt := 685) hx hb dL_isAhead_625 (by decide) (fun hc => ?_) (fun hc => ?_)
    · have hw := hw.1 hc
      exact sg_L_isAhead_685 hx hb hml hts hown hK hA hret σ x4 _ _ _ hw hW (lv_sub hl [0, 4] rfl)
    · have hw := hw.2 hc
      refine lv_goto (tgt := 681) hx hb dL_isAhead_628 (by decide) ?_
      exact sg_L_isAhead_681 hx hb hml hts hown hK hA hret σ x4 _ _ _ hw hW (lv_sub hl [0, 4] rfl)
def wps_L_isAhead_605 (σ : CS) (x1 : Int32) (x2 : Int32) (x3 : Int32) (x4 : Int64) (x9 : Int32) (x10 : Int32) (x11 : Int32) (post : Int32 → CS → Prop) : Prop := ((¬ x10 = x2 → wps_L_isAhead_617 σ x1 x2 x3 x4 x9 x10 post) ∧ (x10 = x2 → ((x3 < x11 → wps_L_isAhead_685 σ x4 post) ∧ (¬ x3 < x11 → wps_L_isAhead_617 σ x1 x2 x3 x4 x9 x10 post))))
set_option maxHeartbeats 4000000 in
set_option maxRecDepth 100000 in
theorem sg_L_isAhead_605 {p : Program} {l : Launch} {e : Env} {s : State} {m : MethodId} {args : Array Value} {below : List Frame} {meth : Method} {c : Code} {A : Nat → Prop} {Q : State → Prop} {D : va_G} {cI cJ : ClassId} {a : Nat → Nat} {post : Int32 → CS → Prop} (hx : p.tables.exec = Jvm.exec) (hb : c.code = cL_isAhead) (hml : c.maxLocals = 14) (hts : ∀ w ∈ wsL_isAhead, w.before args s = true) (hown : s.vm.findClass RL = some m.cls) (hK : va_K D vwCl (tysIJ cI cJ) s) (hA : ∀ q : Nat, s.heap.size ≤ q → A q) (hret : ∀ (v : Int32) (u : CS) (H : Heap) (locs : List Loc) (pc : Nat) (ls : Array Slot), narrow .boolean (.int v) = .int v → post v u → Wd D A s.heap (cW cI cJ a u) H locs → decode cL_isAhead pc = .ok (.ireturn, 1) → W p l e rm_L_isAhead s m args below meth c H locs 0 0 Q (F0 m pc ls [.int v])) (σ : CS) (x1 : Int32) (x2 : Int32) (x3 : Int32) (x4 : Int64) (x9 : Int32) (x10 : Int32) (x11 : Int32) (H : Heap) (locs : List Loc) (ls : Array Slot) (hw : wps_L_isAhead_605 σ x1 x2 x3 x4 x9 x10 x11 post) (hW : Wd D A s.heap (cW cI cJ a σ) H locs) (hl : lv_has ls 14 [(0, .ref (a 0)), (1, .int x1), (2, .int x2), (3, .int x3), (4, .long x4), (9, .int x9), (10, .int x10), (11, .int x11)]) : W p l e rm_L_isAhead s m args below meth c H locs 0 0 Q (F0 m 605 ls []) := by
  refine lv_iload hx hb dL_isAhead_605 (lv_at hl 6 rfl) ?_
  refine lv_iload_n hx hb dL_isAhead_607 rfl (lv_at hl 2 rfl) ?_
  refine lv_icmp_ne (tgt := 617) hx hb dL_isAhead_608 (by decide) (fun hc => ?_) (fun hc => ?_)
  · have hw := hw.1 hc
    exact sg_L_isAhead_617 hx hb hml hts hown hK hA hret σ x1 x2 x3 x4 x9 x10 _ _ _ hw hW (lv_sub hl [0, 1, 2, 3, 4, 5, 6] rfl)
  · have hw := hw.2 hc
    refine lv_iload hx hb dL_isAhead_611 (lv_at hl 7 rfl) ?_
    refine lv_iload_n hx hb dL_isAhead_613 rfl (lv_at hl 3 rfl) ?_
    refine lv_icmp_gt (tgt := 685) hx hb dL_isAhead_614 (by decide) (fun hc => ?_) (fun hc => ?_)
    · have hw := hw.1 hc
      exact sg_L_isAhead_685 hx hb hml hts hown hK hA hret σ x4 _ _ _ hw hW (lv_sub hl [0, 4] rfl)
    · have hw := hw.2 hc
      exact sg_L_isAhead_617 hx hb hml hts hown hK hA hret σ x1 x2 x3 x4 x9 x10 _ _ _ hw hW (lv_sub hl [0, 1, 2, 3, 4, 5, 6] rfl)
def wps_L_isAhead_585 (σ : CS) (x1 : Int32) (x2 : Int32) (x3 : Int32) (x4 : Int64) (x9 : Int32) (x10 : Int32) (x11 : Int32) (t0 : Int32) (t1 : Int32) (post : Int32 → CS → Prop) : Prop := ((¬ t1 = t0 → wps_L_isAhead_685 σ x4 post) ∧ (t1 = t0 → ((x10 < 0 → wps_L_isAhead_605 σ x1 x2 x3 x4 x9 x10 x11 post) ∧ (¬ x10 < 0 → wp_X4_spot σ x10 0 (fun r_19001 => ((x11 < r_19001 → wps_L_isAhead_685 σ x4 post) ∧ (¬ x11 < r_19001 → wps_L_isAhead_605 σ x1 x2 x3 x4 x9 x10 x11 post))) (fun _ => False)))))
set_option maxHeartbeats 4000000 in
set_option maxRecDepth 100000 in
theorem sg_L_isAhead_585 {p : Program} {l : Launch} {e : Env} {s : State} {m : MethodId} {args : Array Value} {below : List Frame} {meth : Method} {c : Code} {A : Nat → Prop} {Q : State → Prop} {D : va_G} {cI cJ : ClassId} {a : Nat → Nat} {post : Int32 → CS → Prop} (hx : p.tables.exec = Jvm.exec) (hb : c.code = cL_isAhead) (hml : c.maxLocals = 14) (hts : ∀ w ∈ wsL_isAhead, w.before args s = true) (hown : s.vm.findClass RL = some m.cls) (hK : va_K D vwCl (tysIJ cI cJ) s) (hA : ∀ q : Nat, s.heap.size ≤ q → A q) (hret : ∀ (v : Int32) (u : CS) (H : Heap) (locs : List Loc) (pc : Nat) (ls : Array Slot), narrow .boolean (.int v) = .int v → post v u → Wd D A s.heap (cW cI cJ a u) H locs → decode cL_isAhead pc = .ok (.ireturn, 1) → W p l e rm_L_isAhead s m args below meth c H locs 0 0 Q (F0 m pc ls [.int v])) (σ : CS) (x1 : Int32) (x2 : Int32) (x3 : Int32) (x4 : Int64) (x9 : Int32) (x10 : Int32) (x11 : Int32) (t0 : Int32) (t1 : Int32) (H : Heap) (locs : List Loc) (ls : Array Slot) (hw : wps_L_isAhead_585 σ x1 x2 x3 x4 x9 x10 x11 t0 t1 post) (hW : Wd D A s.heap (cW cI cJ a σ) H locs) (hl : lv_has ls 14 [(0, .ref (a 0)), (1, .int x1), (2, .int x2), (3, .int x3), (4, .long x4), (9, .int x9), (10, .int x10), (11, .int x11)]) : W p l e rm_L_isAhead s m args below meth c H locs 0 0 Q (F0 m 585 ls [.int t0, .int t1]) := by
  refine lv_icmp_ne (tgt := 685) hx hb dL_isAhead_585 (by decide) (fun hc => ?_) (fun hc => ?_)
  · have hw := hw.1 hc
    exact sg_L_isAhead_685 hx hb hml hts hown hK hA hret σ x4 _ _ _ hw hW (lv_sub hl [0, 4] rfl)
  · have hw := hw.2 hc
    refine lv_iload hx hb dL_isAhead_588 (lv_at hl 6 rfl) ?_
    refine lv_if_lt (tgt := 605) hx hb dL_isAhead_590 (by decide) (fun hc => ?_) (fun hc => ?_)
    · have hw := hw.1 hc
      exact sg_L_isAhead_605 hx hb hml hts hown hK hA hret σ x1 x2 x3 x4 x9 x10 x11 _ _ _ hw hW (lv_sub hl [0, 1, 2, 3, 4, 5, 6, 7] rfl)
    · have hw := hw.2 hc
      refine lv_iload hx hb dL_isAhead_593 (lv_at hl 7 rfl) ?_
      refine lv_aload_n hx hb dL_isAhead_595 rfl (lv_at hl 0 rfl) ?_
      refine lv_iload hx hb dL_isAhead_596 (lv_at hl 6 rfl) ?_
      refine lv_iconst (v := 0) hx hb dL_isAhead_598 (by decide) ?_
      refine kV_Mi (As := [.int x10, .int 0]) (rest := [.int x11]) ⟨hx, hb, hml, hown, hts⟩ (ok_X4_spot_n l D cI cJ a _ _ _ _ _ hw) (cwV 2 hts gL_isAhead_X4_spot rfl rfl rfl (by decide +kernel) ⟨Nat.le_of_ble_eq_true rfl, Nat.le_of_ble_eq_true rfl⟩) hK hW hA 0 rfl rfl rfl hl.1 rfl (Nat.le_of_ble_eq_true rfl) dL_isAhead_599 ⟨Nat.le_of_ble_eq_true rfl, Nat.le_of_ble_eq_true rfl⟩ (fun r_19001 _ H locs hw hW => ?_)
      refine lv_icmp_lt (tgt := 685) hx hb dL_isAhead_602 (by decide) (fun hc => ?_) (fun hc => ?_)
      · have hw := hw.1 hc
        exact sg_L_isAhead_685 hx hb hml hts hown hK hA hret σ x4 _ _ _ hw hW (lv_sub hl [0, 4] rfl)
      · have hw := hw.2 hc
        exact sg_L_isAhead_605 hx hb hml hts hown hK hA hret σ x1 x2 x3 x4 x9 x10 x11 _ _ _ hw hW (lv_sub hl [0, 1, 2, 3, 4, 5, 6, 7] rfl)
def wps_L_isAhead_574 (σ : CS) (x1 : Int32) (x2 : Int32) (x3 : Int32) (x4 : Int64) (x9 : Int32) (x10 : Int32) (x11 : Int32) (t0 : Int32) (post : Int32 → CS → Prop) : Prop := ((¬ x11 = (-1) → wps_L_isAhead_585 σ x1 x2 x3 x4 x9 x10 x11 0 t0 post) ∧ (x11 = (-1) → wps_L_isAhead_585 σ x1 x2 x3 x4 x9 x10 x11 1 t0 post))
set_option maxHeartbeats 4000000 in
set_option maxRecDepth 100000 in
theorem sg_L_isAhead_574 {p : Program} {l : Launch} {e : Env} {s : State} {m : MethodId} {args : Array Value} {below : List Frame} {meth : Method} {c : Code} {A : Nat → Prop} {Q : State → Prop} {D : va_G} {cI cJ : ClassId} {a : Nat → Nat} {post : Int32 → CS → Prop} (hx : p.tables.exec = Jvm.exec) (hb : c.code = cL_isAhead) (hml : c.maxLocals = 14) (hts : ∀ w ∈ wsL_isAhead, w.before args s = true) (hown : s.vm.findClass RL = some m.cls) (hK : va_K D vwCl (tysIJ cI cJ) s) (hA : ∀ q : Nat, s.heap.size ≤ q → A q) (hret : ∀ (v : Int32) (u : CS) (H : Heap) (locs : List Loc) (pc : Nat) (ls : Array Slot), narrow .boolean (.int v) = .int v → post v u → Wd D A s.heap (cW cI cJ a u) H locs → decode cL_isAhead pc = .ok (.ireturn, 1) → W p l e rm_L_isAhead s m args below meth c H locs 0 0 Q (F0 m pc ls [.int v])) (σ : CS) (x1 : Int32) (x2 : Int32) (x3 : Int32) (x4 : Int64) (x9 : Int32) (x10 : Int32) (x11 : Int32) (t0 : Int32) (H : Heap) (locs : List Loc) (ls : Array Slot) (hw : wps_L_isAhead_574 σ x1 x2 x3 x4 x9 x10 x11 t0 post) (hW : Wd D A s.heap (cW cI cJ a σ) H locs) (hl : lv_has ls 14 [(0, .ref (a 0)), (1, .int x1), (2, .int x2), (3, .int x3), (4, .long x4), (9, .int x9), (10, .int x10), (11, .int x11)]) : W p l e rm_L_isAhead s m args below meth c H locs 0 0 Q (F0 m 574 ls [.int t0]) := by
  refine lv_iload hx hb dL_isAhead_574 (lv_at hl 7 rfl) ?_
  refine lv_iconst (v := (-1)) hx hb dL_isAhead_576 (by decide) ?_
  refine lv_icmp_ne (tgt := 584) hx hb dL_isAhead_577 (by decide) (fun hc => ?_) (fun hc => ?_)
  · have hw := hw.1 hc
    refine lv_iconst (v := 0) hx hb dL_isAhead_584 (by decide) ?_
    exact sg_L_isAhead_585 hx hb hml hts hown hK hA hret σ x1 x2 x3 x4 x9 x10 x11 0 t0 _ _ _ hw hW (lv_sub hl [0, 1, 2, 3, 4, 5, 6, 7] rfl)
  · have hw := hw.2 hc
    refine lv_iconst (v := 1) hx hb dL_isAhead_580 (by decide) ?_
    refine lv_goto (tgt := 585) hx hb dL_isAhead_581 (by decide) ?_
    exact sg_L_isAhead_585 hx hb hml hts hown hK hA hret σ x1 x2 x3 x4 x9 x10 x11 1 t0 _ _ _ hw hW (lv_sub hl [0, 1, 2, 3, 4, 5, 6, 7] rfl)
def wps_L_isAhead_530 (σ : CS) (x1 : Int32) (x2 : Int32) (x3 : Int32) (x4 : Int64) (x7 : Int32) (post : Int32 → CS → Prop) : Prop := wp_X4_least σ x1 x2 (fun r_17001 σ_17002 => wp_X4_ifBid σ_17002 x1 x2 x3 0 (fun r_17003 σ_17004 => wp_X4_ifBid σ_17004 x1 x2 x3 1 (fun r_17005 σ_17006 => ((x7 = 0 → wps_L_isAhead_685 σ_17006 x4 post) ∧ (¬ x7 = 0 → ((¬ r_17003 = (-1) → wps_L_isAhead_574 σ_17006 x1 x2 x3 x4 r_17001 r_17003 r_17005 0 post) ∧ (r_17003 = (-1) → wps_L_isAhead_574 σ_17006 x1 x2 x3 x4 r_17001 r_17003 r_17005 1 post))))) (fun _ => False)) (fun _ => False)) (fun _ => False)
set_option maxHeartbeats 4000000 in
set_option maxRecDepth 100000 in
theorem sg_L_isAhead_530 {p : Program} {l : Launch} {e : Env} {s : State} {m : MethodId} {args : Array Value} {below : List Frame} {meth : Method} {c : Code} {A : Nat → Prop} {Q : State → Prop} {D : va_G} {cI cJ : ClassId} {a : Nat → Nat} {post : Int32 → CS → Prop} (hx : p.tables.exec = Jvm.exec) (hb : c.code = cL_isAhead) (hml : c.maxLocals = 14) (hts : ∀ w ∈ wsL_isAhead, w.before args s = true) (hown : s.vm.findClass RL = some m.cls) (hK : va_K D vwCl (tysIJ cI cJ) s) (hA : ∀ q : Nat, s.heap.size ≤ q → A q) (hret : ∀ (v : Int32) (u : CS) (H : Heap) (locs : List Loc) (pc : Nat) (ls : Array Slot), narrow .boolean (.int v) = .int v → post v u → Wd D A s.heap (cW cI cJ a u) H locs → decode cL_isAhead pc = .ok (.ireturn, 1) → W p l e rm_L_isAhead s m args below meth c H locs 0 0 Q (F0 m pc ls [.int v])) (σ : CS) (x1 : Int32) (x2 : Int32) (x3 : Int32) (x4 : Int64) (x7 : Int32) (H : Heap) (locs : List Loc) (ls : Array Slot) (hw : wps_L_isAhead_530 σ x1 x2 x3 x4 x7 post) (hW : Wd D A s.heap (cW cI cJ a σ) H locs) (hl : lv_has ls 14 [(0, .ref (a 0)), (1, .int x1), (2, .int x2), (3, .int x3), (4, .long x4), (7, .int x7)]) : W p l e rm_L_isAhead s m args below meth c H locs 0 0 Q (F0 m 530 ls []) := by
  refine lv_aload_n hx hb dL_isAhead_530 rfl (lv_at hl 0 rfl) ?_
  refine lv_iload_n hx hb dL_isAhead_531 rfl (lv_at hl 1 rfl) ?_
  refine lv_iload_n hx hb dL_isAhead_532 rfl (lv_at hl 2 rfl) ?_
  refine kV_Mi (As := [.int x1, .int x2]) (rest := []) ⟨hx, hb, hml, hown, hts⟩ (ok_X4_least_n l D cI cJ a _ _ _ _ _ hw) (cwV 2 hts gL_isAhead_X4_least rfl rfl rfl (by decide +kernel) ⟨Nat.le_of_ble_eq_true rfl, Nat.le_of_ble_eq_true rfl⟩) hK hW hA 0 rfl rfl rfl hl.1 rfl (Nat.le_of_ble_eq_true rfl) dL_isAhead_533 ⟨Nat.le_of_ble_eq_true rfl, Nat.le_of_ble_eq_true rfl⟩ (fun r_17001 σ_17002 H locs hw hW => ?_)
  refine lv_istore (lv' := [(9, .int r_17001), (0, .ref (a 0)), (1, .int x1), (2, .int x2), (3, .int x3), (4, .long x4), (7, .int x7)]) hx hb dL_isAhead_536 hl (by decide) rfl (fun ls hl => ?_)
  refine lv_aload_n hx hb dL_isAhead_538 rfl (lv_at hl 1 rfl) ?_
  refine lv_iload_n hx hb dL_isAhead_539 rfl (lv_at hl 2 rfl) ?_
  refine lv_iload_n hx hb dL_isAhead_540 rfl (lv_at hl 3 rfl) ?_
  refine lv_iload_n hx hb dL_isAhead_541 rfl (lv_at hl 4 rfl) ?_
  refine lv_iconst (v := 0) hx hb dL_isAhead_542 (by decide) ?_
  refine kV_Mi (As := [.int x1, .int x2, .int x3, .int 0]) (rest := []) ⟨hx, hb, hml, hown, hts⟩ (ok_X4_ifBid_n l D cI cJ a _ _ _ _ _ _ _ hw) (cwV 4 hts gL_isAhead_X4_ifBid rfl rfl rfl (by decide +kernel) ⟨Nat.le_of_ble_eq_true rfl, Nat.le_of_ble_eq_true rfl⟩) hK hW hA 0 rfl rfl rfl hl.1 rfl (Nat.le_of_ble_eq_true rfl) dL_isAhead_543 ⟨Nat.le_of_ble_eq_true rfl, Nat.le_of_ble_eq_true rfl⟩ (fun r_17003 σ_17004 H locs hw hW => ?_)
  refine lv_istore (lv' := [(10, .int r_17003), (9, .int r_17001), (0, .ref (a 0)), (1, .int x1), (2, .int x2), (3, .int x3), (4, .long x4), (7, .int x7)]) hx hb dL_isAhead_546 hl (by decide) rfl (fun ls hl => ?_)
  refine lv_aload_n hx hb dL_isAhead_548 rfl (lv_at hl 2 rfl) ?_
  refine lv_iload_n hx hb dL_isAhead_549 rfl (lv_at hl 3 rfl) ?_
  refine lv_iload_n hx hb dL_isAhead_550 rfl (lv_at hl 4 rfl) ?_
  refine lv_iload_n hx hb dL_isAhead_551 rfl (lv_at hl 5 rfl) ?_
  refine lv_iconst (v := 1) hx hb dL_isAhead_552 (by decide) ?_
  refine kV_Mi (As := [.int x1, .int x2, .int x3, .int 1]) (rest := []) ⟨hx, hb, hml, hown, hts⟩ (ok_X4_ifBid_n l D cI cJ a _ _ _ _ _ _ _ hw) (cwV 4 hts gL_isAhead_X4_ifBid rfl rfl rfl (by decide +kernel) ⟨Nat.le_of_ble_eq_true rfl, Nat.le_of_ble_eq_true rfl⟩) hK hW hA 0 rfl rfl rfl hl.1 rfl (Nat.le_of_ble_eq_true rfl) dL_isAhead_553 ⟨Nat.le_of_ble_eq_true rfl, Nat.le_of_ble_eq_true rfl⟩ (fun r_17005 σ_17006 H locs hw hW => ?_)
  refine lv_istore (lv' := [(11, .int r_17005), (10, .int r_17003), (9, .int r_17001), (0, .ref (a 0)), (1, .int x1), (2, .int x2), (3, .int x3), (4, .long x4), (7, .int x7)]) hx hb dL_isAhead_556 hl (by decide) rfl (fun ls hl => ?_)
  refine lv_iload hx hb dL_isAhead_558 (lv_at hl 8 rfl) ?_
  refine lv_if_eq (tgt := 685) hx hb dL_isAhead_560 (by decide) (fun hc => ?_) (fun hc => ?_)
  · have hw := hw.1 hc
    exact sg_L_isAhead_685 hx hb hml hts hown hK hA hret σ_17006 x4 _ _ _ hw hW (lv_sub hl [3, 7] rfl)
  · have hw := hw.2 hc
    refine lv_iload hx hb dL_isAhead_563 (lv_at hl 1 rfl) ?_
    refine lv_iconst (v := (-1)) hx hb dL_isAhead_565 (by decide) ?_
    refine lv_icmp_ne (tgt := 573) hx hb dL_isAhead_566 (by decide) (fun hc => ?_) (fun hc => ?_)
    · have hw := hw.1 hc
      refine lv_iconst (v := 0) hx hb dL_isAhead_573 (by decide) ?_
      exact sg_L_isAhead_574 hx hb hml hts hown hK hA hret σ_17006 x1 x2 x3 x4 r_17001 r_17003 r_17005 0 _ _ _ hw hW (lv_sub hl [3, 4, 5, 6, 7, 2, 1, 0] rfl)
    · have hw := hw.2 hc
      refine lv_iconst (v := 1) hx hb dL_isAhead_569 (by decide) ?_
      refine lv_goto (tgt := 574) hx hb dL_isAhead_570 (by decide) ?_
      exact sg_L_isAhead_574 hx hb hml hts hown hK hA hret σ_17006 x1 x2 x3 x4 r_17001 r_17003 r_17005 1 _ _ _ hw hW (lv_sub hl [3, 4, 5, 6, 7, 2, 1, 0] rfl)
def wps_L_isAhead_528 (σ : CS) (x1 : Int32) (x2 : Int32) (x3 : Int32) (x4 : Int64) (t0 : Int32) (post : Int32 → CS → Prop) : Prop := wps_L_isAhead_530 σ x1 x2 x3 x4 t0 post
set_option maxHeartbeats 4000000 in
set_option maxRecDepth 100000 in
theorem sg_L_isAhead_528 {p : Program} {l : Launch} {e : Env} {s : State} {m : MethodId} {args : Array Value} {below : List Frame} {meth : Method} {c : Code} {A : Nat → Prop} {Q : State → Prop} {D : va_G} {cI cJ : ClassId} {a : Nat → Nat} {post : Int32 → CS → Prop} (hx : p.tables.exec = Jvm.exec) (hb : c.code = cL_isAhead) (hml : c.maxLocals = 14) (hts : ∀ w ∈ wsL_isAhead, w.before args s = true) (hown : s.vm.findClass RL = some m.cls) (hK : va_K D vwCl (tysIJ cI cJ) s) (hA : ∀ q : Nat, s.heap.size ≤ q → A q) (hret : ∀ (v : Int32) (u : CS) (H : Heap) (locs : List Loc) (pc : Nat) (ls : Array Slot), narrow .boolean (.int v) = .int v → post v u → Wd D A s.heap (cW cI cJ a u) H locs → decode cL_isAhead pc = .ok (.ireturn, 1) → W p l e rm_L_isAhead s m args below meth c H locs 0 0 Q (F0 m pc ls [.int v])) (σ : CS) (x1 : Int32) (x2 : Int32) (x3 : Int32) (x4 : Int64) (t0 : Int32) (H : Heap) (locs : List Loc) (ls : Array Slot) (hw : wps_L_isAhead_528 σ x1 x2 x3 x4 t0 post) (hW : Wd D A s.heap (cW cI cJ a σ) H locs) (hl : lv_has ls 14 [(0, .ref (a 0)), (1, .int x1), (2, .int x2), (3, .int x3), (4, .long x4)]) : W p l e rm_L_isAhead s m args below meth c H locs 0 0 Q (F0 m 528 ls [.int t0]) := by
  refine lv_istore (lv' := [(7, .int t0), (0, .ref (a 0)), (1, .int x1), (2, .int x2), (3, .int x3), (4, .long x4)]) hx hb dL_isAhead_528 hl (by decide) rfl (fun ls hl => ?_)
  exact sg_L_isAhead_530 hx hb hml hts hown hK hA hret σ x1 x2 x3 x4 t0 _ _ _ hw hW (lv_sub hl [1, 2, 3, 4, 5, 0] rfl)
def wps_L_isAhead_527 (σ : CS) (x1 : Int32) (x2 : Int32) (x3 : Int32) (x4 : Int64) (post : Int32 → CS → Prop) : Prop := wps_L_isAhead_528 σ x1 x2 x3 x4 0 post
set_option maxHeartbeats 4000000 in
set_option maxRecDepth 100000 in
theorem sg_L_isAhead_527 {p : Program} {l : Launch} {e : Env} {s : State} {m : MethodId} {args : Array Value} {below : List Frame} {meth : Method} {c : Code} {A : Nat → Prop} {Q : State → Prop} {D : va_G} {cI cJ : ClassId} {a : Nat → Nat} {post : Int32 → CS → Prop} (hx : p.tables.exec = Jvm.exec) (hb : c.code = cL_isAhead) (hml : c.maxLocals = 14) (hts : ∀ w ∈ wsL_isAhead, w.before args s = true) (hown : s.vm.findClass RL = some m.cls) (hK : va_K D vwCl (tysIJ cI cJ) s) (hA : ∀ q : Nat, s.heap.size ≤ q → A q) (hret : ∀ (v : Int32) (u : CS) (H : Heap) (locs : List Loc) (pc : Nat) (ls : Array Slot), narrow .boolean (.int v) = .int v → post v u → Wd D A s.heap (cW cI cJ a u) H locs → decode cL_isAhead pc = .ok (.ireturn, 1) → W p l e rm_L_isAhead s m args below meth c H locs 0 0 Q (F0 m pc ls [.int v])) (σ : CS) (x1 : Int32) (x2 : Int32) (x3 : Int32) (x4 : Int64) (H : Heap) (locs : List Loc) (ls : Array Slot) (hw : wps_L_isAhead_527 σ x1 x2 x3 x4 post) (hW : Wd D A s.heap (cW cI cJ a σ) H locs) (hl : lv_has ls 14 [(0, .ref (a 0)), (1, .int x1), (2, .int x2), (3, .int x3), (4, .long x4)]) : W p l e rm_L_isAhead s m args below meth c H locs 0 0 Q (F0 m 527 ls []) := by
  refine lv_iconst (v := 0) hx hb dL_isAhead_527 (by decide) ?_
  exact sg_L_isAhead_528 hx hb hml hts hown hK hA hret σ x1 x2 x3 x4 0 _ _ _ hw hW (lv_sub hl [0, 1, 2, 3, 4] rfl)
def wps_L_isAhead_499 (σ : CS) (x1 : Int32) (x2 : Int32) (x3 : Int32) (x4 : Int64) (x10 : Int32) (x11 : Int32) (t0 : Int32) (t1 : Int32) (post : Int32 → CS → Prop) : Prop := ((¬ t1 = t0 → wps_L_isAhead_527 σ x1 x2 x3 x4 post) ∧ (t1 = t0 → wp_X4_count σ 10 (fun r_14001 => ((¬ r_14001 = (x10 - x11) → wps_L_isAhead_527 σ x1 x2 x3 x4 post) ∧ (r_14001 = (x10 - x11) → wp_X4_undo σ (fun r_14002 σ_14003 => ((r_14002 < 0 → wps_L_isAhead_527 σ_14003 x1 x2 x3 x4 post) ∧ (¬ r_14002 < 0 → wps_L_isAhead_528 σ_14003 x1 x2 x3 x4 1 post))) (fun _ => False)))) (fun _ => False)))
set_option maxHeartbeats 4000000 in
set_option maxRecDepth 100000 in
theorem sg_L_isAhead_499 {p : Program} {l : Launch} {e : Env} {s : State} {m : MethodId} {args : Array Value} {below : List Frame} {meth : Method} {c : Code} {A : Nat → Prop} {Q : State → Prop} {D : va_G} {cI cJ : ClassId} {a : Nat → Nat} {post : Int32 → CS → Prop} (hx : p.tables.exec = Jvm.exec) (hb : c.code = cL_isAhead) (hml : c.maxLocals = 14) (hts : ∀ w ∈ wsL_isAhead, w.before args s = true) (hown : s.vm.findClass RL = some m.cls) (hK : va_K D vwCl (tysIJ cI cJ) s) (hA : ∀ q : Nat, s.heap.size ≤ q → A q) (hret : ∀ (v : Int32) (u : CS) (H : Heap) (locs : List Loc) (pc : Nat) (ls : Array Slot), narrow .boolean (.int v) = .int v → post v u → Wd D A s.heap (cW cI cJ a u) H locs → decode cL_isAhead pc = .ok (.ireturn, 1) → W p l e rm_L_isAhead s m args below meth c H locs 0 0 Q (F0 m pc ls [.int v])) (σ : CS) (x1 : Int32) (x2 : Int32) (x3 : Int32) (x4 : Int64) (x10 : Int32) (x11 : Int32) (t0 : Int32) (t1 : Int32) (H : Heap) (locs : List Loc) (ls : Array Slot) (hw : wps_L_isAhead_499 σ x1 x2 x3 x4 x10 x11 t0 t1 post) (hW : Wd D A s.heap (cW cI cJ a σ) H locs) (hl : lv_has ls 14 [(0, .ref (a 0)), (1, .int x1), (2, .int x2), (3, .int x3), (4, .long x4), (10, .int x10), (11, .int x11)]) : W p l e rm_L_isAhead s m args below meth c H locs 0 0 Q (F0 m 499 ls [.int t0, .int t1]) := by
  refine lv_icmp_ne (tgt := 527) hx hb dL_isAhead_499 (by decide) (fun hc => ?_) (fun hc => ?_)
  · have hw := hw.1 hc
    exact sg_L_isAhead_527 hx hb hml hts hown hK hA hret σ x1 x2 x3 x4 _ _ _ hw hW (lv_sub hl [0, 1, 2, 3, 4] rfl)
  · have hw := hw.2 hc
    refine lv_aload_n hx hb dL_isAhead_502 rfl (lv_at hl 0 rfl) ?_
    refine lv_bipush (v := 10) hx hb dL_isAhead_503 (by decide) ?_
    refine kV_Mi (As := [.int 10]) (rest := []) ⟨hx, hb, hml, hown, hts⟩ (ok_X4_count_n l D cI cJ a _ _ _ _ hw) (cwV 1 hts gL_isAhead_X4_count rfl rfl rfl (by decide +kernel) ⟨Nat.le_of_ble_eq_true rfl, Nat.le_of_ble_eq_true rfl⟩) hK hW hA 0 rfl rfl rfl hl.1 rfl (Nat.le_of_ble_eq_true rfl) dL_isAhead_505 ⟨Nat.le_of_ble_eq_true rfl, Nat.le_of_ble_eq_true rfl⟩ (fun r_14001 _ H locs hw hW => ?_)
    refine lv_iload hx hb dL_isAhead_508 (lv_at hl 5 rfl) ?_
    refine lv_iload hx hb dL_isAhead_510 (lv_at hl 6 rfl) ?_
    refine lv_isub hx hb dL_isAhead_512 ?_
    refine lv_icmp_ne (tgt := 527) hx hb dL_isAhead_513 (by decide) (fun hc => ?_) (fun hc => ?_)
    · have hw := hw.1 hc
      exact sg_L_isAhead_527 hx hb hml hts hown hK hA hret σ x1 x2 x3 x4 _ _ _ hw hW (lv_sub hl [0, 1, 2, 3, 4] rfl)
    · have hw := hw.2 hc
      refine lv_aload_n hx hb dL_isAhead_516 rfl (lv_at hl 0 rfl) ?_
      refine kV_Mi (As := []) (rest := []) ⟨hx, hb, hml, hown, hts⟩ (ok_X4_undo_n l D cI cJ a _ _ _ hw) (cwV 0 hts gL_isAhead_X4_undo rfl rfl rfl (by decide +kernel) ⟨Nat.le_of_ble_eq_true rfl, Nat.le_of_ble_eq_true rfl⟩) hK hW hA 0 rfl rfl rfl hl.1 rfl (Nat.le_of_ble_eq_true rfl) dL_isAhead_517 ⟨Nat.le_of_ble_eq_true rfl, Nat.le_of_ble_eq_true rfl⟩ (fun r_14002 σ_14003 H locs hw hW => ?_)
      refine lv_if_lt (tgt := 527) hx hb dL_isAhead_520 (by decide) (fun hc => ?_) (fun hc => ?_)
      · have hw := hw.1 hc
        exact sg_L_isAhead_527 hx hb hml hts hown hK hA hret σ_14003 x1 x2 x3 x4 _ _ _ hw hW (lv_sub hl [0, 1, 2, 3, 4] rfl)
      · have hw := hw.2 hc
        refine lv_iconst (v := 1) hx hb dL_isAhead_523 (by decide) ?_
        refine lv_goto (tgt := 528) hx hb dL_isAhead_524 (by decide) ?_
        exact sg_L_isAhead_528 hx hb hml hts hown hK hA hret σ_14003 x1 x2 x3 x4 1 _ _ _ hw hW (lv_sub hl [0, 1, 2, 3, 4] rfl)
def wps_L_isAhead_489 (σ : CS) (x1 : Int32) (x2 : Int32) (x3 : Int32) (x4 : Int64) (x9 : Int32) (x10 : Int32) (x11 : Int32) (t0 : Int32) (post : Int32 → CS → Prop) : Prop := ((x9 ≤ 0 → wps_L_isAhead_499 σ x1 x2 x3 x4 x10 x11 0 t0 post) ∧ (¬ x9 ≤ 0 → wps_L_isAhead_499 σ x1 x2 x3 x4 x10 x11 1 t0 post))
set_option maxHeartbeats 4000000 in
set_option maxRecDepth 100000 in
theorem sg_L_isAhead_489 {p : Program} {l : Launch} {e : Env} {s : State} {m : MethodId} {args : Array Value} {below : List Frame} {meth : Method} {c : Code} {A : Nat → Prop} {Q : State → Prop} {D : va_G} {cI cJ : ClassId} {a : Nat → Nat} {post : Int32 → CS → Prop} (hx : p.tables.exec = Jvm.exec) (hb : c.code = cL_isAhead) (hml : c.maxLocals = 14) (hts : ∀ w ∈ wsL_isAhead, w.before args s = true) (hown : s.vm.findClass RL = some m.cls) (hK : va_K D vwCl (tysIJ cI cJ) s) (hA : ∀ q : Nat, s.heap.size ≤ q → A q) (hret : ∀ (v : Int32) (u : CS) (H : Heap) (locs : List Loc) (pc : Nat) (ls : Array Slot), narrow .boolean (.int v) = .int v → post v u → Wd D A s.heap (cW cI cJ a u) H locs → decode cL_isAhead pc = .ok (.ireturn, 1) → W p l e rm_L_isAhead s m args below meth c H locs 0 0 Q (F0 m pc ls [.int v])) (σ : CS) (x1 : Int32) (x2 : Int32) (x3 : Int32) (x4 : Int64) (x9 : Int32) (x10 : Int32) (x11 : Int32) (t0 : Int32) (H : Heap) (locs : List Loc) (ls : Array Slot) (hw : wps_L_isAhead_489 σ x1 x2 x3 x4 x9 x10 x11 t0 post) (hW : Wd D A s.heap (cW cI cJ a σ) H locs) (hl : lv_has ls 14 [(0, .ref (a 0)), (1, .int x1), (2, .int x2), (3, .int x3), (4, .long x4), (9, .int x9), (10, .int x10), (11, .int x11)]) : W p l e rm_L_isAhead s m args below meth c H locs 0 0 Q (F0 m 489 ls [.int t0]) := by
  refine lv_iload hx hb dL_isAhead_489 (lv_at hl 5 rfl) ?_
  refine lv_if_le (tgt := 498) hx hb dL_isAhead_491 (by decide) (fun hc => ?_) (fun hc => ?_)
  · have hw := hw.1 hc
    refine lv_iconst (v := 0) hx hb dL_isAhead_498 (by decide) ?_
    exact sg_L_isAhead_499 hx hb hml hts hown hK hA hret σ x1 x2 x3 x4 x10 x11 0 t0 _ _ _ hw hW (lv_sub hl [0, 1, 2, 3, 4, 6, 7] rfl)
  · have hw := hw.2 hc
    refine lv_iconst (v := 1) hx hb dL_isAhead_494 (by decide) ?_
    refine lv_goto (tgt := 499) hx hb dL_isAhead_495 (by decide) ?_
    exact sg_L_isAhead_499 hx hb hml hts hown hK hA hret σ x1 x2 x3 x4 x10 x11 1 t0 _ _ _ hw hW (lv_sub hl [0, 1, 2, 3, 4, 6, 7] rfl)
def wps_L_isAhead_435 (σ : CS) (x1 : Int32) (x2 : Int32) (x3 : Int32) (x4 : Int64) (x7 : Int32) (post : Int32 → CS → Prop) : Prop := ((x7 = 0 → wps_L_isAhead_530 σ x1 x2 x3 x4 x7 post) ∧ (¬ x7 = 0 → wp_X4_spot σ x2 2 (fun r_12001 => ((r_12001 < 0 → wps_L_isAhead_530 σ x1 x2 x3 x4 x7 post) ∧ (¬ r_12001 < 0 → wp_X4_spot σ x2 1 (fun r_12002 => wp_X4_count σ 10 (fun r_12003 => wp_X4_fish σ x2 (fun r_12004 σ_12005 => ((r_12002 < r_12004 → wps_L_isAhead_527 σ_12005 x1 x2 x3 x4 post) ∧ (¬ r_12002 < r_12004 → ((r_12004 ≤ 0 → wps_L_isAhead_489 σ_12005 x1 x2 x3 x4 r_12002 r_12003 r_12004 0 post) ∧ (¬ r_12004 ≤ 0 → wps_L_isAhead_489 σ_12005 x1 x2 x3 x4 r_12002 r_12003 r_12004 1 post))))) (fun _ => False)) (fun _ => False)) (fun _ => False)))) (fun _ => False)))
set_option maxHeartbeats 4000000 in
set_option maxRecDepth 100000 in
theorem sg_L_isAhead_435 {p : Program} {l : Launch} {e : Env} {s : State} {m : MethodId} {args : Array Value} {below : List Frame} {meth : Method} {c : Code} {A : Nat → Prop} {Q : State → Prop} {D : va_G} {cI cJ : ClassId} {a : Nat → Nat} {post : Int32 → CS → Prop} (hx : p.tables.exec = Jvm.exec) (hb : c.code = cL_isAhead) (hml : c.maxLocals = 14) (hts : ∀ w ∈ wsL_isAhead, w.before args s = true) (hown : s.vm.findClass RL = some m.cls) (hK : va_K D vwCl (tysIJ cI cJ) s) (hA : ∀ q : Nat, s.heap.size ≤ q → A q) (hret : ∀ (v : Int32) (u : CS) (H : Heap) (locs : List Loc) (pc : Nat) (ls : Array Slot), narrow .boolean (.int v) = .int v → post v u → Wd D A s.heap (cW cI cJ a u) H locs → decode cL_isAhead pc = .ok (.ireturn, 1) → W p l e rm_L_isAhead s m args below meth c H locs 0 0 Q (F0 m pc ls [.int v])) (σ : CS) (x1 : Int32) (x2 : Int32) (x3 : Int32) (x4 : Int64) (x7 : Int32) (H : Heap) (locs : List Loc) (ls : Array Slot) (hw : wps_L_isAhead_435 σ x1 x2 x3 x4 x7 post) (hW : Wd D A s.heap (cW cI cJ a σ) H locs) (hl : lv_has ls 14 [(0, .ref (a 0)), (1, .int x1), (2, .int x2), (3, .int x3), (4, .long x4), (7, .int x7)]) : W p l e rm_L_isAhead s m args below meth c H locs 0 0 Q (F0 m 435 ls []) := by
  refine lv_iload hx hb dL_isAhead_435 (lv_at hl 5 rfl) ?_
  refine lv_if_eq (tgt := 530) hx hb dL_isAhead_437 (by decide) (fun hc => ?_) (fun hc => ?_)
  · have hw := hw.1 hc
    exact sg_L_isAhead_530 hx hb hml hts hown hK hA hret σ x1 x2 x3 x4 x7 _ _ _ hw hW (lv_sub hl [0, 1, 2, 3, 4, 5] rfl)
  · have hw := hw.2 hc
    refine lv_aload_n hx hb dL_isAhead_440 rfl (lv_at hl 0 rfl) ?_
    refine lv_iload_n hx hb dL_isAhead_441 rfl (lv_at hl 2 rfl) ?_
    refine lv_iconst (v := 2) hx hb dL_isAhead_442 (by decide) ?_
    refine kV_Mi (As := [.int x2, .int 2]) (rest := []) ⟨hx, hb, hml, hown, hts⟩ (ok_X4_spot_n l D cI cJ a _ _ _ _ _ hw) (cwV 2 hts gL_isAhead_X4_spot rfl rfl rfl (by decide +kernel) ⟨Nat.le_of_ble_eq_true rfl, Nat.le_of_ble_eq_true rfl⟩) hK hW hA 0 rfl rfl rfl hl.1 rfl (Nat.le_of_ble_eq_true rfl) dL_isAhead_443 ⟨Nat.le_of_ble_eq_true rfl, Nat.le_of_ble_eq_true rfl⟩ (fun r_12001 _ H locs hw hW => ?_)
    refine lv_if_lt (tgt := 530) hx hb dL_isAhead_446 (by decide) (fun hc => ?_) (fun hc => ?_)
    · have hw := hw.1 hc
      exact sg_L_isAhead_530 hx hb hml hts hown hK hA hret σ x1 x2 x3 x4 x7 _ _ _ hw hW (lv_sub hl [0, 1, 2, 3, 4, 5] rfl)
    · have hw := hw.2 hc
      refine lv_aload_n hx hb dL_isAhead_449 rfl (lv_at hl 0 rfl) ?_
      refine lv_iload_n hx hb dL_isAhead_450 rfl (lv_at hl 2 rfl) ?_
      refine lv_iconst (v := 1) hx hb dL_isAhead_451 (by decide) ?_
      refine kV_Mi (As := [.int x2, .int 1]) (rest := []) ⟨hx, hb, hml, hown, hts⟩ (ok_X4_spot_n l D cI cJ a _ _ _ _ _ hw) (cwV 2 hts gL_isAhead_X4_spot rfl rfl rfl (by decide +kernel) ⟨Nat.le_of_ble_eq_true rfl, Nat.le_of_ble_eq_true rfl⟩) hK hW hA 0 rfl rfl rfl hl.1 rfl (Nat.le_of_ble_eq_true rfl) dL_isAhead_452 ⟨Nat.le_of_ble_eq_true rfl, Nat.le_of_ble_eq_true rfl⟩ (fun r_12002 _ H locs hw hW => ?_)
      refine lv_istore (lv' := [(9, .int r_12002), (0, .ref (a 0)), (1, .int x1), (2, .int x2), (3, .int x3), (4, .long x4), (7, .int x7)]) hx hb dL_isAhead_455 hl (by decide) rfl (fun ls hl => ?_)
      refine lv_aload_n hx hb dL_isAhead_457 rfl (lv_at hl 1 rfl) ?_
      refine lv_bipush (v := 10) hx hb dL_isAhead_458 (by decide) ?_
      refine kV_Mi (As := [.int 10]) (rest := []) ⟨hx, hb, hml, hown, hts⟩ (ok_X4_count_n l D cI cJ a _ _ _ _ hw) (cwV 1 hts gL_isAhead_X4_count rfl rfl rfl (by decide +kernel) ⟨Nat.le_of_ble_eq_true rfl, Nat.le_of_ble_eq_true rfl⟩) hK hW hA 0 rfl rfl rfl hl.1 rfl (Nat.le_of_ble_eq_true rfl) dL_isAhead_460 ⟨Nat.le_of_ble_eq_true rfl, Nat.le_of_ble_eq_true rfl⟩ (fun r_12003 _ H locs hw hW => ?_)
      refine lv_istore (lv' := [(10, .int r_12003), (9, .int r_12002), (0, .ref (a 0)), (1, .int x1), (2, .int x2), (3, .int x3), (4, .long x4), (7, .int x7)]) hx hb dL_isAhead_463 hl (by decide) rfl (fun ls hl => ?_)
      refine lv_aload_n hx hb dL_isAhead_465 rfl (lv_at hl 2 rfl) ?_
      refine lv_iload_n hx hb dL_isAhead_466 rfl (lv_at hl 4 rfl) ?_
      refine kV_Mi (As := [.int x2]) (rest := []) ⟨hx, hb, hml, hown, hts⟩ (ok_X4_fish_n l D cI cJ a _ _ _ _ hw) (cwV 1 hts gL_isAhead_X4_fish rfl rfl rfl (by decide +kernel) ⟨Nat.le_of_ble_eq_true rfl, Nat.le_of_ble_eq_true rfl⟩) hK hW hA 0 rfl rfl rfl hl.1 rfl (Nat.le_of_ble_eq_true rfl) dL_isAhead_467 ⟨Nat.le_of_ble_eq_true rfl, Nat.le_of_ble_eq_true rfl⟩ (fun r_12004 σ_12005 H locs hw hW => ?_)
      refine lv_istore (lv' := [(11, .int r_12004), (10, .int r_12003), (9, .int r_12002), (0, .ref (a 0)), (1, .int x1), (2, .int x2), (3, .int x3), (4, .long x4), (7, .int x7)]) hx hb dL_isAhead_470 hl (by decide) rfl (fun ls hl => ?_)
      refine lv_iload hx hb dL_isAhead_472 (lv_at hl 0 rfl) ?_
      refine lv_iload hx hb dL_isAhead_474 (lv_at hl 2 rfl) ?_
      refine lv_icmp_gt (tgt := 527) hx hb dL_isAhead_476 (by decide) (fun hc => ?_) (fun hc => ?_)
      · have hw := hw.1 hc
        exact sg_L_isAhead_527 hx hb hml hts hown hK hA hret σ_12005 x1 x2 x3 x4 _ _ _ hw hW (lv_sub hl [3, 4, 5, 6, 7] rfl)
      · have hw := hw.2 hc
        refine lv_iload hx hb dL_isAhead_479 (lv_at hl 0 rfl) ?_
        refine lv_if_le (tgt := 488) hx hb dL_isAhead_481 (by decide) (fun hc => ?_) (fun hc => ?_)
        · have hw := hw.1 hc
          refine lv_iconst (v := 0) hx hb dL_isAhead_488 (by decide) ?_
          exact sg_L_isAhead_489 hx hb hml hts hown hK hA hret σ_12005 x1 x2 x3 x4 r_12002 r_12003 r_12004 0 _ _ _ hw hW (lv_sub hl [3, 4, 5, 6, 7, 2, 1, 0] rfl)
        · have hw := hw.2 hc
          refine lv_iconst (v := 1) hx hb dL_isAhead_484 (by decide) ?_
          refine lv_goto (tgt := 489) hx hb dL_isAhead_485 (by decide) ?_
          exact sg_L_isAhead_489 hx hb hml hts hown hK hA hret σ_12005 x1 x2 x3 x4 r_12002 r_12003 r_12004 1 _ _ _ hw hW (lv_sub hl [3, 4, 5, 6, 7, 2, 1, 0] rfl)
def wps_L_isAhead_433 (σ : CS) (x1 : Int32) (x2 : Int32) (x3 : Int32) (x4 : Int64) (t0 : Int32) (post : Int32 → CS → Prop) : Prop := wps_L_isAhead_435 σ x1 x2 x3 x4 t0 post
set_option maxHeartbeats 4000000 in
set_option maxRecDepth 100000 in
theorem sg_L_isAhead_433 {p : Program} {l : Launch} {e : Env} {s : State} {m : MethodId} {args : Array Value} {below : List Frame} {meth : Method} {c : Code} {A : Nat → Prop} {Q : State → Prop} {D : va_G} {cI cJ : ClassId} {a : Nat → Nat} {post : Int32 → CS → Prop} (hx : p.tables.exec = Jvm.exec) (hb : c.code = cL_isAhead) (hml : c.maxLocals = 14) (hts : ∀ w ∈ wsL_isAhead, w.before args s = true) (hown : s.vm.findClass RL = some m.cls) (hK : va_K D vwCl (tysIJ cI cJ) s) (hA : ∀ q : Nat, s.heap.size ≤ q → A q) (hret : ∀ (v : Int32) (u : CS) (H : Heap) (locs : List Loc) (pc : Nat) (ls : Array Slot), narrow .boolean (.int v) = .int v → post v u → Wd D A s.heap (cW cI cJ a u) H locs → decode cL_isAhead pc = .ok (.ireturn, 1) → W p l e rm_L_isAhead s m args below meth c H locs 0 0 Q (F0 m pc ls [.int v])) (σ : CS) (x1 : Int32) (x2 : Int32) (x3 : Int32) (x4 : Int64) (t0 : Int32) (H : Heap) (locs : List Loc) (ls : Array Slot) (hw : wps_L_isAhead_433 σ x1 x2 x3 x4 t0 post) (hW : Wd D A s.heap (cW cI cJ a σ) H locs) (hl : lv_has ls 14 [(0, .ref (a 0)), (1, .int x1), (2, .int x2), (3, .int x3), (4, .long x4)]) : W p l e rm_L_isAhead s m args below meth c H locs 0 0 Q (F0 m 433 ls [.int t0]) := by
  refine lv_istore (lv' := [(7, .int t0), (0, .ref (a 0)), (1, .int x1), (2, .int x2), (3, .int x3), (4, .long x4)]) hx hb dL_isAhead_433 hl (by decide) rfl (fun ls hl => ?_)
  exact sg_L_isAhead_435 hx hb hml hts hown hK hA hret σ x1 x2 x3 x4 t0 _ _ _ hw hW (lv_sub hl [1, 2, 3, 4, 5, 0] rfl)
def wps_L_isAhead_432 (σ : CS) (x1 : Int32) (x2 : Int32) (x3 : Int32) (x4 : Int64) (post : Int32 → CS → Prop) : Prop := wps_L_isAhead_433 σ x1 x2 x3 x4 0 post
set_option maxHeartbeats 4000000 in
set_option maxRecDepth 100000 in
theorem sg_L_isAhead_432 {p : Program} {l : Launch} {e : Env} {s : State} {m : MethodId} {args : Array Value} {below : List Frame} {meth : Method} {c : Code} {A : Nat → Prop} {Q : State → Prop} {D : va_G} {cI cJ : ClassId} {a : Nat → Nat} {post : Int32 → CS → Prop} (hx : p.tables.exec = Jvm.exec) (hb : c.code = cL_isAhead) (hml : c.maxLocals = 14) (hts : ∀ w ∈ wsL_isAhead, w.before args s = true) (hown : s.vm.findClass RL = some m.cls) (hK : va_K D vwCl (tysIJ cI cJ) s) (hA : ∀ q : Nat, s.heap.size ≤ q → A q) (hret : ∀ (v : Int32) (u : CS) (H : Heap) (locs : List Loc) (pc : Nat) (ls : Array Slot), narrow .boolean (.int v) = .int v → post v u → Wd D A s.heap (cW cI cJ a u) H locs → decode cL_isAhead pc = .ok (.ireturn, 1) → W p l e rm_L_isAhead s m args below meth c H locs 0 0 Q (F0 m pc ls [.int v])) (σ : CS) (x1 : Int32) (x2 : Int32) (x3 : Int32) (x4 : Int64) (H : Heap) (locs : List Loc) (ls : Array Slot) (hw : wps_L_isAhead_432 σ x1 x2 x3 x4 post) (hW : Wd D A s.heap (cW cI cJ a σ) H locs) (hl : lv_has ls 14 [(0, .ref (a 0)), (1, .int x1), (2, .int x2), (3, .int x3), (4, .long x4)]) : W p l e rm_L_isAhead s m args below meth c H locs 0 0 Q (F0 m 432 ls []) := by
  refine lv_iconst (v := 0) hx hb dL_isAhead_432 (by decide) ?_
  exact sg_L_isAhead_433 hx hb hml hts hown hK hA hret σ x1 x2 x3 x4 0 _ _ _ hw hW (lv_sub hl [0, 1, 2, 3, 4] rfl)
def wps_L_isAhead_421 (σ : CS) (x1 : Int32) (x2 : Int32) (x3 : Int32) (x4 : Int64) (post : Int32 → CS → Prop) : Prop := wp_X4_undo σ (fun r_9001 σ_9002 => ((r_9001 < 0 → wps_L_isAhead_432 σ_9002 x1 x2 x3 x4 post) ∧ (¬ r_9001 < 0 → wps_L_isAhead_433 σ_9002 x1 x2 x3 x4 1 post))) (fun _ => False)
set_option maxHeartbeats 4000000 in
set_option maxRecDepth 100000 in
theorem sg_L_isAhead_421 {p : Program} {l : Launch} {e : Env} {s : State} {m : MethodId} {args : Array Value} {below : List Frame} {meth : Method} {c : Code} {A : Nat → Prop} {Q : State → Prop} {D : va_G} {cI cJ : ClassId} {a : Nat → Nat} {post : Int32 → CS → Prop} (hx : p.tables.exec = Jvm.exec) (hb : c.code = cL_isAhead) (hml : c.maxLocals = 14) (hts : ∀ w ∈ wsL_isAhead, w.before args s = true) (hown : s.vm.findClass RL = some m.cls) (hK : va_K D vwCl (tysIJ cI cJ) s) (hA : ∀ q : Nat, s.heap.size ≤ q → A q) (hret : ∀ (v : Int32) (u : CS) (H : Heap) (locs : List Loc) (pc : Nat) (ls : Array Slot), narrow .boolean (.int v) = .int v → post v u → Wd D A s.heap (cW cI cJ a u) H locs → decode cL_isAhead pc = .ok (.ireturn, 1) → W p l e rm_L_isAhead s m args below meth c H locs 0 0 Q (F0 m pc ls [.int v])) (σ : CS) (x1 : Int32) (x2 : Int32) (x3 : Int32) (x4 : Int64) (H : Heap) (locs : List Loc) (ls : Array Slot) (hw : wps_L_isAhead_421 σ x1 x2 x3 x4 post) (hW : Wd D A s.heap (cW cI cJ a σ) H locs) (hl : lv_has ls 14 [(0, .ref (a 0)), (1, .int x1), (2, .int x2), (3, .int x3), (4, .long x4)]) : W p l e rm_L_isAhead s m args below meth c H locs 0 0 Q (F0 m 421 ls []) := by
  refine lv_aload_n hx hb dL_isAhead_421 rfl (lv_at hl 0 rfl) ?_
  refine kV_Mi (As := []) (rest := []) ⟨hx, hb, hml, hown, hts⟩ (ok_X4_undo_n l D cI cJ a _ _ _ hw) (cwV 0 hts gL_isAhead_X4_undo rfl rfl rfl (by decide +kernel) ⟨Nat.le_of_ble_eq_true rfl, Nat.le_of_ble_eq_true rfl⟩) hK hW hA 0 rfl rfl rfl hl.1 rfl (Nat.le_of_ble_eq_true rfl) dL_isAhead_422 ⟨Nat.le_of_ble_eq_true rfl, Nat.le_of_ble_eq_true rfl⟩ (fun r_9001 σ_9002 H locs hw hW => ?_)
  refine lv_if_lt (tgt := 432) hx hb dL_isAhead_425 (by decide) (fun hc => ?_) (fun hc => ?_)
  · have hw := hw.1 hc
    exact sg_L_isAhead_432 hx hb hml hts hown hK hA hret σ_9002 x1 x2 x3 x4 _ _ _ hw hW (lv_sub hl [0, 1, 2, 3, 4] rfl)
  · have hw := hw.2 hc
    refine lv_iconst (v := 1) hx hb dL_isAhead_428 (by decide) ?_
    refine lv_goto (tgt := 433) hx hb dL_isAhead_429 (by decide) ?_
    exact sg_L_isAhead_433 hx hb hml hts hown hK hA hret σ_9002 x1 x2 x3 x4 1 _ _ _ hw hW (lv_sub hl [0, 1, 2, 3, 4] rfl)
def wps_L_isAhead_301 (σ : CS) (x1 : Int32) (x2 : Int32) (x3 : Int32) (x4 : Int64) (x7 : Int32) (post : Int32 → CS → Prop) : Prop := ((x7 = 0 → wps_L_isAhead_435 σ x1 x2 x3 x4 x7 post) ∧ (¬ x7 = 0 → wp_X4_count σ 2 (fun r_8001 => ((¬ r_8001 = 0 → wps_L_isAhead_435 σ x1 x2 x3 x4 x7 post) ∧ (r_8001 = 0 → wp_X4_ifOpened σ x2 0 (fun r_8002 σ_8003 => wp_X4_ifOpened σ_8003 x2 1 (fun r_8004 σ_8005 => wp_X4_open σ_8005 (fun r_8006 σ_8007 => ∃ I8008 : Nat → Int32 → Int32 → Prop, (∃ n : Nat, I8008 n 0 0) ∧ ∀ (n8008 : Nat) (v12_8008 : Int32) (v13_8008 : Int32), I8008 n8008 v12_8008 v13_8008 → ((6 ≤ v13_8008 → ((¬ r_8006 = v12_8008 → wps_L_isAhead_432 σ_8007 x1 x2 x3 x4 post) ∧ (r_8006 = v12_8008 → wp_X4_spot σ_8007 x2 2 (fun r_8009 => ((¬ r_8009 = r_8002 → wps_L_isAhead_432 σ_8007 x1 x2 x3 x4 post) ∧ (r_8009 = r_8002 → wp_X4_spot σ_8007 x2 3 (fun r_8010 => ((¬ r_8010 = r_8004 → wps_L_isAhead_432 σ_8007 x1 x2 x3 x4 post) ∧ (r_8010 = r_8004 → ((r_8004 = (-1) → wps_L_isAhead_421 σ_8007 x1 x2 x3 x4 post) ∧ (¬ r_8004 = (-1) → wp_X4_spot σ_8007 x2 0 (fun r_8011 => ((r_8004 < r_8011 → wps_L_isAhead_432 σ_8007 x1 x2 x3 x4 post) ∧ (¬ r_8004 < r_8011 → wps_L_isAhead_421 σ_8007 x1 x2 x3 x4 post))) (fun _ => False)))))) (fun _ => False)))) (fun _ => False)))) ∧ (¬ 6 ≤ v13_8008 → wp_X4_spot σ_8007 v13_8008 2 (fun r_8012 => ((r_8012 < 0 → ∀ v12_8013 : Int32, v12_8013 = (v12_8008 + 0) → ∀ v13_8014 : Int32, v13_8014 = v13_8008 + 1 → ∃ n' : Nat, n' < n8008 ∧ I8008 n' v12_8013 v13_8014) ∧ (¬ r_8012 < 0 → ∀ v12_8015 : Int32, v12_8015 = (v12_8008 + 1) → ∀ v13_8016 : Int32, v13_8016 = v13_8008 + 1 → ∃ n' : Nat, n' < n8008 ∧ I8008 n' v12_8015 v13_8016))) (fun _ => False)))) (fun _ => False)) (fun _ => False)) (fun _ => False)))) (fun _ => False)))
set_option maxHeartbeats 4000000 in
set_option maxRecDepth 100000 in
theorem sg_L_isAhead_301 {p : Program} {l : Launch} {e : Env} {s : State} {m : MethodId} {args : Array Value} {below : List Frame} {meth : Method} {c : Code} {A : Nat → Prop} {Q : State → Prop} {D : va_G} {cI cJ : ClassId} {a : Nat → Nat} {post : Int32 → CS → Prop} (hx : p.tables.exec = Jvm.exec) (hb : c.code = cL_isAhead) (hml : c.maxLocals = 14) (hts : ∀ w ∈ wsL_isAhead, w.before args s = true) (hown : s.vm.findClass RL = some m.cls) (hK : va_K D vwCl (tysIJ cI cJ) s) (hA : ∀ q : Nat, s.heap.size ≤ q → A q) (hret : ∀ (v : Int32) (u : CS) (H : Heap) (locs : List Loc) (pc : Nat) (ls : Array Slot), narrow .boolean (.int v) = .int v → post v u → Wd D A s.heap (cW cI cJ a u) H locs → decode cL_isAhead pc = .ok (.ireturn, 1) → W p l e rm_L_isAhead s m args below meth c H locs 0 0 Q (F0 m pc ls [.int v])) (σ : CS) (x1 : Int32) (x2 : Int32) (x3 : Int32) (x4 : Int64) (x7 : Int32) (H : Heap) (locs : List Loc) (ls : Array Slot) (hw : wps_L_isAhead_301 σ x1 x2 x3 x4 x7 post) (hW : Wd D A s.heap (cW cI cJ a σ) H locs) (hl : lv_has ls 14 [(0, .ref (a 0)), (1, .int x1), (2, .int x2), (3, .int x3), (4, .long x4), (7, .int x7)]) : W p l e rm_L_isAhead s m args below meth c H locs 0 0 Q (F0 m 301 ls []) := by
  refine lv_iload hx hb dL_isAhead_301 (lv_at hl 5 rfl) ?_
  refine lv_if_eq (tgt := 435) hx hb dL_isAhead_303 (by decide) (fun hc => ?_) (fun hc => ?_)
  · have hw := hw.1 hc
    exact sg_L_isAhead_435 hx hb hml hts hown hK hA hret σ x1 x2 x3 x4 x7 _ _ _ hw hW (lv_sub hl [0, 1, 2, 3, 4, 5] rfl)
  · have hw := hw.2 hc
    refine lv_aload_n hx hb dL_isAhead_306 rfl (lv_at hl 0 rfl) ?_
    refine lv_iconst (v := 2) hx hb dL_isAhead_307 (by decide) ?_
    refine kV_Mi (As := [.int 2]) (rest := []) ⟨hx, hb, hml, hown, hts⟩ (ok_X4_count_n l D cI cJ a _ _ _ _ hw) (cwV 1 hts gL_isAhead_X4_count rfl rfl rfl (by decide +kernel) ⟨Nat.le_of_ble_eq_true rfl, Nat.le_of_ble_eq_true rfl⟩) hK hW hA 0 rfl rfl rfl hl.1 rfl (Nat.le_of_ble_eq_true rfl) dL_isAhead_308 ⟨Nat.le_of_ble_eq_true rfl, Nat.le_of_ble_eq_true rfl⟩ (fun r_8001 _ H locs hw hW => ?_)
    refine lv_if_ne (tgt := 435) hx hb dL_isAhead_311 (by decide) (fun hc => ?_) (fun hc => ?_)
    · have hw := hw.1 hc
      exact sg_L_isAhead_435 hx hb hml hts hown hK hA hret σ x1 x2 x3 x4 x7 _ _ _ hw hW (lv_sub hl [0, 1, 2, 3, 4, 5] rfl)
    · have hw := hw.2 hc
      refine lv_aload_n hx hb dL_isAhead_314 rfl (lv_at hl 0 rfl) ?_
      refine lv_iload_n hx hb dL_isAhead_315 rfl (lv_at hl 2 rfl) ?_
      refine lv_iconst (v := 0) hx hb dL_isAhead_316 (by decide) ?_
      refine kV_Mi (As := [.int x2, .int 0]) (rest := []) ⟨hx, hb, hml, hown, hts⟩ (ok_X4_ifOpened_n l D cI cJ a _ _ _ _ _ hw) (cwV 2 hts gL_isAhead_X4_ifOpened rfl rfl rfl (by decide +kernel) ⟨Nat.le_of_ble_eq_true rfl, Nat.le_of_ble_eq_true rfl⟩) hK hW hA 0 rfl rfl rfl hl.1 rfl (Nat.le_of_ble_eq_true rfl) dL_isAhead_317 ⟨Nat.le_of_ble_eq_true rfl, Nat.le_of_ble_eq_true rfl⟩ (fun r_8002 σ_8003 H locs hw hW => ?_)
      refine lv_istore (lv' := [(9, .int r_8002), (0, .ref (a 0)), (1, .int x1), (2, .int x2), (3, .int x3), (4, .long x4), (7, .int x7)]) hx hb dL_isAhead_320 hl (by decide) rfl (fun ls hl => ?_)
      refine lv_aload_n hx hb dL_isAhead_322 rfl (lv_at hl 1 rfl) ?_
      refine lv_iload_n hx hb dL_isAhead_323 rfl (lv_at hl 3 rfl) ?_
      refine lv_iconst (v := 1) hx hb dL_isAhead_324 (by decide) ?_
      refine kV_Mi (As := [.int x2, .int 1]) (rest := []) ⟨hx, hb, hml, hown, hts⟩ (ok_X4_ifOpened_n l D cI cJ a _ _ _ _ _ hw) (cwV 2 hts gL_isAhead_X4_ifOpened rfl rfl rfl (by decide +kernel) ⟨Nat.le_of_ble_eq_true rfl, Nat.le_of_ble_eq_true rfl⟩) hK hW hA 0 rfl rfl rfl hl.1 rfl (Nat.le_of_ble_eq_true rfl) dL_isAhead_325 ⟨Nat.le_of_ble_eq_true rfl, Nat.le_of_ble_eq_true rfl⟩ (fun r_8004 σ_8005 H locs hw hW => ?_)
      refine lv_istore (lv' := [(10, .int r_8004), (9, .int r_8002), (0, .ref (a 0)), (1, .int x1), (2, .int x2), (3, .int x3), (4, .long x4), (7, .int x7)]) hx hb dL_isAhead_328 hl (by decide) rfl (fun ls hl => ?_)
      refine lv_aload_n hx hb dL_isAhead_330 rfl (lv_at hl 2 rfl) ?_
      refine kV_Mi (As := []) (rest := []) ⟨hx, hb, hml, hown, hts⟩ (ok_X4_open_n l D cI cJ a _ _ _ hw) (cwV 0 hts gL_isAhead_X4_open rfl rfl rfl (by decide +kernel) ⟨Nat.le_of_ble_eq_true rfl, Nat.le_of_ble_eq_true rfl⟩) hK hW hA 0 rfl rfl rfl hl.1 rfl (Nat.le_of_ble_eq_true rfl) dL_isAhead_331 ⟨Nat.le_of_ble_eq_true rfl, Nat.le_of_ble_eq_true rfl⟩ (fun r_8006 σ_8007 H locs hw hW => ?_)
      refine lv_istore (lv' := [(11, .int r_8006), (10, .int r_8004), (9, .int r_8002), (0, .ref (a 0)), (1, .int x1), (2, .int x2), (3, .int x3), (4, .long x4), (7, .int x7)]) hx hb dL_isAhead_334 hl (by decide) rfl (fun ls hl => ?_)
      refine lv_iconst (v := 0) hx hb dL_isAhead_336 (by decide) ?_
      refine lv_istore (lv' := [(12, .int 0), (11, .int r_8006), (10, .int r_8004), (9, .int r_8002), (0, .ref (a 0)), (1, .int x1), (2, .int x2), (3, .int x3), (4, .long x4), (7, .int x7)]) hx hb dL_isAhead_337 hl (by decide) rfl (fun ls hl => ?_)
      refine lv_iconst (v := 0) hx hb dL_isAhead_339 (by decide) ?_
      refine lv_istore (lv' := [(13, .int 0), (12, .int 0), (11, .int r_8006), (10, .int r_8004), (9, .int r_8002), (0, .ref (a 0)), (1, .int x1), (2, .int x2), (3, .int x3), (4, .long x4), (7, .int x7)]) hx hb dL_isAhead_340 hl (by decide) rfl (fun ls hl => ?_)
      obtain ⟨I8008, ⟨n8008, hI8008⟩, hJ8008⟩ := hw
      have hl : lv_has ls 14 [(0, .ref (a 0)), (1, .int x1), (2, .int x2), (3, .int x3), (4, .long x4), (9, .int r_8002), (10, .int r_8004), (11, .int r_8006), (12, .int 0), (13, .int 0)] := lv_sub hl [5, 6, 7, 8, 9, 4, 3, 2, 1, 0] rfl
      suffices LP8008 : ∀ (n : Nat) (v12_8008 : Int32) (v13_8008 : Int32) (H : Heap) (locs : List Loc) (ls : Array Slot), I8008 n v12_8008 v13_8008 → Wd D A s.heap (cW cI cJ a σ_8007) H locs → lv_has ls 14 [(0, .ref (a 0)), (1, .int x1), (2, .int x2), (3, .int x3), (4, .long x4), (9, .int r_8002), (10, .int r_8004), (11, .int r_8006), (12, .int v12_8008), (13, .int v13_8008)] → W p l e rm_L_isAhead s m args below meth c H locs 0 0 Q (F0 m 342 ls []) from LP8008 n8008 0 0 H locs ls hI8008 hW hl
      intro n8008
      induction n8008 using Nat.strongRecOn with
      | ind n8008 ih8008 =>
        intro v12_8008 v13_8008 H locs ls hIn hW hl
        have hw := hJ8008 n8008 v12_8008 v13_8008 hIn
        refine lv_iload hx hb dL_isAhead_342 (lv_at hl 9 rfl) ?_
        refine lv_bipush (v := 6) hx hb dL_isAhead_344 (by decide) ?_
        refine lv_icmp_ge (tgt := 375) hx hb dL_isAhead_346 (by decide) (fun hc => ?_) (fun hc => ?_)
        · have hw := hw.1 hc
          refine lv_iload hx hb dL_isAhead_375 (lv_at hl 7 rfl) ?_
          refine lv_iload hx hb dL_isAhead_377 (lv_at hl 8 rfl) ?_
          refine lv_icmp_ne (tgt := 432) hx hb dL_isAhead_379 (by decide) (fun hc => ?_) (fun hc => ?_)
          · have hw := hw.1 hc
            exact sg_L_isAhead_432 hx hb hml hts hown hK hA hret σ_8007 x1 x2 x3 x4 _ _ _ hw hW (lv_sub hl [0, 1, 2, 3, 4] rfl)
          · have hw := hw.2 hc
            refine lv_aload_n hx hb dL_isAhead_382 rfl (lv_at hl 0 rfl) ?_
            refine lv_iload_n hx hb dL_isAhead_383 rfl (lv_at hl 2 rfl) ?_
            refine lv_iconst (v := 2) hx hb dL_isAhead_384 (by decide) ?_
            refine kV_Mi (As := [.int x2, .int 2]) (rest := []) ⟨hx, hb, hml, hown, hts⟩ (ok_X4_spot_n l D cI cJ a _ _ _ _ _ hw) (cwV 2 hts gL_isAhead_X4_spot rfl rfl rfl (by decide +kernel) ⟨Nat.le_of_ble_eq_true rfl, Nat.le_of_ble_eq_true rfl⟩) hK hW hA 0 rfl rfl rfl hl.1 rfl (Nat.le_of_ble_eq_true rfl) dL_isAhead_385 ⟨Nat.le_of_ble_eq_true rfl, Nat.le_of_ble_eq_true rfl⟩ (fun r_8009 _ H locs hw hW => ?_)
            refine lv_iload hx hb dL_isAhead_388 (lv_at hl 5 rfl) ?_
            refine lv_icmp_ne (tgt := 432) hx hb dL_isAhead_390 (by decide) (fun hc => ?_) (fun hc => ?_)
            · have hw := hw.1 hc
              exact sg_L_isAhead_432 hx hb hml hts hown hK hA hret σ_8007 x1 x2 x3 x4 _ _ _ hw hW (lv_sub hl [0, 1, 2, 3, 4] rfl)
            · have hw := hw.2 hc
              refine lv_aload_n hx hb dL_isAhead_393 rfl (lv_at hl 0 rfl) ?_
              refine lv_iload_n hx hb dL_isAhead_394 rfl (lv_at hl 2 rfl) ?_
              refine lv_iconst (v := 3) hx hb dL_isAhead_395 (by decide) ?_
              refine kV_Mi (As := [.int x2, .int 3]) (rest := []) ⟨hx, hb, hml, hown, hts⟩ (ok_X4_spot_n l D cI cJ a _ _ _ _ _ hw) (cwV 2 hts gL_isAhead_X4_spot rfl rfl rfl (by decide +kernel) ⟨Nat.le_of_ble_eq_true rfl, Nat.le_of_ble_eq_true rfl⟩) hK hW hA 0 rfl rfl rfl hl.1 rfl (Nat.le_of_ble_eq_true rfl) dL_isAhead_396 ⟨Nat.le_of_ble_eq_true rfl, Nat.le_of_ble_eq_true rfl⟩ (fun r_8010 _ H locs hw hW => ?_)
              refine lv_iload hx hb dL_isAhead_399 (lv_at hl 6 rfl) ?_
              refine lv_icmp_ne (tgt := 432) hx hb dL_isAhead_401 (by decide) (fun hc => ?_) (fun hc => ?_)
              · have hw := hw.1 hc
                exact sg_L_isAhead_432 hx hb hml hts hown hK hA hret σ_8007 x1 x2 x3 x4 _ _ _ hw hW (lv_sub hl [0, 1, 2, 3, 4] rfl)
              · have hw := hw.2 hc
                refine lv_iload hx hb dL_isAhead_404 (lv_at hl 6 rfl) ?_
                refine lv_iconst (v := (-1)) hx hb dL_isAhead_406 (by decide) ?_
                refine lv_icmp_eq (tgt := 421) hx hb dL_isAhead_407 (by decide) (fun hc => ?_) (fun hc => ?_)
                · have hw := hw.1 hc
                  exact sg_L_isAhead_421 hx hb hml hts hown hK hA hret σ_8007 x1 x2 x3 x4 _ _ _ hw hW (lv_sub hl [0, 1, 2, 3, 4] rfl)
                · have hw := hw.2 hc
                  refine lv_iload hx hb dL_isAhead_410 (lv_at hl 6 rfl) ?_
                  refine lv_aload_n hx hb dL_isAhead_412 rfl (lv_at hl 0 rfl) ?_
                  refine lv_iload_n hx hb dL_isAhead_413 rfl (lv_at hl 2 rfl) ?_
                  refine lv_iconst (v := 0) hx hb dL_isAhead_414 (by decide) ?_
                  refine kV_Mi (As := [.int x2, .int 0]) (rest := [.int r_8004]) ⟨hx, hb, hml, hown, hts⟩ (ok_X4_spot_n l D cI cJ a _ _ _ _ _ hw) (cwV 2 hts gL_isAhead_X4_spot rfl rfl rfl (by decide +kernel) ⟨Nat.le_of_ble_eq_true rfl, Nat.le_of_ble_eq_true rfl⟩) hK hW hA 0 rfl rfl rfl hl.1 rfl (Nat.le_of_ble_eq_true rfl) dL_isAhead_415 ⟨Nat.le_of_ble_eq_true rfl, Nat.le_of_ble_eq_true rfl⟩ (fun r_8011 _ H locs hw hW => ?_)
                  refine lv_icmp_lt (tgt := 432) hx hb dL_isAhead_418 (by decide) (fun hc => ?_) (fun hc => ?_)
                  · have hw := hw.1 hc
                    exact sg_L_isAhead_432 hx hb hml hts hown hK hA hret σ_8007 x1 x2 x3 x4 _ _ _ hw hW (lv_sub hl [0, 1, 2, 3, 4] rfl)
                  · have hw := hw.2 hc
                    exact sg_L_isAhead_421 hx hb hml hts hown hK hA hret σ_8007 x1 x2 x3 x4 _ _ _ hw hW (lv_sub hl [0, 1, 2, 3, 4] rfl)
        · have hw := hw.2 hc
          refine lv_iload hx hb dL_isAhead_349 (lv_at hl 8 rfl) ?_
          refine lv_aload_n hx hb dL_isAhead_351 rfl (lv_at hl 0 rfl) ?_
          refine lv_iload hx hb dL_isAhead_352 (lv_at hl 9 rfl) ?_
          refine lv_iconst (v := 2) hx hb dL_isAhead_354 (by decide) ?_
          refine kV_Mi (As := [.int v13_8008, .int 2]) (rest := [.int v12_8008]) ⟨hx, hb, hml, hown, hts⟩ (ok_X4_spot_n l D cI cJ a _ _ _ _ _ hw) (cwV 2 hts gL_isAhead_X4_spot rfl rfl rfl (by decide +kernel) ⟨Nat.le_of_ble_eq_true rfl, Nat.le_of_ble_eq_true rfl⟩) hK hW hA 0 rfl rfl rfl hl.1 rfl (Nat.le_of_ble_eq_true rfl) dL_isAhead_355 ⟨Nat.le_of_ble_eq_true rfl, Nat.le_of_ble_eq_true rfl⟩ (fun r_8012 _ H locs hw hW => ?_)
          refine lv_if_lt (tgt := 365) hx hb dL_isAhead_358 (by decide) (fun hc => ?_) (fun hc => ?_)
          · have hw := hw.1 hc
            refine lv_iconst (v := 0) hx hb dL_isAhead_365 (by decide) ?_
            refine lv_iadd hx hb dL_isAhead_366 ?_
            refine lv_topi (fun v12_8013 ev12_8013 => ?_)
            have hw := hw v12_8013 ev12_8013
            refine lv_istore (lv' := [(12, .int v12_8013), (0, .ref (a 0)), (1, .int x1), (2, .int x2), (3, .int x3), (4, .long x4), (9, .int r_8002), (10, .int r_8004), (11, .int r_8006), (13, .int v13_8008)]) hx hb dL_isAhead_367 hl (by decide) rfl (fun ls hl => ?_)
            obtain ⟨v13_8014, ev13_8014⟩ : ∃ y : Int32, y = v13_8008 + 1 := ⟨_, rfl⟩
            have hw := hw v13_8014 ev13_8014
            refine lv_iinc (v := v13_8014) (lv' := [(13, .int v13_8014), (12, .int v12_8013), (0, .ref (a 0)), (1, .int x1), (2, .int x2), (3, .int x3), (4, .long x4), (9, .int r_8002), (10, .int r_8004), (11, .int r_8006)]) hx hb dL_isAhead_369 hl (k := 9) rfl (by rw [ev13_8014]; rfl) (by decide) rfl (fun ls hl => ?_)
            refine lv_goto (tgt := 342) hx hb dL_isAhead_372 (by decide) ?_
            obtain ⟨n9, hlt9, hI9⟩ := hw
            exact ih8008 n9 hlt9 _ _ _ _ _ hI9 hW (lv_sub hl [2, 3, 4, 5, 6, 7, 8, 9, 1, 0] rfl)
          · have hw := hw.2 hc
            refine lv_iconst (v := 1) hx hb dL_isAhead_361 (by decide) ?_
            refine lv_goto (tgt := 366) hx hb dL_isAhead_362 (by decide) ?_
            refine lv_iadd hx hb dL_isAhead_366 ?_
            refine lv_topi (fun v12_8015 ev12_8015 => ?_)
            have hw := hw v12_8015 ev12_8015
            refine lv_istore (lv' := [(12, .int v12_8015), (0, .ref (a 0)), (1, .int x1), (2, .int x2), (3, .int x3), (4, .long x4), (9, .int r_8002), (10, .int r_8004), (11, .int r_8006), (13, .int v13_8008)]) hx hb dL_isAhead_367 hl (by decide) rfl (fun ls hl => ?_)
            obtain ⟨v13_8016, ev13_8016⟩ : ∃ y : Int32, y = v13_8008 + 1 := ⟨_, rfl⟩
            have hw := hw v13_8016 ev13_8016
            refine lv_iinc (v := v13_8016) (lv' := [(13, .int v13_8016), (12, .int v12_8015), (0, .ref (a 0)), (1, .int x1), (2, .int x2), (3, .int x3), (4, .long x4), (9, .int r_8002), (10, .int r_8004), (11, .int r_8006)]) hx hb dL_isAhead_369 hl (k := 9) rfl (by rw [ev13_8016]; rfl) (by decide) rfl (fun ls hl => ?_)
            refine lv_goto (tgt := 342) hx hb dL_isAhead_372 (by decide) ?_
            obtain ⟨n9, hlt9, hI9⟩ := hw
            exact ih8008 n9 hlt9 _ _ _ _ _ hI9 hW (lv_sub hl [2, 3, 4, 5, 6, 7, 8, 9, 1, 0] rfl)
def wps_L_isAhead_299 (σ : CS) (x1 : Int32) (x2 : Int32) (x3 : Int32) (x4 : Int64) (t0 : Int32) (post : Int32 → CS → Prop) : Prop := wps_L_isAhead_301 σ x1 x2 x3 x4 t0 post
set_option maxHeartbeats 4000000 in
set_option maxRecDepth 100000 in
theorem sg_L_isAhead_299 {p : Program} {l : Launch} {e : Env} {s : State} {m : MethodId} {args : Array Value} {below : List Frame} {meth : Method} {c : Code} {A : Nat → Prop} {Q : State → Prop} {D : va_G} {cI cJ : ClassId} {a : Nat → Nat} {post : Int32 → CS → Prop} (hx : p.tables.exec = Jvm.exec) (hb : c.code = cL_isAhead) (hml : c.maxLocals = 14) (hts : ∀ w ∈ wsL_isAhead, w.before args s = true) (hown : s.vm.findClass RL = some m.cls) (hK : va_K D vwCl (tysIJ cI cJ) s) (hA : ∀ q : Nat, s.heap.size ≤ q → A q) (hret : ∀ (v : Int32) (u : CS) (H : Heap) (locs : List Loc) (pc : Nat) (ls : Array Slot), narrow .boolean (.int v) = .int v → post v u → Wd D A s.heap (cW cI cJ a u) H locs → decode cL_isAhead pc = .ok (.ireturn, 1) → W p l e rm_L_isAhead s m args below meth c H locs 0 0 Q (F0 m pc ls [.int v])) (σ : CS) (x1 : Int32) (x2 : Int32) (x3 : Int32) (x4 : Int64) (t0 : Int32) (H : Heap) (locs : List Loc) (ls : Array Slot) (hw : wps_L_isAhead_299 σ x1 x2 x3 x4 t0 post) (hW : Wd D A s.heap (cW cI cJ a σ) H locs) (hl : lv_has ls 14 [(0, .ref (a 0)), (1, .int x1), (2, .int x2), (3, .int x3), (4, .long x4)]) : W p l e rm_L_isAhead s m args below meth c H locs 0 0 Q (F0 m 299 ls [.int t0]) := by
  refine lv_istore (lv' := [(7, .int t0), (0, .ref (a 0)), (1, .int x1), (2, .int x2), (3, .int x3), (4, .long x4)]) hx hb dL_isAhead_299 hl (by decide) rfl (fun ls hl => ?_)
  exact sg_L_isAhead_301 hx hb hml hts hown hK hA hret σ x1 x2 x3 x4 t0 _ _ _ hw hW (lv_sub hl [1, 2, 3, 4, 5, 0] rfl)
def wps_L_isAhead_298 (σ : CS) (x1 : Int32) (x2 : Int32) (x3 : Int32) (x4 : Int64) (post : Int32 → CS → Prop) : Prop := wps_L_isAhead_299 σ x1 x2 x3 x4 0 post
set_option maxHeartbeats 4000000 in
set_option maxRecDepth 100000 in
theorem sg_L_isAhead_298 {p : Program} {l : Launch} {e : Env} {s : State} {m : MethodId} {args : Array Value} {below : List Frame} {meth : Method} {c : Code} {A : Nat → Prop} {Q : State → Prop} {D : va_G} {cI cJ : ClassId} {a : Nat → Nat} {post : Int32 → CS → Prop} (hx : p.tables.exec = Jvm.exec) (hb : c.code = cL_isAhead) (hml : c.maxLocals = 14) (hts : ∀ w ∈ wsL_isAhead, w.before args s = true) (hown : s.vm.findClass RL = some m.cls) (hK : va_K D vwCl (tysIJ cI cJ) s) (hA : ∀ q : Nat, s.heap.size ≤ q → A q) (hret : ∀ (v : Int32) (u : CS) (H : Heap) (locs : List Loc) (pc : Nat) (ls : Array Slot), narrow .boolean (.int v) = .int v → post v u → Wd D A s.heap (cW cI cJ a u) H locs → decode cL_isAhead pc = .ok (.ireturn, 1) → W p l e rm_L_isAhead s m args below meth c H locs 0 0 Q (F0 m pc ls [.int v])) (σ : CS) (x1 : Int32) (x2 : Int32) (x3 : Int32) (x4 : Int64) (H : Heap) (locs : List Loc) (ls : Array Slot) (hw : wps_L_isAhead_298 σ x1 x2 x3 x4 post) (hW : Wd D A s.heap (cW cI cJ a σ) H locs) (hl : lv_has ls 14 [(0, .ref (a 0)), (1, .int x1), (2, .int x2), (3, .int x3), (4, .long x4)]) : W p l e rm_L_isAhead s m args below meth c H locs 0 0 Q (F0 m 298 ls []) := by
  refine lv_iconst (v := 0) hx hb dL_isAhead_298 (by decide) ?_
  exact sg_L_isAhead_299 hx hb hml hts hown hK hA hret σ x1 x2 x3 x4 0 _ _ _ hw hW (lv_sub hl [0, 1, 2, 3, 4] rfl)
def wps_L_isAhead_197 (σ : CS) (x1 : Int32) (x2 : Int32) (x3 : Int32) (x4 : Int64) (x7 : Int32) (post : Int32 → CS → Prop) : Prop := ((x7 = 0 → wps_L_isAhead_301 σ x1 x2 x3 x4 x7 post) ∧ (¬ x7 = 0 → wp_X4_sealed σ x1 x2 4 (fun r_5001 => ((¬ r_5001 = 0 → wps_L_isAhead_301 σ x1 x2 x3 x4 x7 post) ∧ (r_5001 = 0 → wp_X4_sealed σ x1 x2 3 (fun r_5002 => wp_X4_bidder σ x1 0 (fun r_5003 => wp_X4_count σ 7 (fun r_5004 => wp_X4_withdraw σ x1 x2 (fun r_5005 σ_5006 => ((¬ r_5005 = r_5002 → wps_L_isAhead_298 σ_5006 x1 x2 x3 x4 post) ∧ (r_5005 = r_5002 → wp_X4_bidder σ_5006 x1 0 (fun r_5007 => ((¬ r_5007 = (r_5003 - r_5002) → wps_L_isAhead_298 σ_5006 x1 x2 x3 x4 post) ∧ (r_5007 = (r_5003 - r_5002) → wp_X4_count σ_5006 7 (fun r_5008 => ((¬ r_5008 = (r_5004 + r_5002) → wps_L_isAhead_298 σ_5006 x1 x2 x3 x4 post) ∧ (r_5008 = (r_5004 + r_5002) → wp_X4_sealed σ_5006 x1 x2 0 (fun r_5009 => ((¬ r_5009 = (-1) → wps_L_isAhead_298 σ_5006 x1 x2 x3 x4 post) ∧ (r_5009 = (-1) → wp_X4_undo σ_5006 (fun r_5010 σ_5011 => ((r_5010 < 0 → wps_L_isAhead_298 σ_5011 x1 x2 x3 x4 post) ∧ (¬ r_5010 < 0 → wps_L_isAhead_299 σ_5011 x1 x2 x3 x4 1 post))) (fun _ => False)))) (fun _ => False)))) (fun _ => False)))) (fun _ => False)))) (fun _ => False)) (fun _ => False)) (fun _ => False)) (fun _ => False)))) (fun _ => False)))
set_option maxHeartbeats 4000000 in
set_option maxRecDepth 100000 in
theorem sg_L_isAhead_197 {p : Program} {l : Launch} {e : Env} {s : State} {m : MethodId} {args : Array Value} {below : List Frame} {meth : Method} {c : Code} {A : Nat → Prop} {Q : State → Prop} {D : va_G} {cI cJ : ClassId} {a : Nat → Nat} {post : Int32 → CS → Prop} (hx : p.tables.exec = Jvm.exec) (hb : c.code = cL_isAhead) (hml : c.maxLocals = 14) (hts : ∀ w ∈ wsL_isAhead, w.before args s = true) (hown : s.vm.findClass RL = some m.cls) (hK : va_K D vwCl (tysIJ cI cJ) s) (hA : ∀ q : Nat, s.heap.size ≤ q → A q) (hret : ∀ (v : Int32) (u : CS) (H : Heap) (locs : List Loc) (pc : Nat) (ls : Array Slot), narrow .boolean (.int v) = .int v → post v u → Wd D A s.heap (cW cI cJ a u) H locs → decode cL_isAhead pc = .ok (.ireturn, 1) → W p l e rm_L_isAhead s m args below meth c H locs 0 0 Q (F0 m pc ls [.int v])) (σ : CS) (x1 : Int32) (x2 : Int32) (x3 : Int32) (x4 : Int64) (x7 : Int32) (H : Heap) (locs : List Loc) (ls : Array Slot) (hw : wps_L_isAhead_197 σ x1 x2 x3 x4 x7 post) (hW : Wd D A s.heap (cW cI cJ a σ) H locs) (hl : lv_has ls 14 [(0, .ref (a 0)), (1, .int x1), (2, .int x2), (3, .int x3), (4, .long x4), (7, .int x7)]) : W p l e rm_L_isAhead s m args below meth c H locs 0 0 Q (F0 m 197 ls []) := by
  refine lv_iload hx hb dL_isAhead_197 (lv_at hl 5 rfl) ?_
  refine lv_if_eq (tgt := 301) hx hb dL_isAhead_199 (by decide) (fun hc => ?_) (fun hc => ?_)
  · have hw := hw.1 hc
    exact sg_L_isAhead_301 hx hb hml hts hown hK hA hret σ x1 x2 x3 x4 x7 _ _ _ hw hW (lv_sub hl [0, 1, 2, 3, 4, 5] rfl)
  · have hw := hw.2 hc
    refine lv_aload_n hx hb dL_isAhead_202 rfl (lv_at hl 0 rfl) ?_
    refine lv_iload_n hx hb dL_isAhead_203 rfl (lv_at hl 1 rfl) ?_
    refine lv_iload_n hx hb dL_isAhead_204 rfl (lv_at hl 2 rfl) ?_
    refine lv_iconst (v := 4) hx hb dL_isAhead_205 (by decide) ?_
    refine kV_Mi (As := [.int x1, .int x2, .int 4]) (rest := []) ⟨hx, hb, hml, hown, hts⟩ (ok_X4_sealed_n l D cI cJ a _ _ _ _ _ _ hw) (cwV 3 hts gL_isAhead_X4_sealed rfl rfl rfl (by decide +kernel) ⟨Nat.le_of_ble_eq_true rfl, Nat.le_of_ble_eq_true rfl⟩) hK hW hA 0 rfl rfl rfl hl.1 rfl (Nat.le_of_ble_eq_true rfl) dL_isAhead_206 ⟨Nat.le_of_ble_eq_true rfl, Nat.le_of_ble_eq_true rfl⟩ (fun r_5001 _ H locs hw hW => ?_)
    refine lv_if_ne (tgt := 301) hx hb dL_isAhead_209 (by decide) (fun hc => ?_) (fun hc => ?_)
    · have hw := hw.1 hc
      exact sg_L_isAhead_301 hx hb hml hts hown hK hA hret σ x1 x2 x3 x4 x7 _ _ _ hw hW (lv_sub hl [0, 1, 2, 3, 4, 5] rfl)
    · have hw := hw.2 hc
      refine lv_aload_n hx hb dL_isAhead_212 rfl (lv_at hl 0 rfl) ?_
      refine lv_iload_n hx hb dL_isAhead_213 rfl (lv_at hl 1 rfl) ?_
      refine lv_iload_n hx hb dL_isAhead_214 rfl (lv_at hl 2 rfl) ?_
      refine lv_iconst (v := 3) hx hb dL_isAhead_215 (by decide) ?_
      refine kV_Mi (As := [.int x1, .int x2, .int 3]) (rest := []) ⟨hx, hb, hml, hown, hts⟩ (ok_X4_sealed_n l D cI cJ a _ _ _ _ _ _ hw) (cwV 3 hts gL_isAhead_X4_sealed rfl rfl rfl (by decide +kernel) ⟨Nat.le_of_ble_eq_true rfl, Nat.le_of_ble_eq_true rfl⟩) hK hW hA 0 rfl rfl rfl hl.1 rfl (Nat.le_of_ble_eq_true rfl) dL_isAhead_216 ⟨Nat.le_of_ble_eq_true rfl, Nat.le_of_ble_eq_true rfl⟩ (fun r_5002 _ H locs hw hW => ?_)
      refine lv_istore (lv' := [(9, .int r_5002), (0, .ref (a 0)), (1, .int x1), (2, .int x2), (3, .int x3), (4, .long x4), (7, .int x7)]) hx hb dL_isAhead_219 hl (by decide) rfl (fun ls hl => ?_)
      refine lv_aload_n hx hb dL_isAhead_221 rfl (lv_at hl 1 rfl) ?_
      refine lv_iload_n hx hb dL_isAhead_222 rfl (lv_at hl 2 rfl) ?_
      refine lv_iconst (v := 0) hx hb dL_isAhead_223 (by decide) ?_
      refine kV_Mi (As := [.int x1, .int 0]) (rest := []) ⟨hx, hb, hml, hown, hts⟩ (ok_X4_bidder_n l D cI cJ a _ _ _ _ _ hw) (cwV 2 hts gL_isAhead_X4_bidder rfl rfl rfl (by decide +kernel) ⟨Nat.le_of_ble_eq_true rfl, Nat.le_of_ble_eq_true rfl⟩) hK hW hA 0 rfl rfl rfl hl.1 rfl (Nat.le_of_ble_eq_true rfl) dL_isAhead_224 ⟨Nat.le_of_ble_eq_true rfl, Nat.le_of_ble_eq_true rfl⟩ (fun r_5003 _ H locs hw hW => ?_)
      refine lv_istore (lv' := [(10, .int r_5003), (9, .int r_5002), (0, .ref (a 0)), (1, .int x1), (2, .int x2), (3, .int x3), (4, .long x4), (7, .int x7)]) hx hb dL_isAhead_227 hl (by decide) rfl (fun ls hl => ?_)
      refine lv_aload_n hx hb dL_isAhead_229 rfl (lv_at hl 2 rfl) ?_
      refine lv_bipush (v := 7) hx hb dL_isAhead_230 (by decide) ?_
      refine kV_Mi (As := [.int 7]) (rest := []) ⟨hx, hb, hml, hown, hts⟩ (ok_X4_count_n l D cI cJ a _ _ _ _ hw) (cwV 1 hts gL_isAhead_X4_count rfl rfl rfl (by decide +kernel) ⟨Nat.le_of_ble_eq_true rfl, Nat.le_of_ble_eq_true rfl⟩) hK hW hA 0 rfl rfl rfl hl.1 rfl (Nat.le_of_ble_eq_true rfl) dL_isAhead_232 ⟨Nat.le_of_ble_eq_true rfl, Nat.le_of_ble_eq_true rfl⟩ (fun r_5004 _ H locs hw hW => ?_)
      refine lv_istore (lv' := [(11, .int r_5004), (10, .int r_5003), (9, .int r_5002), (0, .ref (a 0)), (1, .int x1), (2, .int x2), (3, .int x3), (4, .long x4), (7, .int x7)]) hx hb dL_isAhead_235 hl (by decide) rfl (fun ls hl => ?_)
      refine lv_aload_n hx hb dL_isAhead_237 rfl (lv_at hl 3 rfl) ?_
      refine lv_iload_n hx hb dL_isAhead_238 rfl (lv_at hl 4 rfl) ?_
      refine lv_iload_n hx hb dL_isAhead_239 rfl (lv_at hl 5 rfl) ?_
      refine kV_Mi (As := [.int x1, .int x2]) (rest := []) ⟨hx, hb, hml, hown, hts⟩ (ok_X4_withdraw_n l D cI cJ a _ _ _ _ _ hw) (cwV 2 hts gL_isAhead_X4_withdraw rfl rfl rfl (by decide +kernel) ⟨Nat.le_of_ble_eq_true rfl, Nat.le_of_ble_eq_true rfl⟩) hK hW hA 0 rfl rfl rfl hl.1 rfl (Nat.le_of_ble_eq_true rfl) dL_isAhead_240 ⟨Nat.le_of_ble_eq_true rfl, Nat.le_of_ble_eq_true rfl⟩ (fun r_5005 σ_5006 H locs hw hW => ?_)
      refine lv_iload hx hb dL_isAhead_243 (lv_at hl 2 rfl) ?_
      refine lv_icmp_ne (tgt := 298) hx hb dL_isAhead_245 (by decide) (fun hc => ?_) (fun hc => ?_)
      · have hw := hw.1 hc
        exact sg_L_isAhead_298 hx hb hml hts hown hK hA hret σ_5006 x1 x2 x3 x4 _ _ _ hw hW (lv_sub hl [3, 4, 5, 6, 7] rfl)
      · have hw := hw.2 hc
        refine lv_aload_n hx hb dL_isAhead_248 rfl (lv_at hl 3 rfl) ?_
        refine lv_iload_n hx hb dL_isAhead_249 rfl (lv_at hl 4 rfl) ?_
        refine lv_iconst (v := 0) hx hb dL_isAhead_250 (by decide) ?_
        refine kV_Mi (As := [.int x1, .int 0]) (rest := []) ⟨hx, hb, hml, hown, hts⟩ (ok_X4_bidder_n l D cI cJ a _ _ _ _ _ hw) (cwV 2 hts gL_isAhead_X4_bidder rfl rfl rfl (by decide +kernel) ⟨Nat.le_of_ble_eq_true rfl, Nat.le_of_ble_eq_true rfl⟩) hK hW hA 0 rfl rfl rfl hl.1 rfl (Nat.le_of_ble_eq_true rfl) dL_isAhead_251 ⟨Nat.le_of_ble_eq_true rfl, Nat.le_of_ble_eq_true rfl⟩ (fun r_5007 _ H locs hw hW => ?_)
        refine lv_iload hx hb dL_isAhead_254 (lv_at hl 1 rfl) ?_
        refine lv_iload hx hb dL_isAhead_256 (lv_at hl 2 rfl) ?_
        refine lv_isub hx hb dL_isAhead_258 ?_
        refine lv_icmp_ne (tgt := 298) hx hb dL_isAhead_259 (by decide) (fun hc => ?_) (fun hc => ?_)
        · have hw := hw.1 hc
          exact sg_L_isAhead_298 hx hb hml hts hown hK hA hret σ_5006 x1 x2 x3 x4 _ _ _ hw hW (lv_sub hl [3, 4, 5, 6, 7] rfl)
        · have hw := hw.2 hc
          refine lv_aload_n hx hb dL_isAhead_262 rfl (lv_at hl 3 rfl) ?_
          refine lv_bipush (v := 7) hx hb dL_isAhead_263 (by decide) ?_
          refine kV_Mi (As := [.int 7]) (rest := []) ⟨hx, hb, hml, hown, hts⟩ (ok_X4_count_n l D cI cJ a _ _ _ _ hw) (cwV 1 hts gL_isAhead_X4_count rfl rfl rfl (by decide +kernel) ⟨Nat.le_of_ble_eq_true rfl, Nat.le_of_ble_eq_true rfl⟩) hK hW hA 0 rfl rfl rfl hl.1 rfl (Nat.le_of_ble_eq_true rfl) dL_isAhead_265 ⟨Nat.le_of_ble_eq_true rfl, Nat.le_of_ble_eq_true rfl⟩ (fun r_5008 _ H locs hw hW => ?_)
          refine lv_iload hx hb dL_isAhead_268 (lv_at hl 0 rfl) ?_
          refine lv_iload hx hb dL_isAhead_270 (lv_at hl 2 rfl) ?_
          refine lv_iadd hx hb dL_isAhead_272 ?_
          refine lv_icmp_ne (tgt := 298) hx hb dL_isAhead_273 (by decide) (fun hc => ?_) (fun hc => ?_)
          · have hw := hw.1 hc
            exact sg_L_isAhead_298 hx hb hml hts hown hK hA hret σ_5006 x1 x2 x3 x4 _ _ _ hw hW (lv_sub hl [3, 4, 5, 6, 7] rfl)
          · have hw := hw.2 hc
            refine lv_aload_n hx hb dL_isAhead_276 rfl (lv_at hl 3 rfl) ?_
            refine lv_iload_n hx hb dL_isAhead_277 rfl (lv_at hl 4 rfl) ?_
            refine lv_iload_n hx hb dL_isAhead_278 rfl (lv_at hl 5 rfl) ?_
            refine lv_iconst (v := 0) hx hb dL_isAhead_279 (by decide) ?_
            refine kV_Mi (As := [.int x1, .int x2, .int 0]) (rest := []) ⟨hx, hb, hml, hown, hts⟩ (ok_X4_sealed_n l D cI cJ a _ _ _ _ _ _ hw) (cwV 3 hts gL_isAhead_X4_sealed rfl rfl rfl (by decide +kernel) ⟨Nat.le_of_ble_eq_true rfl, Nat.le_of_ble_eq_true rfl⟩) hK hW hA 0 rfl rfl rfl hl.1 rfl (Nat.le_of_ble_eq_true rfl) dL_isAhead_280 ⟨Nat.le_of_ble_eq_true rfl, Nat.le_of_ble_eq_true rfl⟩ (fun r_5009 _ H locs hw hW => ?_)
            refine lv_iconst (v := (-1)) hx hb dL_isAhead_283 (by decide) ?_
            refine lv_icmp_ne (tgt := 298) hx hb dL_isAhead_284 (by decide) (fun hc => ?_) (fun hc => ?_)
            · have hw := hw.1 hc
              exact sg_L_isAhead_298 hx hb hml hts hown hK hA hret σ_5006 x1 x2 x3 x4 _ _ _ hw hW (lv_sub hl [3, 4, 5, 6, 7] rfl)
            · have hw := hw.2 hc
              refine lv_aload_n hx hb dL_isAhead_287 rfl (lv_at hl 3 rfl) ?_
              refine kV_Mi (As := []) (rest := []) ⟨hx, hb, hml, hown, hts⟩ (ok_X4_undo_n l D cI cJ a _ _ _ hw) (cwV 0 hts gL_isAhead_X4_undo rfl rfl rfl (by decide +kernel) ⟨Nat.le_of_ble_eq_true rfl, Nat.le_of_ble_eq_true rfl⟩) hK hW hA 0 rfl rfl rfl hl.1 rfl (Nat.le_of_ble_eq_true rfl) dL_isAhead_288 ⟨Nat.le_of_ble_eq_true rfl, Nat.le_of_ble_eq_true rfl⟩ (fun r_5010 σ_5011 H locs hw hW => ?_)
              refine lv_if_lt (tgt := 298) hx hb dL_isAhead_291 (by decide) (fun hc => ?_) (fun hc => ?_)
              · have hw := hw.1 hc
                exact sg_L_isAhead_298 hx hb hml hts hown hK hA hret σ_5011 x1 x2 x3 x4 _ _ _ hw hW (lv_sub hl [3, 4, 5, 6, 7] rfl)
              · have hw := hw.2 hc
                refine lv_iconst (v := 1) hx hb dL_isAhead_294 (by decide) ?_
                refine lv_goto (tgt := 299) hx hb dL_isAhead_295 (by decide) ?_
                exact sg_L_isAhead_299 hx hb hml hts hown hK hA hret σ_5011 x1 x2 x3 x4 1 _ _ _ hw hW (lv_sub hl [3, 4, 5, 6, 7] rfl)
def wps_L_isAhead_195 (σ : CS) (x1 : Int32) (x2 : Int32) (x3 : Int32) (x4 : Int64) (t0 : Int32) (post : Int32 → CS → Prop) : Prop := wps_L_isAhead_197 σ x1 x2 x3 x4 t0 post
set_option maxHeartbeats 4000000 in
set_option maxRecDepth 100000 in
theorem sg_L_isAhead_195 {p : Program} {l : Launch} {e : Env} {s : State} {m : MethodId} {args : Array Value} {below : List Frame} {meth : Method} {c : Code} {A : Nat → Prop} {Q : State → Prop} {D : va_G} {cI cJ : ClassId} {a : Nat → Nat} {post : Int32 → CS → Prop} (hx : p.tables.exec = Jvm.exec) (hb : c.code = cL_isAhead) (hml : c.maxLocals = 14) (hts : ∀ w ∈ wsL_isAhead, w.before args s = true) (hown : s.vm.findClass RL = some m.cls) (hK : va_K D vwCl (tysIJ cI cJ) s) (hA : ∀ q : Nat, s.heap.size ≤ q → A q) (hret : ∀ (v : Int32) (u : CS) (H : Heap) (locs : List Loc) (pc : Nat) (ls : Array Slot), narrow .boolean (.int v) = .int v → post v u → Wd D A s.heap (cW cI cJ a u) H locs → decode cL_isAhead pc = .ok (.ireturn, 1) → W p l e rm_L_isAhead s m args below meth c H locs 0 0 Q (F0 m pc ls [.int v])) (σ : CS) (x1 : Int32) (x2 : Int32) (x3 : Int32) (x4 : Int64) (t0 : Int32) (H : Heap) (locs : List Loc) (ls : Array Slot) (hw : wps_L_isAhead_195 σ x1 x2 x3 x4 t0 post) (hW : Wd D A s.heap (cW cI cJ a σ) H locs) (hl : lv_has ls 14 [(0, .ref (a 0)), (1, .int x1), (2, .int x2), (3, .int x3), (4, .long x4)]) : W p l e rm_L_isAhead s m args below meth c H locs 0 0 Q (F0 m 195 ls [.int t0]) := by
  refine lv_istore (lv' := [(7, .int t0), (0, .ref (a 0)), (1, .int x1), (2, .int x2), (3, .int x3), (4, .long x4)]) hx hb dL_isAhead_195 hl (by decide) rfl (fun ls hl => ?_)
  exact sg_L_isAhead_197 hx hb hml hts hown hK hA hret σ x1 x2 x3 x4 t0 _ _ _ hw hW (lv_sub hl [1, 2, 3, 4, 5, 0] rfl)
def wps_L_isAhead_194 (σ : CS) (x1 : Int32) (x2 : Int32) (x3 : Int32) (x4 : Int64) (post : Int32 → CS → Prop) : Prop := wps_L_isAhead_195 σ x1 x2 x3 x4 0 post
set_option maxHeartbeats 4000000 in
set_option maxRecDepth 100000 in
theorem sg_L_isAhead_194 {p : Program} {l : Launch} {e : Env} {s : State} {m : MethodId} {args : Array Value} {below : List Frame} {meth : Method} {c : Code} {A : Nat → Prop} {Q : State → Prop} {D : va_G} {cI cJ : ClassId} {a : Nat → Nat} {post : Int32 → CS → Prop} (hx : p.tables.exec = Jvm.exec) (hb : c.code = cL_isAhead) (hml : c.maxLocals = 14) (hts : ∀ w ∈ wsL_isAhead, w.before args s = true) (hown : s.vm.findClass RL = some m.cls) (hK : va_K D vwCl (tysIJ cI cJ) s) (hA : ∀ q : Nat, s.heap.size ≤ q → A q) (hret : ∀ (v : Int32) (u : CS) (H : Heap) (locs : List Loc) (pc : Nat) (ls : Array Slot), narrow .boolean (.int v) = .int v → post v u → Wd D A s.heap (cW cI cJ a u) H locs → decode cL_isAhead pc = .ok (.ireturn, 1) → W p l e rm_L_isAhead s m args below meth c H locs 0 0 Q (F0 m pc ls [.int v])) (σ : CS) (x1 : Int32) (x2 : Int32) (x3 : Int32) (x4 : Int64) (H : Heap) (locs : List Loc) (ls : Array Slot) (hw : wps_L_isAhead_194 σ x1 x2 x3 x4 post) (hW : Wd D A s.heap (cW cI cJ a σ) H locs) (hl : lv_has ls 14 [(0, .ref (a 0)), (1, .int x1), (2, .int x2), (3, .int x3), (4, .long x4)]) : W p l e rm_L_isAhead s m args below meth c H locs 0 0 Q (F0 m 194 ls []) := by
  refine lv_iconst (v := 0) hx hb dL_isAhead_194 (by decide) ?_
  exact sg_L_isAhead_195 hx hb hml hts hown hK hA hret σ x1 x2 x3 x4 0 _ _ _ hw hW (lv_sub hl [0, 1, 2, 3, 4] rfl)
def wps_L_isAhead_86 (σ : CS) (x1 : Int32) (x2 : Int32) (x3 : Int32) (x4 : Int64) (x6 : Int32) (t0 : Int32) (post : Int32 → CS → Prop) : Prop := wp_X4_count σ 12 (fun r_2001 => ((t0 = 0 → wps_L_isAhead_197 σ x1 x2 x3 x4 t0 post) ∧ (¬ t0 = 0 → ((¬ x6 = 0 → wps_L_isAhead_197 σ x1 x2 x3 x4 t0 post) ∧ (x6 = 0 → wp_X4_bid σ x1 x2 x3 (fun r_2002 σ_2003 => ((r_2002 < 0 → wps_L_isAhead_194 σ_2003 x1 x2 x3 x4 post) ∧ (¬ r_2002 < 0 → ((4096 ≤ r_2002 → wps_L_isAhead_194 σ_2003 x1 x2 x3 x4 post) ∧ (¬ 4096 ≤ r_2002 → wp_X4_sealed σ_2003 x1 x2 0 (fun r_2004 => ((¬ r_2004 = r_2002 → wps_L_isAhead_194 σ_2003 x1 x2 x3 x4 post) ∧ (r_2004 = r_2002 → wp_X4_sealed σ_2003 x1 x2 1 (fun r_2005 => wp_X4_count σ_2003 1 (fun r_2006 => ((¬ r_2005 = r_2006 → wps_L_isAhead_194 σ_2003 x1 x2 x3 x4 post) ∧ (r_2005 = r_2006 → wp_X4_sealed σ_2003 x1 x2 3 (fun r_2007 => wp_X4_setting σ_2003 0 (fun r_2008 => ((¬ r_2007 = r_2008 → wps_L_isAhead_194 σ_2003 x1 x2 x3 x4 post) ∧ (r_2007 = r_2008 → wp_X4_count σ_2003 12 (fun r_2009 => ((¬ r_2009 = (r_2001 + 1) → wps_L_isAhead_194 σ_2003 x1 x2 x3 x4 post) ∧ (r_2009 = (r_2001 + 1) → wp_X4_undo σ_2003 (fun r_2010 σ_2011 => ((r_2010 < 0 → wps_L_isAhead_194 σ_2011 x1 x2 x3 x4 post) ∧ (¬ r_2010 < 0 → wps_L_isAhead_195 σ_2011 x1 x2 x3 x4 1 post))) (fun _ => False)))) (fun _ => False)))) (fun _ => False)) (fun _ => False)))) (fun _ => False)) (fun _ => False)))) (fun _ => False)))))) (fun _ => False)))))) (fun _ => False)
set_option maxHeartbeats 4000000 in
set_option maxRecDepth 100000 in
theorem sg_L_isAhead_86 {p : Program} {l : Launch} {e : Env} {s : State} {m : MethodId} {args : Array Value} {below : List Frame} {meth : Method} {c : Code} {A : Nat → Prop} {Q : State → Prop} {D : va_G} {cI cJ : ClassId} {a : Nat → Nat} {post : Int32 → CS → Prop} (hx : p.tables.exec = Jvm.exec) (hb : c.code = cL_isAhead) (hml : c.maxLocals = 14) (hts : ∀ w ∈ wsL_isAhead, w.before args s = true) (hown : s.vm.findClass RL = some m.cls) (hK : va_K D vwCl (tysIJ cI cJ) s) (hA : ∀ q : Nat, s.heap.size ≤ q → A q) (hret : ∀ (v : Int32) (u : CS) (H : Heap) (locs : List Loc) (pc : Nat) (ls : Array Slot), narrow .boolean (.int v) = .int v → post v u → Wd D A s.heap (cW cI cJ a u) H locs → decode cL_isAhead pc = .ok (.ireturn, 1) → W p l e rm_L_isAhead s m args below meth c H locs 0 0 Q (F0 m pc ls [.int v])) (σ : CS) (x1 : Int32) (x2 : Int32) (x3 : Int32) (x4 : Int64) (x6 : Int32) (t0 : Int32) (H : Heap) (locs : List Loc) (ls : Array Slot) (hw : wps_L_isAhead_86 σ x1 x2 x3 x4 x6 t0 post) (hW : Wd D A s.heap (cW cI cJ a σ) H locs) (hl : lv_has ls 14 [(0, .ref (a 0)), (1, .int x1), (2, .int x2), (3, .int x3), (4, .long x4), (6, .int x6)]) : W p l e rm_L_isAhead s m args below meth c H locs 0 0 Q (F0 m 86 ls [.int t0]) := by
  refine lv_istore (lv' := [(7, .int t0), (0, .ref (a 0)), (1, .int x1), (2, .int x2), (3, .int x3), (4, .long x4), (6, .int x6)]) hx hb dL_isAhead_86 hl (by decide) rfl (fun ls hl => ?_)
  refine lv_aload_n hx hb dL_isAhead_88 rfl (lv_at hl 1 rfl) ?_
  refine lv_bipush (v := 12) hx hb dL_isAhead_89 (by decide) ?_
  refine kV_Mi (As := [.int 12]) (rest := []) ⟨hx, hb, hml, hown, hts⟩ (ok_X4_count_n l D cI cJ a _ _ _ _ hw) (cwV 1 hts gL_isAhead_X4_count rfl rfl rfl (by decide +kernel) ⟨Nat.le_of_ble_eq_true rfl, Nat.le_of_ble_eq_true rfl⟩) hK hW hA 0 rfl rfl rfl hl.1 rfl (Nat.le_of_ble_eq_true rfl) dL_isAhead_91 ⟨Nat.le_of_ble_eq_true rfl, Nat.le_of_ble_eq_true rfl⟩ (fun r_2001 _ H locs hw hW => ?_)
  refine lv_istore (lv' := [(8, .int r_2001), (7, .int t0), (0, .ref (a 0)), (1, .int x1), (2, .int x2), (3, .int x3), (4, .long x4), (6, .int x6)]) hx hb dL_isAhead_94 hl (by decide) rfl (fun ls hl => ?_)
  refine lv_iload hx hb dL_isAhead_96 (lv_at hl 1 rfl) ?_
  refine lv_if_eq (tgt := 197) hx hb dL_isAhead_98 (by decide) (fun hc => ?_) (fun hc => ?_)
  · have hw := hw.1 hc
    exact sg_L_isAhead_197 hx hb hml hts hown hK hA hret σ x1 x2 x3 x4 t0 _ _ _ hw hW (lv_sub hl [2, 3, 4, 5, 6, 1] rfl)
  · have hw := hw.2 hc
    refine lv_iload hx hb dL_isAhead_101 (lv_at hl 7 rfl) ?_
    refine lv_if_ne (tgt := 197) hx hb dL_isAhead_103 (by decide) (fun hc => ?_) (fun hc => ?_)
    · have hw := hw.1 hc
      exact sg_L_isAhead_197 hx hb hml hts hown hK hA hret σ x1 x2 x3 x4 t0 _ _ _ hw hW (lv_sub hl [2, 3, 4, 5, 6, 1] rfl)
    · have hw := hw.2 hc
      refine lv_aload_n hx hb dL_isAhead_106 rfl (lv_at hl 2 rfl) ?_
      refine lv_iload_n hx hb dL_isAhead_107 rfl (lv_at hl 3 rfl) ?_
      refine lv_iload_n hx hb dL_isAhead_108 rfl (lv_at hl 4 rfl) ?_
      refine lv_iload_n hx hb dL_isAhead_109 rfl (lv_at hl 5 rfl) ?_
      refine kV_Mi (As := [.int x1, .int x2, .int x3]) (rest := []) ⟨hx, hb, hml, hown, hts⟩ (ok_X4_bid_n l D cI cJ a _ _ _ _ _ _ hw) (cwV 3 hts gL_isAhead_X4_bid rfl rfl rfl (by decide +kernel) ⟨Nat.le_of_ble_eq_true rfl, Nat.le_of_ble_eq_true rfl⟩) hK hW hA 0 rfl rfl rfl hl.1 rfl (Nat.le_of_ble_eq_true rfl) dL_isAhead_110 ⟨Nat.le_of_ble_eq_true rfl, Nat.le_of_ble_eq_true rfl⟩ (fun r_2002 σ_2003 H locs hw hW => ?_)
      refine lv_istore (lv' := [(9, .int r_2002), (8, .int r_2001), (7, .int t0), (0, .ref (a 0)), (1, .int x1), (2, .int x2), (3, .int x3), (4, .long x4), (6, .int x6)]) hx hb dL_isAhead_113 hl (by decide) rfl (fun ls hl => ?_)
      refine lv_iload hx hb dL_isAhead_115 (lv_at hl 0 rfl) ?_
      refine lv_if_lt (tgt := 194) hx hb dL_isAhead_117 (by decide) (fun hc => ?_) (fun hc => ?_)
      · have hw := hw.1 hc
        exact sg_L_isAhead_194 hx hb hml hts hown hK hA hret σ_2003 x1 x2 x3 x4 _ _ _ hw hW (lv_sub hl [3, 4, 5, 6, 7] rfl)
      · have hw := hw.2 hc
        refine lv_iload hx hb dL_isAhead_120 (lv_at hl 0 rfl) ?_
        refine lv_sipush (v := 4096) hx hb dL_isAhead_122 (by decide) ?_
        refine lv_icmp_ge (tgt := 194) hx hb dL_isAhead_125 (by decide) (fun hc => ?_) (fun hc => ?_)
        · have hw := hw.1 hc
          exact sg_L_isAhead_194 hx hb hml hts hown hK hA hret σ_2003 x1 x2 x3 x4 _ _ _ hw hW (lv_sub hl [3, 4, 5, 6, 7] rfl)
        · have hw := hw.2 hc
          refine lv_aload_n hx hb dL_isAhead_128 rfl (lv_at hl 3 rfl) ?_
          refine lv_iload_n hx hb dL_isAhead_129 rfl (lv_at hl 4 rfl) ?_
          refine lv_iload_n hx hb dL_isAhead_130 rfl (lv_at hl 5 rfl) ?_
          refine lv_iconst (v := 0) hx hb dL_isAhead_131 (by decide) ?_
          refine kV_Mi (As := [.int x1, .int x2, .int 0]) (rest := []) ⟨hx, hb, hml, hown, hts⟩ (ok_X4_sealed_n l D cI cJ a _ _ _ _ _ _ hw) (cwV 3 hts gL_isAhead_X4_sealed rfl rfl rfl (by decide +kernel) ⟨Nat.le_of_ble_eq_true rfl, Nat.le_of_ble_eq_true rfl⟩) hK hW hA 0 rfl rfl rfl hl.1 rfl (Nat.le_of_ble_eq_true rfl) dL_isAhead_132 ⟨Nat.le_of_ble_eq_true rfl, Nat.le_of_ble_eq_true rfl⟩ (fun r_2004 _ H locs hw hW => ?_)
          refine lv_iload hx hb dL_isAhead_135 (lv_at hl 0 rfl) ?_
          refine lv_icmp_ne (tgt := 194) hx hb dL_isAhead_137 (by decide) (fun hc => ?_) (fun hc => ?_)
          · have hw := hw.1 hc
            exact sg_L_isAhead_194 hx hb hml hts hown hK hA hret σ_2003 x1 x2 x3 x4 _ _ _ hw hW (lv_sub hl [3, 4, 5, 6, 7] rfl)
          · have hw := hw.2 hc
            refine lv_aload_n hx hb dL_isAhead_140 rfl (lv_at hl 3 rfl) ?_
            refine lv_iload_n hx hb dL_isAhead_141 rfl (lv_at hl 4 rfl) ?_
            refine lv_iload_n hx hb dL_isAhead_142 rfl (lv_at hl 5 rfl) ?_
            refine lv_iconst (v := 1) hx hb dL_isAhead_143 (by decide) ?_
            refine kV_Mi (As := [.int x1, .int x2, .int 1]) (rest := []) ⟨hx, hb, hml, hown, hts⟩ (ok_X4_sealed_n l D cI cJ a _ _ _ _ _ _ hw) (cwV 3 hts gL_isAhead_X4_sealed rfl rfl rfl (by decide +kernel) ⟨Nat.le_of_ble_eq_true rfl, Nat.le_of_ble_eq_true rfl⟩) hK hW hA 0 rfl rfl rfl hl.1 rfl (Nat.le_of_ble_eq_true rfl) dL_isAhead_144 ⟨Nat.le_of_ble_eq_true rfl, Nat.le_of_ble_eq_true rfl⟩ (fun r_2005 _ H locs hw hW => ?_)
            refine lv_aload_n hx hb dL_isAhead_147 rfl (lv_at hl 3 rfl) ?_
            refine lv_iconst (v := 1) hx hb dL_isAhead_148 (by decide) ?_
            refine kV_Mi (As := [.int 1]) (rest := [.int r_2005]) ⟨hx, hb, hml, hown, hts⟩ (ok_X4_count_n l D cI cJ a _ _ _ _ hw) (cwV 1 hts gL_isAhead_X4_count rfl rfl rfl (by decide +kernel) ⟨Nat.le_of_ble_eq_true rfl, Nat.le_of_ble_eq_true rfl⟩) hK hW hA 0 rfl rfl rfl hl.1 rfl (Nat.le_of_ble_eq_true rfl) dL_isAhead_149 ⟨Nat.le_of_ble_eq_true rfl, Nat.le_of_ble_eq_true rfl⟩ (fun r_2006 _ H locs hw hW => ?_)
            refine lv_icmp_ne (tgt := 194) hx hb dL_isAhead_152 (by decide) (fun hc => ?_) (fun hc => ?_)
            · have hw := hw.1 hc
              exact sg_L_isAhead_194 hx hb hml hts hown hK hA hret σ_2003 x1 x2 x3 x4 _ _ _ hw hW (lv_sub hl [3, 4, 5, 6, 7] rfl)
            · have hw := hw.2 hc
              refine lv_aload_n hx hb dL_isAhead_155 rfl (lv_at hl 3 rfl) ?_
              refine lv_iload_n hx hb dL_isAhead_156 rfl (lv_at hl 4 rfl) ?_
              refine lv_iload_n hx hb dL_isAhead_157 rfl (lv_at hl 5 rfl) ?_
              refine lv_iconst (v := 3) hx hb dL_isAhead_158 (by decide) ?_
              refine kV_Mi (As := [.int x1, .int x2, .int 3]) (rest := []) ⟨hx, hb, hml, hown, hts⟩ (ok_X4_sealed_n l D cI cJ a _ _ _ _ _ _ hw) (cwV 3 hts gL_isAhead_X4_sealed rfl rfl rfl (by decide +kernel) ⟨Nat.le_of_ble_eq_true rfl, Nat.le_of_ble_eq_true rfl⟩) hK hW hA 0 rfl rfl rfl hl.1 rfl (Nat.le_of_ble_eq_true rfl) dL_isAhead_159 ⟨Nat.le_of_ble_eq_true rfl, Nat.le_of_ble_eq_true rfl⟩ (fun r_2007 _ H locs hw hW => ?_)
              refine lv_aload_n hx hb dL_isAhead_162 rfl (lv_at hl 3 rfl) ?_
              refine lv_iconst (v := 0) hx hb dL_isAhead_163 (by decide) ?_
              refine kV_Mi (As := [.int 0]) (rest := [.int r_2007]) ⟨hx, hb, hml, hown, hts⟩ (ok_X4_setting_n l D cI cJ a _ _ _ _ hw) (cwV 1 hts gL_isAhead_X4_setting rfl rfl rfl (by decide +kernel) ⟨Nat.le_of_ble_eq_true rfl, Nat.le_of_ble_eq_true rfl⟩) hK hW hA 0 rfl rfl rfl hl.1 rfl (Nat.le_of_ble_eq_true rfl) dL_isAhead_164 ⟨Nat.le_of_ble_eq_true rfl, Nat.le_of_ble_eq_true rfl⟩ (fun r_2008 _ H locs hw hW => ?_)
              refine lv_icmp_ne (tgt := 194) hx hb dL_isAhead_167 (by decide) (fun hc => ?_) (fun hc => ?_)
              · have hw := hw.1 hc
                exact sg_L_isAhead_194 hx hb hml hts hown hK hA hret σ_2003 x1 x2 x3 x4 _ _ _ hw hW (lv_sub hl [3, 4, 5, 6, 7] rfl)
              · have hw := hw.2 hc
                refine lv_aload_n hx hb dL_isAhead_170 rfl (lv_at hl 3 rfl) ?_
                refine lv_bipush (v := 12) hx hb dL_isAhead_171 (by decide) ?_
                refine kV_Mi (As := [.int 12]) (rest := []) ⟨hx, hb, hml, hown, hts⟩ (ok_X4_count_n l D cI cJ a _ _ _ _ hw) (cwV 1 hts gL_isAhead_X4_count rfl rfl rfl (by decide +kernel) ⟨Nat.le_of_ble_eq_true rfl, Nat.le_of_ble_eq_true rfl⟩) hK hW hA 0 rfl rfl rfl hl.1 rfl (Nat.le_of_ble_eq_true rfl) dL_isAhead_173 ⟨Nat.le_of_ble_eq_true rfl, Nat.le_of_ble_eq_true rfl⟩ (fun r_2009 _ H locs hw hW => ?_)
                refine lv_iload hx hb dL_isAhead_176 (lv_at hl 1 rfl) ?_
                refine lv_iconst (v := 1) hx hb dL_isAhead_178 (by decide) ?_
                refine lv_iadd hx hb dL_isAhead_179 ?_
                refine lv_icmp_ne (tgt := 194) hx hb dL_isAhead_180 (by decide) (fun hc => ?_) (fun hc => ?_)
                · have hw := hw.1 hc
                  exact sg_L_isAhead_194 hx hb hml hts hown hK hA hret σ_2003 x1 x2 x3 x4 _ _ _ hw hW (lv_sub hl [3, 4, 5, 6, 7] rfl)
                · have hw := hw.2 hc
                  refine lv_aload_n hx hb dL_isAhead_183 rfl (lv_at hl 3 rfl) ?_
                  refine kV_Mi (As := []) (rest := []) ⟨hx, hb, hml, hown, hts⟩ (ok_X4_undo_n l D cI cJ a _ _ _ hw) (cwV 0 hts gL_isAhead_X4_undo rfl rfl rfl (by decide +kernel) ⟨Nat.le_of_ble_eq_true rfl, Nat.le_of_ble_eq_true rfl⟩) hK hW hA 0 rfl rfl rfl hl.1 rfl (Nat.le_of_ble_eq_true rfl) dL_isAhead_184 ⟨Nat.le_of_ble_eq_true rfl, Nat.le_of_ble_eq_true rfl⟩ (fun r_2010 σ_2011 H locs hw hW => ?_)
                  refine lv_if_lt (tgt := 194) hx hb dL_isAhead_187 (by decide) (fun hc => ?_) (fun hc => ?_)
                  · have hw := hw.1 hc
                    exact sg_L_isAhead_194 hx hb hml hts hown hK hA hret σ_2011 x1 x2 x3 x4 _ _ _ hw hW (lv_sub hl [3, 4, 5, 6, 7] rfl)
                  · have hw := hw.2 hc
                    refine lv_iconst (v := 1) hx hb dL_isAhead_190 (by decide) ?_
                    refine lv_goto (tgt := 195) hx hb dL_isAhead_191 (by decide) ?_
                    exact sg_L_isAhead_195 hx hb hml hts hown hK hA hret σ_2011 x1 x2 x3 x4 1 _ _ _ hw hW (lv_sub hl [3, 4, 5, 6, 7] rfl)
def wps_L_isAhead_85 (σ : CS) (x1 : Int32) (x2 : Int32) (x3 : Int32) (x4 : Int64) (x6 : Int32) (post : Int32 → CS → Prop) : Prop := wps_L_isAhead_86 σ x1 x2 x3 x4 x6 0 post
set_option maxHeartbeats 4000000 in
set_option maxRecDepth 100000 in
theorem sg_L_isAhead_85 {p : Program} {l : Launch} {e : Env} {s : State} {m : MethodId} {args : Array Value} {below : List Frame} {meth : Method} {c : Code} {A : Nat → Prop} {Q : State → Prop} {D : va_G} {cI cJ : ClassId} {a : Nat → Nat} {post : Int32 → CS → Prop} (hx : p.tables.exec = Jvm.exec) (hb : c.code = cL_isAhead) (hml : c.maxLocals = 14) (hts : ∀ w ∈ wsL_isAhead, w.before args s = true) (hown : s.vm.findClass RL = some m.cls) (hK : va_K D vwCl (tysIJ cI cJ) s) (hA : ∀ q : Nat, s.heap.size ≤ q → A q) (hret : ∀ (v : Int32) (u : CS) (H : Heap) (locs : List Loc) (pc : Nat) (ls : Array Slot), narrow .boolean (.int v) = .int v → post v u → Wd D A s.heap (cW cI cJ a u) H locs → decode cL_isAhead pc = .ok (.ireturn, 1) → W p l e rm_L_isAhead s m args below meth c H locs 0 0 Q (F0 m pc ls [.int v])) (σ : CS) (x1 : Int32) (x2 : Int32) (x3 : Int32) (x4 : Int64) (x6 : Int32) (H : Heap) (locs : List Loc) (ls : Array Slot) (hw : wps_L_isAhead_85 σ x1 x2 x3 x4 x6 post) (hW : Wd D A s.heap (cW cI cJ a σ) H locs) (hl : lv_has ls 14 [(0, .ref (a 0)), (1, .int x1), (2, .int x2), (3, .int x3), (4, .long x4), (6, .int x6)]) : W p l e rm_L_isAhead s m args below meth c H locs 0 0 Q (F0 m 85 ls []) := by
  refine lv_iconst (v := 0) hx hb dL_isAhead_85 (by decide) ?_
  exact sg_L_isAhead_86 hx hb hml hts hown hK hA hret σ x1 x2 x3 x4 x6 0 _ _ _ hw hW (lv_sub hl [0, 1, 2, 3, 4, 5] rfl)
def wp_L_isAhead (σ : CS) (p2 : Int32) (p3 : Int32) (p4 : Int32) (post : Int32 → CS → Prop) : Prop := wp_L_looks σ (fun r_1 => wp_X4_why σ p2 p3 p4 (fun r_2 => wp_X4_worth σ 6 0 (fun r_3 σ_4 => wp_X4_worth σ_4 6 1 (fun r_5 σ_6 => ((¬ r_3 = r_5 → wps_L_isAhead_85 σ_6 p2 p3 p4 r_1 r_2 post) ∧ (r_3 = r_5 → wp_X4_worth σ_6 p2 0 (fun r_7 σ_8 => wp_X4_worth σ_8 p2 1 (fun r_9 σ_10 => ((¬ r_7 = r_9 → wps_L_isAhead_85 σ_10 p2 p3 p4 r_1 r_2 post) ∧ (r_7 = r_9 → wp_X4_worth σ_10 p2 0 (fun r_11 σ_12 => wp_X4_worth σ_12 6 0 (fun r_13 σ_14 => ((r_13 < r_11 → wps_L_isAhead_85 σ_14 p2 p3 p4 r_1 r_2 post) ∧ (¬ r_13 < r_11 → wp_X4_keenest σ_14 (fun r_15 σ_16 => wp_X4_worth σ_16 r_15 0 (fun r_17 σ_18 => wp_X4_worth σ_18 p2 0 (fun r_19 σ_20 => ((r_19 < r_17 → wps_L_isAhead_85 σ_20 p2 p3 p4 r_1 r_2 post) ∧ (¬ r_19 < r_17 → wps_L_isAhead_86 σ_20 p2 p3 p4 r_1 r_2 1 post))) (fun _ => False)) (fun _ => False))))) (fun _ => False)) (fun _ => False)))) (fun _ => False)) (fun _ => False)))) (fun _ => False)) (fun _ => False)) (fun _ => False))
set_option maxHeartbeats 4000000 in
set_option maxRecDepth 100000 in
theorem ok_L_isAhead (l : Launch) (D : va_G) (cI cJ : ClassId) (a : Nat → Nat) (sz : Nat) (σ : CS) (p2 : Int32) (p3 : Int32) (p4 : Int32) (post : Int32 → CS → Prop) (hw : wp_L_isAhead σ p2 p3 p4 post) : Mi l yL_isAhead wsL_isAhead rm_L_isAhead [.ref (a 0), .int p2, .int p3, .int p4] D (tysIJ cI cJ) (cW cI cJ a σ) sz post (cW cI cJ a) := by
  refine s_Mz (by decide) rfl (Nat.le_of_ble_eq_true rfl) ?_
  intro p e s m args below meth c A Q hx hb hml hts hown hin hK hA hret H locs ls hW hl
  have hown : s.vm.findClass RL = some m.cls := hown
  have hl : lv_has ls 14 [(0, .ref (a 0)), (1, .int p2), (2, .int p3), (3, .int p4)] := hl
  refine lv_aload_n hx hb dL_isAhead_0 rfl (lv_at hl 0 rfl) ?_
  refine kS_Ml (As := [.ref (a 0)]) (rest := []) ⟨hx, hb, hml, hown, hts⟩ (ok_L_looks l D cI cJ a _ _ _ hw) (va_cwS 1 hts gL_isAhead_L_looks rfl rfl rfl (by decide +kernel) ⟨Nat.le_of_ble_eq_true rfl, Nat.le_of_ble_eq_true rfl⟩) hK hW hA rfl hl.1 rfl (Nat.le_of_ble_eq_true rfl) dL_isAhead_1 ⟨Nat.le_of_ble_eq_true rfl, Nat.le_of_ble_eq_true rfl⟩ (fun r_1 _ H locs hw hW => ?_)
  refine lv_lstore (lv' := [(4, .long r_1), (0, .ref (a 0)), (1, .int p2), (2, .int p3), (3, .int p4)]) hx hb dL_isAhead_4 hl (by decide) rfl (fun ls hl => ?_)
  refine lv_aload_n hx hb dL_isAhead_6 rfl (lv_at hl 1 rfl) ?_
  refine lv_iload_n hx hb dL_isAhead_7 rfl (lv_at hl 2 rfl) ?_
  refine lv_iload_n hx hb dL_isAhead_8 rfl (lv_at hl 3 rfl) ?_
  refine lv_iload_n hx hb dL_isAhead_9 rfl (lv_at hl 4 rfl) ?_
  refine kV_Mi (As := [.int p2, .int p3, .int p4]) (rest := []) ⟨hx, hb, hml, hown, hts⟩ (ok_X4_why_n l D cI cJ a _ _ _ _ _ _ hw) (cwV 3 hts gL_isAhead_X4_why rfl rfl rfl (by decide +kernel) ⟨Nat.le_of_ble_eq_true rfl, Nat.le_of_ble_eq_true rfl⟩) hK hW hA 0 rfl rfl rfl hl.1 rfl (Nat.le_of_ble_eq_true rfl) dL_isAhead_10 ⟨Nat.le_of_ble_eq_true rfl, Nat.le_of_ble_eq_true rfl⟩ (fun r_2 _ H locs hw hW => ?_)
  refine lv_istore (lv' := [(6, .int r_2), (4, .long r_1), (0, .ref (a 0)), (1, .int p2), (2, .int p3), (3, .int p4)]) hx hb dL_isAhead_13 hl (by decide) rfl (fun ls hl => ?_)
  refine lv_aload_n hx hb dL_isAhead_15 rfl (lv_at hl 2 rfl) ?_
  refine lv_bipush (v := 6) hx hb dL_isAhead_16 (by decide) ?_
  refine lv_iconst (v := 0) hx hb dL_isAhead_18 (by decide) ?_
  refine kV_Mi (As := [.int 6, .int 0]) (rest := []) ⟨hx, hb, hml, hown, hts⟩ (ok_X4_worth_n l D cI cJ a _ _ _ _ _ hw) (cwV 2 hts gL_isAhead_X4_worth rfl rfl rfl (by decide +kernel) ⟨Nat.le_of_ble_eq_true rfl, Nat.le_of_ble_eq_true rfl⟩) hK hW hA 0 rfl rfl rfl hl.1 rfl (Nat.le_of_ble_eq_true rfl) dL_isAhead_19 ⟨Nat.le_of_ble_eq_true rfl, Nat.le_of_ble_eq_true rfl⟩ (fun r_3 σ_4 H locs hw hW => ?_)
  refine lv_aload_n hx hb dL_isAhead_22 rfl (lv_at hl 2 rfl) ?_
  refine lv_bipush (v := 6) hx hb dL_isAhead_23 (by decide) ?_
  refine lv_iconst (v := 1) hx hb dL_isAhead_25 (by decide) ?_
  refine kV_Mi (As := [.int 6, .int 1]) (rest := [.int r_3]) ⟨hx, hb, hml, hown, hts⟩ (ok_X4_worth_n l D cI cJ a _ _ _ _ _ hw) (cwV 2 hts gL_isAhead_X4_worth rfl rfl rfl (by decide +kernel) ⟨Nat.le_of_ble_eq_true rfl, Nat.le_of_ble_eq_true rfl⟩) hK hW hA 0 rfl rfl rfl hl.1 rfl (Nat.le_of_ble_eq_true rfl) dL_isAhead_26 ⟨Nat.le_of_ble_eq_true rfl, Nat.le_of_ble_eq_true rfl⟩ (fun r_5 σ_6 H locs hw hW => ?_)
  refine lv_icmp_ne (tgt := 85) hx hb dL_isAhead_29 (by decide) (fun hc => ?_) (fun hc => ?_)
  · have hw := hw.1 hc
    exact sg_L_isAhead_85 hx hb hml hts hown hK hA hret σ_6 p2 p3 p4 r_1 r_2 _ _ _ hw hW (lv_sub hl [2, 3, 4, 5, 1, 0] rfl)
  · have hw := hw.2 hc
    refine lv_aload_n hx hb dL_isAhead_32 rfl (lv_at hl 2 rfl) ?_
    refine lv_iload_n hx hb dL_isAhead_33 rfl (lv_at hl 3 rfl) ?_
    refine lv_iconst (v := 0) hx hb dL_isAhead_34 (by decide) ?_
    refine kV_Mi (As := [.int p2, .int 0]) (rest := []) ⟨hx, hb, hml, hown, hts⟩ (ok_X4_worth_n l D cI cJ a _ _ _ _ _ hw) (cwV 2 hts gL_isAhead_X4_worth rfl rfl rfl (by decide +kernel) ⟨Nat.le_of_ble_eq_true rfl, Nat.le_of_ble_eq_true rfl⟩) hK hW hA 0 rfl rfl rfl hl.1 rfl (Nat.le_of_ble_eq_true rfl) dL_isAhead_35 ⟨Nat.le_of_ble_eq_true rfl, Nat.le_of_ble_eq_true rfl⟩ (fun r_7 σ_8 H locs hw hW => ?_)
    refine lv_aload_n hx hb dL_isAhead_38 rfl (lv_at hl 2 rfl) ?_
    refine lv_iload_n hx hb dL_isAhead_39 rfl (lv_at hl 3 rfl) ?_
    refine lv_iconst (v := 1) hx hb dL_isAhead_40 (by decide) ?_
    refine kV_Mi (As := [.int p2, .int 1]) (rest := [.int r_7]) ⟨hx, hb, hml, hown, hts⟩ (ok_X4_worth_n l D cI cJ a _ _ _ _ _ hw) (cwV 2 hts gL_isAhead_X4_worth rfl rfl rfl (by decide +kernel) ⟨Nat.le_of_ble_eq_true rfl, Nat.le_of_ble_eq_true rfl⟩) hK hW hA 0 rfl rfl rfl hl.1 rfl (Nat.le_of_ble_eq_true rfl) dL_isAhead_41 ⟨Nat.le_of_ble_eq_true rfl, Nat.le_of_ble_eq_true rfl⟩ (fun r_9 σ_10 H locs hw hW => ?_)
    refine lv_icmp_ne (tgt := 85) hx hb dL_isAhead_44 (by decide) (fun hc => ?_) (fun hc => ?_)
    · have hw := hw.1 hc
      exact sg_L_isAhead_85 hx hb hml hts hown hK hA hret σ_10 p2 p3 p4 r_1 r_2 _ _ _ hw hW (lv_sub hl [2, 3, 4, 5, 1, 0] rfl)
    · have hw := hw.2 hc
      refine lv_aload_n hx hb dL_isAhead_47 rfl (lv_at hl 2 rfl) ?_
      refine lv_iload_n hx hb dL_isAhead_48 rfl (lv_at hl 3 rfl) ?_
      refine lv_iconst (v := 0) hx hb dL_isAhead_49 (by decide) ?_
      refine kV_Mi (As := [.int p2, .int 0]) (rest := []) ⟨hx, hb, hml, hown, hts⟩ (ok_X4_worth_n l D cI cJ a _ _ _ _ _ hw) (cwV 2 hts gL_isAhead_X4_worth rfl rfl rfl (by decide +kernel) ⟨Nat.le_of_ble_eq_true rfl, Nat.le_of_ble_eq_true rfl⟩) hK hW hA 0 rfl rfl rfl hl.1 rfl (Nat.le_of_ble_eq_true rfl) dL_isAhead_50 ⟨Nat.le_of_ble_eq_true rfl, Nat.le_of_ble_eq_true rfl⟩ (fun r_11 σ_12 H locs hw hW => ?_)
      refine lv_aload_n hx hb dL_isAhead_53 rfl (lv_at hl 2 rfl) ?_
      refine lv_bipush (v := 6) hx hb dL_isAhead_54 (by decide) ?_
      refine lv_iconst (v := 0) hx hb dL_isAhead_56 (by decide) ?_
      refine kV_Mi (As := [.int 6, .int 0]) (rest := [.int r_11]) ⟨hx, hb, hml, hown, hts⟩ (ok_X4_worth_n l D cI cJ a _ _ _ _ _ hw) (cwV 2 hts gL_isAhead_X4_worth rfl rfl rfl (by decide +kernel) ⟨Nat.le_of_ble_eq_true rfl, Nat.le_of_ble_eq_true rfl⟩) hK hW hA 0 rfl rfl rfl hl.1 rfl (Nat.le_of_ble_eq_true rfl) dL_isAhead_57 ⟨Nat.le_of_ble_eq_true rfl, Nat.le_of_ble_eq_true rfl⟩ (fun r_13 σ_14 H locs hw hW => ?_)
      refine lv_icmp_gt (tgt := 85) hx hb dL_isAhead_60 (by decide) (fun hc => ?_) (fun hc => ?_)
      · have hw := hw.1 hc
        exact sg_L_isAhead_85 hx hb hml hts hown hK hA hret σ_14 p2 p3 p4 r_1 r_2 _ _ _ hw hW (lv_sub hl [2, 3, 4, 5, 1, 0] rfl)
      · have hw := hw.2 hc
        refine lv_aload_n hx hb dL_isAhead_63 rfl (lv_at hl 2 rfl) ?_
        refine lv_aload_n hx hb dL_isAhead_64 rfl (lv_at hl 2 rfl) ?_
        refine kV_Mi (As := []) (rest := [.ref (a 0)]) ⟨hx, hb, hml, hown, hts⟩ (ok_X4_keenest l D cI cJ a _ _ _ hw) (cwV 0 hts gL_isAhead_X4_keenest rfl rfl rfl (by decide +kernel) ⟨Nat.le_of_ble_eq_true rfl, Nat.le_of_ble_eq_true rfl⟩) hK hW hA 0 rfl rfl rfl hl.1 rfl (Nat.le_of_ble_eq_true rfl) dL_isAhead_65 ⟨Nat.le_of_ble_eq_true rfl, Nat.le_of_ble_eq_true rfl⟩ (fun r_15 σ_16 H locs hw hW => ?_)
        refine lv_iconst (v := 0) hx hb dL_isAhead_68 (by decide) ?_
        refine kV_Mi (As := [.int r_15, .int 0]) (rest := []) ⟨hx, hb, hml, hown, hts⟩ (ok_X4_worth_n l D cI cJ a _ _ _ _ _ hw) (cwV 2 hts gL_isAhead_X4_worth rfl rfl rfl (by decide +kernel) ⟨Nat.le_of_ble_eq_true rfl, Nat.le_of_ble_eq_true rfl⟩) hK hW hA 0 rfl rfl rfl hl.1 rfl (Nat.le_of_ble_eq_true rfl) dL_isAhead_69 ⟨Nat.le_of_ble_eq_true rfl, Nat.le_of_ble_eq_true rfl⟩ (fun r_17 σ_18 H locs hw hW => ?_)
        refine lv_aload_n hx hb dL_isAhead_72 rfl (lv_at hl 2 rfl) ?_
        refine lv_iload_n hx hb dL_isAhead_73 rfl (lv_at hl 3 rfl) ?_
        refine lv_iconst (v := 0) hx hb dL_isAhead_74 (by decide) ?_
        refine kV_Mi (As := [.int p2, .int 0]) (rest := [.int r_17]) ⟨hx, hb, hml, hown, hts⟩ (ok_X4_worth_n l D cI cJ a _ _ _ _ _ hw) (cwV 2 hts gL_isAhead_X4_worth rfl rfl rfl (by decide +kernel) ⟨Nat.le_of_ble_eq_true rfl, Nat.le_of_ble_eq_true rfl⟩) hK hW hA 0 rfl rfl rfl hl.1 rfl (Nat.le_of_ble_eq_true rfl) dL_isAhead_75 ⟨Nat.le_of_ble_eq_true rfl, Nat.le_of_ble_eq_true rfl⟩ (fun r_19 σ_20 H locs hw hW => ?_)
        refine lv_icmp_gt (tgt := 85) hx hb dL_isAhead_78 (by decide) (fun hc => ?_) (fun hc => ?_)
        · have hw := hw.1 hc
          exact sg_L_isAhead_85 hx hb hml hts hown hK hA hret σ_20 p2 p3 p4 r_1 r_2 _ _ _ hw hW (lv_sub hl [2, 3, 4, 5, 1, 0] rfl)
        · have hw := hw.2 hc
          refine lv_iconst (v := 1) hx hb dL_isAhead_81 (by decide) ?_
          refine lv_goto (tgt := 86) hx hb dL_isAhead_82 (by decide) ?_
          exact sg_L_isAhead_86 hx hb hml hts hown hK hA hret σ_20 p2 p3 p4 r_1 r_2 1 _ _ _ hw hW (lv_sub hl [2, 3, 4, 5, 1, 0] rfl)
