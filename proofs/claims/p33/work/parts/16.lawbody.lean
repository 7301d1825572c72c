/-! the law: the reader of the script -/
def cellV (L : Nat) (xs : Nat → Int32) (k : Int32) : Int32 := if k < Int32.ofNat L then xs k.toNatClampNeg else 1812433253 * (k + 307)
abbrev rm_L_cell : Room := { frames := 0, cells := 0, slots := 0, locals := 0 }
def preS (b L : Nat) (xs : Nat → Int32) : State → Prop := fun U => va_X b L xs U U.heap ∧ b < U.heap.size
theorem preS_blind {b L : Nat} {xs : Nat → Int32} {av : List Value} : FrameBlind (va_Pc av (preS b L xs)) := fun a U g mk q => by
  obtain ⟨q0, q1, q2⟩ := q
  exact ⟨q0, va_X.moved (u := U) (U := U.calling g mk a) (Vm.Alike.refl U.vm) q1, q2⟩
set_option maxHeartbeats 4000000 in
theorem ok_L_cell (l : Launch) (b L : Nat) (xs : Nat → Int32) (k : Int32) (hL : L ≤ 260) (hk : ¬ k < 0) : Met l yL_cell wsL_cell rm_L_cell (va_Pc [.ref b, .int k] (preS b L xs)) (va_Qi (fun r (_ : Unit) => r = cellV L xs k) (fun _ _ => True) (fun _ => False)) 0 0 (fun _ => False) := by
  refine Met.ofW (cc := cL_cell) (maxL := 2) (ret := some .int) (by decide) rfl ?_
  intro p e s m args below meth c s₁ B hml hv
  obtain ⟨rfl, hX, hbl⟩ := hv
  have hx := B.exec
  have hb := B.bytes
  have hr := B.returns
  have hts := atoms_spec (ws := wsL_cell) B.pre
  have hown : s.vm.findClass RL = some m.cls := findClass_of_methodNamed B.named
  have hlocks := B.notSynchronized
  have hl := lv_entry [.ref b, .int k] (n := 2) (Nat.le_of_ble_eq_true rfl)
  rw [lg_entry_eq]
  generalize (lg_sl [.ref b, .int k] ++ List.replicate (2 - (lg_sl [.ref b, .int k]).length) Slot.unset).toArray = ls at hl ⊢
  have hl : lv_has ls 2 [(0, .ref b), (1, .int k)] := hl
  have hS : va_S (fun _ => False) s.heap s.heap [] := va_S.rf
  obtain ⟨j, hj, rfl⟩ := nI_of hk
  refine lv_iload_n hx hb dL_cell_0 rfl (lv_at hl 1 rfl) ?_
  refine lv_aload_n hx hb dL_cell_1 rfl (lv_at hl 0 rfl) ?_
  refine va_slen hx hb hX hbl (fun h => h) hS dL_cell_2 ?_
  refine lv_icmp_ge (tgt := 12) hx hb dL_cell_3 (by decide) (fun hc => ?_) (fun hc => ?_)
  · refine lv_ldc (own := RL) (v := 1812433253) hx hb hown (hts _ (List.mem_of_getElem? (i := 1) rfl)) dL_cell_12 ?_
    refine lv_iload_n hx hb dL_cell_14 rfl (lv_at hl 1 rfl) ?_
    refine lv_sipush (v := 307) hx hb dL_cell_15 (by decide) ?_
    refine lv_iadd hx hb dL_cell_18 ?_
    refine lv_imul hx hb dL_cell_19 ?_
    exact W.iret hx hb hr (fun t ht hWm => ⟨⟨_, (), rfl, (if_neg (fun h => absurd hc (by rw [Int32.not_le]; exact h))).symm, trivial⟩, hS.F ht⟩) hS.2.2 dL_cell_20
  · have hlt : nI j < Int32.ofNat L := by rw [Int32.not_le] at hc; exact hc
    have hjL : j < L := (nI_ltI hj (show L < 2 ^ 31 by omega)).mp hlt
    refine lv_aload_n hx hb dL_cell_6 rfl (lv_at hl 0 rfl) ?_
    refine lv_iload_n hx hb dL_cell_7 rfl (lv_at hl 1 rfl) ?_
    refine va_sld hx hb hX hbl (fun h => h) hS (vp_in_nI hjL (by omega)) dL_cell_8 ?_
    refine lv_goto (tgt := 20) hx hb dL_cell_9 (by decide) ?_
    exact W.iret hx hb hr (fun t ht hWm => ⟨⟨_, (), rfl, (if_pos hlt).symm, trivial⟩, hS.F ht⟩) hS.2.2 dL_cell_20
section OwnCell
variable {p : Program} {l : Launch} {e : Env} {R : Room} {s : State} {m : MethodId} {args : Array Value} {below : List Frame} {meth : Method} {c : Code} {H : Heap} {locs : List Loc} {cells slots : Nat} {Q : State → Prop} {pc : Nat} {ls : Array Slot}
variable {cc : ByteArray} {nL index : Nat} {Ts : List Cond} {own : String} {rest : List Value} {D : va_G} {A : Nat → Prop} {ws : va_W}
theorem kS_cell {b L : Nat} {xs : Nat → Int32} {k : Int32} (X : CallFix p m c cc nL s args Ts own) (cw : CallB R s args own index yL_cell cL_cell 2 (some .int) wsL_cell rm_L_cell 0 0 2 ∧ (Cond.static yL_cell).before args s = true) (hX : va_X b L xs s s.heap) (hbl : b < s.heap.size) (hbA : ¬ A b) (hL : L ≤ 260) (hk : ¬ k < 0) (hW : Wd D A s.heap ws H locs) (hsz : ls.size = nL) (hrm : (rest.map fun v => v.category).sum ≤ 8) (hdg : decode cc pc = .ok (.invokestatic index, 3)) (hf : cells + 0 ≤ R.cells ∧ slots + 0 ≤ R.slots)
    (kk : ∀ (r : Int32) (H1 : Heap) (locs1 : List Loc), r = cellV L xs k → Wd D A s.heap ws H1 locs1 → W p l e R s m args below meth c H1 locs1 cells slots Q (F0 m (pc + 3) ls (.int r :: rest))) : W p l e R s m args below meth c H locs cells slots Q (F0 m pc ls (.int k :: .ref b :: rest)) := by
  refine va_calli (va_runS (As := [.ref b, .int k]) (rest := rest) X (ok_L_cell l b L xs k hL hk) cw ⟨preS_blind, fun U hU hWm => ⟨rfl, by rw [hU]; exact (hX.kept (hW.2.2.2.1 b hbl hbA)).moved hWm.alike, by rw [hU]; exact Nat.lt_of_lt_of_le hbl hW.2.2.1⟩⟩ rfl rfl hsz rfl (lv_room hrm) hdg hf) hW.2.2 (fun q _ h => h.elim) (fun q h => h.elim) (fun r u t H1 locs1 ht hvm hp hB hz1 hk1 hS1 => ?_)
  exact kk r H1 locs1 hp (hW.kept (fun q hq => hk1 q hq (fun h => h)) hS1)
end OwnCell
def wps_L_law_279 (L : Nat) (xs : Nat → Int32) (σ : CS) (x3 : Int32) (t0 : Int32) (K : Int32 → Int32 → CS → Prop) : Prop := ∀ v3_14001 : Int32, v3_14001 = x3 + 1 → K t0 v3_14001 σ
set_option maxHeartbeats 4000000 in
set_option maxRecDepth 100000 in
theorem sg_L_law_279 {p : Program} {l : Launch} {e : Env} {s : State} {m : MethodId} {args : Array Value} {below : List Frame} {meth : Method} {c : Code} {A : Nat → Prop} {Q : State → Prop} {D : va_G} {cI cJ : ClassId} {a : Nat → Nat} {b L : Nat} {xs : Nat → Int32} {K : Int32 → Int32 → CS → Prop} (hx : p.tables.exec = Jvm.exec) (hb : c.code = cL_law) (hml : c.maxLocals = 13) (hts : ∀ w ∈ wsL_law, w.before args s = true) (hown : s.vm.findClass RL = some m.cls) (hK : va_K D vwCl (tysIJ cI cJ) s) (hA : ∀ q : Nat, s.heap.size ≤ q → A q) (hX : va_X b L xs s s.heap) (hbl : b < s.heap.size) (hbA : ¬ A b) (hL : L ≤ 260) (hback : ∀ (σ : CS) (v2 v3 : Int32) (H : Heap) (locs : List Loc) (ls : Array Slot), K v2 v3 σ → Wd D A s.heap (cW cI cJ a σ) H locs → lv_has ls 13 [(0, .ref b), (1, .ref (a 0)), (2, .int v2), (3, .int v3)] → W p l e room_1 s m args below meth c H locs 20 2000 Q (F0 m 30 ls [])) (σ : CS) (x3 : Int32) (t0 : Int32) (H : Heap) (locs : List Loc) (ls : Array Slot) (hw : wps_L_law_279 L xs σ x3 t0 K) (hW : Wd D A s.heap (cW cI cJ a σ) H locs) (hl : lv_has ls 13 [(0, .ref b), (1, .ref (a 0)), (3, .int x3)]) : W p l e room_1 s m args below meth c H locs 20 2000 Q (F0 m 279 ls [.int t0]) := by
  refine lv_istore_n (lv' := [(2, .int t0), (0, .ref b), (1, .ref (a 0)), (3, .int x3)]) hx hb dL_law_279 rfl hl (by decide) rfl (fun ls hl => ?_)
  obtain ⟨v3_14001, ev3_14001⟩ : ∃ y : Int32, y = x3 + 1 := ⟨_, rfl⟩
  have hw := hw v3_14001 ev3_14001
  refine lv_iinc (v := v3_14001) (lv' := [(3, .int v3_14001), (2, .int t0), (0, .ref b), (1, .ref (a 0))]) hx hb dL_law_280 hl (k := 3) rfl (by rw [ev3_14001]; rfl) (by decide) rfl (fun ls hl => ?_)
  refine lv_goto (tgt := 30) hx hb dL_law_283 (by decide) ?_
  exact hback σ t0 v3_14001 _ _ _ hw hW (lv_sub hl [2, 3, 1, 0] rfl)
def wps_L_law_278 (L : Nat) (xs : Nat → Int32) (σ : CS) (x3 : Int32) (K : Int32 → Int32 → CS → Prop) : Prop := wps_L_law_279 L xs σ x3 0 K
set_option maxHeartbeats 4000000 in
set_option maxRecDepth 100000 in
theorem sg_L_law_278 {p : Program} {l : Launch} {e : Env} {s : State} {m : MethodId} {args : Array Value} {below : List Frame} {meth : Method} {c : Code} {A : Nat → Prop} {Q : State → Prop} {D : va_G} {cI cJ : ClassId} {a : Nat → Nat} {b L : Nat} {xs : Nat → Int32} {K : Int32 → Int32 → CS → Prop} (hx : p.tables.exec = Jvm.exec) (hb : c.code = cL_law) (hml : c.maxLocals = 13) (hts : ∀ w ∈ wsL_law, w.before args s = true) (hown : s.vm.findClass RL = some m.cls) (hK : va_K D vwCl (tysIJ cI cJ) s) (hA : ∀ q : Nat, s.heap.size ≤ q → A q) (hX : va_X b L xs s s.heap) (hbl : b < s.heap.size) (hbA : ¬ A b) (hL : L ≤ 260) (hback : ∀ (σ : CS) (v2 v3 : Int32) (H : Heap) (locs : List Loc) (ls : Array Slot), K v2 v3 σ → Wd D A s.heap (cW cI cJ a σ) H locs → lv_has ls 13 [(0, .ref b), (1, .ref (a 0)), (2, .int v2), (3, .int v3)] → W p l e room_1 s m args below meth c H locs 20 2000 Q (F0 m 30 ls [])) (σ : CS) (x3 : Int32) (H : Heap) (locs : List Loc) (ls : Array Slot) (hw : wps_L_law_278 L xs σ x3 K) (hW : Wd D A s.heap (cW cI cJ a σ) H locs) (hl : lv_has ls 13 [(0, .ref b), (1, .ref (a 0)), (3, .int x3)]) : W p l e room_1 s m args below meth c H locs 20 2000 Q (F0 m 278 ls []) := by
  refine lv_iconst (v := 0) hx hb dL_law_278 (by decide) ?_
  exact sg_L_law_279 hx hb hml hts hown hK hA hX hbl hbA hL hback σ x3 0 _ _ _ hw hW (lv_sub hl [0, 1, 2] rfl)
def wps_L_law_274 (L : Nat) (xs : Nat → Int32) (σ : CS) (x3 : Int32) (K : Int32 → Int32 → CS → Prop) : Prop := wps_L_law_279 L xs σ x3 1 K
set_option maxHeartbeats 4000000 in
set_option maxRecDepth 100000 in
theorem sg_L_law_274 {p : Program} {l : Launch} {e : Env} {s : State} {m : MethodId} {args : Array Value} {below : List Frame} {meth : Method} {c : Code} {A : Nat → Prop} {Q : State → Prop} {D : va_G} {cI cJ : ClassId} {a : Nat → Nat} {b L : Nat} {xs : Nat → Int32} {K : Int32 → Int32 → CS → Prop} (hx : p.tables.exec = Jvm.exec) (hb : c.code = cL_law) (hml : c.maxLocals = 13) (hts : ∀ w ∈ wsL_law, w.before args s = true) (hown : s.vm.findClass RL = some m.cls) (hK : va_K D vwCl (tysIJ cI cJ) s) (hA : ∀ q : Nat, s.heap.size ≤ q → A q) (hX : va_X b L xs s s.heap) (hbl : b < s.heap.size) (hbA : ¬ A b) (hL : L ≤ 260) (hback : ∀ (σ : CS) (v2 v3 : Int32) (H : Heap) (locs : List Loc) (ls : Array Slot), K v2 v3 σ → Wd D A s.heap (cW cI cJ a σ) H locs → lv_has ls 13 [(0, .ref b), (1, .ref (a 0)), (2, .int v2), (3, .int v3)] → W p l e room_1 s m args below meth c H locs 20 2000 Q (F0 m 30 ls [])) (σ : CS) (x3 : Int32) (H : Heap) (locs : List Loc) (ls : Array Slot) (hw : wps_L_law_274 L xs σ x3 K) (hW : Wd D A s.heap (cW cI cJ a σ) H locs) (hl : lv_has ls 13 [(0, .ref b), (1, .ref (a 0)), (3, .int x3)]) : W p l e room_1 s m args below meth c H locs 20 2000 Q (F0 m 274 ls []) := by
  refine lv_iconst (v := 1) hx hb dL_law_274 (by decide) ?_
  refine lv_goto (tgt := 279) hx hb dL_law_275 (by decide) ?_
  exact sg_L_law_279 hx hb hml hts hown hK hA hX hbl hbA hL hback σ x3 1 _ _ _ hw hW (lv_sub hl [0, 1, 2] rfl)
def wps_L_law_253 (L : Nat) (xs : Nat → Int32) (σ : CS) (x3 : Int32) (K : Int32 → Int32 → CS → Prop) : Prop := ((¬ (x3 - x3 / 23 * 23) = 14 → wps_L_law_274 L xs σ x3 K) ∧ ((x3 - x3 / 23 * 23) = 14 → wp_X4_keep σ (fun r_11001 σ_11002 => wp_X4_count σ_11002 4 (fun r_11003 => ((¬ r_11001 = r_11003 → wps_L_law_278 L xs σ_11002 x3 K) ∧ (r_11001 = r_11003 → wps_L_law_274 L xs σ_11002 x3 K))) (fun _ => False))))
set_option maxHeartbeats 4000000 in
set_option maxRecDepth 100000 in
theorem sg_L_law_253 {p : Program} {l : Launch} {e : Env} {s : State} {m : MethodId} {args : Array Value} {below : List Frame} {meth : Method} {c : Code} {A : Nat → Prop} {Q : State → Prop} {D : va_G} {cI cJ : ClassId} {a : Nat → Nat} {b L : Nat} {xs : Nat → Int32} {K : Int32 → Int32 → CS → Prop} (hx : p.tables.exec = Jvm.exec) (hb : c.code = cL_law) (hml : c.maxLocals = 13) (hts : ∀ w ∈ wsL_law, w.before args s = true) (hown : s.vm.findClass RL = some m.cls) (hK : va_K D vwCl (tysIJ cI cJ) s) (hA : ∀ q : Nat, s.heap.size ≤ q → A q) (hX : va_X b L xs s s.heap) (hbl : b < s.heap.size) (hbA : ¬ A b) (hL : L ≤ 260) (hback : ∀ (σ : CS) (v2 v3 : Int32) (H : Heap) (locs : List Loc) (ls : Array Slot), K v2 v3 σ → Wd D A s.heap (cW cI cJ a σ) H locs → lv_has ls 13 [(0, .ref b), (1, .ref (a 0)), (2, .int v2), (3, .int v3)] → W p l e room_1 s m args below meth c H locs 20 2000 Q (F0 m 30 ls [])) (σ : CS) (x3 : Int32) (H : Heap) (locs : List Loc) (ls : Array Slot) (hw : wps_L_law_253 L xs σ x3 K) (hW : Wd D A s.heap (cW cI cJ a σ) H locs) (hl : lv_has ls 13 [(0, .ref b), (1, .ref (a 0)), (3, .int x3)]) : W p l e room_1 s m args below meth c H locs 20 2000 Q (F0 m 253 ls []) := by
  refine lv_iload_n hx hb dL_law_253 rfl (lv_at hl 2 rfl) ?_
  refine lv_bipush (v := 23) hx hb dL_law_254 (by decide) ?_
  refine lv_irem hx hb dL_law_256 (by decide) ?_
  refine lv_bipush (v := 14) hx hb dL_law_257 (by decide) ?_
  refine lv_icmp_ne (tgt := 274) hx hb dL_law_259 (by decide) (fun hc => ?_) (fun hc => ?_)
  · have hw := hw.1 hc
    exact sg_L_law_274 hx hb hml hts hown hK hA hX hbl hbA hL hback σ x3 _ _ _ hw hW (lv_sub hl [0, 1, 2] rfl)
  · have hw := hw.2 hc
    refine lv_aload_n hx hb dL_law_262 rfl (lv_at hl 1 rfl) ?_
    refine kV_Mi (As := []) (rest := []) ⟨hx, hb, hml, hown, hts⟩ (ok_X4_keep l D cI cJ a _ _ _ hw) (cwV 0 hts gL_law_X4_keep rfl rfl rfl (by decide +kernel) ⟨Nat.le_of_ble_eq_true rfl, Nat.le_of_ble_eq_true rfl⟩) hK hW hA 0 rfl rfl rfl hl.1 rfl (Nat.le_of_ble_eq_true rfl) dL_law_263 ⟨Nat.le_of_ble_eq_true rfl, Nat.le_of_ble_eq_true rfl⟩ (fun r_11001 σ_11002 H locs hw hW => ?_)
    refine lv_aload_n hx hb dL_law_266 rfl (lv_at hl 1 rfl) ?_
    refine lv_iconst (v := 4) hx hb dL_law_267 (by decide) ?_
    refine kV_Mi (As := [.int 4]) (rest := [.int r_11001]) ⟨hx, hb, hml, hown, hts⟩ (ok_X4_count_n l D cI cJ a _ _ _ _ hw) (cwV 1 hts gL_law_X4_count rfl rfl rfl (by decide +kernel) ⟨Nat.le_of_ble_eq_true rfl, Nat.le_of_ble_eq_true rfl⟩) hK hW hA 0 rfl rfl rfl hl.1 rfl (Nat.le_of_ble_eq_true rfl) dL_law_268 ⟨Nat.le_of_ble_eq_true rfl, Nat.le_of_ble_eq_true rfl⟩ (fun r_11003 _ H locs hw hW => ?_)
    refine lv_icmp_ne (tgt := 278) hx hb dL_law_271 (by decide) (fun hc => ?_) (fun hc => ?_)
    · have hw := hw.1 hc
      exact sg_L_law_278 hx hb hml hts hown hK hA hX hbl hbA hL hback σ_11002 x3 _ _ _ hw hW (lv_sub hl [0, 1, 2] rfl)
    · have hw := hw.2 hc
      exact sg_L_law_274 hx hb hml hts hown hK hA hX hbl hbA hL hback σ_11002 x3 _ _ _ hw hW (lv_sub hl [0, 1, 2] rfl)
def wps_L_law_198 (L : Nat) (xs : Nat → Int32) (σ : CS) (x2 : Int32) (x3 : Int32) (x4 : Int32) (x5 : Int32) (K : Int32 → Int32 → CS → Prop) : Prop := ((x2 = 0 → wps_L_law_278 L xs σ x3 K) ∧ (¬ x2 = 0 → wp_L_holds σ (fun r_10001 => ((r_10001 = 0 → wps_L_law_278 L xs σ x3 K) ∧ (¬ r_10001 = 0 → ((¬ (x3 - x3 / 4 * 4) = 2 → wps_L_law_253 L xs σ x3 K) ∧ ((x3 - x3 / 4 * 4) = 2 → wp_L_up (x4 >>> (5 &&& 31)) 6 (fun r_10002 => wp_L_up (x4 >>> (8 &&& 31)) 6 (fun r_10003 => wp_L_up (x5 >>> (4 &&& 31)) 99 (fun r_10004 => wp_L_isAhead σ r_10002 r_10003 (1 + r_10004) (fun r_10005 σ_10006 => ((r_10005 = 0 → wps_L_law_278 L xs σ_10006 x3 K) ∧ (¬ r_10005 = 0 → wps_L_law_253 L xs σ_10006 x3 K)))))))))))))
set_option maxHeartbeats 4000000 in
set_option maxRecDepth 100000 in
theorem sg_L_law_198 {p : Program} {l : Launch} {e : Env} {s : State} {m : MethodId} {args : Array Value} {below : List Frame} {meth : Method} {c : Code} {A : Nat → Prop} {Q : State → Prop} {D : va_G} {cI cJ : ClassId} {a : Nat → Nat} {b L : Nat} {xs : Nat → Int32} {K : Int32 → Int32 → CS → Prop} (hx : p.tables.exec = Jvm.exec) (hb : c.code = cL_law) (hml : c.maxLocals = 13) (hts : ∀ w ∈ wsL_law, w.before args s = true) (hown : s.vm.findClass RL = some m.cls) (hK : va_K D vwCl (tysIJ cI cJ) s) (hA : ∀ q : Nat, s.heap.size ≤ q → A q) (hX : va_X b L xs s s.heap) (hbl : b < s.heap.size) (hbA : ¬ A b) (hL : L ≤ 260) (hback : ∀ (σ : CS) (v2 v3 : Int32) (H : Heap) (locs : List Loc) (ls : Array Slot), K v2 v3 σ → Wd D A s.heap (cW cI cJ a σ) H locs → lv_has ls 13 [(0, .ref b), (1, .ref (a 0)), (2, .int v2), (3, .int v3)] → W p l e room_1 s m args below meth c H locs 20 2000 Q (F0 m 30 ls [])) (σ : CS) (x2 : Int32) (x3 : Int32) (x4 : Int32) (x5 : Int32) (H : Heap) (locs : List Loc) (ls : Array Slot) (hw : wps_L_law_198 L xs σ x2 x3 x4 x5 K) (hW : Wd D A s.heap (cW cI cJ a σ) H locs) (hl : lv_has ls 13 [(0, .ref b), (1, .ref (a 0)), (2, .int x2), (3, .int x3), (4, .int x4), (5, .int x5)]) : W p l e room_1 s m args below meth c H locs 20 2000 Q (F0 m 198 ls []) := by
  refine lv_iload_n hx hb dL_law_198 rfl (lv_at hl 2 rfl) ?_
  refine lv_if_eq (tgt := 278) hx hb dL_law_199 (by decide) (fun hc => ?_) (fun hc => ?_)
  · have hw := hw.1 hc
    exact sg_L_law_278 hx hb hml hts hown hK hA hX hbl hbA hL hback σ x3 _ _ _ hw hW (lv_sub hl [0, 1, 3] rfl)
  · have hw := hw.2 hc
    refine lv_aload_n hx hb dL_law_202 rfl (lv_at hl 1 rfl) ?_
    refine kS_Mi (As := [.ref (a 0)]) (rest := []) ⟨hx, hb, hml, hown, hts⟩ (ok_L_holds l D cI cJ a _ _ _ hw) (va_cwS 1 hts gL_law_L_holds rfl rfl rfl (by decide +kernel) ⟨Nat.le_of_ble_eq_true rfl, Nat.le_of_ble_eq_true rfl⟩) hK hW hA rfl hl.1 rfl (Nat.le_of_ble_eq_true rfl) dL_law_203 ⟨Nat.le_of_ble_eq_true rfl, Nat.le_of_ble_eq_true rfl⟩ (fun r_10001 _ H locs hw hW => ?_)
    refine lv_if_eq (tgt := 278) hx hb dL_law_206 (by decide) (fun hc => ?_) (fun hc => ?_)
    · have hw := hw.1 hc
      exact sg_L_law_278 hx hb hml hts hown hK hA hX hbl hbA hL hback σ x3 _ _ _ hw hW (lv_sub hl [0, 1, 3] rfl)
    · have hw := hw.2 hc
      refine lv_iload_n hx hb dL_law_209 rfl (lv_at hl 3 rfl) ?_
      refine lv_iconst (v := 4) hx hb dL_law_210 (by decide) ?_
      refine lv_irem hx hb dL_law_211 (by decide) ?_
      refine lv_iconst (v := 2) hx hb dL_law_212 (by decide) ?_
      refine lv_icmp_ne (tgt := 253) hx hb dL_law_213 (by decide) (fun hc => ?_) (fun hc => ?_)
      · have hw := hw.1 hc
        exact sg_L_law_253 hx hb hml hts hown hK hA hX hbl hbA hL hback σ x3 _ _ _ hw hW (lv_sub hl [0, 1, 3] rfl)
      · have hw := hw.2 hc
        refine lv_aload_n hx hb dL_law_216 rfl (lv_at hl 1 rfl) ?_
        refine lv_iload hx hb dL_law_217 (lv_at hl 4 rfl) ?_
        refine lv_iconst (v := 5) hx hb dL_law_219 (by decide) ?_
        refine lv_ishr hx hb dL_law_220 ?_
        refine lv_bipush (v := 6) hx hb dL_law_221 (by decide) ?_
        refine kS_Pi (As := [.int (x4 >>> (5 &&& 31)), .int 6]) (rest := [.ref (a 0)]) ⟨hx, hb, hml, hown, hts⟩ (ok_L_up l _ _ _ hw) (va_cwS 2 hts gL_law_L_up rfl rfl rfl (by decide +kernel) ⟨Nat.le_of_ble_eq_true rfl, Nat.le_of_ble_eq_true rfl⟩) hW.2.2 rfl hl.1 rfl (Nat.le_of_ble_eq_true rfl) dL_law_223 ⟨Nat.le_of_ble_eq_true rfl, Nat.le_of_ble_eq_true rfl⟩ (fun r_10002 H locs hw hk hS => ?_)
        have hW := hW.kept hk hS
        refine lv_iload hx hb dL_law_226 (lv_at hl 4 rfl) ?_
        refine lv_bipush (v := 8) hx hb dL_law_228 (by decide) ?_
        refine lv_ishr hx hb dL_law_230 ?_
        refine lv_bipush (v := 6) hx hb dL_law_231 (by decide) ?_
        refine kS_Pi (As := [.int (x4 >>> (8 &&& 31)), .int 6]) (rest := [.int r_10002, .ref (a 0)]) ⟨hx, hb, hml, hown, hts⟩ (ok_L_up l _ _ _ hw) (va_cwS 2 hts gL_law_L_up rfl rfl rfl (by decide +kernel) ⟨Nat.le_of_ble_eq_true rfl, Nat.le_of_ble_eq_true rfl⟩) hW.2.2 rfl hl.1 rfl (Nat.le_of_ble_eq_true rfl) dL_law_233 ⟨Nat.le_of_ble_eq_true rfl, Nat.le_of_ble_eq_true rfl⟩ (fun r_10003 H locs hw hk hS => ?_)
        have hW := hW.kept hk hS
        refine lv_iconst (v := 1) hx hb dL_law_236 (by decide) ?_
        refine lv_iload hx hb dL_law_237 (lv_at hl 5 rfl) ?_
        refine lv_iconst (v := 4) hx hb dL_law_239 (by decide) ?_
        refine lv_ishr hx hb dL_law_240 ?_
        refine lv_bipush (v := 99) hx hb dL_law_241 (by decide) ?_
        refine kS_Pi (As := [.int (x5 >>> (4 &&& 31)), .int 99]) (rest := [.int 1, .int r_10003, .int r_10002, .ref (a 0)]) ⟨hx, hb, hml, hown, hts⟩ (ok_L_up l _ _ _ hw) (va_cwS 2 hts gL_law_L_up rfl rfl rfl (by decide +kernel) ⟨Nat.le_of_ble_eq_true rfl, Nat.le_of_ble_eq_true rfl⟩) hW.2.2 rfl hl.1 rfl (Nat.le_of_ble_eq_true rfl) dL_law_243 ⟨Nat.le_of_ble_eq_true rfl, Nat.le_of_ble_eq_true rfl⟩ (fun r_10004 H locs hw hk hS => ?_)
        have hW := hW.kept hk hS
        refine lv_iadd hx hb dL_law_246 ?_
        refine kS_Mi (As := [.ref (a 0), .int r_10002, .int r_10003, .int (1 + r_10004)]) (rest := []) ⟨hx, hb, hml, hown, hts⟩ (ok_L_isAhead l D cI cJ a _ _ _ _ _ _ hw) (va_cwS 4 hts gL_law_L_isAhead rfl rfl rfl (by decide +kernel) ⟨Nat.le_of_ble_eq_true rfl, Nat.le_of_ble_eq_true rfl⟩) hK hW hA rfl hl.1 rfl (Nat.le_of_ble_eq_true rfl) dL_law_247 ⟨Nat.le_of_ble_eq_true rfl, Nat.le_of_ble_eq_true rfl⟩ (fun r_10005 σ_10006 H locs hw hW => ?_)
        refine lv_if_eq (tgt := 278) hx hb dL_law_250 (by decide) (fun hc => ?_) (fun hc => ?_)
        · have hw := hw.1 hc
          exact sg_L_law_278 hx hb hml hts hown hK hA hX hbl hbA hL hback σ_10006 x3 _ _ _ hw hW (lv_sub hl [0, 1, 3] rfl)
        · have hw := hw.2 hc
          exact sg_L_law_253 hx hb hml hts hown hK hA hX hbl hbA hL hback σ_10006 x3 _ _ _ hw hW (lv_sub hl [0, 1, 3] rfl)
def wps_L_law_197 (L : Nat) (xs : Nat → Int32) (σ : CS) (x3 : Int32) (x4 : Int32) (x5 : Int32) (t0 : Int32) (K : Int32 → Int32 → CS → Prop) : Prop := wps_L_law_198 L xs σ t0 x3 x4 x5 K
set_option maxHeartbeats 4000000 in
set_option maxRecDepth 100000 in
theorem sg_L_law_197 {p : Program} {l : Launch} {e : Env} {s : State} {m : MethodId} {args : Array Value} {below : List Frame} {meth : Method} {c : Code} {A : Nat → Prop} {Q : State → Prop} {D : va_G} {cI cJ : ClassId} {a : Nat → Nat} {b L : Nat} {xs : Nat → Int32} {K : Int32 → Int32 → CS → Prop} (hx : p.tables.exec = Jvm.exec) (hb : c.code = cL_law) (hml : c.maxLocals = 13) (hts : ∀ w ∈ wsL_law, w.before args s = true) (hown : s.vm.findClass RL = some m.cls) (hK : va_K D vwCl (tysIJ cI cJ) s) (hA : ∀ q : Nat, s.heap.size ≤ q → A q) (hX : va_X b L xs s s.heap) (hbl : b < s.heap.size) (hbA : ¬ A b) (hL : L ≤ 260) (hback : ∀ (σ : CS) (v2 v3 : Int32) (H : Heap) (locs : List Loc) (ls : Array Slot), K v2 v3 σ → Wd D A s.heap (cW cI cJ a σ) H locs → lv_has ls 13 [(0, .ref b), (1, .ref (a 0)), (2, .int v2), (3, .int v3)] → W p l e room_1 s m args below meth c H locs 20 2000 Q (F0 m 30 ls [])) (σ : CS) (x3 : Int32) (x4 : Int32) (x5 : Int32) (t0 : Int32) (H : Heap) (locs : List Loc) (ls : Array Slot) (hw : wps_L_law_197 L xs σ x3 x4 x5 t0 K) (hW : Wd D A s.heap (cW cI cJ a σ) H locs) (hl : lv_has ls 13 [(0, .ref b), (1, .ref (a 0)), (3, .int x3), (4, .int x4), (5, .int x5)]) : W p l e room_1 s m args below meth c H locs 20 2000 Q (F0 m 197 ls [.int t0]) := by
  refine lv_istore_n (lv' := [(2, .int t0), (0, .ref b), (1, .ref (a 0)), (3, .int x3), (4, .int x4), (5, .int x5)]) hx hb dL_law_197 rfl hl (by decide) rfl (fun ls hl => ?_)
  exact sg_L_law_198 hx hb hml hts hown hK hA hX hbl hbA hL hback σ t0 x3 x4 x5 _ _ _ hw hW (lv_sub hl [1, 2, 0, 3, 4, 5] rfl)
def wps_L_law_196 (L : Nat) (xs : Nat → Int32) (σ : CS) (x3 : Int32) (x4 : Int32) (x5 : Int32) (K : Int32 → Int32 → CS → Prop) : Prop := wps_L_law_197 L xs σ x3 x4 x5 0 K
set_option maxHeartbeats 4000000 in
set_option maxRecDepth 100000 in
theorem sg_L_law_196 {p : Program} {l : Launch} {e : Env} {s : State} {m : MethodId} {args : Array Value} {below : List Frame} {meth : Method} {c : Code} {A : Nat → Prop} {Q : State → Prop} {D : va_G} {cI cJ : ClassId} {a : Nat → Nat} {b L : Nat} {xs : Nat → Int32} {K : Int32 → Int32 → CS → Prop} (hx : p.tables.exec = Jvm.exec) (hb : c.code = cL_law) (hml : c.maxLocals = 13) (hts : ∀ w ∈ wsL_law, w.before args s = true) (hown : s.vm.findClass RL = some m.cls) (hK : va_K D vwCl (tysIJ cI cJ) s) (hA : ∀ q : Nat, s.heap.size ≤ q → A q) (hX : va_X b L xs s s.heap) (hbl : b < s.heap.size) (hbA : ¬ A b) (hL : L ≤ 260) (hback : ∀ (σ : CS) (v2 v3 : Int32) (H : Heap) (locs : List Loc) (ls : Array Slot), K v2 v3 σ → Wd D A s.heap (cW cI cJ a σ) H locs → lv_has ls 13 [(0, .ref b), (1, .ref (a 0)), (2, .int v2), (3, .int v3)] → W p l e room_1 s m args below meth c H locs 20 2000 Q (F0 m 30 ls [])) (σ : CS) (x3 : Int32) (x4 : Int32) (x5 : Int32) (H : Heap) (locs : List Loc) (ls : Array Slot) (hw : wps_L_law_196 L xs σ x3 x4 x5 K) (hW : Wd D A s.heap (cW cI cJ a σ) H locs) (hl : lv_has ls 13 [(0, .ref b), (1, .ref (a 0)), (3, .int x3), (4, .int x4), (5, .int x5)]) : W p l e room_1 s m args below meth c H locs 20 2000 Q (F0 m 196 ls []) := by
  refine lv_iconst (v := 0) hx hb dL_law_196 (by decide) ?_
  exact sg_L_law_197 hx hb hml hts hown hK hA hX hbl hbA hL hback σ x3 x4 x5 0 _ _ _ hw hW (lv_sub hl [0, 1, 2, 3, 4] rfl)
def wps_L_law_119 (L : Nat) (xs : Nat → Int32) (σ : CS) (x3 : Int32) (x4 : Int32) (x5 : Int32) (x6 : Int64) (x9 : Int32) (t0 : Int32) (K : Int32 → Int32 → CS → Prop) : Prop := ((t0 = 0 → wps_L_law_198 L xs σ t0 x3 x4 x5 K) ∧ (¬ t0 = 0 → ((¬ ((x4 >>> (8 &&& 31)) &&& 3) = 0 → wps_L_law_198 L xs σ t0 x3 x4 x5 K) ∧ (((x4 >>> (8 &&& 31)) &&& 3) = 0 → wp_L_looks σ (fun r_7001 => wp_X4_count σ 14 (fun r_7002 => ∀ v12_7003 : Int32, v12_7003 = (r_7002 - 1) → wp_X4_undo σ (fun r_7004 σ_7005 => ((¬ r_7004 = v12_7003 → wps_L_law_196 L xs σ_7005 x3 x4 x5 K) ∧ (r_7004 = v12_7003 → wp_L_looks σ_7005 (fun r_7006 => ((¬ (lg_cmp r_7006 x6) = 0 → wps_L_law_196 L xs σ_7005 x3 x4 x5 K) ∧ ((lg_cmp r_7006 x6) = 0 → wp_L_act σ_7005 x4 x5 (fun r_7007 σ_7008 => ((¬ r_7007 = x9 → wps_L_law_196 L xs σ_7008 x3 x4 x5 K) ∧ (r_7007 = x9 → wp_L_looks σ_7008 (fun r_7009 => ((¬ (lg_cmp r_7009 r_7001) = 0 → wps_L_law_196 L xs σ_7008 x3 x4 x5 K) ∧ ((lg_cmp r_7009 r_7001) = 0 → wps_L_law_197 L xs σ_7008 x3 x4 x5 1 K)))))))))))) (fun _ => False)) (fun _ => False))))))
set_option maxHeartbeats 4000000 in
set_option maxRecDepth 100000 in
theorem sg_L_law_119 {p : Program} {l : Launch} {e : Env} {s : State} {m : MethodId} {args : Array Value} {below : List Frame} {meth : Method} {c : Code} {A : Nat → Prop} {Q : State → Prop} {D : va_G} {cI cJ : ClassId} {a : Nat → Nat} {b L : Nat} {xs : Nat → Int32} {K : Int32 → Int32 → CS → Prop} (hx : p.tables.exec = Jvm.exec) (hb : c.code = cL_law) (hml : c.maxLocals = 13) (hts : ∀ w ∈ wsL_law, w.before args s = true) (hown : s.vm.findClass RL = some m.cls) (hK : va_K D vwCl (tysIJ cI cJ) s) (hA : ∀ q : Nat, s.heap.size ≤ q → A q) (hX : va_X b L xs s s.heap) (hbl : b < s.heap.size) (hbA : ¬ A b) (hL : L ≤ 260) (hback : ∀ (σ : CS) (v2 v3 : Int32) (H : Heap) (locs : List Loc) (ls : Array Slot), K v2 v3 σ → Wd D A s.heap (cW cI cJ a σ) H locs → lv_has ls 13 [(0, .ref b), (1, .ref (a 0)), (2, .int v2), (3, .int v3)] → W p l e room_1 s m args below meth c H locs 20 2000 Q (F0 m 30 ls [])) (σ : CS) (x3 : Int32) (x4 : Int32) (x5 : Int32) (x6 : Int64) (x9 : Int32) (t0 : Int32) (H : Heap) (locs : List Loc) (ls : Array Slot) (hw : wps_L_law_119 L xs σ x3 x4 x5 x6 x9 t0 K) (hW : Wd D A s.heap (cW cI cJ a σ) H locs) (hl : lv_has ls 13 [(0, .ref b), (1, .ref (a 0)), (3, .int x3), (4, .int x4), (5, .int x5), (6, .long x6), (9, .int x9)]) : W p l e room_1 s m args below meth c H locs 20 2000 Q (F0 m 119 ls [.int t0]) := by
  refine lv_istore_n (lv' := [(2, .int t0), (0, .ref b), (1, .ref (a 0)), (3, .int x3), (4, .int x4), (5, .int x5), (6, .long x6), (9, .int x9)]) hx hb dL_law_119 rfl hl (by decide) rfl (fun ls hl => ?_)
  refine lv_iload_n hx hb dL_law_120 rfl (lv_at hl 0 rfl) ?_
  refine lv_if_eq (tgt := 198) hx hb dL_law_121 (by decide) (fun hc => ?_) (fun hc => ?_)
  · have hw := hw.1 hc
    exact sg_L_law_198 hx hb hml hts hown hK hA hX hbl hbA hL hback σ t0 x3 x4 x5 _ _ _ hw hW (lv_sub hl [1, 2, 0, 3, 4, 5] rfl)
  · have hw := hw.2 hc
    refine lv_iload hx hb dL_law_124 (lv_at hl 4 rfl) ?_
    refine lv_bipush (v := 8) hx hb dL_law_126 (by decide) ?_
    refine lv_ishr hx hb dL_law_128 ?_
    refine lv_iconst (v := 3) hx hb dL_law_129 (by decide) ?_
    refine lv_iand hx hb dL_law_130 ?_
    refine lv_if_ne (tgt := 198) hx hb dL_law_131 (by decide) (fun hc => ?_) (fun hc => ?_)
    · have hw := hw.1 hc
      exact sg_L_law_198 hx hb hml hts hown hK hA hX hbl hbA hL hback σ t0 x3 x4 x5 _ _ _ hw hW (lv_sub hl [1, 2, 0, 3, 4, 5] rfl)
    · have hw := hw.2 hc
      refine lv_aload_n hx hb dL_law_134 rfl (lv_at hl 2 rfl) ?_
      refine kS_Ml (As := [.ref (a 0)]) (rest := []) ⟨hx, hb, hml, hown, hts⟩ (ok_L_looks l D cI cJ a _ _ _ hw) (va_cwS 1 hts gL_law_L_looks rfl rfl rfl (by decide +kernel) ⟨Nat.le_of_ble_eq_true rfl, Nat.le_of_ble_eq_true rfl⟩) hK hW hA rfl hl.1 rfl (Nat.le_of_ble_eq_true rfl) dL_law_135 ⟨Nat.le_of_ble_eq_true rfl, Nat.le_of_ble_eq_true rfl⟩ (fun r_7001 _ H locs hw hW => ?_)
      refine lv_lstore (lv' := [(10, .long r_7001), (2, .int t0), (0, .ref b), (1, .ref (a 0)), (3, .int x3), (4, .int x4), (5, .int x5), (6, .long x6), (9, .int x9)]) hx hb dL_law_138 hl (by decide) rfl (fun ls hl => ?_)
      refine lv_aload_n hx hb dL_law_140 rfl (lv_at hl 3 rfl) ?_
      refine lv_bipush (v := 14) hx hb dL_law_141 (by decide) ?_
      refine kV_Mi (As := [.int 14]) (rest := []) ⟨hx, hb, hml, hown, hts⟩ (ok_X4_count_n l D cI cJ a _ _ _ _ hw) (cwV 1 hts gL_law_X4_count rfl rfl rfl (by decide +kernel) ⟨Nat.le_of_ble_eq_true rfl, Nat.le_of_ble_eq_true rfl⟩) hK hW hA 0 rfl rfl rfl hl.1 rfl (Nat.le_of_ble_eq_true rfl) dL_law_143 ⟨Nat.le_of_ble_eq_true rfl, Nat.le_of_ble_eq_true rfl⟩ (fun r_7002 _ H locs hw hW => ?_)
      refine lv_iconst (v := 1) hx hb dL_law_146 (by decide) ?_
      refine lv_isub hx hb dL_law_147 ?_
      refine lv_topi (fun v12_7003 ev12_7003 => ?_)
      have hw := hw v12_7003 ev12_7003
      refine lv_istore (lv' := [(12, .int v12_7003), (10, .long r_7001), (2, .int t0), (0, .ref b), (1, .ref (a 0)), (3, .int x3), (4, .int x4), (5, .int x5), (6, .long x6), (9, .int x9)]) hx hb dL_law_148 hl (by decide) rfl (fun ls hl => ?_)
      refine lv_aload_n hx hb dL_law_150 rfl (lv_at hl 4 rfl) ?_
      refine kV_Mi (As := []) (rest := []) ⟨hx, hb, hml, hown, hts⟩ (ok_X4_undo_n l D cI cJ a _ _ _ hw) (cwV 0 hts gL_law_X4_undo rfl rfl rfl (by decide +kernel) ⟨Nat.le_of_ble_eq_true rfl, Nat.le_of_ble_eq_true rfl⟩) hK hW hA 0 rfl rfl rfl hl.1 rfl (Nat.le_of_ble_eq_true rfl) dL_law_151 ⟨Nat.le_of_ble_eq_true rfl, Nat.le_of_ble_eq_true rfl⟩ (fun r_7004 σ_7005 H locs hw hW => ?_)
      refine lv_iload hx hb dL_law_154 (lv_at hl 0 rfl) ?_
      refine lv_icmp_ne (tgt := 196) hx hb dL_law_156 (by decide) (fun hc => ?_) (fun hc => ?_)
      · have hw := hw.1 hc
        exact sg_L_law_196 hx hb hml hts hown hK hA hX hbl hbA hL hback σ_7005 x3 x4 x5 _ _ _ hw hW (lv_sub hl [3, 4, 5, 6, 7] rfl)
      · have hw := hw.2 hc
        refine lv_aload_n hx hb dL_law_159 rfl (lv_at hl 4 rfl) ?_
        refine kS_Ml (As := [.ref (a 0)]) (rest := []) ⟨hx, hb, hml, hown, hts⟩ (ok_L_looks l D cI cJ a _ _ _ hw) (va_cwS 1 hts gL_law_L_looks rfl rfl rfl (by decide +kernel) ⟨Nat.le_of_ble_eq_true rfl, Nat.le_of_ble_eq_true rfl⟩) hK hW hA rfl hl.1 rfl (Nat.le_of_ble_eq_true rfl) dL_law_160 ⟨Nat.le_of_ble_eq_true rfl, Nat.le_of_ble_eq_true rfl⟩ (fun r_7006 _ H locs hw hW => ?_)
        refine lv_lload hx hb dL_law_163 (lv_at hl 8 rfl) ?_
        refine W.lcmp hx hb dL_law_165 ?_
        refine lv_if_ne (tgt := 196) hx hb dL_law_166 (by decide) (fun hc => ?_) (fun hc => ?_)
        · have hw := hw.1 hc
          exact sg_L_law_196 hx hb hml hts hown hK hA hX hbl hbA hL hback σ_7005 x3 x4 x5 _ _ _ hw hW (lv_sub hl [3, 4, 5, 6, 7] rfl)
        · have hw := hw.2 hc
          refine lv_aload_n hx hb dL_law_169 rfl (lv_at hl 4 rfl) ?_
          refine lv_iload hx hb dL_law_170 (lv_at hl 6 rfl) ?_
          refine lv_iload hx hb dL_law_172 (lv_at hl 7 rfl) ?_
          refine kS_Mi (As := [.ref (a 0), .int x4, .int x5]) (rest := []) ⟨hx, hb, hml, hown, hts⟩ (ok_L_act l D cI cJ a _ _ _ _ _ hw) (va_cwS 3 hts gL_law_L_act rfl rfl rfl (by decide +kernel) ⟨Nat.le_of_ble_eq_true rfl, Nat.le_of_ble_eq_true rfl⟩) hK hW hA rfl hl.1 rfl (Nat.le_of_ble_eq_true rfl) dL_law_174 ⟨Nat.le_of_ble_eq_true rfl, Nat.le_of_ble_eq_true rfl⟩ (fun r_7007 σ_7008 H locs hw hW => ?_)
          refine lv_iload hx hb dL_law_177 (lv_at hl 9 rfl) ?_
          refine lv_icmp_ne (tgt := 196) hx hb dL_law_179 (by decide) (fun hc => ?_) (fun hc => ?_)
          · have hw := hw.1 hc
            exact sg_L_law_196 hx hb hml hts hown hK hA hX hbl hbA hL hback σ_7008 x3 x4 x5 _ _ _ hw hW (lv_sub hl [3, 4, 5, 6, 7] rfl)
          · have hw := hw.2 hc
            refine lv_aload_n hx hb dL_law_182 rfl (lv_at hl 4 rfl) ?_
            refine kS_Ml (As := [.ref (a 0)]) (rest := []) ⟨hx, hb, hml, hown, hts⟩ (ok_L_looks l D cI cJ a _ _ _ hw) (va_cwS 1 hts gL_law_L_looks rfl rfl rfl (by decide +kernel) ⟨Nat.le_of_ble_eq_true rfl, Nat.le_of_ble_eq_true rfl⟩) hK hW hA rfl hl.1 rfl (Nat.le_of_ble_eq_true rfl) dL_law_183 ⟨Nat.le_of_ble_eq_true rfl, Nat.le_of_ble_eq_true rfl⟩ (fun r_7009 _ H locs hw hW => ?_)
            refine lv_lload hx hb dL_law_186 (lv_at hl 1 rfl) ?_
            refine W.lcmp hx hb dL_law_188 ?_
            refine lv_if_ne (tgt := 196) hx hb dL_law_189 (by decide) (fun hc => ?_) (fun hc => ?_)
            · have hw := hw.1 hc
              exact sg_L_law_196 hx hb hml hts hown hK hA hX hbl hbA hL hback σ_7008 x3 x4 x5 _ _ _ hw hW (lv_sub hl [3, 4, 5, 6, 7] rfl)
            · have hw := hw.2 hc
              refine lv_iconst (v := 1) hx hb dL_law_192 (by decide) ?_
              refine lv_goto (tgt := 197) hx hb dL_law_193 (by decide) ?_
              exact sg_L_law_197 hx hb hml hts hown hK hA hX hbl hbA hL hback σ_7008 x3 x4 x5 1 _ _ _ hw hW (lv_sub hl [3, 4, 5, 6, 7] rfl)
def wps_L_law_118 (L : Nat) (xs : Nat → Int32) (σ : CS) (x3 : Int32) (x4 : Int32) (x5 : Int32) (x6 : Int64) (x9 : Int32) (K : Int32 → Int32 → CS → Prop) : Prop := wps_L_law_119 L xs σ x3 x4 x5 x6 x9 0 K
set_option maxHeartbeats 4000000 in
set_option maxRecDepth 100000 in
theorem sg_L_law_118 {p : Program} {l : Launch} {e : Env} {s : State} {m : MethodId} {args : Array Value} {below : List Frame} {meth : Method} {c : Code} {A : Nat → Prop} {Q : State → Prop} {D : va_G} {cI cJ : ClassId} {a : Nat → Nat} {b L : Nat} {xs : Nat → Int32} {K : Int32 → Int32 → CS → Prop} (hx : p.tables.exec = Jvm.exec) (hb : c.code = cL_law) (hml : c.maxLocals = 13) (hts : ∀ w ∈ wsL_law, w.before args s = true) (hown : s.vm.findClass RL = some m.cls) (hK : va_K D vwCl (tysIJ cI cJ) s) (hA : ∀ q : Nat, s.heap.size ≤ q → A q) (hX : va_X b L xs s s.heap) (hbl : b < s.heap.size) (hbA : ¬ A b) (hL : L ≤ 260) (hback : ∀ (σ : CS) (v2 v3 : Int32) (H : Heap) (locs : List Loc) (ls : Array Slot), K v2 v3 σ → Wd D A s.heap (cW cI cJ a σ) H locs → lv_has ls 13 [(0, .ref b), (1, .ref (a 0)), (2, .int v2), (3, .int v3)] → W p l e room_1 s m args below meth c H locs 20 2000 Q (F0 m 30 ls [])) (σ : CS) (x3 : Int32) (x4 : Int32) (x5 : Int32) (x6 : Int64) (x9 : Int32) (H : Heap) (locs : List Loc) (ls : Array Slot) (hw : wps_L_law_118 L xs σ x3 x4 x5 x6 x9 K) (hW : Wd D A s.heap (cW cI cJ a σ) H locs) (hl : lv_has ls 13 [(0, .ref b), (1, .ref (a 0)), (3, .int x3), (4, .int x4), (5, .int x5), (6, .long x6), (9, .int x9)]) : W p l e room_1 s m args below meth c H locs 20 2000 Q (F0 m 118 ls []) := by
  refine lv_iconst (v := 0) hx hb dL_law_118 (by decide) ?_
  exact sg_L_law_119 hx hb hml hts hown hK hA hX hbl hbA hL hback σ x3 x4 x5 x6 x9 0 _ _ _ hw hW (lv_sub hl [0, 1, 2, 3, 4, 5, 6] rfl)
def wps_L_law_111 (L : Nat) (xs : Nat → Int32) (σ : CS) (x3 : Int32) (x4 : Int32) (x5 : Int32) (x6 : Int64) (x9 : Int32) (t0 : Int32) (t1 : Int32) (K : Int32 → Int32 → CS → Prop) : Prop := ((¬ t1 = t0 → wps_L_law_118 L xs σ x3 x4 x5 x6 x9 K) ∧ (t1 = t0 → wps_L_law_119 L xs σ x3 x4 x5 x6 x9 1 K))
set_option maxHeartbeats 4000000 in
set_option maxRecDepth 100000 in
theorem sg_L_law_111 {p : Program} {l : Launch} {e : Env} {s : State} {m : MethodId} {args : Array Value} {below : List Frame} {meth : Method} {c : Code} {A : Nat → Prop} {Q : State → Prop} {D : va_G} {cI cJ : ClassId} {a : Nat → Nat} {b L : Nat} {xs : Nat → Int32} {K : Int32 → Int32 → CS → Prop} (hx : p.tables.exec = Jvm.exec) (hb : c.code = cL_law) (hml : c.maxLocals = 13) (hts : ∀ w ∈ wsL_law, w.before args s = true) (hown : s.vm.findClass RL = some m.cls) (hK : va_K D vwCl (tysIJ cI cJ) s) (hA : ∀ q : Nat, s.heap.size ≤ q → A q) (hX : va_X b L xs s s.heap) (hbl : b < s.heap.size) (hbA : ¬ A b) (hL : L ≤ 260) (hback : ∀ (σ : CS) (v2 v3 : Int32) (H : Heap) (locs : List Loc) (ls : Array Slot), K v2 v3 σ → Wd D A s.heap (cW cI cJ a σ) H locs → lv_has ls 13 [(0, .ref b), (1, .ref (a 0)), (2, .int v2), (3, .int v3)] → W p l e room_1 s m args below meth c H locs 20 2000 Q (F0 m 30 ls [])) (σ : CS) (x3 : Int32) (x4 : Int32) (x5 : Int32) (x6 : Int64) (x9 : Int32) (t0 : Int32) (t1 : Int32) (H : Heap) (locs : List Loc) (ls : Array Slot) (hw : wps_L_law_111 L xs σ x3 x4 x5 x6 x9 t0 t1 K) (hW : Wd D A s.heap (cW cI cJ a σ) H locs) (hl : lv_has ls 13 [(0, .ref b), (1, .ref (a 0)), (3, .int x3), (4, .int x4), (5, .int x5), (6, .long x6), (9, .int x9)]) : W p l e room_1 s m args below meth c H locs 20 2000 Q (F0 m 111 ls [.int t0, .int t1]) := by
  refine lv_icmp_ne (tgt := 118) hx hb dL_law_111 (by decide) (fun hc => ?_) (fun hc => ?_)
  · have hw := hw.1 hc
    exact sg_L_law_118 hx hb hml hts hown hK hA hX hbl hbA hL hback σ x3 x4 x5 x6 x9 _ _ _ hw hW (lv_sub hl [0, 1, 2, 3, 4, 5, 6] rfl)
  · have hw := hw.2 hc
    refine lv_iconst (v := 1) hx hb dL_law_114 (by decide) ?_
    refine lv_goto (tgt := 119) hx hb dL_law_115 (by decide) ?_
    exact sg_L_law_119 hx hb hml hts hown hK hA hX hbl hbA hL hback σ x3 x4 x5 x6 x9 1 _ _ _ hw hW (lv_sub hl [0, 1, 2, 3, 4, 5, 6] rfl)
def wps_L_law_40 (L : Nat) (xs : Nat → Int32) (σ : CS) (x3 : Int32) (K : Int32 → Int32 → CS → Prop) : Prop := (¬ (2 * x3) < 0) ∧ ∀ r_4001 : Int32, r_4001 = cellV L xs (2 * x3) → (¬ ((2 * x3) + 1) < 0) ∧ ∀ r_4002 : Int32, r_4002 = cellV L xs ((2 * x3) + 1) → wp_L_looks σ (fun r_4003 => wp_X4_count σ 14 (fun r_4004 => wp_L_act σ r_4001 r_4002 (fun r_4005 σ_4006 => ((r_4005 < 0 → wps_L_law_118 L xs σ_4006 x3 r_4001 r_4002 r_4003 r_4005 K) ∧ (¬ r_4005 < 0 → wp_X4_count σ_4006 14 (fun r_4007 => ((6 ≤ r_4004 → wps_L_law_111 L xs σ_4006 x3 r_4001 r_4002 r_4003 r_4005 6 r_4007 K) ∧ (¬ 6 ≤ r_4004 → wps_L_law_111 L xs σ_4006 x3 r_4001 r_4002 r_4003 r_4005 (r_4004 + 1) r_4007 K))) (fun _ => False))))) (fun _ => False))
set_option maxHeartbeats 4000000 in
set_option maxRecDepth 100000 in
theorem sg_L_law_40 {p : Program} {l : Launch} {e : Env} {s : State} {m : MethodId} {args : Array Value} {below : List Frame} {meth : Method} {c : Code} {A : Nat → Prop} {Q : State → Prop} {D : va_G} {cI cJ : ClassId} {a : Nat → Nat} {b L : Nat} {xs : Nat → Int32} {K : Int32 → Int32 → CS → Prop} (hx : p.tables.exec = Jvm.exec) (hb : c.code = cL_law) (hml : c.maxLocals = 13) (hts : ∀ w ∈ wsL_law, w.before args s = true) (hown : s.vm.findClass RL = some m.cls) (hK : va_K D vwCl (tysIJ cI cJ) s) (hA : ∀ q : Nat, s.heap.size ≤ q → A q) (hX : va_X b L xs s s.heap) (hbl : b < s.heap.size) (hbA : ¬ A b) (hL : L ≤ 260) (hback : ∀ (σ : CS) (v2 v3 : Int32) (H : Heap) (locs : List Loc) (ls : Array Slot), K v2 v3 σ → Wd D A s.heap (cW cI cJ a σ) H locs → lv_has ls 13 [(0, .ref b), (1, .ref (a 0)), (2, .int v2), (3, .int v3)] → W p l e room_1 s m args below meth c H locs 20 2000 Q (F0 m 30 ls [])) (σ : CS) (x3 : Int32) (H : Heap) (locs : List Loc) (ls : Array Slot) (hw : wps_L_law_40 L xs σ x3 K) (hW : Wd D A s.heap (cW cI cJ a σ) H locs) (hl : lv_has ls 13 [(0, .ref b), (1, .ref (a 0)), (3, .int x3)]) : W p l e room_1 s m args below meth c H locs 20 2000 Q (F0 m 40 ls []) := by
  refine lv_aload_n hx hb dL_law_40 rfl (lv_at hl 0 rfl) ?_
  refine lv_iconst (v := 2) hx hb dL_law_41 (by decide) ?_
  refine lv_iload_n hx hb dL_law_42 rfl (lv_at hl 2 rfl) ?_
  refine lv_imul hx hb dL_law_43 ?_
  refine kS_cell (rest := []) ⟨hx, hb, hml, hown, hts⟩ (va_cwS 2 hts gL_law_L_cell rfl rfl rfl (by decide +kernel) ⟨(Nat.le_of_ble_eq_true rfl), (Nat.le_of_ble_eq_true rfl)⟩) hX hbl hbA hL hw.1 hW hl.1 (Nat.le_of_ble_eq_true rfl) dL_law_44 ⟨(Nat.le_of_ble_eq_true rfl), (Nat.le_of_ble_eq_true rfl)⟩ (fun r_4001 H locs er_4001 hW => ?_)
  have hw := hw.2 r_4001 er_4001
  refine lv_istore (lv' := [(4, .int r_4001), (0, .ref b), (1, .ref (a 0)), (3, .int x3)]) hx hb dL_law_47 hl (by decide) rfl (fun ls hl => ?_)
  refine lv_aload_n hx hb dL_law_49 rfl (lv_at hl 1 rfl) ?_
  refine lv_iconst (v := 2) hx hb dL_law_50 (by decide) ?_
  refine lv_iload_n hx hb dL_law_51 rfl (lv_at hl 3 rfl) ?_
  refine lv_imul hx hb dL_law_52 ?_
  refine lv_iconst (v := 1) hx hb dL_law_53 (by decide) ?_
  refine lv_iadd hx hb dL_law_54 ?_
  refine kS_cell (rest := []) ⟨hx, hb, hml, hown, hts⟩ (va_cwS 2 hts gL_law_L_cell rfl rfl rfl (by decide +kernel) ⟨(Nat.le_of_ble_eq_true rfl), (Nat.le_of_ble_eq_true rfl)⟩) hX hbl hbA hL hw.1 hW hl.1 (Nat.le_of_ble_eq_true rfl) dL_law_55 ⟨(Nat.le_of_ble_eq_true rfl), (Nat.le_of_ble_eq_true rfl)⟩ (fun r_4002 H locs er_4002 hW => ?_)
  have hw := hw.2 r_4002 er_4002
  refine lv_istore (lv' := [(5, .int r_4002), (4, .int r_4001), (0, .ref b), (1, .ref (a 0)), (3, .int x3)]) hx hb dL_law_58 hl (by decide) rfl (fun ls hl => ?_)
  refine lv_aload_n hx hb dL_law_60 rfl (lv_at hl 3 rfl) ?_
  refine kS_Ml (As := [.ref (a 0)]) (rest := []) ⟨hx, hb, hml, hown, hts⟩ (ok_L_looks l D cI cJ a _ _ _ hw) (va_cwS 1 hts gL_law_L_looks rfl rfl rfl (by decide +kernel) ⟨Nat.le_of_ble_eq_true rfl, Nat.le_of_ble_eq_true rfl⟩) hK hW hA rfl hl.1 rfl (Nat.le_of_ble_eq_true rfl) dL_law_61 ⟨Nat.le_of_ble_eq_true rfl, Nat.le_of_ble_eq_true rfl⟩ (fun r_4003 _ H locs hw hW => ?_)
  refine lv_lstore (lv' := [(6, .long r_4003), (5, .int r_4002), (4, .int r_4001), (0, .ref b), (1, .ref (a 0)), (3, .int x3)]) hx hb dL_law_64 hl (by decide) rfl (fun ls hl => ?_)
  refine lv_aload_n hx hb dL_law_66 rfl (lv_at hl 4 rfl) ?_
  refine lv_bipush (v := 14) hx hb dL_law_67 (by decide) ?_
  refine kV_Mi (As := [.int 14]) (rest := []) ⟨hx, hb, hml, hown, hts⟩ (ok_X4_count_n l D cI cJ a _ _ _ _ hw) (cwV 1 hts gL_law_X4_count rfl rfl rfl (by decide +kernel) ⟨Nat.le_of_ble_eq_true rfl, Nat.le_of_ble_eq_true rfl⟩) hK hW hA 0 rfl rfl rfl hl.1 rfl (Nat.le_of_ble_eq_true rfl) dL_law_69 ⟨Nat.le_of_ble_eq_true rfl, Nat.le_of_ble_eq_true rfl⟩ (fun r_4004 _ H locs hw hW => ?_)
  refine lv_istore (lv' := [(8, .int r_4004), (6, .long r_4003), (5, .int r_4002), (4, .int r_4001), (0, .ref b), (1, .ref (a 0)), (3, .int x3)]) hx hb dL_law_72 hl (by decide) rfl (fun ls hl => ?_)
  refine lv_aload_n hx hb dL_law_74 rfl (lv_at hl 5 rfl) ?_
  refine lv_iload hx hb dL_law_75 (lv_at hl 3 rfl) ?_
  refine lv_iload hx hb dL_law_77 (lv_at hl 2 rfl) ?_
  refine kS_Mi (As := [.ref (a 0), .int r_4001, .int r_4002]) (rest := []) ⟨hx, hb, hml, hown, hts⟩ (ok_L_act l D cI cJ a _ _ _ _ _ hw) (va_cwS 3 hts gL_law_L_act rfl rfl rfl (by decide +kernel) ⟨Nat.le_of_ble_eq_true rfl, Nat.le_of_ble_eq_true rfl⟩) hK hW hA rfl hl.1 rfl (Nat.le_of_ble_eq_true rfl) dL_law_79 ⟨Nat.le_of_ble_eq_true rfl, Nat.le_of_ble_eq_true rfl⟩ (fun r_4005 σ_4006 H locs hw hW => ?_)
  refine lv_istore (lv' := [(9, .int r_4005), (8, .int r_4004), (6, .long r_4003), (5, .int r_4002), (4, .int r_4001), (0, .ref b), (1, .ref (a 0)), (3, .int x3)]) hx hb dL_law_82 hl (by decide) rfl (fun ls hl => ?_)
  refine lv_iload hx hb dL_law_84 (lv_at hl 0 rfl) ?_
  refine lv_if_lt (tgt := 118) hx hb dL_law_86 (by decide) (fun hc => ?_) (fun hc => ?_)
  · have hw := hw.1 hc
    exact sg_L_law_118 hx hb hml hts hown hK hA hX hbl hbA hL hback σ_4006 x3 r_4001 r_4002 r_4003 r_4005 _ _ _ hw hW (lv_sub hl [5, 6, 7, 4, 3, 2, 0] rfl)
  · have hw := hw.2 hc
    refine lv_aload_n hx hb dL_law_89 rfl (lv_at hl 6 rfl) ?_
    refine lv_bipush (v := 14) hx hb dL_law_90 (by decide) ?_
    refine kV_Mi (As := [.int 14]) (rest := []) ⟨hx, hb, hml, hown, hts⟩ (ok_X4_count_n l D cI cJ a _ _ _ _ hw) (cwV 1 hts gL_law_X4_count rfl rfl rfl (by decide +kernel) ⟨Nat.le_of_ble_eq_true rfl, Nat.le_of_ble_eq_true rfl⟩) hK hW hA 0 rfl rfl rfl hl.1 rfl (Nat.le_of_ble_eq_true rfl) dL_law_92 ⟨Nat.le_of_ble_eq_true rfl, Nat.le_of_ble_eq_true rfl⟩ (fun r_4007 _ H locs hw hW => ?_)
    refine lv_iload hx hb dL_law_95 (lv_at hl 1 rfl) ?_
    refine lv_bipush (v := 6) hx hb dL_law_97 (by decide) ?_
    refine lv_icmp_ge (tgt := 109) hx hb dL_law_99 (by decide) (fun hc => ?_) (fun hc => ?_)
    · have hw := hw.1 hc
      refine lv_bipush (v := 6) hx hb dL_law_109 (by decide) ?_
      exact sg_L_law_111 hx hb hml hts hown hK hA hX hbl hbA hL hback σ_4006 x3 r_4001 r_4002 r_4003 r_4005 6 r_4007 _ _ _ hw hW (lv_sub hl [5, 6, 7, 4, 3, 2, 0] rfl)
    · have hw := hw.2 hc
      refine lv_iload hx hb dL_law_102 (lv_at hl 1 rfl) ?_
      refine lv_iconst (v := 1) hx hb dL_law_104 (by decide) ?_
      refine lv_iadd hx hb dL_law_105 ?_
      refine lv_goto (tgt := 111) hx hb dL_law_106 (by decide) ?_
      exact sg_L_law_111 hx hb hml hts hown hK hA hX hbl hbA hL hback σ_4006 x3 r_4001 r_4002 r_4003 r_4005 (r_4004 + 1) r_4007 _ _ _ hw hW (lv_sub hl [5, 6, 7, 4, 3, 2, 0] rfl)
def wps_L_law_27 (L : Nat) (xs : Nat → Int32) (σ : CS) (t0 : Int32) (K : Int32 → Int32 → CS → Prop) : Prop := K t0 0 σ
set_option maxHeartbeats 4000000 in
set_option maxRecDepth 100000 in
theorem sg_L_law_27 {p : Program} {l : Launch} {e : Env} {s : State} {m : MethodId} {args : Array Value} {below : List Frame} {meth : Method} {c : Code} {A : Nat → Prop} {Q : State → Prop} {D : va_G} {cI cJ : ClassId} {a : Nat → Nat} {b L : Nat} {xs : Nat → Int32} {K : Int32 → Int32 → CS → Prop} (hx : p.tables.exec = Jvm.exec) (hb : c.code = cL_law) (hml : c.maxLocals = 13) (hts : ∀ w ∈ wsL_law, w.before args s = true) (hown : s.vm.findClass RL = some m.cls) (hK : va_K D vwCl (tysIJ cI cJ) s) (hA : ∀ q : Nat, s.heap.size ≤ q → A q) (hX : va_X b L xs s s.heap) (hbl : b < s.heap.size) (hbA : ¬ A b) (hL : L ≤ 260) (hback : ∀ (σ : CS) (v2 v3 : Int32) (H : Heap) (locs : List Loc) (ls : Array Slot), K v2 v3 σ → Wd D A s.heap (cW cI cJ a σ) H locs → lv_has ls 13 [(0, .ref b), (1, .ref (a 0)), (2, .int v2), (3, .int v3)] → W p l e room_1 s m args below meth c H locs 20 2000 Q (F0 m 30 ls [])) (σ : CS) (t0 : Int32) (H : Heap) (locs : List Loc) (ls : Array Slot) (hw : wps_L_law_27 L xs σ t0 K) (hW : Wd D A s.heap (cW cI cJ a σ) H locs) (hl : lv_has ls 13 [(0, .ref b), (1, .ref (a 0))]) : W p l e room_1 s m args below meth c H locs 20 2000 Q (F0 m 27 ls [.int t0]) := by
  refine lv_istore_n (lv' := [(2, .int t0), (0, .ref b), (1, .ref (a 0))]) hx hb dL_law_27 rfl hl (by decide) rfl (fun ls hl => ?_)
  refine lv_iconst (v := 0) hx hb dL_law_28 (by decide) ?_
  refine lv_istore_n (lv' := [(3, .int 0), (2, .int t0), (0, .ref b), (1, .ref (a 0))]) hx hb dL_law_29 rfl hl (by decide) rfl (fun ls hl => ?_)
  exact hback σ t0 0 _ _ _ hw hW (lv_sub hl [2, 3, 1, 0] rfl)
def wps_L_law_26 (L : Nat) (xs : Nat → Int32) (σ : CS)  (K : Int32 → Int32 → CS → Prop) : Prop := wps_L_law_27 L xs σ 0 K
set_option maxHeartbeats 4000000 in
set_option maxRecDepth 100000 in
theorem sg_L_law_26 {p : Program} {l : Launch} {e : Env} {s : State} {m : MethodId} {args : Array Value} {below : List Frame} {meth : Method} {c : Code} {A : Nat → Prop} {Q : State → Prop} {D : va_G} {cI cJ : ClassId} {a : Nat → Nat} {b L : Nat} {xs : Nat → Int32} {K : Int32 → Int32 → CS → Prop} (hx : p.tables.exec = Jvm.exec) (hb : c.code = cL_law) (hml : c.maxLocals = 13) (hts : ∀ w ∈ wsL_law, w.before args s = true) (hown : s.vm.findClass RL = some m.cls) (hK : va_K D vwCl (tysIJ cI cJ) s) (hA : ∀ q : Nat, s.heap.size ≤ q → A q) (hX : va_X b L xs s s.heap) (hbl : b < s.heap.size) (hbA : ¬ A b) (hL : L ≤ 260) (hback : ∀ (σ : CS) (v2 v3 : Int32) (H : Heap) (locs : List Loc) (ls : Array Slot), K v2 v3 σ → Wd D A s.heap (cW cI cJ a σ) H locs → lv_has ls 13 [(0, .ref b), (1, .ref (a 0)), (2, .int v2), (3, .int v3)] → W p l e room_1 s m args below meth c H locs 20 2000 Q (F0 m 30 ls [])) (σ : CS)  (H : Heap) (locs : List Loc) (ls : Array Slot) (hw : wps_L_law_26 L xs σ  K) (hW : Wd D A s.heap (cW cI cJ a σ) H locs) (hl : lv_has ls 13 [(0, .ref b), (1, .ref (a 0))]) : W p l e room_1 s m args below meth c H locs 20 2000 Q (F0 m 26 ls []) := by
  refine lv_iconst (v := 0) hx hb dL_law_26 (by decide) ?_
  exact sg_L_law_27 hx hb hml hts hown hK hA hX hbl hbA hL hback σ 0 _ _ _ hw hW (lv_sub hl [0, 1] rfl)
def wps_L_law_8 (L : Nat) (xs : Nat → Int32) (σ : CS)  (K : Int32 → Int32 → CS → Prop) : Prop := wp_X4_keep σ (fun r_1001 σ_1002 => ((¬ r_1001 = 0 → wps_L_law_26 L xs σ_1002 K) ∧ (r_1001 = 0 → wp_L_holds σ_1002 (fun r_1003 => ((r_1003 = 0 → wps_L_law_26 L xs σ_1002 K) ∧ (¬ r_1003 = 0 → wps_L_law_27 L xs σ_1002 1 K))))))
set_option maxHeartbeats 4000000 in
set_option maxRecDepth 100000 in
theorem sg_L_law_8 {p : Program} {l : Launch} {e : Env} {s : State} {m : MethodId} {args : Array Value} {below : List Frame} {meth : Method} {c : Code} {A : Nat → Prop} {Q : State → Prop} {D : va_G} {cI cJ : ClassId} {a : Nat → Nat} {b L : Nat} {xs : Nat → Int32} {K : Int32 → Int32 → CS → Prop} (hx : p.tables.exec = Jvm.exec) (hb : c.code = cL_law) (hml : c.maxLocals = 13) (hts : ∀ w ∈ wsL_law, w.before args s = true) (hown : s.vm.findClass RL = some m.cls) (hK : va_K D vwCl (tysIJ cI cJ) s) (hA : ∀ q : Nat, s.heap.size ≤ q → A q) (hX : va_X b L xs s s.heap) (hbl : b < s.heap.size) (hbA : ¬ A b) (hL : L ≤ 260) (hback : ∀ (σ : CS) (v2 v3 : Int32) (H : Heap) (locs : List Loc) (ls : Array Slot), K v2 v3 σ → Wd D A s.heap (cW cI cJ a σ) H locs → lv_has ls 13 [(0, .ref b), (1, .ref (a 0)), (2, .int v2), (3, .int v3)] → W p l e room_1 s m args below meth c H locs 20 2000 Q (F0 m 30 ls [])) (σ : CS)  (H : Heap) (locs : List Loc) (ls : Array Slot) (hw : wps_L_law_8 L xs σ  K) (hW : Wd D A s.heap (cW cI cJ a σ) H locs) (hl : lv_has ls 13 [(0, .ref b), (1, .ref (a 0))]) : W p l e room_1 s m args below meth c H locs 20 2000 Q (F0 m 8 ls []) := by
  refine lv_aload_n hx hb dL_law_8 rfl (lv_at hl 1 rfl) ?_
  refine kV_Mi (As := []) (rest := []) ⟨hx, hb, hml, hown, hts⟩ (ok_X4_keep l D cI cJ a _ _ _ hw) (cwV 0 hts gL_law_X4_keep rfl rfl rfl (by decide +kernel) ⟨Nat.le_of_ble_eq_true rfl, Nat.le_of_ble_eq_true rfl⟩) hK hW hA 0 rfl rfl rfl hl.1 rfl (Nat.le_of_ble_eq_true rfl) dL_law_9 ⟨Nat.le_of_ble_eq_true rfl, Nat.le_of_ble_eq_true rfl⟩ (fun r_1001 σ_1002 H locs hw hW => ?_)
  refine lv_if_ne (tgt := 26) hx hb dL_law_12 (by decide) (fun hc => ?_) (fun hc => ?_)
  · have hw := hw.1 hc
    exact sg_L_law_26 hx hb hml hts hown hK hA hX hbl hbA hL hback σ_1002 _ _ _ hw hW (lv_sub hl [0, 1] rfl)
  · have hw := hw.2 hc
    refine lv_aload_n hx hb dL_law_15 rfl (lv_at hl 1 rfl) ?_
    refine kS_Mi (As := [.ref (a 0)]) (rest := []) ⟨hx, hb, hml, hown, hts⟩ (ok_L_holds l D cI cJ a _ _ _ hw) (va_cwS 1 hts gL_law_L_holds rfl rfl rfl (by decide +kernel) ⟨Nat.le_of_ble_eq_true rfl, Nat.le_of_ble_eq_true rfl⟩) hK hW hA rfl hl.1 rfl (Nat.le_of_ble_eq_true rfl) dL_law_16 ⟨Nat.le_of_ble_eq_true rfl, Nat.le_of_ble_eq_true rfl⟩ (fun r_1003 _ H locs hw hW => ?_)
    refine lv_if_eq (tgt := 26) hx hb dL_law_19 (by decide) (fun hc => ?_) (fun hc => ?_)
    · have hw := hw.1 hc
      exact sg_L_law_26 hx hb hml hts hown hK hA hX hbl hbA hL hback σ_1002 _ _ _ hw hW (lv_sub hl [0, 1] rfl)
    · have hw := hw.2 hc
      refine lv_iconst (v := 1) hx hb dL_law_22 (by decide) ?_
      refine lv_goto (tgt := 27) hx hb dL_law_23 (by decide) ?_
      exact sg_L_law_27 hx hb hml hts hown hK hA hX hbl hbA hL hback σ_1002 1 _ _ _ hw hW (lv_sub hl [0, 1] rfl)
