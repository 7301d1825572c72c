def sW (cI : ClassId) (a : Nat → Nat) (σ : CS) : va_W := [(a 1, .inr (2, [.ref (a 2)])), (a 2, .inl (cI, 174, .inl (c_row σ)))]
section OwnStores2
variable {p : Program} {l : Launch} {e : Env} {R : Room} {s : State} {m : MethodId} {args : Array Value} {below : List Frame} {meth : Method} {c : Code} {H : Heap} {locs : List Loc} {cells slots : Nat} {Q : State → Prop} {pc : Nat} {ls : Array Slot}
variable {cc : ByteArray} {index : Nat} {Ts : List Cond} {rest : List Value} {D : va_G} {cI cJ : ClassId} {a : Nat → Nat} {A : Nat → Prop} {H0 : Heap}
theorem st_s_row {σ : CS} (hx : p.tables.exec = Jvm.exec) (hb : c.code = cc) (hK : va_K D vwCl [(cI, .int)] s) (hW : Wd D A H0 (sW cI a σ) H locs) {i : Int32} {x : Int32} (hin : vp_in i 174) (hdg : decode cc pc = .ok (.iastore, 1))
    (kk : ∀ σ1 : CS, σ1 = cs_row σ (upd (c_row σ) i.toNatClampNeg x) → ∀ (H1 : Heap) (locs1 : List Loc), Wd D A H0 (sW cI a σ1) H1 locs1 → W p l e R s m args below meth c H1 locs1 cells slots Q (F0 m (pc + 1) ls rest)) : W p l e R s m args below meth c H locs cells slots Q (F0 m pc ls (.int x :: .int i :: .ref (a 2) :: rest)) :=
  va_iast hx hb hK hW.1 hW.2.1 hW.2.2 1 0 rfl rfl hin hdg (fun H1 locs1 h1 h2 h3 => kk _ rfl H1 locs1 ⟨h1, h2, h3⟩)
end OwnStores2
theorem in_X2_put_w_X2 : ∀ w ∈ wsX20, w ∈ wsX2_put := fun w h => List.mem_cons_of_mem _ (List.mem_append_right _ (h))
set_option maxHeartbeats 4000000 in
set_option maxRecDepth 100000 in
theorem ok_X2_put_w (l : Launch) (D : va_G) (cI : ClassId) (a : Nat → Nat) (sz : Nat) (σ : CS) (p1 : Int32) (p2 : Int32) (p3 : Int32) (post : CS → Prop) (hw : wp_X2_put σ p1 p2 p3 post) : Mv l yX2_put wsX2_put rm_X2_put [.ref (a 1), .int p1, .int p2, .int p3] D [(cI, .int)] (sW cI a σ) sz post (sW cI a) := by
  refine s_Mv (by decide) rfl (Nat.le_of_ble_eq_true rfl) ?_
  intro p e s m args below meth c A Q hx hb hml hts hown hin hK hA hret H locs ls hW hl
  have hown : s.vm.findClass RX2 = some m.cls := hown
  have hl : lv_has ls 5 [(0, .ref (a 1)), (1, .int p1), (2, .int p2), (3, .int p3)] := hl
  have hinX2 := in_X2_put_w_X2
  refine lv_iload_n hx hb dX2_put_0 rfl (lv_at hl 1 rfl) ?_
  refine lv_iload_n hx hb dX2_put_1 rfl (lv_at hl 2 rfl) ?_
  refine lv_iadd hx hb dX2_put_2 ?_
  refine lv_topi (fun v4_1 ev4_1 => ?_)
  have hw := hw v4_1 ev4_1
  refine lv_istore (lv' := [(4, .int v4_1), (0, .ref (a 1)), (1, .int p1), (2, .int p2), (3, .int p3)]) hx hb dX2_put_3 hl (by decide) rfl (fun ls hl => ?_)
  refine lv_iload hx hb dX2_put_5 (lv_at hl 0 rfl) ?_
  refine lv_if_lt (tgt := 28) hx hb dX2_put_7 (by decide) (fun hc => ?_) (fun hc => ?_)
  · have hw := hw.1 hc
    exact hret σ _ _ _ _ hw hW dX2_put_28
  · have hw := hw.2 hc
    refine lv_iload hx hb dX2_put_10 (lv_at hl 0 rfl) ?_
    refine lv_aload_n hx hb dX2_put_12 rfl (lv_at hl 1 rfl) ?_
    refine va_get (D := D) (ci := 2) (v := .ref (a 2)) (C := RX2) (T := TX2) (N := 1) hx hb hts hinX2 hown hK hW.1 0 rfl rfl 0 (by decide) (hts _ (List.mem_of_getElem? (i := 1) rfl)) (fun _ h9 => h9) rfl dX2_put_13 ?_
    refine va_alen (v := 174) hx hb hK hW.1 1 0 rfl rfl rfl dX2_put_16 ?_
    refine lv_icmp_ge (tgt := 28) hx hb dX2_put_17 (by decide) (fun hc => ?_) (fun hc => ?_)
    · have hw := hw.1 hc
      exact hret σ _ _ _ _ hw hW dX2_put_28
    · have hw := hw.2 hc
      refine lv_aload_n hx hb dX2_put_20 rfl (lv_at hl 1 rfl) ?_
      refine va_get (D := D) (ci := 2) (v := .ref (a 2)) (C := RX2) (T := TX2) (N := 1) hx hb hts hinX2 hown hK hW.1 0 rfl rfl 0 (by decide) (hts _ (List.mem_of_getElem? (i := 1) rfl)) (fun _ h9 => h9) rfl dX2_put_21 ?_
      refine lv_iload hx hb dX2_put_24 (lv_at hl 0 rfl) ?_
      refine lv_iload_n hx hb dX2_put_26 rfl (lv_at hl 4 rfl) ?_
      refine st_s_row hx hb hK hW hw.1 dX2_put_27 (fun σ_2 eσ_2 H locs hW => ?_)
      have hw := hw.2
      have hw := hw σ_2 eσ_2
      exact hret σ_2 _ _ _ _ hw hW dX2_put_28
set_option maxHeartbeats 4000000 in
set_option maxRecDepth 100000 in
theorem ok_X2_fill_w (l : Launch) (D : va_G) (cI : ClassId) (a : Nat → Nat) (sz : Nat) (σ : CS) (p1 : Int32) (p2 : Int32) (p3 : Int32) (post : CS → Prop) (hw : wp_X2_fill σ p1 p2 p3 post) : Mv l yX2_fill wsX2_fill rm_X2_fill [.ref (a 1), .int p1, .int p2, .int p3] D [(cI, .int)] (sW cI a σ) sz post (sW cI a) := by
  refine s_Mv (by decide) rfl (Nat.le_of_ble_eq_true rfl) ?_
  intro p e s m args below meth c A Q hx hb hml hts hown hin hK hA hret H locs ls hW hl
  have hown : s.vm.findClass RX2 = some m.cls := hown
  have hl : lv_has ls 5 [(0, .ref (a 1)), (1, .int p1), (2, .int p2), (3, .int p3)] := hl
  refine lv_iconst (v := 0) hx hb dX2_fill_0 (by decide) ?_
  refine lv_istore (lv' := [(4, .int 0), (0, .ref (a 1)), (1, .int p1), (2, .int p2), (3, .int p3)]) hx hb dX2_fill_1 hl (by decide) rfl (fun ls hl => ?_)
  obtain ⟨I1, ⟨n1, hI1⟩, hJ1⟩ := hw
  have hl : lv_has ls 5 [(0, .ref (a 1)), (1, .int p1), (2, .int p2), (3, .int p3), (4, .int 0)] := lv_sub hl [1, 2, 3, 4, 0] rfl
  suffices LP1 : ∀ (n : Nat) (v4_1 : Int32) (σ_1 : CS) (H : Heap) (locs : List Loc) (ls : Array Slot), I1 n v4_1 σ_1 → Wd D A s.heap (sW cI a σ_1) H locs → lv_has ls 5 [(0, .ref (a 1)), (1, .int p1), (2, .int p2), (3, .int p3), (4, .int v4_1)] → W p l e rm_X2_fill s m args below meth c H locs 0 0 Q (F0 m 3 ls []) from LP1 n1 0 _ H locs ls hI1 hW hl
  intro n1
  induction n1 using Nat.strongRecOn with
  | ind n1 ih1 =>
    intro v4_1 σ_1 H locs ls hIn hW hl
    have hw := hJ1 n1 v4_1 σ_1 hIn
    refine lv_iload hx hb dX2_fill_3 (lv_at hl 4 rfl) ?_
    refine lv_iload_n hx hb dX2_fill_5 rfl (lv_at hl 2 rfl) ?_
    refine lv_icmp_ge (tgt := 23) hx hb dX2_fill_6 (by decide) (fun hc => ?_) (fun hc => ?_)
    · have hw := hw.1 hc
      exact hret σ_1 _ _ _ _ hw hW dX2_fill_23
    · have hw := hw.2 hc
      refine lv_aload_n hx hb dX2_fill_9 rfl (lv_at hl 0 rfl) ?_
      refine lv_iload_n hx hb dX2_fill_10 rfl (lv_at hl 1 rfl) ?_
      refine lv_iload hx hb dX2_fill_11 (lv_at hl 4 rfl) ?_
      refine lv_iload_n hx hb dX2_fill_13 rfl (lv_at hl 3 rfl) ?_
      refine kV_Mv (As := [.int p1, .int v4_1, .int p3]) (rest := []) ⟨hx, hb, hml, hown, hts⟩ (ok_X2_put_w l D cI a _ _ _ _ _ _ hw) (cwV 3 hts gX2_fill_X2_put rfl rfl rfl (by decide +kernel) ⟨Nat.le_of_ble_eq_true rfl, Nat.le_of_ble_eq_true rfl⟩) hK hW hA 0 rfl rfl rfl hl.1 rfl (Nat.le_of_ble_eq_true rfl) dX2_fill_14 ⟨Nat.le_of_ble_eq_true rfl, Nat.le_of_ble_eq_true rfl⟩ (fun σ_2 H locs hw hW => ?_)
      obtain ⟨v4_3, ev4_3⟩ : ∃ y : Int32, y = v4_1 + 1 := ⟨_, rfl⟩
      have hw := hw v4_3 ev4_3
      refine lv_iinc (v := v4_3) (lv' := [(4, .int v4_3), (0, .ref (a 1)), (1, .int p1), (2, .int p2), (3, .int p3)]) hx hb dX2_fill_17 hl (k := 4) rfl (by rw [ev4_3]; rfl) (by decide) rfl (fun ls hl => ?_)
      refine lv_goto (tgt := 3) hx hb dX2_fill_20 (by decide) ?_
      obtain ⟨n9, hlt9, hI9⟩ := hw
      exact ih1 n9 hlt9 _ _ _ _ _ hI9 hW (lv_sub hl [1, 2, 3, 4, 0] rfl)
def Ni {S : Type} (l : Launch) (y : MethodName) (ws : List Cond) (rm : Room) (h : Nat) (D : va_G) (ty0 : List (ClassId × FieldType)) (w : va_W) (sz : Nat) (ex : State → Prop) (post : S → Prop) (tf : S → List (ClassId × FieldType)) (wf : S → va_W) (mc ms : Nat) : Prop := Met l y ws rm (va_Pc [.ref h] (fun U => pre_W D ty0 w sz U ∧ ex U)) (va_Qv post (fun u => post_W D (tf u) (va_A w sz) (wf u)) (va_A w sz)) mc ms (va_A w sz)
theorem s_N {S : Type} {l : Launch} {y : MethodName} {ws ws' : List Cond} {rm : Room} {cc : ByteArray} {maxL mc ms : Nat} {h : Nat} {D : va_G} {ty0 : List (ClassId × FieldType)} {w : va_W} {sz : Nat} {ex : State → Prop} {post : S → Prop} {tf : S → List (ClassId × FieldType)} {wf : S → va_W} (hy : plainName y.cls = true) (hw : ws = Cond.code y cc maxL none :: ws') (hav : (lg_sl [Value.ref h]).length ≤ maxL)
    (body : ∀ (p : Program) (e : Env) (s : State) (m : MethodId) (args : Array Value) (below : List Frame) (meth : Method) (c : Code) (A : Nat → Prop) (Q : State → Prop), p.tables.exec = Jvm.exec → c.code = cc → c.maxLocals = maxL → (∀ w ∈ ws, w.before args s = true) → s.vm.findClass y.cls = some m.cls → meth.name = y.name → va_K D vwCl ty0 s → ex s → (∀ q : Nat, s.heap.size ≤ q → A q) → (∀ (u : S) (H : Heap) (locs : List Loc) (pc : Nat) (ls : Array Slot) (cells slots : Nat), cells ≤ mc → slots ≤ ms → post u → va_K D vwCl (tf u) s → Wd D A s.heap (wf u) H locs → decode cc pc = .ok (.return_, 1) → W p l e rm s m args below meth c H locs cells slots Q (F0 m pc ls [])) → ∀ (H : Heap) (locs : List Loc) (ls : Array Slot), Wd D A s.heap w H locs → lv_has ls maxL [(0, .ref h)] → W p l e rm s m args below meth c H locs 0 0 Q (F0 m 0 ls [])) : Ni l y ws rm h D ty0 w sz ex post tf wf mc ms := by
  refine Met.ofW (cc := cc) (maxL := maxL) (ret := none) hy hw ?_
  intro p e s m args below meth c s₁ B hml hv
  obtain ⟨rfl, ⟨hsz, hP, hK, hD0⟩, hex⟩ := hv
  have hx := B.exec
  have hb := B.bytes
  have hr := B.returns
  have hts := atoms_spec (ws := ws) B.pre
  have hown : s.vm.findClass y.cls = some m.cls := findClass_of_methodNamed B.named
  have hin : meth.name = y.name := (name_of_methodNamed B.named B.method).1
  have hlocks := B.notSynchronized
  subst hsz
  have hl := lv_entry [Value.ref h] (n := maxL) hav
  rw [lg_entry_eq]
  refine body p e s m _ below meth c (va_A w s.heap.size) _ hx hb hml hts hown hin hK hex (fun q h => Or.inr h) ?_ s.heap [] _ ⟨hP, hD0.self, va_S.rf⟩ hl
  intro u H locs pc ls cells slots h1 h2 hp hK1 hW hdg
  refine W.widen (k := mc) (n := ms) h1 h2 ?_
  exact W.vret hx hb hr (fun t ht hWm => ⟨⟨u, rfl, hp, by rw [ht]; exact hW.1, va_K.moved hWm.alike hK1, hW.2.1⟩, hW.2.2.F ht⟩) hW.2.2.2.2 hdg
theorem cid_eq {D : va_G} {tys : List (ClassId × FieldType)} {s : State} (hK : va_K D vwCl tys s) (i j : Nat) {c1 c2 : ClassId} (h1 : tys[i]? = some (c1, .int)) (h2 : tys[j]? = some (c2, .int)) : c2 = c1 := by
  have e1 : s.vm.findClass _ = some c1 := (hK.2 i _ h1).2
  have e2 : s.vm.findClass _ = some c2 := (hK.2 j _ h2).2
  exact Option.some.inj (e2.symm.trans e1)
theorem cid_eqL {D : va_G} {tys : List (ClassId × FieldType)} {s : State} (hK : va_K D vwCl tys s) (i j : Nat) {c1 c2 : ClassId} (h1 : tys[i]? = some (c1, .long)) (h2 : tys[j]? = some (c2, .long)) : c2 = c1 := by
  have e1 : s.vm.findClass _ = some c1 := (hK.2 i _ h1).2
  have e2 : s.vm.findClass _ = some c2 := (hK.2 j _ h2).2
  exact Option.some.inj (e2.symm.trans e1)
theorem in_X1_init_X1 : ∀ w ∈ wsX10, w ∈ wsX1_init := fun w h => List.mem_cons_of_mem _ (List.mem_append_right _ (h))
abbrev rm_X1_init : Room := { frames := 1, cells := 2, slots := 100, locals := 12 }
set_option maxHeartbeats 4000000 in
set_option maxRecDepth 100000 in
theorem ok_X1_init (l : Launch) (D : va_G) (h sz : Nat) : Ni l yX1_init wsX1_init rm_X1_init h D [] [(h, .inr (1, [.null, .null]))] sz (fun _ => True) (fun _ : Nat × Nat × ClassId => True) (fun u => [(u.2.2, .long)]) (fun u => [(h, .inr (1, [.ref u.1, .ref u.2.1])), (u.1, .inl (u.2.2, 36, .inr (.inl (fun _ => 0)))), (u.2.1, .inl (u.2.2, 64, .inr (.inl (fun _ => 0))))]) 2 100 := by
  refine s_N (by decide) rfl (Nat.le_of_ble_eq_true rfl) ?_
  intro p e s m args below meth c A Q hx hb hml hts hown hin hK hex hA hret H locs ls hW hl
  have hown : s.vm.findClass RX1 = some m.cls := hown
  have hin : meth.name = "<init>" := hin
  have hinX1 := in_X1_init_X1
  refine lv_aload_n hx hb dX1_init_0 rfl (lv_at hl 0 rfl) ?_
  refine W.objInit hx hb hown (hts _ (List.mem_of_getElem? (i := 1) rfl)) (hts _ (List.mem_of_getElem? (i := 2) rfl)) (hts _ (List.mem_of_getElem? (i := 3) rfl)) rfl (hl.1.trans hml.symm) rfl dX1_init_1 (Nat.le_of_ble_eq_true rfl) (Nat.le_of_ble_eq_true rfl) ?_
  refine lv_aload_n hx hb dX1_init_4 rfl (lv_at hl 0 rfl) ?_
  refine lv_bipush (v := 36) hx hb dX1_init_5 (by decide) ?_
  refine va_newa (atype := .long) (ty := .long) (a0 := (36, .inr (.inl (fun _ => 0)))) (N' := 36) hx hb (hts _ (List.mem_of_getElem? (i := 4) rfl)) rfl hK hW.1 hW.2.1 hW.2.2 hA (fun _ => rfl) (by decide) rfl (by decide) (Nat.le_of_ble_eq_true rfl) (Nat.le_of_ble_eq_true rfl) dX1_init_7 (fun q1 cq1 H hK h1 h2 h3 => ?_)
  have hW := And.intro h1 (And.intro h2 h3)
  have hK : va_K D vwCl [(cq1, .long)] s := hK
  have hW : Wd D A s.heap [(h, .inr (1, [.null, .null])), (q1, .inl (cq1, 36, .inr (.inl (fun _ => 0))))] H locs := hW
  refine va_putF (D := D) (ci := 1) (v := .ref q1) (ty := .array .long) (C := RX1) (T := TX1) (N := 2) hx hb hts hinX1 tyX1 tyX1_ok nmX1 hown hK hW.1 hW.2.1 hW.2.2 0 rfl rfl 0 (by decide) (hts _ (List.mem_of_getElem? (i := 5) rfl)) (fun _ h9 => h9) rfl hin rfl (by decide +kernel) rfl rfl (Nat.le_of_ble_eq_true rfl) dX1_init_9 (fun H locs h1 h2 h3 => ?_)
  have hW : Wd D A s.heap [(h, .inr (1, [.ref q1, .null])), (q1, .inl (cq1, 36, .inr (.inl (fun _ => 0))))] H locs := And.intro h1 (And.intro h2 h3)
  refine lv_aload_n hx hb dX1_init_12 rfl (lv_at hl 0 rfl) ?_
  refine lv_bipush (v := 64) hx hb dX1_init_13 (by decide) ?_
  refine va_newa (atype := .long) (ty := .long) (a0 := (64, .inr (.inl (fun _ => 0)))) (N' := 64) hx hb (hts _ (List.mem_of_getElem? (i := 4) rfl)) rfl hK hW.1 hW.2.1 hW.2.2 hA (fun _ => rfl) (by decide) rfl (by decide) (Nat.le_of_ble_eq_true rfl) (Nat.le_of_ble_eq_true rfl) dX1_init_15 (fun q2 cq2 H hK h1 h2 h3 => ?_)
  have hW := And.intro h1 (And.intro h2 h3)
  have hK : va_K D vwCl [(cq1, .long), (cq2, .long)] s := hK
  have hW : Wd D A s.heap [(h, .inr (1, [.ref q1, .null])), (q1, .inl (cq1, 36, .inr (.inl (fun _ => 0)))), (q2, .inl (cq2, 64, .inr (.inl (fun _ => 0))))] H locs := hW
  obtain rfl : cq1 = cq2 := (cid_eqL hK 0 1 rfl rfl).symm
  refine va_putF (D := D) (ci := 1) (v := .ref q2) (ty := .array .long) (C := RX1) (T := TX1) (N := 2) hx hb hts hinX1 tyX1 tyX1_ok nmX1 hown hK hW.1 hW.2.1 hW.2.2 0 rfl rfl 1 (by decide) (hts _ (List.mem_of_getElem? (i := 6) rfl)) (fun _ h9 => h9) rfl hin rfl (by decide +kernel) rfl rfl (Nat.le_of_ble_eq_true rfl) dX1_init_17 (fun H locs h1 h2 h3 => ?_)
  have hW : Wd D A s.heap [(h, .inr (1, [.ref q1, .ref q2])), (q1, .inl (cq1, 36, .inr (.inl (fun _ => 0)))), (q2, .inl (cq1, 64, .inr (.inl (fun _ => 0))))] H locs := And.intro h1 (And.intro h2 h3)
  exact hret (q1, q2, cq1) _ _ _ _ _ _ (Nat.le_of_ble_eq_true rfl) (Nat.le_of_ble_eq_true rfl) trivial (hK.sub [0] rfl) hW dX1_init_20
theorem in_X0_init_X0 : ∀ w ∈ wsX00, w ∈ wsX0_init := fun w h => List.mem_cons_of_mem _ (List.mem_append_right _ (h))
abbrev rm_X0_init : Room := { frames := 1, cells := 2, slots := 1218, locals := 12 }
set_option maxHeartbeats 4000000 in
set_option maxRecDepth 100000 in
theorem ok_X0_init (l : Launch) (D : va_G) (h sz : Nat) : Ni l yX0_init wsX0_init rm_X0_init h D [] [(h, .inr (0, [.null, .int 0, .null, .int 0]))] sz (fun _ => True) (fun _ : Nat × Nat × ClassId => True) (fun u => [(u.2.2, .int)]) (fun u => [(h, .inr (0, [.ref u.1, .int 0, .ref u.2.1, .int 0])), (u.1, .inl (u.2.2, 1044, .inl (fun _ => 0))), (u.2.1, .inl (u.2.2, 174, .inl (fun _ => 0)))]) 2 1218 := by
  refine s_N (by decide) rfl (Nat.le_of_ble_eq_true rfl) ?_
  intro p e s m args below meth c A Q hx hb hml hts hown hin hK hex hA hret H locs ls hW hl
  have hown : s.vm.findClass RX0 = some m.cls := hown
  have hin : meth.name = "<init>" := hin
  have hinX0 := in_X0_init_X0
  refine lv_aload_n hx hb dX0_init_0 rfl (lv_at hl 0 rfl) ?_
  refine W.objInit hx hb hown (hts _ (List.mem_of_getElem? (i := 1) rfl)) (hts _ (List.mem_of_getElem? (i := 2) rfl)) (hts _ (List.mem_of_getElem? (i := 3) rfl)) rfl (hl.1.trans hml.symm) rfl dX0_init_1 (Nat.le_of_ble_eq_true rfl) (Nat.le_of_ble_eq_true rfl) ?_
  refine lv_aload_n hx hb dX0_init_4 rfl (lv_at hl 0 rfl) ?_
  refine lv_sipush (v := 1044) hx hb dX0_init_5 (by decide) ?_
  refine va_newa (atype := .int) (ty := .int) (a0 := (1044, .inl (fun _ => 0))) (N' := 1044) hx hb (hts _ (List.mem_of_getElem? (i := 4) rfl)) rfl hK hW.1 hW.2.1 hW.2.2 hA (fun _ => rfl) (by decide) rfl (by decide) (Nat.le_of_ble_eq_true rfl) (Nat.le_of_ble_eq_true rfl) dX0_init_8 (fun q1 cq1 H hK h1 h2 h3 => ?_)
  have hW := And.intro h1 (And.intro h2 h3)
  have hK : va_K D vwCl [(cq1, .int)] s := hK
  have hW : Wd D A s.heap [(h, .inr (0, [.null, .int 0, .null, .int 0])), (q1, .inl (cq1, 1044, .inl (fun _ => 0)))] H locs := hW
  refine va_putF (D := D) (ci := 0) (v := .ref q1) (ty := .array .int) (C := RX0) (T := TX0) (N := 4) hx hb hts hinX0 tyX0 tyX0_ok nmX0 hown hK hW.1 hW.2.1 hW.2.2 0 rfl rfl 0 (by decide) (hts _ (List.mem_of_getElem? (i := 5) rfl)) (fun _ h9 => h9) rfl hin rfl (by decide +kernel) rfl rfl (Nat.le_of_ble_eq_true rfl) dX0_init_10 (fun H locs h1 h2 h3 => ?_)
  have hW : Wd D A s.heap [(h, .inr (0, [.ref q1, .int 0, .null, .int 0])), (q1, .inl (cq1, 1044, .inl (fun _ => 0)))] H locs := And.intro h1 (And.intro h2 h3)
  refine lv_aload_n hx hb dX0_init_13 rfl (lv_at hl 0 rfl) ?_
  refine lv_sipush (v := 174) hx hb dX0_init_14 (by decide) ?_
  refine va_newa (atype := .int) (ty := .int) (a0 := (174, .inl (fun _ => 0))) (N' := 174) hx hb (hts _ (List.mem_of_getElem? (i := 4) rfl)) rfl hK hW.1 hW.2.1 hW.2.2 hA (fun _ => rfl) (by decide) rfl (by decide) (Nat.le_of_ble_eq_true rfl) (Nat.le_of_ble_eq_true rfl) dX0_init_17 (fun q2 cq2 H hK h1 h2 h3 => ?_)
  have hW := And.intro h1 (And.intro h2 h3)
  have hK : va_K D vwCl [(cq1, .int), (cq2, .int)] s := hK
  have hW : Wd D A s.heap [(h, .inr (0, [.ref q1, .int 0, .null, .int 0])), (q1, .inl (cq1, 1044, .inl (fun _ => 0))), (q2, .inl (cq2, 174, .inl (fun _ => 0)))] H locs := hW
  obtain rfl : cq1 = cq2 := (cid_eq hK 0 1 rfl rfl).symm
  refine va_putF (D := D) (ci := 0) (v := .ref q2) (ty := .array .int) (C := RX0) (T := TX0) (N := 4) hx hb hts hinX0 tyX0 tyX0_ok nmX0 hown hK hW.1 hW.2.1 hW.2.2 0 rfl rfl 2 (by decide) (hts _ (List.mem_of_getElem? (i := 6) rfl)) (fun _ h9 => h9) rfl hin rfl (by decide +kernel) rfl rfl (Nat.le_of_ble_eq_true rfl) dX0_init_19 (fun H locs h1 h2 h3 => ?_)
  have hW : Wd D A s.heap [(h, .inr (0, [.ref q1, .int 0, .ref q2, .int 0])), (q1, .inl (cq1, 1044, .inl (fun _ => 0))), (q2, .inl (cq1, 174, .inl (fun _ => 0)))] H locs := And.intro h1 (And.intro h2 h3)
  exact hret (q1, q2, cq1) _ _ _ _ _ _ (Nat.le_of_ble_eq_true rfl) (Nat.le_of_ble_eq_true rfl) trivial (hK.sub [0] rfl) hW dX0_init_22
theorem in_X3_init_X3 : ∀ w ∈ wsX30, w ∈ wsX3_init := fun w h => List.mem_cons_of_mem _ (List.mem_append_right _ (h))
abbrev rm_X3_init : Room := { frames := 1, cells := 1, slots := 60, locals := 12 }
set_option maxHeartbeats 4000000 in
set_option maxRecDepth 100000 in
theorem ok_X3_init (l : Launch) (D : va_G) (h sz : Nat) : Ni l yX3_init wsX3_init rm_X3_init h D [] [(h, .inr (3, [.null, .int 0]))] sz (fun _ => True) (fun _ : Nat × ClassId => True) (fun u => [(u.2, .int)]) (fun u => [(h, .inr (3, [.ref u.1, .int 0])), (u.1, .inl (u.2, 60, .inl (fun _ => 0)))]) 1 60 := by
  refine s_N (by decide) rfl (Nat.le_of_ble_eq_true rfl) ?_
  intro p e s m args below meth c A Q hx hb hml hts hown hin hK hex hA hret H locs ls hW hl
  have hown : s.vm.findClass RX3 = some m.cls := hown
  have hin : meth.name = "<init>" := hin
  have hinX3 := in_X3_init_X3
  refine lv_aload_n hx hb dX3_init_0 rfl (lv_at hl 0 rfl) ?_
  refine W.objInit hx hb hown (hts _ (List.mem_of_getElem? (i := 1) rfl)) (hts _ (List.mem_of_getElem? (i := 2) rfl)) (hts _ (List.mem_of_getElem? (i := 3) rfl)) rfl (hl.1.trans hml.symm) rfl dX3_init_1 (Nat.le_of_ble_eq_true rfl) (Nat.le_of_ble_eq_true rfl) ?_
  refine lv_aload_n hx hb dX3_init_4 rfl (lv_at hl 0 rfl) ?_
  refine lv_bipush (v := 60) hx hb dX3_init_5 (by decide) ?_
  refine va_newa (atype := .int) (ty := .int) (a0 := (60, .inl (fun _ => 0))) (N' := 60) hx hb (hts _ (List.mem_of_getElem? (i := 4) rfl)) rfl hK hW.1 hW.2.1 hW.2.2 hA (fun _ => rfl) (by decide) rfl (by decide) (Nat.le_of_ble_eq_true rfl) (Nat.le_of_ble_eq_true rfl) dX3_init_7 (fun q1 cq1 H hK h1 h2 h3 => ?_)
  have hW := And.intro h1 (And.intro h2 h3)
  have hK : va_K D vwCl [(cq1, .int)] s := hK
  have hW : Wd D A s.heap [(h, .inr (3, [.null, .int 0])), (q1, .inl (cq1, 60, .inl (fun _ => 0)))] H locs := hW
  refine va_putF (D := D) (ci := 3) (v := .ref q1) (ty := .array .int) (C := RX3) (T := TX3) (N := 2) hx hb hts hinX3 tyX3 tyX3_ok nmX3 hown hK hW.1 hW.2.1 hW.2.2 0 rfl rfl 0 (by decide) (hts _ (List.mem_of_getElem? (i := 5) rfl)) (fun _ h9 => h9) rfl hin rfl (by decide +kernel) rfl rfl (Nat.le_of_ble_eq_true rfl) dX3_init_9 (fun H locs h1 h2 h3 => ?_)
  have hW : Wd D A s.heap [(h, .inr (3, [.ref q1, .int 0])), (q1, .inl (cq1, 60, .inl (fun _ => 0)))] H locs := And.intro h1 (And.intro h2 h3)
  exact hret (q1, cq1) _ _ _ _ _ _ (Nat.le_of_ble_eq_true rfl) (Nat.le_of_ble_eq_true rfl) trivial hK hW dX3_init_12
theorem in_X2_init_X2 : ∀ w ∈ wsX20, w ∈ wsX2_init := fun w h => List.mem_cons_of_mem _ (List.mem_append_right _ (h))
abbrev rm_X2_init : Room := { frames := 2, cells := 1, slots := 174, locals := 48 }
def wp_X2_init (σ0 : CS) (post : CS → Prop) : Prop := wp_X2_fill σ0 0 6 5 (fun σ1 => wp_X2_fill σ1 6 6 100 (fun σ2 => wp_X2_fill σ2 12 6 (-1) (fun σ3 => wp_X2_fill σ3 18 6 (-1) (fun σ4 => wp_X2_fill σ4 30 6 100 (fun σ5 => wp_X2_put σ5 162 0 2 (fun σ6 => wp_X2_put σ6 162 1 1 (fun σ7 => wp_X2_put σ7 162 2 10 (fun σ8 => wp_X2_put σ8 166 0 600 (fun σ9 => wp_X2_put σ9 167 0 1 (fun σ10 => post σ10))))))))))
set_option maxHeartbeats 4000000 in
set_option maxRecDepth 100000 in
theorem ok_X2_init (l : Launch) (D : va_G) (h sz : Nat) (σ0 : CS) (h0 : c_row σ0 = fun _ => 0) (post : CS → Prop) (hw : wp_X2_init σ0 post) : Ni l yX2_init wsX2_init rm_X2_init h D [] [(h, .inr (2, [.null]))] sz (fun _ => True) (fun u : Nat × ClassId × CS => post u.2.2) (fun u => [(u.2.1, .int)]) (fun u => [(h, .inr (2, [.ref u.1])), (u.1, .inl (u.2.1, 174, .inl (c_row u.2.2)))]) 1 174 := by
  refine s_N (by decide) rfl (Nat.le_of_ble_eq_true rfl) ?_
  intro p e s m args below meth c A Q hx hb hml hts hown hin hK hex hA hret H locs ls hW hl
  have hown : s.vm.findClass RX2 = some m.cls := hown
  have hin : meth.name = "<init>" := hin
  have hinX2 := in_X2_init_X2
  refine lv_aload_n hx hb dX2_init_0 rfl (lv_at hl 0 rfl) ?_
  refine W.objInit hx hb hown (hts _ (List.mem_of_getElem? (i := 1) rfl)) (hts _ (List.mem_of_getElem? (i := 2) rfl)) (hts _ (List.mem_of_getElem? (i := 3) rfl)) rfl (hl.1.trans hml.symm) rfl dX2_init_1 (Nat.le_of_ble_eq_true rfl) (Nat.le_of_ble_eq_true rfl) ?_
  refine lv_aload_n hx hb dX2_init_4 rfl (lv_at hl 0 rfl) ?_
  refine lv_sipush (v := 174) hx hb dX2_init_5 (by decide) ?_
  refine va_newa (atype := .int) (ty := .int) (a0 := (174, .inl (fun _ => 0))) (N' := 174) hx hb (hts _ (List.mem_of_getElem? (i := 4) rfl)) rfl hK hW.1 hW.2.1 hW.2.2 hA (fun _ => rfl) (by decide) rfl (by decide) (Nat.le_of_ble_eq_true rfl) (Nat.le_of_ble_eq_true rfl) dX2_init_8 (fun q1 cq1 H hK h1 h2 h3 => ?_)
  have hW := And.intro h1 (And.intro h2 h3)
  have hK : va_K D vwCl [(cq1, .int)] s := hK
  have hW : Wd D A s.heap [(h, .inr (2, [.null])), (q1, .inl (cq1, 174, .inl (fun _ => 0)))] H locs := hW
  refine va_putF (D := D) (ci := 2) (v := .ref q1) (ty := .array .int) (C := RX2) (T := TX2) (N := 1) hx hb hts hinX2 tyX2 tyX2_ok nmX2 hown hK hW.1 hW.2.1 hW.2.2 0 rfl rfl 0 (by decide) (hts _ (List.mem_of_getElem? (i := 5) rfl)) (fun _ h9 => h9) rfl hin rfl (by decide +kernel) rfl rfl (Nat.le_of_ble_eq_true rfl) dX2_init_10 (fun H locs h1 h2 h3 => ?_)
  have hW : Wd D A s.heap [(h, .inr (2, [.ref q1])), (q1, .inl (cq1, 174, .inl (fun _ => 0)))] H locs := And.intro h1 (And.intro h2 h3)
  obtain ⟨a, ha1, ha2⟩ : ∃ a : Nat → Nat, a 1 = h ∧ a 2 = q1 := ⟨fun k => match k with | 1 => h | _ => q1, rfl, rfl⟩
  subst ha1; subst ha2
  have hW : Wd D A s.heap (sW cq1 a σ0) H locs := by rw [show sW cq1 a σ0 = [(a 1, .inr (2, [.ref (a 2)])), (a 2, .inl (cq1, 174, .inl (fun _ => 0)))] from by rw [sW, h0]]; exact hW
  refine lv_aload_n hx hb dX2_init_13 rfl (lv_at hl 0 rfl) ?_
  refine lv_iconst (v := 0) hx hb dX2_init_14 (by decide) ?_
  refine lv_bipush (v := 6) hx hb dX2_init_15 (by decide) ?_
  refine lv_iconst (v := 5) hx hb dX2_init_17 (by decide) ?_
  refine kV_Mv (As := [.int 0, .int 6, .int 5]) (rest := []) ⟨hx, hb, hml, hown, hts⟩ (ok_X2_fill_w l D cq1 a _ _ _ _ _ _ hw) (cwV 3 hts gX2_init_X2_fill rfl rfl rfl (by decide +kernel) ⟨Nat.le_of_ble_eq_true rfl, Nat.le_of_ble_eq_true rfl⟩) hK hW hA 0 rfl rfl rfl hl.1 rfl (Nat.le_of_ble_eq_true rfl) dX2_init_18 ⟨Nat.le_of_ble_eq_true rfl, Nat.le_of_ble_eq_true rfl⟩ (fun σ1 H locs hw hW => ?_)
  refine lv_aload_n hx hb dX2_init_21 rfl (lv_at hl 0 rfl) ?_
  refine lv_bipush (v := 6) hx hb dX2_init_22 (by decide) ?_
  refine lv_bipush (v := 6) hx hb dX2_init_24 (by decide) ?_
  refine lv_bipush (v := 100) hx hb dX2_init_26 (by decide) ?_
  refine kV_Mv (As := [.int 6, .int 6, .int 100]) (rest := []) ⟨hx, hb, hml, hown, hts⟩ (ok_X2_fill_w l D cq1 a _ _ _ _ _ _ hw) (cwV 3 hts gX2_init_X2_fill rfl rfl rfl (by decide +kernel) ⟨Nat.le_of_ble_eq_true rfl, Nat.le_of_ble_eq_true rfl⟩) hK hW hA 0 rfl rfl rfl hl.1 rfl (Nat.le_of_ble_eq_true rfl) dX2_init_28 ⟨Nat.le_of_ble_eq_true rfl, Nat.le_of_ble_eq_true rfl⟩ (fun σ2 H locs hw hW => ?_)
  refine lv_aload_n hx hb dX2_init_31 rfl (lv_at hl 0 rfl) ?_
  refine lv_bipush (v := 12) hx hb dX2_init_32 (by decide) ?_
  refine lv_bipush (v := 6) hx hb dX2_init_34 (by decide) ?_
  refine lv_iconst (v := (-1)) hx hb dX2_init_36 (by decide) ?_
  refine kV_Mv (As := [.int 12, .int 6, .int (-1)]) (rest := []) ⟨hx, hb, hml, hown, hts⟩ (ok_X2_fill_w l D cq1 a _ _ _ _ _ _ hw) (cwV 3 hts gX2_init_X2_fill rfl rfl rfl (by decide +kernel) ⟨Nat.le_of_ble_eq_true rfl, Nat.le_of_ble_eq_true rfl⟩) hK hW hA 0 rfl rfl rfl hl.1 rfl (Nat.le_of_ble_eq_true rfl) dX2_init_37 ⟨Nat.le_of_ble_eq_true rfl, Nat.le_of_ble_eq_true rfl⟩ (fun σ3 H locs hw hW => ?_)
  refine lv_aload_n hx hb dX2_init_40 rfl (lv_at hl 0 rfl) ?_
  refine lv_bipush (v := 18) hx hb dX2_init_41 (by decide) ?_
  refine lv_bipush (v := 6) hx hb dX2_init_43 (by decide) ?_
  refine lv_iconst (v := (-1)) hx hb dX2_init_45 (by decide) ?_
  refine kV_Mv (As := [.int 18, .int 6, .int (-1)]) (rest := []) ⟨hx, hb, hml, hown, hts⟩ (ok_X2_fill_w l D cq1 a _ _ _ _ _ _ hw) (cwV 3 hts gX2_init_X2_fill rfl rfl rfl (by decide +kernel) ⟨Nat.le_of_ble_eq_true rfl, Nat.le_of_ble_eq_true rfl⟩) hK hW hA 0 rfl rfl rfl hl.1 rfl (Nat.le_of_ble_eq_true rfl) dX2_init_46 ⟨Nat.le_of_ble_eq_true rfl, Nat.le_of_ble_eq_true rfl⟩ (fun σ4 H locs hw hW => ?_)
  refine lv_aload_n hx hb dX2_init_49 rfl (lv_at hl 0 rfl) ?_
  refine lv_bipush (v := 30) hx hb dX2_init_50 (by decide) ?_
  refine lv_bipush (v := 6) hx hb dX2_init_52 (by decide) ?_
  refine lv_bipush (v := 100) hx hb dX2_init_54 (by decide) ?_
  refine kV_Mv (As := [.int 30, .int 6, .int 100]) (rest := []) ⟨hx, hb, hml, hown, hts⟩ (ok_X2_fill_w l D cq1 a _ _ _ _ _ _ hw) (cwV 3 hts gX2_init_X2_fill rfl rfl rfl (by decide +kernel) ⟨Nat.le_of_ble_eq_true rfl, Nat.le_of_ble_eq_true rfl⟩) hK hW hA 0 rfl rfl rfl hl.1 rfl (Nat.le_of_ble_eq_true rfl) dX2_init_56 ⟨Nat.le_of_ble_eq_true rfl, Nat.le_of_ble_eq_true rfl⟩ (fun σ5 H locs hw hW => ?_)
  refine lv_aload_n hx hb dX2_init_59 rfl (lv_at hl 0 rfl) ?_
  refine lv_sipush (v := 162) hx hb dX2_init_60 (by decide) ?_
  refine lv_iconst (v := 0) hx hb dX2_init_63 (by decide) ?_
  refine lv_iconst (v := 2) hx hb dX2_init_64 (by decide) ?_
  refine kV_Mv (As := [.int 162, .int 0, .int 2]) (rest := []) ⟨hx, hb, hml, hown, hts⟩ (ok_X2_put_w l D cq1 a _ _ _ _ _ _ hw) (cwV 3 hts gX2_init_X2_put rfl rfl rfl (by decide +kernel) ⟨Nat.le_of_ble_eq_true rfl, Nat.le_of_ble_eq_true rfl⟩) hK hW hA 0 rfl rfl rfl hl.1 rfl (Nat.le_of_ble_eq_true rfl) dX2_init_65 ⟨Nat.le_of_ble_eq_true rfl, Nat.le_of_ble_eq_true rfl⟩ (fun σ6 H locs hw hW => ?_)
  refine lv_aload_n hx hb dX2_init_68 rfl (lv_at hl 0 rfl) ?_
  refine lv_sipush (v := 162) hx hb dX2_init_69 (by decide) ?_
  refine lv_iconst (v := 1) hx hb dX2_init_72 (by decide) ?_
  refine lv_iconst (v := 1) hx hb dX2_init_73 (by decide) ?_
  refine kV_Mv (As := [.int 162, .int 1, .int 1]) (rest := []) ⟨hx, hb, hml, hown, hts⟩ (ok_X2_put_w l D cq1 a _ _ _ _ _ _ hw) (cwV 3 hts gX2_init_X2_put rfl rfl rfl (by decide +kernel) ⟨Nat.le_of_ble_eq_true rfl, Nat.le_of_ble_eq_true rfl⟩) hK hW hA 0 rfl rfl rfl hl.1 rfl (Nat.le_of_ble_eq_true rfl) dX2_init_74 ⟨Nat.le_of_ble_eq_true rfl, Nat.le_of_ble_eq_true rfl⟩ (fun σ7 H locs hw hW => ?_)
  refine lv_aload_n hx hb dX2_init_77 rfl (lv_at hl 0 rfl) ?_
  refine lv_sipush (v := 162) hx hb dX2_init_78 (by decide) ?_
  refine lv_iconst (v := 2) hx hb dX2_init_81 (by decide) ?_
  refine lv_bipush (v := 10) hx hb dX2_init_82 (by decide) ?_
  refine kV_Mv (As := [.int 162, .int 2, .int 10]) (rest := []) ⟨hx, hb, hml, hown, hts⟩ (ok_X2_put_w l D cq1 a _ _ _ _ _ _ hw) (cwV 3 hts gX2_init_X2_put rfl rfl rfl (by decide +kernel) ⟨Nat.le_of_ble_eq_true rfl, Nat.le_of_ble_eq_true rfl⟩) hK hW hA 0 rfl rfl rfl hl.1 rfl (Nat.le_of_ble_eq_true rfl) dX2_init_84 ⟨Nat.le_of_ble_eq_true rfl, Nat.le_of_ble_eq_true rfl⟩ (fun σ8 H locs hw hW => ?_)
  refine lv_aload_n hx hb dX2_init_87 rfl (lv_at hl 0 rfl) ?_
  refine lv_sipush (v := 166) hx hb dX2_init_88 (by decide) ?_
  refine lv_iconst (v := 0) hx hb dX2_init_91 (by decide) ?_
  refine lv_sipush (v := 600) hx hb dX2_init_92 (by decide) ?_
  refine kV_Mv (As := [.int 166, .int 0, .int 600]) (rest := []) ⟨hx, hb, hml, hown, hts⟩ (ok_X2_put_w l D cq1 a _ _ _ _ _ _ hw) (cwV 3 hts gX2_init_X2_put rfl rfl rfl (by decide +kernel) ⟨Nat.le_of_ble_eq_true rfl, Nat.le_of_ble_eq_true rfl⟩) hK hW hA 0 rfl rfl rfl hl.1 rfl (Nat.le_of_ble_eq_true rfl) dX2_init_95 ⟨Nat.le_of_ble_eq_true rfl, Nat.le_of_ble_eq_true rfl⟩ (fun σ9 H locs hw hW => ?_)
  refine lv_aload_n hx hb dX2_init_98 rfl (lv_at hl 0 rfl) ?_
  refine lv_sipush (v := 167) hx hb dX2_init_99 (by decide) ?_
  refine lv_iconst (v := 0) hx hb dX2_init_102 (by decide) ?_
  refine lv_iconst (v := 1) hx hb dX2_init_103 (by decide) ?_
  refine kV_Mv (As := [.int 167, .int 0, .int 1]) (rest := []) ⟨hx, hb, hml, hown, hts⟩ (ok_X2_put_w l D cq1 a _ _ _ _ _ _ hw) (cwV 3 hts gX2_init_X2_put rfl rfl rfl (by decide +kernel) ⟨Nat.le_of_ble_eq_true rfl, Nat.le_of_ble_eq_true rfl⟩) hK hW hA 0 rfl rfl rfl hl.1 rfl (Nat.le_of_ble_eq_true rfl) dX2_init_104 ⟨Nat.le_of_ble_eq_true rfl, Nat.le_of_ble_eq_true rfl⟩ (fun σ10 H locs hw hW => ?_)
  exact hret (a 2, cq1, σ10) _ _ _ _ _ _ (Nat.le_of_ble_eq_true rfl) (Nat.le_of_ble_eq_true rfl) hw hK hW dX2_init_107
theorem N_blind {D : va_G} {tys : List (ClassId × FieldType)} {w : va_W} {sz : Nat} {av : List Value} : FrameBlind (va_Pc av (fun U => pre_W D tys w sz U ∧ True)) := fun a U g mk q => ⟨q.1, (pre_W_blind (av := av) a U g mk ⟨q.1, q.2.1⟩).2, trivial⟩
def NX4 (U : State) : Prop := va_Nw (.methodLinkNest RX4 18 yX1_init RX4) U ∧ va_Nw (.methodLinkNest RX4 25 yX0_init RX4) U ∧ va_Nw (.methodLinkNest RX4 32 yX3_init RX4) U
theorem NX4.warm {s U : State} (hW : s.WarmedH U.vm) (h : NX4 s) : NX4 U := ⟨va_Nw.warmM hW h.1, va_Nw.warmM hW h.2.1, va_Nw.warmM hW h.2.2⟩
theorem NX4_blind {D : va_G} {tys : List (ClassId × FieldType)} {w : va_W} {sz : Nat} {av : List Value} : FrameBlind (va_Pc av (fun U => pre_W D tys w sz U ∧ NX4 U)) := fun a U g mk q => ⟨q.1, (pre_W_blind (av := av) a U g mk ⟨q.1, q.2.1⟩).2, va_Nw.same (u := U) (U := U.calling g mk a) rfl rfl q.2.2.1, va_Nw.same (u := U) (U := U.calling g mk a) rfl rfl q.2.2.2.1, va_Nw.same (u := U) (U := U.calling g mk a) rfl rfl q.2.2.2.2⟩
theorem in_X4_init_X4 : ∀ w ∈ wsX40, w ∈ wsX4_init := fun w h => List.mem_cons_of_mem _ (List.mem_append_left _ (List.mem_append_left _ (List.mem_append_left _ (List.mem_append_right _ (h)))))
theorem in_X4_init_X2 : ∀ w ∈ wsX20, w ∈ wsX4_init := fun w h => List.mem_cons_of_mem _ (List.mem_append_left _ (List.mem_append_left _ (List.mem_append_left _ (List.mem_append_left _ (List.mem_append_right _ (h))))))
theorem in_X4_init_X1 : ∀ w ∈ wsX10, w ∈ wsX4_init := fun w h => List.mem_cons_of_mem _ (List.mem_append_left _ (List.mem_append_left _ (List.mem_append_right _ (h))))
theorem in_X4_init_X0 : ∀ w ∈ wsX00, w ∈ wsX4_init := fun w h => List.mem_cons_of_mem _ (List.mem_append_left _ (List.mem_append_right _ (h)))
theorem in_X4_init_X3 : ∀ w ∈ wsX30, w ∈ wsX4_init := fun w h => List.mem_cons_of_mem _ (List.mem_append_right _ (h))
abbrev rm_X4_init : Room := { frames := 3, cells := 10, slots := 1561, locals := 68 }
/-- a fresh object of the class, by its State's row -/
def c0 (row : Nat → Int32) : CS := (row, fun _ => 0, fun _ => 0, fun _ => 0, 0, fun _ => 0, 0, fun _ => 0, 0)
set_option maxHeartbeats 4000000 in
set_option maxRecDepth 100000 in
theorem ok_X4_init (l : Launch) (D : va_G) (h sz : Nat) (σ0 : CS) (h0 : c_row σ0 = fun _ => 0) (post : CS → Prop) (hw : wp_X2_init σ0 (fun σ1 => post (c0 (c_row σ1)))) : Ni l yX4_init wsX4_init rm_X4_init h D [] [(h, .inr (4, [.null, .null, .null, .null]))] sz NX4 (fun u : (Nat → Nat) × ClassId × ClassId × CS => u.1 0 = h ∧ post u.2.2.2) (fun u => tysIJ u.2.1 u.2.2.1) (fun u => cW u.2.1 u.2.2.1 u.1 u.2.2.2) 10 1561 := by
  refine s_N (by decide) rfl (Nat.le_of_ble_eq_true rfl) ?_
  intro p e s m args below meth c A Q hx hb hml hts hown hin hK hex hA hret H locs ls hW hl
  have hown : s.vm.findClass RX4 = some m.cls := hown
  have hin : meth.name = "<init>" := hin
  have hinX4 := in_X4_init_X4
  have hinX2 := in_X4_init_X2
  have hinX1 := in_X4_init_X1
  have hinX0 := in_X4_init_X0
  have hinX3 := in_X4_init_X3
  refine lv_aload_n hx hb dX4_init_0 rfl (lv_at hl 0 rfl) ?_
  refine W.objInit hx hb hown (hts _ (List.mem_of_getElem? (i := 1) rfl)) (hts _ (List.mem_of_getElem? (i := 2) rfl)) (hts _ (List.mem_of_getElem? (i := 3) rfl)) rfl (hl.1.trans hml.symm) rfl dX4_init_1 (Nat.le_of_ble_eq_true rfl) (Nat.le_of_ble_eq_true rfl) ?_
  refine lv_aload_n hx hb dX4_init_4 rfl (lv_at hl 0 rfl) ?_
  refine va_new (ci := 2) (fs := [.null]) (C := RX2) (T := TX2) (N := 1) hx hb hts hinX2 tyX2 tyX2_ok hown (hts _ (List.mem_of_getElem? (i := 4) rfl)) (hts _ (List.mem_of_getElem? (i := 5) rfl)) (hts _ (List.mem_of_getElem? (i := 6) rfl)) hK hW.1 hW.2.1 hW.2.2 hA rfl (fun j hj => by rcases (show j = 0 by omega) with rfl <;> rfl) (Nat.le_of_ble_eq_true rfl) (Nat.le_of_ble_eq_true rfl) dX4_init_5 (fun st H h1 h2 h3 => ?_)
  have hW : Wd D A s.heap [(h, .inr (4, [.null, .null, .null, .null])), (st, .inr (2, [.null]))] H locs := And.intro h1 (And.intro h2 h3)
  refine lv_dup hx hb dX4_init_8 rfl ?_
  have hPc := hW.1.sub (ws' := [(st, .inr (2, [.null]))]) [1] rfl
  have hDc := hW.2.1.sub (ws' := [(st, .inr (2, [.null]))]) [1] (by decide) rfl
  have hFc := va_free (wc := [(st, .inr (2, [.null]))]) hW.2.1 hW.2.2 hA [1] rfl
  refine va_callv (va_runI (As := []) (rest := [.ref st, .ref h]) ⟨hx, hb, hml, hown, hts⟩ (ok_X2_init l D st H.size σ0 h0 _ hw) (cwI 0 hts gX4_init_X2_init rfl rfl rfl (hts _ (List.mem_of_getElem? (i := 6) rfl)) (hts _ (List.mem_of_getElem? (i := 20) rfl)) (hts _ (List.mem_of_getElem? (i := 21) rfl)) rfl (by decide +kernel) ⟨Nat.le_of_ble_eq_true rfl, Nat.le_of_ble_eq_true rfl⟩) ⟨N_blind, fun U hU hWm => ⟨rfl, ⟨by rw [hU], by rw [hU]; exact hPc, va_K.moved hWm.alike (hK.sub [] rfl), hDc.weaken (fun _ _ _ _ => trivial)⟩, trivial⟩⟩ rfl rfl hl.1 rfl (lv_room (Nat.le_of_ble_eq_true rfl)) dX4_init_9 ⟨Nat.le_of_ble_eq_true rfl, Nat.le_of_ble_eq_true rfl⟩) hW.2.2 (fun q _ h => hFc q h) hFc (fun u t H1 locs ht hvm hw1 hB hz1 hk1 hS1 => ?_)
  obtain ⟨row, cI, σ1⟩ := u
  have hpost : post (c0 (c_row σ1)) := hw1
  obtain ⟨hP1, hK1, hD1⟩ := hB
  rw [ht] at hP1
  have hK1 := va_K.moved hvm.symm hK1
  obtain ⟨hP, hD⟩ := va_join (wr := [(h, .inr (4, [.null, .null, .null, .null]))]) (w1 := [(st, .inr (2, [.ref row])), (row, .inl (cI, 174, .inl (c_row σ1)))]) hW.1 hW.2.1 [1] [0] rfl rfl (by decide) (by decide) hk1 hFc hP1 hD1
  have hK : va_K D vwCl [(cI, .int)] s := (hK.sub [] rfl).app hK1
  have hW : Wd D A s.heap [(h, .inr (4, [.null, .null, .null, .null])), (st, .inr (2, [.ref row])), (row, .inl (cI, 174, .inl (c_row σ1)))] H1 locs := And.intro hP (And.intro hD hS1)
  generalize H1 = H at hW ⊢
  refine va_putF (D := D) (ci := 4) (v := .ref st) (ty := .object "SealedSpots$State") (C := RX4) (T := TX4) (N := 4) hx hb hts hinX4 tyX4 tyX4_ok nmX4 hown hK hW.1 hW.2.1 hW.2.2 0 rfl rfl 0 (by decide) (hts _ (List.mem_of_getElem? (i := 7) rfl)) (fun _ h9 => h9) rfl hin rfl (by decide +kernel) rfl rfl (Nat.le_of_ble_eq_true rfl) dX4_init_12 (fun H locs h1 h2 h3 => ?_)
  have hW : Wd D A s.heap [(h, .inr (4, [.ref st, .null, .null, .null])), (st, .inr (2, [.ref row])), (row, .inl (cI, 174, .inl (c_row σ1)))] H locs := And.intro h1 (And.intro h2 h3)
  refine lv_aload_n hx hb dX4_init_15 rfl (lv_at hl 0 rfl) ?_
  refine va_new (ci := 1) (fs := [.null, .null]) (C := RX1) (T := TX1) (N := 2) hx hb hts hinX1 tyX1 tyX1_ok hown (hts _ (List.mem_of_getElem? (i := 8) rfl)) (hts _ (List.mem_of_getElem? (i := 9) rfl)) (hts _ (List.mem_of_getElem? (i := 10) rfl)) hK hW.1 hW.2.1 hW.2.2 hA rfl (fun j hj => by rcases (show j = 0 ∨ j = 1 by omega) with rfl | rfl <;> rfl) (Nat.le_of_ble_eq_true rfl) (Nat.le_of_ble_eq_true rfl) dX4_init_16 (fun sh H h1 h2 h3 => ?_)
  have hW : Wd D A s.heap [(h, .inr (4, [.ref st, .null, .null, .null])), (st, .inr (2, [.ref row])), (row, .inl (cI, 174, .inl (c_row σ1))), (sh, .inr (1, [.null, .null]))] H locs := And.intro h1 (And.intro h2 h3)
  refine lv_dup hx hb dX4_init_19 rfl ?_
  have hPc := hW.1.sub (ws' := [(sh, .inr (1, [.null, .null]))]) [3] rfl
  have hDc := hW.2.1.sub (ws' := [(sh, .inr (1, [.null, .null]))]) [3] (by decide) rfl
  have hFc := va_free (wc := [(sh, .inr (1, [.null, .null]))]) hW.2.1 hW.2.2 hA [3] rfl
  refine va_callv (va_runIN (As := []) (rest := [.ref sh, .ref h]) ⟨hx, hb, hml, hown, hts⟩ (ok_X1_init l D sh H.size) (⟨va_cnB 0 hts gX4_init_X1_init_n18 rfl rfl rfl hex.1 (hts _ (List.mem_of_getElem? (i := 10) rfl)) (by decide +kernel) ⟨Nat.le_of_ble_eq_true rfl, Nat.le_of_ble_eq_true rfl⟩, rfl, hts _ (List.mem_of_getElem? (i := 34) rfl)⟩) ⟨N_blind, fun U hU hWm => ⟨rfl, ⟨by rw [hU], by rw [hU]; exact hPc, va_K.moved hWm.alike (hK.sub [] rfl), hDc.weaken (fun _ _ _ _ => trivial)⟩, trivial⟩⟩ rfl rfl hl.1 rfl (lv_room (Nat.le_of_ble_eq_true rfl)) dX4_init_20 ⟨Nat.le_of_ble_eq_true rfl, Nat.le_of_ble_eq_true rfl⟩) hW.2.2 (fun q _ h => hFc q h) hFc (fun u t H1 locs ht hvm hw1 hB hz1 hk1 hS1 => ?_)
  obtain ⟨keys, most, cJ⟩ := u
  obtain ⟨hP1, hK1, hD1⟩ := hB
  rw [ht] at hP1
  have hK1 := va_K.moved hvm.symm hK1
  obtain ⟨hP, hD⟩ := va_join (wr := [(h, .inr (4, [.ref st, .null, .null, .null])), (st, .inr (2, [.ref row])), (row, .inl (cI, 174, .inl (c_row σ1)))]) (w1 := [(sh, .inr (1, [.ref keys, .ref most])), (keys, .inl (cJ, 36, .inr (.inl (fun _ => 0)))), (most, .inl (cJ, 64, .inr (.inl (fun _ => 0))))]) hW.1 hW.2.1 [3] [0, 1, 2] rfl rfl (by decide) (by decide) hk1 hFc hP1 hD1
  have hK : va_K D vwCl [(cI, .int), (cJ, .long)] s := (hK.sub [0] rfl).app hK1
  have hW : Wd D A s.heap [(h, .inr (4, [.ref st, .null, .null, .null])), (st, .inr (2, [.ref row])), (row, .inl (cI, 174, .inl (c_row σ1))), (sh, .inr (1, [.ref keys, .ref most])), (keys, .inl (cJ, 36, .inr (.inl (fun _ => 0)))), (most, .inl (cJ, 64, .inr (.inl (fun _ => 0))))] H1 locs := And.intro hP (And.intro hD hS1)
  generalize H1 = H at hW ⊢
  refine va_putF (D := D) (ci := 4) (v := .ref sh) (ty := .object "SealedSpots$Sharing") (C := RX4) (T := TX4) (N := 4) hx hb hts hinX4 tyX4 tyX4_ok nmX4 hown hK hW.1 hW.2.1 hW.2.2 0 rfl rfl 1 (by decide) (hts _ (List.mem_of_getElem? (i := 11) rfl)) (fun _ h9 => h9) rfl hin rfl (by decide +kernel) rfl rfl (Nat.le_of_ble_eq_true rfl) dX4_init_23 (fun H locs h1 h2 h3 => ?_)
  have hW : Wd D A s.heap [(h, .inr (4, [.ref st, .ref sh, .null, .null])), (st, .inr (2, [.ref row])), (row, .inl (cI, 174, .inl (c_row σ1))), (sh, .inr (1, [.ref keys, .ref most])), (keys, .inl (cJ, 36, .inr (.inl (fun _ => 0)))), (most, .inl (cJ, 64, .inr (.inl (fun _ => 0))))] H locs := And.intro h1 (And.intro h2 h3)
  refine lv_aload_n hx hb dX4_init_26 rfl (lv_at hl 0 rfl) ?_
  refine va_new (ci := 0) (fs := [.null, .int 0, .null, .int 0]) (C := RX0) (T := TX0) (N := 4) hx hb hts hinX0 tyX0 tyX0_ok hown (hts _ (List.mem_of_getElem? (i := 12) rfl)) (hts _ (List.mem_of_getElem? (i := 13) rfl)) (hts _ (List.mem_of_getElem? (i := 14) rfl)) hK hW.1 hW.2.1 hW.2.2 hA rfl (fun j hj => by rcases (show j = 0 ∨ j = 1 ∨ j = 2 ∨ j = 3 by omega) with rfl | rfl | rfl | rfl <;> rfl) (Nat.le_of_ble_eq_true rfl) (Nat.le_of_ble_eq_true rfl) dX4_init_27 (fun hi H h1 h2 h3 => ?_)
  have hW : Wd D A s.heap [(h, .inr (4, [.ref st, .ref sh, .null, .null])), (st, .inr (2, [.ref row])), (row, .inl (cI, 174, .inl (c_row σ1))), (sh, .inr (1, [.ref keys, .ref most])), (keys, .inl (cJ, 36, .inr (.inl (fun _ => 0)))), (most, .inl (cJ, 64, .inr (.inl (fun _ => 0)))), (hi, .inr (0, [.null, .int 0, .null, .int 0]))] H locs := And.intro h1 (And.intro h2 h3)
  refine lv_dup hx hb dX4_init_30 rfl ?_
  have hPc := hW.1.sub (ws' := [(hi, .inr (0, [.null, .int 0, .null, .int 0]))]) [6] rfl
  have hDc := hW.2.1.sub (ws' := [(hi, .inr (0, [.null, .int 0, .null, .int 0]))]) [6] (by decide) rfl
  have hFc := va_free (wc := [(hi, .inr (0, [.null, .int 0, .null, .int 0]))]) hW.2.1 hW.2.2 hA [6] rfl
  refine va_callv (va_runIN (As := []) (rest := [.ref hi, .ref h]) ⟨hx, hb, hml, hown, hts⟩ (ok_X0_init l D hi H.size) (⟨va_cnB 0 hts gX4_init_X0_init_n25 rfl rfl rfl hex.2.1 (hts _ (List.mem_of_getElem? (i := 14) rfl)) (by decide +kernel) ⟨Nat.le_of_ble_eq_true rfl, Nat.le_of_ble_eq_true rfl⟩, rfl, hts _ (List.mem_of_getElem? (i := 40) rfl)⟩) ⟨N_blind, fun U hU hWm => ⟨rfl, ⟨by rw [hU], by rw [hU]; exact hPc, va_K.moved hWm.alike (hK.sub [] rfl), hDc.weaken (fun _ _ _ _ => trivial)⟩, trivial⟩⟩ rfl rfl hl.1 rfl (lv_room (Nat.le_of_ble_eq_true rfl)) dX4_init_31 ⟨Nat.le_of_ble_eq_true rfl, Nat.le_of_ble_eq_true rfl⟩) hW.2.2 (fun q _ h => hFc q h) hFc (fun u t H1 locs ht hvm hw1 hB hz1 hk1 hS1 => ?_)
  obtain ⟨rows, snap, cI2⟩ := u
  obtain ⟨hP1, hK1, hD1⟩ := hB
  rw [ht] at hP1
  have hK1 := va_K.moved hvm.symm hK1
  obtain ⟨hP, hD⟩ := va_join (wr := [(h, .inr (4, [.ref st, .ref sh, .null, .null])), (st, .inr (2, [.ref row])), (row, .inl (cI, 174, .inl (c_row σ1))), (sh, .inr (1, [.ref keys, .ref most])), (keys, .inl (cJ, 36, .inr (.inl (fun _ => 0)))), (most, .inl (cJ, 64, .inr (.inl (fun _ => 0))))]) (w1 := [(hi, .inr (0, [.ref rows, .int 0, .ref snap, .int 0])), (rows, .inl (cI2, 1044, .inl (fun _ => 0))), (snap, .inl (cI2, 174, .inl (fun _ => 0)))]) hW.1 hW.2.1 [6] [0, 1, 2, 3, 4, 5] rfl rfl (by decide) (by decide) hk1 hFc hP1 hD1
  have hK : va_K D vwCl [(cI, .int), (cJ, .long), (cI2, .int)] s := (hK.sub [0, 1] rfl).app hK1
  have hW : Wd D A s.heap [(h, .inr (4, [.ref st, .ref sh, .null, .null])), (st, .inr (2, [.ref row])), (row, .inl (cI, 174, .inl (c_row σ1))), (sh, .inr (1, [.ref keys, .ref most])), (keys, .inl (cJ, 36, .inr (.inl (fun _ => 0)))), (most, .inl (cJ, 64, .inr (.inl (fun _ => 0)))), (hi, .inr (0, [.ref rows, .int 0, .ref snap, .int 0])), (rows, .inl (cI2, 1044, .inl (fun _ => 0))), (snap, .inl (cI2, 174, .inl (fun _ => 0)))] H1 locs := And.intro hP (And.intro hD hS1)
  generalize H1 = H at hW ⊢
  obtain rfl : cI = cI2 := (cid_eq hK 0 2 rfl rfl).symm
  have hK : va_K D vwCl [(cI, .int), (cJ, .long)] s := hK.sub [0, 1] rfl
  have hW : Wd D A s.heap [(h, .inr (4, [.ref st, .ref sh, .null, .null])), (st, .inr (2, [.ref row])), (row, .inl (cI, 174, .inl (c_row σ1))), (sh, .inr (1, [.ref keys, .ref most])), (keys, .inl (cJ, 36, .inr (.inl (fun _ => 0)))), (most, .inl (cJ, 64, .inr (.inl (fun _ => 0)))), (hi, .inr (0, [.ref rows, .int 0, .ref snap, .int 0])), (rows, .inl (cI, 1044, .inl (fun _ => 0))), (snap, .inl (cI, 174, .inl (fun _ => 0)))] H locs := hW
  refine va_putF (D := D) (ci := 4) (v := .ref hi) (ty := .object "SealedSpots$History") (C := RX4) (T := TX4) (N := 4) hx hb hts hinX4 tyX4 tyX4_ok nmX4 hown hK hW.1 hW.2.1 hW.2.2 0 rfl rfl 2 (by decide) (hts _ (List.mem_of_getElem? (i := 15) rfl)) (fun _ h9 => h9) rfl hin rfl (by decide +kernel) rfl rfl (Nat.le_of_ble_eq_true rfl) dX4_init_34 (fun H locs h1 h2 h3 => ?_)
  have hW : Wd D A s.heap [(h, .inr (4, [.ref st, .ref sh, .ref hi, .null])), (st, .inr (2, [.ref row])), (row, .inl (cI, 174, .inl (c_row σ1))), (sh, .inr (1, [.ref keys, .ref most])), (keys, .inl (cJ, 36, .inr (.inl (fun _ => 0)))), (most, .inl (cJ, 64, .inr (.inl (fun _ => 0)))), (hi, .inr (0, [.ref rows, .int 0, .ref snap, .int 0])), (rows, .inl (cI, 1044, .inl (fun _ => 0))), (snap, .inl (cI, 174, .inl (fun _ => 0)))] H locs := And.intro h1 (And.intro h2 h3)
  refine lv_aload_n hx hb dX4_init_37 rfl (lv_at hl 0 rfl) ?_
  refine va_new (ci := 3) (fs := [.null, .int 0]) (C := RX3) (T := TX3) (N := 2) hx hb hts hinX3 tyX3 tyX3_ok hown (hts _ (List.mem_of_getElem? (i := 16) rfl)) (hts _ (List.mem_of_getElem? (i := 17) rfl)) (hts _ (List.mem_of_getElem? (i := 18) rfl)) hK hW.1 hW.2.1 hW.2.2 hA rfl (fun j hj => by rcases (show j = 0 ∨ j = 1 by omega) with rfl | rfl <;> rfl) (Nat.le_of_ble_eq_true rfl) (Nat.le_of_ble_eq_true rfl) dX4_init_38 (fun te H h1 h2 h3 => ?_)
  have hW : Wd D A s.heap [(h, .inr (4, [.ref st, .ref sh, .ref hi, .null])), (st, .inr (2, [.ref row])), (row, .inl (cI, 174, .inl (c_row σ1))), (sh, .inr (1, [.ref keys, .ref most])), (keys, .inl (cJ, 36, .inr (.inl (fun _ => 0)))), (most, .inl (cJ, 64, .inr (.inl (fun _ => 0)))), (hi, .inr (0, [.ref rows, .int 0, .ref snap, .int 0])), (rows, .inl (cI, 1044, .inl (fun _ => 0))), (snap, .inl (cI, 174, .inl (fun _ => 0))), (te, .inr (3, [.null, .int 0]))] H locs := And.intro h1 (And.intro h2 h3)
  refine lv_dup hx hb dX4_init_41 rfl ?_
  have hPc := hW.1.sub (ws' := [(te, .inr (3, [.null, .int 0]))]) [9] rfl
  have hDc := hW.2.1.sub (ws' := [(te, .inr (3, [.null, .int 0]))]) [9] (by decide) rfl
  have hFc := va_free (wc := [(te, .inr (3, [.null, .int 0]))]) hW.2.1 hW.2.2 hA [9] rfl
  refine va_callv (va_runIN (As := []) (rest := [.ref te, .ref h]) ⟨hx, hb, hml, hown, hts⟩ (ok_X3_init l D te H.size) (⟨va_cnB 0 hts gX4_init_X3_init_n32 rfl rfl rfl hex.2.2 (hts _ (List.mem_of_getElem? (i := 18) rfl)) (by decide +kernel) ⟨Nat.le_of_ble_eq_true rfl, Nat.le_of_ble_eq_true rfl⟩, rfl, hts _ (List.mem_of_getElem? (i := 45) rfl)⟩) ⟨N_blind, fun U hU hWm => ⟨rfl, ⟨by rw [hU], by rw [hU]; exact hPc, va_K.moved hWm.alike (hK.sub [] rfl), hDc.weaken (fun _ _ _ _ => trivial)⟩, trivial⟩⟩ rfl rfl hl.1 rfl (lv_room (Nat.le_of_ble_eq_true rfl)) dX4_init_42 ⟨Nat.le_of_ble_eq_true rfl, Nat.le_of_ble_eq_true rfl⟩) hW.2.2 (fun q _ h => hFc q h) hFc (fun u t H1 locs ht hvm hw1 hB hz1 hk1 hS1 => ?_)
  obtain ⟨codes, cI3⟩ := u
  obtain ⟨hP1, hK1, hD1⟩ := hB
  rw [ht] at hP1
  have hK1 := va_K.moved hvm.symm hK1
  obtain ⟨hP, hD⟩ := va_join (wr := [(h, .inr (4, [.ref st, .ref sh, .ref hi, .null])), (st, .inr (2, [.ref row])), (row, .inl (cI, 174, .inl (c_row σ1))), (sh, .inr (1, [.ref keys, .ref most])), (keys, .inl (cJ, 36, .inr (.inl (fun _ => 0)))), (most, .inl (cJ, 64, .inr (.inl (fun _ => 0)))), (hi, .inr (0, [.ref rows, .int 0, .ref snap, .int 0])), (rows, .inl (cI, 1044, .inl (fun _ => 0))), (snap, .inl (cI, 174, .inl (fun _ => 0)))]) (w1 := [(te, .inr (3, [.ref codes, .int 0])), (codes, .inl (cI3, 60, .inl (fun _ => 0)))]) hW.1 hW.2.1 [9] [0, 1, 2, 3, 4, 5, 6, 7, 8] rfl rfl (by decide) (by decide) hk1 hFc hP1 hD1
  have hK : va_K D vwCl [(cI, .int), (cJ, .long), (cI3, .int)] s := (hK.sub [0, 1] rfl).app hK1
  have hW : Wd D A s.heap [(h, .inr (4, [.ref st, .ref sh, .ref hi, .null])), (st, .inr (2, [.ref row])), (row, .inl (cI, 174, .inl (c_row σ1))), (sh, .inr (1, [.ref keys, .ref most])), (keys, .inl (cJ, 36, .inr (.inl (fun _ => 0)))), (most, .inl (cJ, 64, .inr (.inl (fun _ => 0)))), (hi, .inr (0, [.ref rows, .int 0, .ref snap, .int 0])), (rows, .inl (cI, 1044, .inl (fun _ => 0))), (snap, .inl (cI, 174, .inl (fun _ => 0))), (te, .inr (3, [.ref codes, .int 0])), (codes, .inl (cI3, 60, .inl (fun _ => 0)))] H1 locs := And.intro hP (And.intro hD hS1)
  generalize H1 = H at hW ⊢
  obtain rfl : cI = cI3 := (cid_eq hK 0 2 rfl rfl).symm
  have hK : va_K D vwCl [(cI, .int), (cJ, .long)] s := hK.sub [0, 1] rfl
  have hW : Wd D A s.heap [(h, .inr (4, [.ref st, .ref sh, .ref hi, .null])), (st, .inr (2, [.ref row])), (row, .inl (cI, 174, .inl (c_row σ1))), (sh, .inr (1, [.ref keys, .ref most])), (keys, .inl (cJ, 36, .inr (.inl (fun _ => 0)))), (most, .inl (cJ, 64, .inr (.inl (fun _ => 0)))), (hi, .inr (0, [.ref rows, .int 0, .ref snap, .int 0])), (rows, .inl (cI, 1044, .inl (fun _ => 0))), (snap, .inl (cI, 174, .inl (fun _ => 0))), (te, .inr (3, [.ref codes, .int 0])), (codes, .inl (cI, 60, .inl (fun _ => 0)))] H locs := hW
  refine va_putF (D := D) (ci := 4) (v := .ref te) (ty := .object "SealedSpots$Text") (C := RX4) (T := TX4) (N := 4) hx hb hts hinX4 tyX4 tyX4_ok nmX4 hown hK hW.1 hW.2.1 hW.2.2 0 rfl rfl 3 (by decide) (hts _ (List.mem_of_getElem? (i := 19) rfl)) (fun _ h9 => h9) rfl hin rfl (by decide +kernel) rfl rfl (Nat.le_of_ble_eq_true rfl) dX4_init_45 (fun H locs h1 h2 h3 => ?_)
  have hW : Wd D A s.heap [(h, .inr (4, [.ref st, .ref sh, .ref hi, .ref te])), (st, .inr (2, [.ref row])), (row, .inl (cI, 174, .inl (c_row σ1))), (sh, .inr (1, [.ref keys, .ref most])), (keys, .inl (cJ, 36, .inr (.inl (fun _ => 0)))), (most, .inl (cJ, 64, .inr (.inl (fun _ => 0)))), (hi, .inr (0, [.ref rows, .int 0, .ref snap, .int 0])), (rows, .inl (cI, 1044, .inl (fun _ => 0))), (snap, .inl (cI, 174, .inl (fun _ => 0))), (te, .inr (3, [.ref codes, .int 0])), (codes, .inl (cI, 60, .inl (fun _ => 0)))] H locs := And.intro h1 (And.intro h2 h3)
  exact hret (fun k => match k with | 0 => h | 1 => st | 2 => row | 3 => sh | 4 => keys | 5 => most | 6 => hi | 7 => rows | 8 => snap | 9 => te | _ => codes, cI, cJ, c0 (c_row σ1)) H locs _ _ _ _ (Nat.le_of_ble_eq_true rfl) (Nat.le_of_ble_eq_true rfl) ⟨rfl, hpost⟩ hK hW dX4_init_48
